section
-- ===== PART A: goes FIRST, ahead of the names: the tables' words, and 'selects' of the private methods out of them =====
/-- a private method of a class that the tables say can be made, by its rows of tables_1 -/
def lw_okq (q : MethodName × Nat) : Prop := (q.1.cls ≠ "java/lang/invoke/MethodHandle" ∧ q.1.cls ≠ "java/lang/invoke/VarHandle") ∧ Cond.instantiable q.1.cls q.2 ∈ tables_1 ∧ Cond.privateMethod q.1 ∈ tables_1 ∧ Cond.instanceMethod q.1 ∈ tables_1
theorem lw_p0 : lw_okq (⟨"java/util/ArrayList", "add", "(Ljava/lang/Object;[Ljava/lang/Object;I)V"⟩, 3) := ⟨⟨by decide +kernel, by decide +kernel⟩, List.mem_of_getElem? (i := 34) (by decide +kernel), List.mem_of_getElem? (i := 111) (by decide +kernel), List.mem_of_getElem? (i := 112) (by decide +kernel)⟩
theorem lw_p1 : lw_okq (⟨"java/util/ArrayList", "grow", "()[Ljava/lang/Object;"⟩, 3) := ⟨⟨by decide +kernel, by decide +kernel⟩, List.mem_of_getElem? (i := 34) (by decide +kernel), List.mem_of_getElem? (i := 115) (by decide +kernel), List.mem_of_getElem? (i := 116) (by decide +kernel)⟩
theorem lw_p2 : lw_okq (⟨"java/util/ArrayList", "grow", "(I)[Ljava/lang/Object;"⟩, 3) := ⟨⟨by decide +kernel, by decide +kernel⟩, List.mem_of_getElem? (i := 34) (by decide +kernel), List.mem_of_getElem? (i := 119) (by decide +kernel), List.mem_of_getElem? (i := 120) (by decide +kernel)⟩
theorem lw_p3 : lw_okq (⟨"ContainerHost", "imageAt", "(I)LContainerHost$Image;"⟩, 7) := ⟨⟨by decide +kernel, by decide +kernel⟩, List.mem_of_getElem? (i := 26) (by decide +kernel), List.mem_of_getElem? (i := 204) (by decide +kernel), List.mem_of_getElem? (i := 205) (by decide +kernel)⟩
theorem lw_p4 : lw_okq (⟨"java/lang/Throwable", "fillInStackTrace", "(I)Ljava/lang/Throwable;"⟩, 6) := ⟨⟨by decide +kernel, by decide +kernel⟩, List.mem_of_getElem? (i := 246) (by decide +kernel), List.mem_of_getElem? (i := 244) (by decide +kernel), List.mem_of_getElem? (i := 245) (by decide +kernel)⟩
theorem lw_p5 : lw_okq (⟨"ContainerHost", "requireImageSlot", "()V"⟩, 7) := ⟨⟨by decide +kernel, by decide +kernel⟩, List.mem_of_getElem? (i := 26) (by decide +kernel), List.mem_of_getElem? (i := 310) (by decide +kernel), List.mem_of_getElem? (i := 311) (by decide +kernel)⟩
theorem lw_p6 : lw_okq (⟨"ContainerHost", "addImage", "(LContainerHost$Layer;Z)I"⟩, 7) := ⟨⟨by decide +kernel, by decide +kernel⟩, List.mem_of_getElem? (i := 26) (by decide +kernel), List.mem_of_getElem? (i := 336) (by decide +kernel), List.mem_of_getElem? (i := 337) (by decide +kernel)⟩
theorem lw_p7 : lw_okq (⟨"ContainerHost", "containerAt", "(I)LContainerHost$Container;"⟩, 7) := ⟨⟨by decide +kernel, by decide +kernel⟩, List.mem_of_getElem? (i := 26) (by decide +kernel), List.mem_of_getElem? (i := 472) (by decide +kernel), List.mem_of_getElem? (i := 473) (by decide +kernel)⟩
theorem lw_p8 : lw_okq (⟨"ContainerHost", "groupAt", "(I)LContainerHost$Group;"⟩, 7) := ⟨⟨by decide +kernel, by decide +kernel⟩, List.mem_of_getElem? (i := 26) (by decide +kernel), List.mem_of_getElem? (i := 492) (by decide +kernel), List.mem_of_getElem? (i := 493) (by decide +kernel)⟩
theorem lw_p9 : lw_okq (⟨"ContainerHost", "requireContainerSlot", "()V"⟩, 7) := ⟨⟨by decide +kernel, by decide +kernel⟩, List.mem_of_getElem? (i := 26) (by decide +kernel), List.mem_of_getElem? (i := 521) (by decide +kernel), List.mem_of_getElem? (i := 522) (by decide +kernel)⟩
theorem lw_p10 : lw_okq (⟨"ContainerHost", "addContainer", "(LContainerHost$Group;LContainerHost$Layer;I)LContainerHost$Container;"⟩, 7) := ⟨⟨by decide +kernel, by decide +kernel⟩, List.mem_of_getElem? (i := 26) (by decide +kernel), List.mem_of_getElem? (i := 534) (by decide +kernel), List.mem_of_getElem? (i := 535) (by decide +kernel)⟩
theorem lw_p11 : lw_okq (⟨"ContainerHost", "runningAt", "(I)LContainerHost$Container;"⟩, 7) := ⟨⟨by decide +kernel, by decide +kernel⟩, List.mem_of_getElem? (i := 26) (by decide +kernel), List.mem_of_getElem? (i := 608) (by decide +kernel), List.mem_of_getElem? (i := 609) (by decide +kernel)⟩
theorem lw_p12 : lw_okq (⟨"ContainerHost", "pausedAt", "(I)LContainerHost$Container;"⟩, 7) := ⟨⟨by decide +kernel, by decide +kernel⟩, List.mem_of_getElem? (i := 26) (by decide +kernel), List.mem_of_getElem? (i := 623) (by decide +kernel), List.mem_of_getElem? (i := 624) (by decide +kernel)⟩
theorem lw_p13 : lw_okq (⟨"ContainerHost", "halt", "(LContainerHost$Container;)I"⟩, 7) := ⟨⟨by decide +kernel, by decide +kernel⟩, List.mem_of_getElem? (i := 26) (by decide +kernel), List.mem_of_getElem? (i := 636) (by decide +kernel), List.mem_of_getElem? (i := 637) (by decide +kernel)⟩
theorem lw_p14 : lw_okq (⟨"ContainerHost", "killUntilFits", "(LContainerHost$Container;I)V"⟩, 7) := ⟨⟨by decide +kernel, by decide +kernel⟩, List.mem_of_getElem? (i := 26) (by decide +kernel), List.mem_of_getElem? (i := 651) (by decide +kernel), List.mem_of_getElem? (i := 652) (by decide +kernel)⟩
theorem lw_p15 : lw_okq (⟨"ContainerHost", "largestIn", "(LContainerHost$Group;)LContainerHost$Container;"⟩, 7) := ⟨⟨by decide +kernel, by decide +kernel⟩, List.mem_of_getElem? (i := 26) (by decide +kernel), List.mem_of_getElem? (i := 659) (by decide +kernel), List.mem_of_getElem? (i := 660) (by decide +kernel)⟩
def lw_privs_1 : List (MethodName × Nat) := [(⟨"java/util/ArrayList", "add", "(Ljava/lang/Object;[Ljava/lang/Object;I)V"⟩, 3), (⟨"java/util/ArrayList", "grow", "()[Ljava/lang/Object;"⟩, 3), (⟨"java/util/ArrayList", "grow", "(I)[Ljava/lang/Object;"⟩, 3), (⟨"ContainerHost", "imageAt", "(I)LContainerHost$Image;"⟩, 7), (⟨"java/lang/Throwable", "fillInStackTrace", "(I)Ljava/lang/Throwable;"⟩, 6), (⟨"ContainerHost", "requireImageSlot", "()V"⟩, 7), (⟨"ContainerHost", "addImage", "(LContainerHost$Layer;Z)I"⟩, 7), (⟨"ContainerHost", "containerAt", "(I)LContainerHost$Container;"⟩, 7), (⟨"ContainerHost", "groupAt", "(I)LContainerHost$Group;"⟩, 7), (⟨"ContainerHost", "requireContainerSlot", "()V"⟩, 7), (⟨"ContainerHost", "addContainer", "(LContainerHost$Group;LContainerHost$Layer;I)LContainerHost$Container;"⟩, 7), (⟨"ContainerHost", "runningAt", "(I)LContainerHost$Container;"⟩, 7), (⟨"ContainerHost", "pausedAt", "(I)LContainerHost$Container;"⟩, 7), (⟨"ContainerHost", "halt", "(LContainerHost$Container;)I"⟩, 7), (⟨"ContainerHost", "killUntilFits", "(LContainerHost$Container;I)V"⟩, 7), (⟨"ContainerHost", "largestIn", "(LContainerHost$Group;)LContainerHost$Container;"⟩, 7)]
theorem lw_r1 : ∀ q ∈ lw_privs_1, lw_okq q := List.forall_mem_cons.mpr ⟨lw_p0, List.forall_mem_cons.mpr ⟨lw_p1, List.forall_mem_cons.mpr ⟨lw_p2, List.forall_mem_cons.mpr ⟨lw_p3, List.forall_mem_cons.mpr ⟨lw_p4, List.forall_mem_cons.mpr ⟨lw_p5, List.forall_mem_cons.mpr ⟨lw_p6, List.forall_mem_cons.mpr ⟨lw_p7, List.forall_mem_cons.mpr ⟨lw_p8, List.forall_mem_cons.mpr ⟨lw_p9, List.forall_mem_cons.mpr ⟨lw_p10, List.forall_mem_cons.mpr ⟨lw_p11, List.forall_mem_cons.mpr ⟨lw_p12, List.forall_mem_cons.mpr ⟨lw_p13, List.forall_mem_cons.mpr ⟨lw_p14, List.forall_mem_cons.mpr ⟨lw_p15, fun _ h => absurd h List.not_mem_nil⟩⟩⟩⟩⟩⟩⟩⟩⟩⟩⟩⟩⟩⟩⟩⟩
theorem lw_p16 : lw_okq (⟨"ContainerHost", "hasRunning", "(LContainerHost$Group;)Z"⟩, 7) := ⟨⟨by decide +kernel, by decide +kernel⟩, List.mem_of_getElem? (i := 26) (by decide +kernel), List.mem_of_getElem? (i := 696) (by decide +kernel), List.mem_of_getElem? (i := 697) (by decide +kernel)⟩
theorem lw_p17 : lw_okq (⟨"ContainerHost", "shareOut", "(LContainerHost$Group;)V"⟩, 7) := ⟨⟨by decide +kernel, by decide +kernel⟩, List.mem_of_getElem? (i := 26) (by decide +kernel), List.mem_of_getElem? (i := 700) (by decide +kernel), List.mem_of_getElem? (i := 701) (by decide +kernel)⟩
theorem lw_p18 : lw_okq (⟨"ContainerHost", "collectParts", "(LContainerHost$Group;)I"⟩, 7) := ⟨⟨by decide +kernel, by decide +kernel⟩, List.mem_of_getElem? (i := 26) (by decide +kernel), List.mem_of_getElem? (i := 704) (by decide +kernel), List.mem_of_getElem? (i := 705) (by decide +kernel)⟩
theorem lw_p19 : lw_okq (⟨"ContainerHost", "grantLeft", "(I)V"⟩, 7) := ⟨⟨by decide +kernel, by decide +kernel⟩, List.mem_of_getElem? (i := 26) (by decide +kernel), List.mem_of_getElem? (i := 722) (by decide +kernel), List.mem_of_getElem? (i := 723) (by decide +kernel)⟩
theorem lw_p20 : lw_okq (⟨"ContainerHost", "greatestRemainder", "()I"⟩, 7) := ⟨⟨by decide +kernel, by decide +kernel⟩, List.mem_of_getElem? (i := 26) (by decide +kernel), List.mem_of_getElem? (i := 726) (by decide +kernel), List.mem_of_getElem? (i := 727) (by decide +kernel)⟩
theorem lw_p21 : lw_okq (⟨"ContainerHost", "leastFreeAddress", "(I)I"⟩, 7) := ⟨⟨by decide +kernel, by decide +kernel⟩, List.mem_of_getElem? (i := 26) (by decide +kernel), List.mem_of_getElem? (i := 813) (by decide +kernel), List.mem_of_getElem? (i := 814) (by decide +kernel)⟩
theorem lw_p22 : lw_okq (⟨"ContainerHost", "attachedAt", "(II)LContainerHost$Container;"⟩, 7) := ⟨⟨by decide +kernel, by decide +kernel⟩, List.mem_of_getElem? (i := 26) (by decide +kernel), List.mem_of_getElem? (i := 817) (by decide +kernel), List.mem_of_getElem? (i := 818) (by decide +kernel)⟩
theorem lw_p23 : lw_okq (⟨"ContainerHost", "countPublished", "()I"⟩, 7) := ⟨⟨by decide +kernel, by decide +kernel⟩, List.mem_of_getElem? (i := 26) (by decide +kernel), List.mem_of_getElem? (i := 863) (by decide +kernel), List.mem_of_getElem? (i := 864) (by decide +kernel)⟩
theorem lw_p24 : lw_okq (⟨"ContainerHostModel", "isImage", "(I)Z"⟩, 28) := ⟨⟨by decide +kernel, by decide +kernel⟩, List.mem_of_getElem? (i := 968) (by decide +kernel), List.mem_of_getElem? (i := 1068) (by decide +kernel), List.mem_of_getElem? (i := 1069) (by decide +kernel)⟩
theorem lw_p25 : lw_okq (⟨"ContainerHostModel", "layersOf", "(I)I"⟩, 28) := ⟨⟨by decide +kernel, by decide +kernel⟩, List.mem_of_getElem? (i := 968) (by decide +kernel), List.mem_of_getElem? (i := 1075) (by decide +kernel), List.mem_of_getElem? (i := 1076) (by decide +kernel)⟩
theorem lw_p26 : lw_okq (⟨"ContainerHostModel", "holds", "(I)Z"⟩, 28) := ⟨⟨by decide +kernel, by decide +kernel⟩, List.mem_of_getElem? (i := 968) (by decide +kernel), List.mem_of_getElem? (i := 1079) (by decide +kernel), List.mem_of_getElem? (i := 1080) (by decide +kernel)⟩
theorem lw_p27 : lw_okq (⟨"ContainerHostModel", "empties", "(I)V"⟩, 28) := ⟨⟨by decide +kernel, by decide +kernel⟩, List.mem_of_getElem? (i := 968) (by decide +kernel), List.mem_of_getElem? (i := 1083) (by decide +kernel), List.mem_of_getElem? (i := 1084) (by decide +kernel)⟩
theorem lw_p28 : lw_okq (⟨"ContainerHostModel", "imageShows", "(II)I"⟩, 28) := ⟨⟨by decide +kernel, by decide +kernel⟩, List.mem_of_getElem? (i := 968) (by decide +kernel), List.mem_of_getElem? (i := 1094) (by decide +kernel), List.mem_of_getElem? (i := 1095) (by decide +kernel)⟩
theorem lw_p29 : lw_okq (⟨"ContainerHostModel", "shows", "(III)I"⟩, 28) := ⟨⟨by decide +kernel, by decide +kernel⟩, List.mem_of_getElem? (i := 968) (by decide +kernel), List.mem_of_getElem? (i := 1098) (by decide +kernel), List.mem_of_getElem? (i := 1099) (by decide +kernel)⟩
theorem lw_p30 : lw_okq (⟨"ContainerHostModel", "isContainer", "(I)Z"⟩, 28) := ⟨⟨by decide +kernel, by decide +kernel⟩, List.mem_of_getElem? (i := 968) (by decide +kernel), List.mem_of_getElem? (i := 1126) (by decide +kernel), List.mem_of_getElem? (i := 1127) (by decide +kernel)⟩
theorem lw_p31 : lw_okq (⟨"ContainerHostModel", "copies", "(II)V"⟩, 28) := ⟨⟨by decide +kernel, by decide +kernel⟩, List.mem_of_getElem? (i := 968) (by decide +kernel), List.mem_of_getElem? (i := 1130) (by decide +kernel), List.mem_of_getElem? (i := 1131) (by decide +kernel)⟩
def lw_privs_2 : List (MethodName × Nat) := [(⟨"ContainerHost", "hasRunning", "(LContainerHost$Group;)Z"⟩, 7), (⟨"ContainerHost", "shareOut", "(LContainerHost$Group;)V"⟩, 7), (⟨"ContainerHost", "collectParts", "(LContainerHost$Group;)I"⟩, 7), (⟨"ContainerHost", "grantLeft", "(I)V"⟩, 7), (⟨"ContainerHost", "greatestRemainder", "()I"⟩, 7), (⟨"ContainerHost", "leastFreeAddress", "(I)I"⟩, 7), (⟨"ContainerHost", "attachedAt", "(II)LContainerHost$Container;"⟩, 7), (⟨"ContainerHost", "countPublished", "()I"⟩, 7), (⟨"ContainerHostModel", "isImage", "(I)Z"⟩, 28), (⟨"ContainerHostModel", "layersOf", "(I)I"⟩, 28), (⟨"ContainerHostModel", "holds", "(I)Z"⟩, 28), (⟨"ContainerHostModel", "empties", "(I)V"⟩, 28), (⟨"ContainerHostModel", "imageShows", "(II)I"⟩, 28), (⟨"ContainerHostModel", "shows", "(III)I"⟩, 28), (⟨"ContainerHostModel", "isContainer", "(I)Z"⟩, 28), (⟨"ContainerHostModel", "copies", "(II)V"⟩, 28)]
theorem lw_r2 : ∀ q ∈ lw_privs_2, lw_okq q := List.forall_mem_cons.mpr ⟨lw_p16, List.forall_mem_cons.mpr ⟨lw_p17, List.forall_mem_cons.mpr ⟨lw_p18, List.forall_mem_cons.mpr ⟨lw_p19, List.forall_mem_cons.mpr ⟨lw_p20, List.forall_mem_cons.mpr ⟨lw_p21, List.forall_mem_cons.mpr ⟨lw_p22, List.forall_mem_cons.mpr ⟨lw_p23, List.forall_mem_cons.mpr ⟨lw_p24, List.forall_mem_cons.mpr ⟨lw_p25, List.forall_mem_cons.mpr ⟨lw_p26, List.forall_mem_cons.mpr ⟨lw_p27, List.forall_mem_cons.mpr ⟨lw_p28, List.forall_mem_cons.mpr ⟨lw_p29, List.forall_mem_cons.mpr ⟨lw_p30, List.forall_mem_cons.mpr ⟨lw_p31, fun _ h => absurd h List.not_mem_nil⟩⟩⟩⟩⟩⟩⟩⟩⟩⟩⟩⟩⟩⟩⟩⟩
theorem lw_p32 : lw_okq (⟨"ContainerHostModel", "isGroup", "(I)Z"⟩, 28) := ⟨⟨by decide +kernel, by decide +kernel⟩, List.mem_of_getElem? (i := 968) (by decide +kernel), List.mem_of_getElem? (i := 1138) (by decide +kernel), List.mem_of_getElem? (i := 1139) (by decide +kernel)⟩
theorem lw_p33 : lw_okq (⟨"ContainerHostModel", "memoryIn", "(I)I"⟩, 28) := ⟨⟨by decide +kernel, by decide +kernel⟩, List.mem_of_getElem? (i := 968) (by decide +kernel), List.mem_of_getElem? (i := 1146) (by decide +kernel), List.mem_of_getElem? (i := 1147) (by decide +kernel)⟩
theorem lw_p34 : lw_okq (⟨"ContainerHostModel", "isBelow", "(II)Z"⟩, 28) := ⟨⟨by decide +kernel, by decide +kernel⟩, List.mem_of_getElem? (i := 968) (by decide +kernel), List.mem_of_getElem? (i := 1150) (by decide +kernel), List.mem_of_getElem? (i := 1151) (by decide +kernel)⟩
theorem lw_p35 : lw_okq (⟨"ContainerHostModel", "processesIn", "(I)I"⟩, 28) := ⟨⟨by decide +kernel, by decide +kernel⟩, List.mem_of_getElem? (i := 968) (by decide +kernel), List.mem_of_getElem? (i := 1158) (by decide +kernel), List.mem_of_getElem? (i := 1159) (by decide +kernel)⟩
theorem lw_p36 : lw_okq (⟨"ContainerHostModel", "tooMuch", "(III)I"⟩, 28) := ⟨⟨by decide +kernel, by decide +kernel⟩, List.mem_of_getElem? (i := 968) (by decide +kernel), List.mem_of_getElem? (i := 1166) (by decide +kernel), List.mem_of_getElem? (i := 1167) (by decide +kernel)⟩
theorem lw_p37 : lw_okq (⟨"ContainerHostModel", "begins", "(IIII)V"⟩, 28) := ⟨⟨by decide +kernel, by decide +kernel⟩, List.mem_of_getElem? (i := 968) (by decide +kernel), List.mem_of_getElem? (i := 1170) (by decide +kernel), List.mem_of_getElem? (i := 1171) (by decide +kernel)⟩
theorem lw_p38 : lw_okq (⟨"ContainerHostModel", "isThere", "(II)Z"⟩, 28) := ⟨⟨by decide +kernel, by decide +kernel⟩, List.mem_of_getElem? (i := 968) (by decide +kernel), List.mem_of_getElem? (i := 1178) (by decide +kernel), List.mem_of_getElem? (i := 1179) (by decide +kernel)⟩
theorem lw_p39 : lw_okq (⟨"ContainerHostModel", "stops", "(I)I"⟩, 28) := ⟨⟨by decide +kernel, by decide +kernel⟩, List.mem_of_getElem? (i := 968) (by decide +kernel), List.mem_of_getElem? (i := 1190) (by decide +kernel), List.mem_of_getElem? (i := 1191) (by decide +kernel)⟩
theorem lw_p40 : lw_okq (⟨"ContainerHostModel", "greatest", "(I)I"⟩, 28) := ⟨⟨by decide +kernel, by decide +kernel⟩, List.mem_of_getElem? (i := 968) (by decide +kernel), List.mem_of_getElem? (i := 1201) (by decide +kernel), List.mem_of_getElem? (i := 1202) (by decide +kernel)⟩
theorem lw_p41 : lw_okq (⟨"ContainerHostModel", "sharesOut", "(I)I"⟩, 28) := ⟨⟨by decide +kernel, by decide +kernel⟩, List.mem_of_getElem? (i := 968) (by decide +kernel), List.mem_of_getElem? (i := 1221) (by decide +kernel), List.mem_of_getElem? (i := 1222) (by decide +kernel)⟩
theorem lw_p42 : lw_okq (⟨"ContainerHostModel", "isPart", "(II)Z"⟩, 28) := ⟨⟨by decide +kernel, by decide +kernel⟩, List.mem_of_getElem? (i := 968) (by decide +kernel), List.mem_of_getElem? (i := 1225) (by decide +kernel), List.mem_of_getElem? (i := 1226) (by decide +kernel)⟩
theorem lw_p43 : lw_okq (⟨"ContainerHostModel", "sharesOfPart", "(I)I"⟩, 28) := ⟨⟨by decide +kernel, by decide +kernel⟩, List.mem_of_getElem? (i := 968) (by decide +kernel), List.mem_of_getElem? (i := 1229) (by decide +kernel), List.mem_of_getElem? (i := 1230) (by decide +kernel)⟩
theorem lw_p44 : lw_okq (⟨"ContainerHostModel", "gives", "(II)V"⟩, 28) := ⟨⟨by decide +kernel, by decide +kernel⟩, List.mem_of_getElem? (i := 968) (by decide +kernel), List.mem_of_getElem? (i := 1233) (by decide +kernel), List.mem_of_getElem? (i := 1234) (by decide +kernel)⟩
theorem lw_p45 : lw_okq (⟨"ContainerHostModel", "mayChange", "(II)Z"⟩, 28) := ⟨⟨by decide +kernel, by decide +kernel⟩, List.mem_of_getElem? (i := 968) (by decide +kernel), List.mem_of_getElem? (i := 1241) (by decide +kernel), List.mem_of_getElem? (i := 1242) (by decide +kernel)⟩
theorem lw_p46 : lw_okq (⟨"ContainerHostModel", "isEffective", "(II)Z"⟩, 28) := ⟨⟨by decide +kernel, by decide +kernel⟩, List.mem_of_getElem? (i := 968) (by decide +kernel), List.mem_of_getElem? (i := 1245) (by decide +kernel), List.mem_of_getElem? (i := 1246) (by decide +kernel)⟩
theorem lw_p47 : lw_okq (⟨"ContainerHostModel", "containerSees", "(II)I"⟩, 28) := ⟨⟨by decide +kernel, by decide +kernel⟩, List.mem_of_getElem? (i := 968) (by decide +kernel), List.mem_of_getElem? (i := 1249) (by decide +kernel), List.mem_of_getElem? (i := 1250) (by decide +kernel)⟩
def lw_privs_3 : List (MethodName × Nat) := [(⟨"ContainerHostModel", "isGroup", "(I)Z"⟩, 28), (⟨"ContainerHostModel", "memoryIn", "(I)I"⟩, 28), (⟨"ContainerHostModel", "isBelow", "(II)Z"⟩, 28), (⟨"ContainerHostModel", "processesIn", "(I)I"⟩, 28), (⟨"ContainerHostModel", "tooMuch", "(III)I"⟩, 28), (⟨"ContainerHostModel", "begins", "(IIII)V"⟩, 28), (⟨"ContainerHostModel", "isThere", "(II)Z"⟩, 28), (⟨"ContainerHostModel", "stops", "(I)I"⟩, 28), (⟨"ContainerHostModel", "greatest", "(I)I"⟩, 28), (⟨"ContainerHostModel", "sharesOut", "(I)I"⟩, 28), (⟨"ContainerHostModel", "isPart", "(II)Z"⟩, 28), (⟨"ContainerHostModel", "sharesOfPart", "(I)I"⟩, 28), (⟨"ContainerHostModel", "gives", "(II)V"⟩, 28), (⟨"ContainerHostModel", "mayChange", "(II)Z"⟩, 28), (⟨"ContainerHostModel", "isEffective", "(II)Z"⟩, 28), (⟨"ContainerHostModel", "containerSees", "(II)I"⟩, 28)]
theorem lw_r3 : ∀ q ∈ lw_privs_3, lw_okq q := List.forall_mem_cons.mpr ⟨lw_p32, List.forall_mem_cons.mpr ⟨lw_p33, List.forall_mem_cons.mpr ⟨lw_p34, List.forall_mem_cons.mpr ⟨lw_p35, List.forall_mem_cons.mpr ⟨lw_p36, List.forall_mem_cons.mpr ⟨lw_p37, List.forall_mem_cons.mpr ⟨lw_p38, List.forall_mem_cons.mpr ⟨lw_p39, List.forall_mem_cons.mpr ⟨lw_p40, List.forall_mem_cons.mpr ⟨lw_p41, List.forall_mem_cons.mpr ⟨lw_p42, List.forall_mem_cons.mpr ⟨lw_p43, List.forall_mem_cons.mpr ⟨lw_p44, List.forall_mem_cons.mpr ⟨lw_p45, List.forall_mem_cons.mpr ⟨lw_p46, List.forall_mem_cons.mpr ⟨lw_p47, fun _ h => absurd h List.not_mem_nil⟩⟩⟩⟩⟩⟩⟩⟩⟩⟩⟩⟩⟩⟩⟩⟩
theorem lw_p48 : lw_okq (⟨"ContainerHostModel", "layerAt", "(II)I"⟩, 28) := ⟨⟨by decide +kernel, by decide +kernel⟩, List.mem_of_getElem? (i := 968) (by decide +kernel), List.mem_of_getElem? (i := 1265) (by decide +kernel), List.mem_of_getElem? (i := 1266) (by decide +kernel)⟩
theorem lw_p49 : lw_okq (⟨"ContainerHostModel", "isCapability", "(IIZ)Z"⟩, 28) := ⟨⟨by decide +kernel, by decide +kernel⟩, List.mem_of_getElem? (i := 968) (by decide +kernel), List.mem_of_getElem? (i := 1273) (by decide +kernel), List.mem_of_getElem? (i := 1274) (by decide +kernel)⟩
theorem lw_p50 : lw_okq (⟨"ContainerHostModel", "freeAddress", "(I)I"⟩, 28) := ⟨⟨by decide +kernel, by decide +kernel⟩, List.mem_of_getElem? (i := 968) (by decide +kernel), List.mem_of_getElem? (i := 1293) (by decide +kernel), List.mem_of_getElem? (i := 1294) (by decide +kernel)⟩
theorem lw_p51 : lw_okq (⟨"ContainerHostModel", "atAddress", "(II)I"⟩, 28) := ⟨⟨by decide +kernel, by decide +kernel⟩, List.mem_of_getElem? (i := 968) (by decide +kernel), List.mem_of_getElem? (i := 1297) (by decide +kernel), List.mem_of_getElem? (i := 1298) (by decide +kernel)⟩
theorem lw_p52 : lw_okq (⟨"ContainerHostModel", "isListening", "(II)Z"⟩, 28) := ⟨⟨by decide +kernel, by decide +kernel⟩, List.mem_of_getElem? (i := 968) (by decide +kernel), List.mem_of_getElem? (i := 1309) (by decide +kernel), List.mem_of_getElem? (i := 1310) (by decide +kernel)⟩
theorem lw_p53 : lw_okq (⟨"ContainerHostModel", "keeps", "(II)V"⟩, 28) := ⟨⟨by decide +kernel, by decide +kernel⟩, List.mem_of_getElem? (i := 968) (by decide +kernel), List.mem_of_getElem? (i := 1329) (by decide +kernel), List.mem_of_getElem? (i := 1330) (by decide +kernel)⟩
theorem lw_p54 : lw_okq (⟨"ContainerHostModel", "isAsked", "(I)Z"⟩, 28) := ⟨⟨by decide +kernel, by decide +kernel⟩, List.mem_of_getElem? (i := 968) (by decide +kernel), List.mem_of_getElem? (i := 1345) (by decide +kernel), List.mem_of_getElem? (i := 1346) (by decide +kernel)⟩
def lw_privs_4 : List (MethodName × Nat) := [(⟨"ContainerHostModel", "layerAt", "(II)I"⟩, 28), (⟨"ContainerHostModel", "isCapability", "(IIZ)Z"⟩, 28), (⟨"ContainerHostModel", "freeAddress", "(I)I"⟩, 28), (⟨"ContainerHostModel", "atAddress", "(II)I"⟩, 28), (⟨"ContainerHostModel", "isListening", "(II)Z"⟩, 28), (⟨"ContainerHostModel", "keeps", "(II)V"⟩, 28), (⟨"ContainerHostModel", "isAsked", "(I)Z"⟩, 28)]
theorem lw_r4 : ∀ q ∈ lw_privs_4, lw_okq q := List.forall_mem_cons.mpr ⟨lw_p48, List.forall_mem_cons.mpr ⟨lw_p49, List.forall_mem_cons.mpr ⟨lw_p50, List.forall_mem_cons.mpr ⟨lw_p51, List.forall_mem_cons.mpr ⟨lw_p52, List.forall_mem_cons.mpr ⟨lw_p53, List.forall_mem_cons.mpr ⟨lw_p54, fun _ h => absurd h List.not_mem_nil⟩⟩⟩⟩⟩⟩⟩
def lw_privs : List (MethodName × Nat) := lw_privs_1 ++ (lw_privs_2 ++ (lw_privs_3 ++ (lw_privs_4)))
def lw_tbl : List Cond := k2_sels lw_privs ++ tables_1
theorem lw_privs_ok : ∀ q ∈ lw_privs, lw_okq q := by
  show ∀ q ∈ lw_privs_1 ++ (lw_privs_2 ++ (lw_privs_3 ++ (lw_privs_4))), lw_okq q
  exact List.forall_mem_append.mpr ⟨lw_r1, List.forall_mem_append.mpr ⟨lw_r2, List.forall_mem_append.mpr ⟨lw_r3, lw_r4⟩⟩⟩
end
section
/-! ===== BEGIN words of one list among another's, by their places ===== -/
theorem goodIn_r {big : List Cond} (ws : List Cond) (ps : List Nat) (hp : ws = ps.filterMap (fun i => big[i]?)) (h : ws.all goodWord = true) : GoodIn big ws := by
  intro w hw
  have h1 := List.all_eq_true.mp h w hw
  rw [hp] at hw
  obtain ⟨i, -, hi⟩ := List.mem_filterMap.mp hw
  have hm : w ∈ big := by first | exact List.mem_of_getElem? hi | exact List.getElem?_mem hi
  exact ⟨hm, good_of_word h1⟩
theorem goodIn_app {big a b : List Cond} (ha : GoodIn big a) (hb : GoodIn big b) : GoodIn big (a ++ b) := fun w h => (List.mem_append.mp h).elim (ha w) (hb w)
theorem goodIn_ca {big a b : List Cond} {c : Cond} (ha : GoodIn big (c :: a)) (hb : GoodIn big b) : GoodIn big (c :: (a ++ b)) := fun w h => (List.mem_cons.mp h).elim (fun e => ha w (List.mem_cons.mpr (Or.inl e))) (fun h => (List.mem_append.mp h).elim (fun h => ha w (List.mem_cons.mpr (Or.inr h))) (hb w))
theorem goodIn_sub {big ws : List Cond} (hm : ∀ w ∈ ws, w ∈ big) (h : ws.all goodWord = true) : GoodIn big ws := fun w hw => ⟨hm w hw, good_of_word (List.all_eq_true.mp h w hw)⟩
/-! ===== END ===== -/
/-! ===== BEGIN exceptions that leave a method, and their catching by the caller (launches without stack traces) ===== -/
section VXA
/-! The laws vx_back, vx_callV, vx_callS, vx_callSW, vx_throw0, vx_throwS follow proofs of the library, with one case more: JvmDerived/Free/Laws.lean (Back.of_free), Shelf42/LK1.lean (callV, callS), Shelf/KitTraced.lean (throwNew0V, throwNewS). -/
/-- where a method has thrown q: the class by its name, the cell, what was written, the world -/
def vx_T (XC : String → State → State → Prop) (st : State) (q : Addr) (t : State) (mc ms : Nat) (free : Addr → Prop) : Prop :=
  ∃ (E : String) (ce : Cell) (L : List Loc), XC E st t ∧ t.heap[q]? = some ce ∧ ce.vm = .none ∧ st.vm.findClass E = some ce.cls ∧ st.WarmedH t.vm ∧ st.sameButNew ({ t with vm := st.vm } : State) L mc ms ∧ ∀ z ∈ L, free z.base
def vx_Q (Qc : Array Value → State → Outcome → State → Prop) (XC : String → State → State → Prop) (mc ms : Nat) (free : Addr → Prop) : Array Value → State → Outcome → State → Prop := fun a st o t =>
  (Qc a st o t ∧ ∃ L, FrameEnd st o t L mc ms ∧ ∀ q ∈ L, free q.base) ∨ ∃ q, o = .threw q ∧ vx_T XC st q t mc ms free
/-- a callee that returns or throws -/
def vx_Met (l : Launch) (y : MethodName) (ws : List Cond) (rm : Room) (Pc : Array Value → State → Prop) (Qc : Array Value → State → Outcome → State → Prop) (XC : String → State → State → Prop) (mc ms : Nat) (free : Addr → Prop) : Prop :=
  MetFree l y (headSpec ws rm) Pc (fun _ _ _ _ _ => True) (vx_Q Qc XC mc ms free)
def vx_Post (XC : String → State → State → Prop) (mc ms : Nat) (free : Addr → Prop) : Pt → Array Value → Addr → Pt → Prop := fun A a q B =>
  ∃ (g : JFrame) (mk : MethodId) (t : State) (L : List Loc) (E : String) (ce : Cell), B.U.heap = t.heap ∧ B.U.vm = t.vm ∧ XC E (A.U.calling g mk a) t ∧ t.heap[q]? = some ce ∧ ce.vm = .none ∧ A.U.vm.findClass E = some ce.cls ∧ B.locs = A.locs ++ L ∧ (∀ z ∈ L, free z.base) ∧ B.cells = A.cells + mc ∧ B.slots = A.slots + ms
def vx_Back (l : Launch) (R : Room) (p : Program) (e : Env) (below : List Frame) (s : State) (sargs : Array Value) (y : MethodName) (len W9 : Nat)
    (Pre : Pt → Array Value → Prop) (Post : Pt → Array Value → Option Value → Pt → Prop) (PostX : Pt → Array Value → Addr → Pt → Prop) : Prop :=
  ∀ (m : MethodId) (meth : Method) (c : Code) (A : Pt) (g : JFrame) (ig : Instr) (mk : MethodId) (a : Array Value),
    Stand p l e R s m sargs below meth c A.U A.locs A.cells A.slots → g.method = m → g.locals.size = c.maxLocals → decode c.code g.pc = .ok (ig, len) →
    2 * g.monitorRoom + (g.stack.map fun v => v.category).sum ≤ W9 → A.U.methodNamed? y = some mk → Pre A a →
    (∃ (v : Option Value) (B : Pt), Stand p l e R s m sargs below meth c B.U B.locs B.cells B.slots ∧ Post A a v B ∧
      Steps p.tables e below (doInvoke e (A.U.setTop g) [] mk a).1 (B.U.setTop { g with pc := g.pc + len, stack := v.toList ++ g.stack })) ∨
    (∃ (q : Addr) (B : Pt), Stand p l e R s m sargs below meth c B.U B.locs B.cells B.slots ∧ PostX A a q B ∧
      Steps p.tables e below (doInvoke e (A.U.setTop g) [] mk a).1 ((B.U.setTop g).pushFrame (.throwing q)))
section Payer
variable {l : Launch} {R : Room} {p : Program} {e : Env} {below : List Frame} {s : State} {sargs : Array Value} {y : MethodName} {len W9 : Nat}
theorem vx_back {ws : List Cond} {rm : Room} {Pc : Array Value → State → Prop} {Qc : Array Value → State → Outcome → State → Prop} {XC : String → State → State → Prop} {mc ms : Nat} {free : Addr → Prop} {bytes : ByteArray} {maxL : Nat} {ret : Option FieldType}
    (hM : vx_Met l y ws rm Pc Qc XC mc ms free) (hblind : FrameBlind Pc) (hrc : rm.cells = mc) (hrs : rm.slots = ms)
    (hframes : rm.frames + 1 ≤ R.frames) (hlocals : W9 + (maxL + 11) + rm.locals ≤ R.locals)
    (hws : ∀ w ∈ ws, ∀ a' U, s.WarmedH U.vm → w.before a' U = true) (hcode : Cond.code y bytes maxL ret ∈ ws) (hinit : ∀ a' U, s.WarmedH U.vm → (Cond.initialized y.cls).before a' U = true) :
    vx_Back l R p e below s sargs y len W9 (PreOf R mc ms Pc) (PostOf Qc mc ms free) (vx_Post XC mc ms free) := by
  intro m meth c A g ig mk a X hg hsize hdg hW hn hp
  have h1 : (headSpec ws rm).pre.before a A.U = true := atoms_intro fun w hw => hws w hw _ _ X.warmed
  have h2 : (Cond.code y bytes maxL ret).before a A.U = true := hws _ hcode _ _ X.warmed
  have h3 : (Cond.initialized y.cls).before a A.U = true := hinit _ _ X.warmed
  have h4 : A.cells + (headSpec ws rm).room.cells ≤ R.cells := by rw [show (headSpec ws rm).room.cells = mc from hrc]; exact hp.1
  have h5 : A.slots + (headSpec ws rm).room.slots ≤ R.slots := by rw [show (headSpec ws rm).room.slots = ms from hrs]; exact hp.2.1
  have hPc : Pc a (A.U.calling g mk a) := hblind _ _ _ _ hp.2.2
  obtain ⟨U, Ls, c0, s0⟩ := A
  dsimp only [Pt.U, Pt.locs, Pt.cells, Pt.slots] at h1 h2 h3 h4 h5 X hn hPc ⊢
  obtain ⟨methY, cY, hmY, hcY, -, hlY, -, -, -, -⟩ := Cond.code_spec hn h2
  obtain ⟨kY, hkY, -⟩ := className_of_methodNamed hn
  have hinitY : kY.init = .initialized := Cond.initialized_spec (findClass_of_methodNamed hn) hkY h3
  have h : At U g.method c below := by rw [hg]; exact X.here
  have hlocals9 : W9 + (maxL + 11) + (headSpec ws rm).room.locals ≤ R.locals := hlocals
  have happ : (headSpec ws rm).appliesLoose y e.platform (U.calling g mk a) = true :=
    Spec.appliesLoose_calling (g := g) h hdg hn hkY hinitY
      (X.room_calling (g := g) (R' := (headSpec ws rm).room) hsize hmY hcY hframes (by rw [hlY]; omega) h4 h5) h1
  obtain ⟨mid, hmid⟩ := h.above
  have hfr : (U.setTop g).frames = (.java g :: mid) ++ below := by rw [State.frames_setTop' g h.top, hmid]; rfl
  obtain ⟨o, s₂, hsteps, -, hend, hq⟩ := Steps.callFree hM p X.admits X.cas X.clock (acts := []) hfr happ hPc trivial
  have hq' : vx_Q Qc XC mc ms free a (U.calling g mk a) o s₂ := hq
  rw [State.frames_setTop' g h.top] at hend
  obtain ⟨g₀, hg0⟩ := Option.isSome_iff_exists.mp h.top
  obtain ⟨r, hr⟩ := State.topJava?_eq_some.mp hg0
  have hr' : (({ U with heap := s₂.heap, slotsUsed := s₂.slotsUsed } : State).setVm s₂.vm).frames = .java g₀ :: r := hr
  rcases hq' with ⟨hqc, L, hfe, hL⟩ | ⟨q, rfl, E, ce, L, hx, hce, hcv, hcl, hW₂, hsm, hL⟩
  · obtain ⟨⟨v, rfl⟩, hW₂, e2, q2, q3, q4, q5, q6⟩ := id hfe
    have e3 : s₂ = ({ (U.calling g mk a).setFrames s₂.frames with heap := s₂.heap, slotsUsed := s₂.slotsUsed } : State).setVm s₂.vm := by
      have : s₂ = ({ s₂ with vm := (U.calling g mk a).vm } : State).setVm s₂.vm := rfl
      rw [e2] at this
      exact this
    obtain ⟨c₂, i₂, len₂, hc₂, hd₂, hf₂⟩ := hend
    have hW' : U.WarmedH s₂.vm := hW₂
    have hcc : c₂ = c := by
      have h1 : s₂.code? g.method = U.code? g.method := by
        rw [State.code?_eq, State.code?_eq, hW'.alike.method?]
      exact Option.some.inj (hc₂.symm.trans (h1.trans h.code))
    subst hcc
    have hlen : len₂ = len := by rw [hdg] at hd₂; cases hd₂; rfl
    subst hlen
    have hs₂ : s₂ = (({ U with heap := s₂.heap, slotsUsed := s₂.slotsUsed } : State).setVm s₂.vm).setTop { g with pc := g.pc + len₂, stack := v.toList ++ g.stack } := by
      refine e3.trans ?_
      rw [hf₂, State.calling_eq h.top, State.setFrames_setFrames, State.setTop_of_frames _ hr', hr]
      rfl
    have hsame : U.sameButNew ({ U with heap := s₂.heap, slotsUsed := s₂.slotsUsed } : State) L mc ms := by
      refine ⟨?_, q2, q3, q4, q5, q6⟩
      obtain ⟨t, ht, -⟩ := State.frames_cons hr
      show ({ U with heap := s₂.heap, slotsUsed := s₂.slotsUsed } : State) = { U.setFrames U.frames with heap := s₂.heap, slotsUsed := s₂.slotsUsed }
      rw [State.setFrames_self ht]
    subst hg
    refine Or.inl ⟨v, ⟨(({ U with heap := s₂.heap, slotsUsed := s₂.slotsUsed } : State).setVm s₂.vm), Ls ++ L, c0 + mc, s0 + ms⟩,
      ⟨X.admits, X.cas, X.clock, X.frames, X.room, X.hears, X.method, X.code, (X.here.setHeapUsed s₂.heap s₂.slotsUsed).setVm hW'.alike, X.tail, State.WarmedH.trans X.warmed hW', X.limits, X.bytes, X.same.trans (hsame.setVm s.vm)⟩,
      ⟨g, mk, s₂, L, rfl, rfl, hqc, rfl, hL, rfl, rfl⟩, ?_⟩
    show Steps p.tables e below _ ((({ U with heap := s₂.heap, slotsUsed := s₂.slotsUsed } : State).setVm s₂.vm).setTop { g with pc := g.pc + len₂, stack := v.toList ++ g.stack })
    rw [← hs₂]
    exact hsteps
  · obtain ⟨e2, q2, q3, q4, q5, q6⟩ := id hsm
    have e3 : s₂ = ({ (U.calling g mk a).setFrames s₂.frames with heap := s₂.heap, slotsUsed := s₂.slotsUsed } : State).setVm s₂.vm := by
      have : s₂ = ({ s₂ with vm := (U.calling g mk a).vm } : State).setVm s₂.vm := rfl
      rw [e2] at this
      exact this
    have hf₂ : s₂.frames = .throwing q :: .java g :: U.frames.tail := hend
    have hW' : U.WarmedH s₂.vm := hW₂
    have hs₂ : s₂ = ((({ U with heap := s₂.heap, slotsUsed := s₂.slotsUsed } : State).setVm s₂.vm).setTop g).pushFrame (.throwing q) := by
      refine e3.trans ?_
      rw [hf₂, State.calling_eq h.top, State.setFrames_setFrames, State.pushFrame, State.frames_setTop _ hr', State.setTop_of_frames _ hr', State.setFrames_setFrames, hr]
      rfl
    have hsame : U.sameButNew ({ U with heap := s₂.heap, slotsUsed := s₂.slotsUsed } : State) L mc ms := by
      refine ⟨?_, q2, q3, q4, q5, q6⟩
      obtain ⟨t, ht, -⟩ := State.frames_cons hr
      show ({ U with heap := s₂.heap, slotsUsed := s₂.slotsUsed } : State) = { U.setFrames U.frames with heap := s₂.heap, slotsUsed := s₂.slotsUsed }
      rw [State.setFrames_self ht]
    subst hg
    refine Or.inr ⟨q, ⟨(({ U with heap := s₂.heap, slotsUsed := s₂.slotsUsed } : State).setVm s₂.vm), Ls ++ L, c0 + mc, s0 + ms⟩,
      ⟨X.admits, X.cas, X.clock, X.frames, X.room, X.hears, X.method, X.code, (X.here.setHeapUsed s₂.heap s₂.slotsUsed).setVm hW'.alike, X.tail, State.WarmedH.trans X.warmed hW', X.limits, X.bytes, X.same.trans (hsame.setVm s.vm)⟩,
      ⟨g, mk, s₂, L, E, ce, rfl, rfl, hx, hce, hcv, hcl, rfl, hL, rfl, rfl⟩, ?_⟩
    show Steps p.tables e below _ (((({ U with heap := s₂.heap, slotsUsed := s₂.slotsUsed } : State).setVm s₂.vm).setTop g).pushFrame (.throwing q))
    rw [← hs₂]
    exact hsteps
end Payer
section Calls
variable {p : Program} {l : Launch} {e : Env} {R : Room} {s : State} {m : MethodId} {args : Array Value} {below : List Frame} {meth : Method} {c : Code} {T : State} {locs : List Loc} {cells slots : Nat}
theorem vx_callV (X : Stand p l e R s m args below meth c T locs cells slots) (hexec : p.tables.exec = Jvm.exec) {own C : String} {index : Nat} {y : MethodName} {bytes : ByteArray} {maxL : Nat} {ret : Option FieldType}
    (hown : s.vm.findClass own = some m.cls) (hlink : (Cond.methodLink own index y).before args s = true) (hinst : (Cond.instanceMethod y).before args s = true) (hsel : (Cond.selects C y y).before args s = true)
    (hcode : (Cond.code y bytes maxL ret).before args s = true) (hy : y.cls ≠ "java/lang/invoke/MethodHandle" ∧ y.cls ≠ "java/lang/invoke/VarHandle")
    {W9 : Nat} {Pre : Pt → Array Value → Prop} {Post : Pt → Array Value → Option Value → Pt → Prop} {PostX : Pt → Array Value → Addr → Pt → Prop} (hK : vx_Back l R p e below s args y 3 W9 Pre Post PostX)
    {b : Addr} {cellB : Cell} (hcell : T.heap[b]? = some cellB) (hobj : cellB.vm.isStatics = false) (hcls : s.vm.findClass C = some cellB.cls)
    {g : JFrame} (hg : g.method = m) (hsize : g.locals.size = c.maxLocals) {argsL rest : List Value} (hlen : ∀ sig, parseMethodDescriptor y.desc = some sig → argsL.length = sig.parameters.length)
    (hstack : g.stack = argsL.reverse ++ .ref b :: rest) (hW : 2 * g.monitorRoom + (rest.map fun v => v.category).sum ≤ W9) (hdg : decode c.code g.pc = .ok (.invokevirtual index, 3))
    (hpre : ∀ vm₁, s.WarmedH vm₁ → Pre ⟨T.setVm vm₁, locs, cells, slots⟩ (Value.ref b :: argsL).toArray) :
    (∃ (v : Option Value) (vm₁ : Vm) (B : Pt), s.WarmedH vm₁ ∧ Stand p l e R s m args below meth c B.U B.locs B.cells B.slots ∧ Post ⟨T.setVm vm₁, locs, cells, slots⟩ (Value.ref b :: argsL).toArray v B ∧
      ∀ target, Steps p.tables e below (B.U.setTop { g with pc := g.pc + 3, stack := v.toList ++ rest }) target → Steps p.tables e below (T.setTop g) target) ∨
    (∃ (q : Addr) (vm₁ : Vm) (B : Pt), s.WarmedH vm₁ ∧ Stand p l e R s m args below meth c B.U B.locs B.cells B.slots ∧ PostX ⟨T.setVm vm₁, locs, cells, slots⟩ (Value.ref b :: argsL).toArray q B ∧
      Steps p.tables e below (T.setTop g) ((B.U.setTop { g with stack := rest }).pushFrame (.throwing q))) := by
  obtain ⟨mk, methM, hnamed, hmethM, hstM, habM⟩ := Cond.instanceMethod_spec hinst
  obtain ⟨methM', cM, hmethM', -, -, -, -, -, -, hsigM⟩ := Cond.code_spec hnamed hcode
  cases hmethM.symm.trans hmethM'
  obtain ⟨c2, r2, m2, q1, q2, q3, q4, kP, hkP, hkPi⟩ := Cond.selects_spec hsel
  cases hcls.symm.trans q1
  cases (State.methodFound?_of_named hnamed hy).symm.trans q2
  cases hnamed.symm.trans q3
  have hselP : selectMethod e.platform s.vm cellB.cls mk = .method mk := by rw [Launch.admits_selectMethod X.admits]; exact q4
  obtain ⟨vm₁, X₁, hstep₁⟩ := X.invokevirtual hexec hown hlink hnamed hmethM hstM hkP hkPi hy (a := b) (cell := cellB) hcell
    (fun z h => by rw [h] at hobj; cases hobj) hselP hmethM habM hkP hkPi (g := g) hg (argsL := argsL) (rest := rest) (hlen _ hsigM) hstack hdg
  rcases hK m meth c ⟨T.setVm vm₁, locs, cells, slots⟩ { g with stack := rest } (.invokevirtual index) mk (Value.ref b :: argsL).toArray X₁ hg hsize hdg hW (X₁.named hnamed) (hpre vm₁ X₁.warmed) with ⟨v, B, X', hpost, hsteps⟩ | ⟨q, B, X', hpost, hsteps⟩
  · exact Or.inl ⟨v, vm₁, B, X₁.warmed, X', hpost, fun target h => hstep₁ _ fun acts => by rw [doInvoke_state]; exact hsteps.trans h⟩
  · exact Or.inr ⟨q, vm₁, B, X₁.warmed, X', hpost, hstep₁ _ fun acts => by rw [doInvoke_state]; exact hsteps⟩
theorem vx_callS (X : Stand p l e R s m args below meth c T locs cells slots) (hexec : p.tables.exec = Jvm.exec) {own : String} {index : Nat} {y : MethodName} {bytes : ByteArray} {maxL : Nat} {ret : Option FieldType}
    (hown : s.vm.findClass own = some m.cls) (hlink : (Cond.methodLink own index y).before args s = true) (hstat : (Cond.static y).before args s = true) (hinit : (Cond.initialized y.cls).before args s = true)
    (hcode : (Cond.code y bytes maxL ret).before args s = true) (hy : y.cls ≠ "java/lang/invoke/MethodHandle" ∧ y.cls ≠ "java/lang/invoke/VarHandle")
    {W9 : Nat} {Pre : Pt → Array Value → Prop} {Post : Pt → Array Value → Option Value → Pt → Prop} {PostX : Pt → Array Value → Addr → Pt → Prop} (hK : vx_Back l R p e below s args y 3 W9 Pre Post PostX)
    {g : JFrame} (hg : g.method = m) (hsize : g.locals.size = c.maxLocals) {argsL rest : List Value} (hlen : ∀ sig, parseMethodDescriptor y.desc = some sig → argsL.length = sig.parameters.length)
    (hstack : g.stack = argsL.reverse ++ rest) (hW : 2 * g.monitorRoom + (rest.map fun v => v.category).sum ≤ W9) (hdg : decode c.code g.pc = .ok (.invokestatic index, 3))
    (hpre : ∀ vm₁, s.WarmedH vm₁ → Pre ⟨T.setVm vm₁, locs, cells, slots⟩ argsL.toArray) :
    (∃ (v : Option Value) (vm₁ : Vm) (B : Pt), s.WarmedH vm₁ ∧ Stand p l e R s m args below meth c B.U B.locs B.cells B.slots ∧ Post ⟨T.setVm vm₁, locs, cells, slots⟩ argsL.toArray v B ∧
      ∀ target, Steps p.tables e below (B.U.setTop { g with pc := g.pc + 3, stack := v.toList ++ rest }) target → Steps p.tables e below (T.setTop g) target) ∨
    (∃ (q : Addr) (vm₁ : Vm) (B : Pt), s.WarmedH vm₁ ∧ Stand p l e R s m args below meth c B.U B.locs B.cells B.slots ∧ PostX ⟨T.setVm vm₁, locs, cells, slots⟩ argsL.toArray q B ∧
      Steps p.tables e below (T.setTop g) ((B.U.setTop { g with stack := rest }).pushFrame (.throwing q))) := by
  obtain ⟨mk, hnamed⟩ := Cond.code_named hcode
  obtain ⟨methM, cM, hmethM, -, -, -, -, -, -, hsigM⟩ := Cond.code_spec hnamed hcode
  have hstatic : methM.isStatic = true := Cond.static_spec hnamed hmethM hstat
  obtain ⟨kP, hkP, -⟩ := className_of_methodNamed hnamed
  have hinitP : kP.init = .initialized := Cond.initialized_spec (findClass_of_methodNamed hnamed) hkP hinit
  obtain ⟨vm₁, X₁, hstep₁⟩ := X.invokestatic hexec hown hlink hnamed hmethM hstatic hkP hinitP hy (g := g) hg (argsL := argsL) (rest := rest) (hlen _ hsigM) hstack hdg
  rcases hK m meth c ⟨T.setVm vm₁, locs, cells, slots⟩ { g with stack := rest } (.invokestatic index) mk argsL.toArray X₁ hg hsize hdg hW (X₁.named hnamed) (hpre vm₁ X₁.warmed) with ⟨v, B, X', hpost, hsteps⟩ | ⟨q, B, X', hpost, hsteps⟩
  · exact Or.inl ⟨v, vm₁, B, X₁.warmed, X', hpost, fun target h => hstep₁ _ fun acts => by rw [doInvoke_state]; exact hsteps.trans h⟩
  · exact Or.inr ⟨q, vm₁, B, X₁.warmed, X', hpost, hstep₁ _ fun acts => by rw [doInvoke_state]; exact hsteps⟩
end Calls
theorem vx_cls {s : State} {T : State} {vm₁ : Vm} {E : String} {k : ClassId} (hW : s.WarmedH vm₁) (h : (T.setVm vm₁).vm.findClass E = some k) : s.vm.findClass E = some k := by
  have h1 : vm₁.findClass E = some k := h
  rw [hW.alike.findClass] at h1
  exact h1
/-- the method's frame g, with q thrown over it -/
def vx_W (p : Program) (l : Launch) (e : Env) (R : Room) (s : State) (m : MethodId) (args : Array Value) (below : List Frame) (meth : Method) (c : Code) (H : Heap) (locs : List Loc) (cells slots : Nat) (Q : State → Prop) (g : JFrame) (q : Addr) : Prop :=
  ∀ T : State, T.heap = H → Stand p l e R s m args below meth c T locs cells slots → ∃ t, Steps p.tables e below ((T.setTop g).pushFrame (.throwing q)) t ∧ Q t
def vx_Run (p : Program) (l : Launch) (e : Env) (R : Room) (s : State) (m : MethodId) (args : Array Value) (below : List Frame) (meth : Method) (c : Code) (H : Heap) (locs : List Loc) (cells slots mc ms : Nat) (g : JFrame) (rest : List Value) (Qa : State → Outcome → State → Prop) (XC : String → State → State → Prop) (free : Addr → Prop) : Prop :=
  ∀ T : State, T.heap = H → Stand p l e R s m args below meth c T locs cells slots →
    (∃ (v : Option Value) (st₀ t T' : State) (L : List Loc), st₀.heap = H ∧ Stand p l e R s m args below meth c T' (locs ++ L) (cells + mc) (slots + ms) ∧ (∀ q ∈ L, free q.base) ∧ T'.heap = t.heap ∧ T'.vm = t.vm ∧ Qa st₀ (.returned v) t ∧
      Goes p e below T g T' { g with pc := g.pc + 3, stack := v.toList ++ rest }) ∨
    (∃ (q : Addr) (st₀ t T' : State) (L : List Loc) (E : String) (ce : Cell), st₀.heap = H ∧ Stand p l e R s m args below meth c T' (locs ++ L) (cells + mc) (slots + ms) ∧ (∀ z ∈ L, free z.base) ∧ T'.heap = t.heap ∧ T'.vm = t.vm ∧ XC E st₀ t ∧ t.heap[q]? = some ce ∧ ce.vm = .none ∧ s.vm.findClass E = some ce.cls ∧
      Steps p.tables e below (T.setTop g) ((T'.setTop { g with stack := rest }).pushFrame (.throwing q)))
def vx_X {S : Type} (px : S → Prop) (B : String → S → State → Prop) (A : Nat → Prop) : String → State → State → Prop := fun E st t => ∃ u : S, px u ∧ B E u t ∧ va_F A st t
section Runs
variable {p : Program} {l : Launch} {e : Env} {R : Room} {s : State} {m : MethodId} {args : Array Value} {below : List Frame} {meth : Method} {c : Code} {H : Heap} {locs : List Loc} {cells slots : Nat}
variable {y : MethodName} {bytes cc : ByteArray} {maxL nL mc ms n index : Nat} {ret : Option FieldType} {ws : List Cond} {rm : Room} {Pc : Array Value → State → Prop} {Qc : Array Value → State → Outcome → State → Prop} {XC : String → State → State → Prop} {free : Addr → Prop} {Ts : List Cond} {own C : String} {b : Addr} {As rest : List Value} {g : JFrame}
theorem vx_callBack (cb : CallB R s args own index y bytes maxL ret ws rm mc ms n) (hM : vx_Met l y ws rm Pc Qc XC mc ms free) (hbl : FrameBlind Pc) : vx_Back l R p e below s args y 3 8 (PreOf R mc ms Pc) (PostOf Qc mc ms free) (vx_Post XC mc ms free) := by
  obtain ⟨hrc, hrs, hfr, hlo, hws, hcw, -, hini, -⟩ := cb
  exact vx_back (bytes := bytes) (maxL := maxL) (ret := ret) hM hbl hrc hrs hfr hlo hws hcw (fun a' U hW => word_at hW (Or.inl (by first | rfl | simp [Cond.onTables, Cond.keeps, Cond.steady])) hini)
theorem vx_runV (S : CallFix p m c cc nL s args Ts own) (hM : vx_Met l y ws rm Pc Qc XC mc ms free) (cw : CallW R s args own C index y bytes maxL ret ws rm mc ms n) (hp : PreV s H C b Pc As)
    (hg : g.method = m) (hn : As.length = n) (hsize : g.locals.size = nL) (hstack : g.stack = As.reverse ++ .ref b :: rest) (hW : 2 * g.monitorRoom + (rest.map fun v => v.category).sum ≤ 8) (hdg : decode cc g.pc = .ok (.invokevirtual index, 3)) (hf : cells + mc ≤ R.cells ∧ slots + ms ≤ R.slots) :
    vx_Run p l e R s m args below meth c H locs cells slots mc ms g rest (Qc (Value.ref b :: As).toArray) XC free := by
  have hK : vx_Back l R p e below s args y 3 8 (PreOf R mc ms Pc) (PostOf Qc mc ms free) (vx_Post XC mc ms free) := vx_callBack cw.1 hM hp.1
  obtain ⟨⟨-, -, -, -, -, -, hcode, -, hy, hlen, hl⟩, hin, hse⟩ := cw
  obtain ⟨hx, hb, hml, ho, -⟩ := S
  obtain ⟨-, ⟨cellB, hcB, hoB, hclB⟩, hPc⟩ := hp
  intro T hT X
  rcases vx_callV X hx (C := C) (bytes := bytes) (maxL := maxL) (ret := ret) ho hl hin hse hcode hy hK (by rw [hT]; exact hcB) hoB hclB hg (hsize.trans hml.symm) (argsL := As) (rest := rest) (fun sig h => hn.trans (hlen sig h)) hstack hW (by rw [hb]; exact hdg)
    (fun vm₁ hW₁ => ⟨hf.1, hf.2, hPc (T.setVm vm₁) hT hW₁⟩) with ⟨v, vm₁, ⟨U', l2, c2, s2⟩, hW₁, X', ⟨g', mk, t, L, e1, e2, hq, h1, hL, h2, h3⟩, st⟩ | ⟨q, vm₁, ⟨U', l2, c2, s2⟩, hW₁, X', ⟨g', mk, t, L, E, ce, e1, e2, hq, hce, hcv, hcl, h1, hL, h2, h3⟩, st⟩
  · dsimp only [Pt.U, Pt.locs, Pt.cells, Pt.slots] at X' e1 e2 h1 h2 h3 st
    subst h1; subst h2; subst h3
    exact Or.inl ⟨v, (T.setVm vm₁).calling g' mk (Value.ref b :: As).toArray, t, U', L, hT, X', hL, e1, e2, hq, st⟩
  · dsimp only [Pt.U, Pt.locs, Pt.cells, Pt.slots] at X' e1 e2 h1 h2 h3 st hcl
    subst h1; subst h2; subst h3
    exact Or.inr ⟨q, (T.setVm vm₁).calling g' mk (Value.ref b :: As).toArray, t, U', L, E, ce, hT, X', hL, e1, e2, hq, hce, hcv, vx_cls hW₁ hcl, st⟩
theorem vx_runS (S : CallFix p m c cc nL s args Ts own) (hM : vx_Met l y ws rm Pc Qc XC mc ms free) (cw : CallB R s args own index y bytes maxL ret ws rm mc ms n ∧ (Cond.static y).before args s = true) (hp : PreS s H Pc As)
    (hg : g.method = m) (hn : As.length = n) (hsize : g.locals.size = nL) (hstack : g.stack = As.reverse ++ rest) (hW : 2 * g.monitorRoom + (rest.map fun v => v.category).sum ≤ 8) (hdg : decode cc g.pc = .ok (.invokestatic index, 3)) (hf : cells + mc ≤ R.cells ∧ slots + ms ≤ R.slots) :
    vx_Run p l e R s m args below meth c H locs cells slots mc ms g rest (Qc As.toArray) XC free := by
  have hK : vx_Back l R p e below s args y 3 8 (PreOf R mc ms Pc) (PostOf Qc mc ms free) (vx_Post XC mc ms free) := vx_callBack cw.1 hM hp.1
  obtain ⟨⟨-, -, -, -, -, -, hcode, hini, hy, hlen, hl⟩, hstt⟩ := cw
  obtain ⟨hx, hb, hml, ho, -⟩ := S
  intro T hT X
  rcases vx_callS X hx (bytes := bytes) (maxL := maxL) (ret := ret) ho hl hstt hini hcode hy hK hg (hsize.trans hml.symm) (argsL := As) (rest := rest) (fun sig h => hn.trans (hlen sig h)) hstack hW (by rw [hb]; exact hdg)
    (fun vm₁ hW₁ => ⟨hf.1, hf.2, hp.2 (T.setVm vm₁) hT hW₁⟩) with ⟨v, vm₁, ⟨U', l2, c2, s2⟩, hW₁, X', ⟨g', mk, t, L, e1, e2, hq, h1, hL, h2, h3⟩, st⟩ | ⟨q, vm₁, ⟨U', l2, c2, s2⟩, hW₁, X', ⟨g', mk, t, L, E, ce, e1, e2, hq, hce, hcv, hcl, h1, hL, h2, h3⟩, st⟩
  · dsimp only [Pt.U, Pt.locs, Pt.cells, Pt.slots] at X' e1 e2 h1 h2 h3 st
    subst h1; subst h2; subst h3
    exact Or.inl ⟨v, (T.setVm vm₁).calling g' mk As.toArray, t, U', L, hT, X', hL, e1, e2, hq, st⟩
  · dsimp only [Pt.U, Pt.locs, Pt.cells, Pt.slots] at X' e1 e2 h1 h2 h3 st hcl
    subst h1; subst h2; subst h3
    exact Or.inr ⟨q, (T.setVm vm₁).calling g' mk As.toArray, t, U', L, E, ce, hT, X', hL, e1, e2, hq, hce, hcv, vx_cls hW₁ hcl, st⟩
end Runs
section Rows
variable {p : Program} {l : Launch} {e : Env} {R : Room} {s : State} {m : MethodId} {args : Array Value} {below : List Frame} {meth : Method} {c : Code} {H : Heap} {locs : List Loc} {cells slots : Nat} {Q : State → Prop}
variable {mc ms : Nat} {free : Addr → Prop} {A0 A1 : Nat → Prop} {H0 : Heap} {a : Array Value} {pc : Nat} {ls : Array Slot} {st0 rest : List Value}
theorem vx_keep {st₀ t T' : State} {L : List Loc} (h0 : st₀.heap = H) (e1 : T'.heap = t.heap) (hS : va_S A0 H0 H locs) (hA : ∀ q, q < H.size → A1 q → A0 q) (hf : ∀ q, free q → A0 q) (hL : ∀ q ∈ L, free q.base) (hF : va_F A1 st₀ t) :
    H.size ≤ T'.heap.size ∧ (∀ q : Nat, q < H.size → ¬ A1 q → T'.heap[q]? = H[q]?) ∧ va_S A0 H0 T'.heap (locs ++ L) := by
  obtain ⟨hz, hk⟩ := hF
  rw [h0] at hz hk
  exact ⟨by rw [e1]; exact hz, fun q h1 h2 => by rw [e1]; exact hk q h1 h2,
    ⟨Nat.le_trans hS.1 (by rw [e1]; exact hz), fun q h1 h2 => by rw [e1, hk q (Nat.lt_of_lt_of_le h1 hS.1) (fun z => h2 (hA q (Nat.lt_of_lt_of_le h1 hS.1) z))]; exact hS.2.1 q h1 h2, fun q hq => by
      rcases List.mem_append.mp hq with h | h
      · exact hS.2.2 q h
      · exact hf _ (hL q h)⟩⟩
theorem vx_calli {S SX : Type} {post : Int32 → S → Prop} {px : SX → Prop} {B : S → State → Prop} {BX : String → SX → State → Prop} {AX : Nat → Prop} (hr : vx_Run p l e R s m args below meth c H locs cells slots mc ms (F0 m pc ls st0) rest (va_Qi post B A1 a) (vx_X px BX AX) free) (hS : va_S A0 H0 H locs) (hA : ∀ q, q < H.size → A1 q → A0 q) (hf : ∀ q, free q → A0 q) (hAX : ∀ q, q < H.size → AX q → A0 q)
    (kx : ∀ (E : String) (ce : Cell) (q9 : Addr) (u : SX) (t : State) (H1 : Heap) (locs1 : List Loc), t.heap = H1 → s.vm.Alike t.vm → px u → BX E u t → H.size ≤ H1.size → (∀ q : Nat, q < H.size → ¬ AX q → H1[q]? = H[q]?) → va_S A0 H0 H1 locs1 → H1[q9]? = some ce → ce.vm = .none → s.vm.findClass E = some ce.cls → vx_W p l e R s m args below meth c H1 locs1 (cells + mc) (slots + ms) Q (F0 m pc ls rest) q9)
    (kk : ∀ (r : Int32) (u : S) (t : State) (H1 : Heap) (locs1 : List Loc), t.heap = H1 → s.vm.Alike t.vm → post r u → B u t → H.size ≤ H1.size → (∀ q : Nat, q < H.size → ¬ A1 q → H1[q]? = H[q]?) → va_S A0 H0 H1 locs1 → W p l e R s m args below meth c H1 locs1 (cells + mc) (slots + ms) Q (F0 m (pc + 3) ls (.int r :: rest))) : W p l e R s m args below meth c H locs cells slots Q (F0 m pc ls st0) := by
  intro T hT X
  rcases hr T hT X with ⟨v, st₀, t, T', L, h0, X', hL, e1, e2, ⟨⟨r, u, hv, hp, hb⟩, hF⟩, st⟩ | ⟨q, st₀, t, T', L, E, ce, h0, X', hL, e1, e2, ⟨u, hp, hb, hF⟩, hce, hcv, hcl, st⟩
  · cases hv
    obtain ⟨k1, k2, k3⟩ := vx_keep h0 e1 hS hA hf hL hF
    obtain ⟨t2, a1, b1⟩ := kk r u t T'.heap (locs ++ L) e1.symm (by rw [← e2]; exact X'.warmed.alike) hp hb k1 k2 k3 T' rfl X'
    exact ⟨t2, st t2 a1, b1⟩
  · obtain ⟨k1, k2, k3⟩ := vx_keep h0 e1 hS hAX hf hL hF
    obtain ⟨t2, a1, b1⟩ := kx E ce q u t T'.heap (locs ++ L) e1.symm (by rw [← e2]; exact X'.warmed.alike) hp hb k1 k2 k3 (by rw [e1]; exact hce) hcv hcl T' rfl X'
    exact ⟨t2, st.trans a1, b1⟩
theorem vx_calll {S SX : Type} {post : Int64 → S → Prop} {px : SX → Prop} {B : S → State → Prop} {BX : String → SX → State → Prop} {AX : Nat → Prop} (hr : vx_Run p l e R s m args below meth c H locs cells slots mc ms (F0 m pc ls st0) rest (va_Ql post B A1 a) (vx_X px BX AX) free) (hS : va_S A0 H0 H locs) (hA : ∀ q, q < H.size → A1 q → A0 q) (hf : ∀ q, free q → A0 q) (hAX : ∀ q, q < H.size → AX q → A0 q)
    (kx : ∀ (E : String) (ce : Cell) (q9 : Addr) (u : SX) (t : State) (H1 : Heap) (locs1 : List Loc), t.heap = H1 → s.vm.Alike t.vm → px u → BX E u t → H.size ≤ H1.size → (∀ q : Nat, q < H.size → ¬ AX q → H1[q]? = H[q]?) → va_S A0 H0 H1 locs1 → H1[q9]? = some ce → ce.vm = .none → s.vm.findClass E = some ce.cls → vx_W p l e R s m args below meth c H1 locs1 (cells + mc) (slots + ms) Q (F0 m pc ls rest) q9)
    (kk : ∀ (r : Int64) (u : S) (t : State) (H1 : Heap) (locs1 : List Loc), t.heap = H1 → s.vm.Alike t.vm → post r u → B u t → H.size ≤ H1.size → (∀ q : Nat, q < H.size → ¬ A1 q → H1[q]? = H[q]?) → va_S A0 H0 H1 locs1 → W p l e R s m args below meth c H1 locs1 (cells + mc) (slots + ms) Q (F0 m (pc + 3) ls (.long r :: rest))) : W p l e R s m args below meth c H locs cells slots Q (F0 m pc ls st0) := by
  intro T hT X
  rcases hr T hT X with ⟨v, st₀, t, T', L, h0, X', hL, e1, e2, ⟨⟨r, u, hv, hp, hb⟩, hF⟩, st⟩ | ⟨q, st₀, t, T', L, E, ce, h0, X', hL, e1, e2, ⟨u, hp, hb, hF⟩, hce, hcv, hcl, st⟩
  · cases hv
    obtain ⟨k1, k2, k3⟩ := vx_keep h0 e1 hS hA hf hL hF
    obtain ⟨t2, a1, b1⟩ := kk r u t T'.heap (locs ++ L) e1.symm (by rw [← e2]; exact X'.warmed.alike) hp hb k1 k2 k3 T' rfl X'
    exact ⟨t2, st t2 a1, b1⟩
  · obtain ⟨k1, k2, k3⟩ := vx_keep h0 e1 hS hAX hf hL hF
    obtain ⟨t2, a1, b1⟩ := kx E ce q u t T'.heap (locs ++ L) e1.symm (by rw [← e2]; exact X'.warmed.alike) hp hb k1 k2 k3 (by rw [e1]; exact hce) hcv hcl T' rfl X'
    exact ⟨t2, st.trans a1, b1⟩
theorem vx_callf {S SX : Type} {post : UInt32 → S → Prop} {px : SX → Prop} {B : S → State → Prop} {BX : String → SX → State → Prop} {AX : Nat → Prop} (hr : vx_Run p l e R s m args below meth c H locs cells slots mc ms (F0 m pc ls st0) rest (va_Qf post B A1 a) (vx_X px BX AX) free) (hS : va_S A0 H0 H locs) (hA : ∀ q, q < H.size → A1 q → A0 q) (hf : ∀ q, free q → A0 q) (hAX : ∀ q, q < H.size → AX q → A0 q)
    (kx : ∀ (E : String) (ce : Cell) (q9 : Addr) (u : SX) (t : State) (H1 : Heap) (locs1 : List Loc), t.heap = H1 → s.vm.Alike t.vm → px u → BX E u t → H.size ≤ H1.size → (∀ q : Nat, q < H.size → ¬ AX q → H1[q]? = H[q]?) → va_S A0 H0 H1 locs1 → H1[q9]? = some ce → ce.vm = .none → s.vm.findClass E = some ce.cls → vx_W p l e R s m args below meth c H1 locs1 (cells + mc) (slots + ms) Q (F0 m pc ls rest) q9)
    (kk : ∀ (r : UInt32) (u : S) (t : State) (H1 : Heap) (locs1 : List Loc), t.heap = H1 → s.vm.Alike t.vm → post r u → B u t → H.size ≤ H1.size → (∀ q : Nat, q < H.size → ¬ A1 q → H1[q]? = H[q]?) → va_S A0 H0 H1 locs1 → W p l e R s m args below meth c H1 locs1 (cells + mc) (slots + ms) Q (F0 m (pc + 3) ls (.float r :: rest))) : W p l e R s m args below meth c H locs cells slots Q (F0 m pc ls st0) := by
  intro T hT X
  rcases hr T hT X with ⟨v, st₀, t, T', L, h0, X', hL, e1, e2, ⟨⟨r, u, hv, hp, hb⟩, hF⟩, st⟩ | ⟨q, st₀, t, T', L, E, ce, h0, X', hL, e1, e2, ⟨u, hp, hb, hF⟩, hce, hcv, hcl, st⟩
  · cases hv
    obtain ⟨k1, k2, k3⟩ := vx_keep h0 e1 hS hA hf hL hF
    obtain ⟨t2, a1, b1⟩ := kk r u t T'.heap (locs ++ L) e1.symm (by rw [← e2]; exact X'.warmed.alike) hp hb k1 k2 k3 T' rfl X'
    exact ⟨t2, st t2 a1, b1⟩
  · obtain ⟨k1, k2, k3⟩ := vx_keep h0 e1 hS hAX hf hL hF
    obtain ⟨t2, a1, b1⟩ := kx E ce q u t T'.heap (locs ++ L) e1.symm (by rw [← e2]; exact X'.warmed.alike) hp hb k1 k2 k3 (by rw [e1]; exact hce) hcv hcl T' rfl X'
    exact ⟨t2, st.trans a1, b1⟩
theorem vx_calld {S SX : Type} {post : UInt64 → S → Prop} {px : SX → Prop} {B : S → State → Prop} {BX : String → SX → State → Prop} {AX : Nat → Prop} (hr : vx_Run p l e R s m args below meth c H locs cells slots mc ms (F0 m pc ls st0) rest (va_Qd post B A1 a) (vx_X px BX AX) free) (hS : va_S A0 H0 H locs) (hA : ∀ q, q < H.size → A1 q → A0 q) (hf : ∀ q, free q → A0 q) (hAX : ∀ q, q < H.size → AX q → A0 q)
    (kx : ∀ (E : String) (ce : Cell) (q9 : Addr) (u : SX) (t : State) (H1 : Heap) (locs1 : List Loc), t.heap = H1 → s.vm.Alike t.vm → px u → BX E u t → H.size ≤ H1.size → (∀ q : Nat, q < H.size → ¬ AX q → H1[q]? = H[q]?) → va_S A0 H0 H1 locs1 → H1[q9]? = some ce → ce.vm = .none → s.vm.findClass E = some ce.cls → vx_W p l e R s m args below meth c H1 locs1 (cells + mc) (slots + ms) Q (F0 m pc ls rest) q9)
    (kk : ∀ (r : UInt64) (u : S) (t : State) (H1 : Heap) (locs1 : List Loc), t.heap = H1 → s.vm.Alike t.vm → post r u → B u t → H.size ≤ H1.size → (∀ q : Nat, q < H.size → ¬ A1 q → H1[q]? = H[q]?) → va_S A0 H0 H1 locs1 → W p l e R s m args below meth c H1 locs1 (cells + mc) (slots + ms) Q (F0 m (pc + 3) ls (.double r :: rest))) : W p l e R s m args below meth c H locs cells slots Q (F0 m pc ls st0) := by
  intro T hT X
  rcases hr T hT X with ⟨v, st₀, t, T', L, h0, X', hL, e1, e2, ⟨⟨r, u, hv, hp, hb⟩, hF⟩, st⟩ | ⟨q, st₀, t, T', L, E, ce, h0, X', hL, e1, e2, ⟨u, hp, hb, hF⟩, hce, hcv, hcl, st⟩
  · cases hv
    obtain ⟨k1, k2, k3⟩ := vx_keep h0 e1 hS hA hf hL hF
    obtain ⟨t2, a1, b1⟩ := kk r u t T'.heap (locs ++ L) e1.symm (by rw [← e2]; exact X'.warmed.alike) hp hb k1 k2 k3 T' rfl X'
    exact ⟨t2, st t2 a1, b1⟩
  · obtain ⟨k1, k2, k3⟩ := vx_keep h0 e1 hS hAX hf hL hF
    obtain ⟨t2, a1, b1⟩ := kx E ce q u t T'.heap (locs ++ L) e1.symm (by rw [← e2]; exact X'.warmed.alike) hp hb k1 k2 k3 (by rw [e1]; exact hce) hcv hcl T' rfl X'
    exact ⟨t2, st.trans a1, b1⟩
theorem vx_callv {S SX : Type} {post : S → Prop} {px : SX → Prop} {B : S → State → Prop} {BX : String → SX → State → Prop} {AX : Nat → Prop} (hr : vx_Run p l e R s m args below meth c H locs cells slots mc ms (F0 m pc ls st0) rest (va_Qv post B A1 a) (vx_X px BX AX) free) (hS : va_S A0 H0 H locs) (hA : ∀ q, q < H.size → A1 q → A0 q) (hf : ∀ q, free q → A0 q) (hAX : ∀ q, q < H.size → AX q → A0 q)
    (kx : ∀ (E : String) (ce : Cell) (q9 : Addr) (u : SX) (t : State) (H1 : Heap) (locs1 : List Loc), t.heap = H1 → s.vm.Alike t.vm → px u → BX E u t → H.size ≤ H1.size → (∀ q : Nat, q < H.size → ¬ AX q → H1[q]? = H[q]?) → va_S A0 H0 H1 locs1 → H1[q9]? = some ce → ce.vm = .none → s.vm.findClass E = some ce.cls → vx_W p l e R s m args below meth c H1 locs1 (cells + mc) (slots + ms) Q (F0 m pc ls rest) q9)
    (kk : ∀ (u : S) (t : State) (H1 : Heap) (locs1 : List Loc), t.heap = H1 → s.vm.Alike t.vm → post u → B u t → H.size ≤ H1.size → (∀ q : Nat, q < H.size → ¬ A1 q → H1[q]? = H[q]?) → va_S A0 H0 H1 locs1 → W p l e R s m args below meth c H1 locs1 (cells + mc) (slots + ms) Q (F0 m (pc + 3) ls (rest))) : W p l e R s m args below meth c H locs cells slots Q (F0 m pc ls st0) := by
  intro T hT X
  rcases hr T hT X with ⟨v, st₀, t, T', L, h0, X', hL, e1, e2, ⟨⟨u, hv, hp, hb⟩, hF⟩, st⟩ | ⟨q, st₀, t, T', L, E, ce, h0, X', hL, e1, e2, ⟨u, hp, hb, hF⟩, hce, hcv, hcl, st⟩
  · cases hv
    obtain ⟨k1, k2, k3⟩ := vx_keep h0 e1 hS hA hf hL hF
    obtain ⟨t2, a1, b1⟩ := kk u t T'.heap (locs ++ L) e1.symm (by rw [← e2]; exact X'.warmed.alike) hp hb k1 k2 k3 T' rfl X'
    exact ⟨t2, st t2 a1, b1⟩
  · obtain ⟨k1, k2, k3⟩ := vx_keep h0 e1 hS hAX hf hL hF
    obtain ⟨t2, a1, b1⟩ := kx E ce q u t T'.heap (locs ++ L) e1.symm (by rw [← e2]; exact X'.warmed.alike) hp hb k1 k2 k3 (by rw [e1]; exact hce) hcv hcl T' rfl X'
    exact ⟨t2, st.trans a1, b1⟩
/-- caught by the row x of this method's table; the rows ahead don't take it -/
theorem vx_catch {own name : String} {E : String} {ce : Cell} {q : Addr} (hown : s.vm.findClass own = some m.cls) (pre : List ExceptionTableEntry) (x : ExceptionTableEntry) (suf : List ExceptionTableEntry) (hsplit : c.exceptionTable.toList = pre ++ x :: suf)
    (hpass : ∀ z ∈ pre, covers z pc = false ∨ (z.catchType ≠ 0 ∧ ∃ nm : String, (Cond.classLink own z.catchType nm).before args s = true ∧ va_Nc E nm s)) (hx : covers x pc = true) (h0 : x.catchType ≠ 0)
    (hlink : (Cond.classLink own x.catchType name).before args s = true) (hcast : (Cond.castable E name).before args s = true) (hcell : H[q]? = some ce) (hv : ce.vm = .none) (hcl : s.vm.findClass E = some ce.cls)
    (kk : W p l e R s m args below meth c H locs cells slots Q (F0 m x.handlerPc ls [.ref q])) : vx_W p l e R s m args below meth c H locs cells slots Q (F0 m pc ls rest) q := by
  intro T hT X
  have hpl : e.platform.magicAccessors = ({} : Platform).magicAccessors := by rw [X.admits.platform]
  obtain ⟨c3, c4, hc3, hc4, hasg⟩ := Cond.castable_spec hcast
  cases Option.some.inj (hc3.symm.trans hcl)
  obtain ⟨c5, hc5, hcl5⟩ := Cond.classLink_spec hown hlink e.platform hpl
  cases Option.some.inj (hc4.symm.trans hc5)
  obtain ⟨vm', X', st⟩ := X.thenCaughtThrough q (g := F0 m pc ls rest) rfl (Steps.refl _) (by rw [hT]; exact hcell) (by rw [hv]; rfl) (by obtain ⟨k9, h9, -⟩ := Vm.findClass_spec hcl; exact ⟨k9, h9⟩) pre x suf hsplit
    (fun z hz => by
      rcases hpass z hz with h | ⟨hz0, nm, hl1, hn1⟩
      · exact Or.inl h
      · obtain ⟨c6, hc6, hcl6⟩ := Cond.classLink_spec hown hl1 e.platform hpl
        obtain ⟨a8, b8, h1, h2, h3⟩ := hn1
        cases Option.some.inj (h1.symm.trans hcl)
        cases Option.some.inj (h2.symm.trans hc6)
        exact Or.inr ⟨hz0, _, hcl6, h3⟩) hx (Or.inr ⟨h0, c4, hcl5, hasg⟩)
  obtain ⟨t, a1, b1⟩ := kk (T.setVm vm') hT X'
  exact ⟨t, st.trans a1, b1⟩
end Rows
section Ends
variable {p : Program} {l : Launch} {e : Env} {R : Room} {s : State} {m : MethodId} {args : Array Value} {below : List Frame} {meth : Method} {c : Code} {H : Heap} {locs : List Loc} {cells slots : Nat} {Q : State → Prop}
variable {mc ms : Nat} {free : Addr → Prop} {A0 A1 : Nat → Prop} {H0 : Heap} {a : Array Value} {ls : Array Slot} {st0 rest : List Value}
variable {Qc : Array Value → State → Outcome → State → Prop} {XC : String → State → State → Prop}
/-- what a body that may throw owes at its end -/
def vx_MQ (below : List Frame) (Qc : Array Value → State → Outcome → State → Prop) (XC : String → State → State → Prop) (a : Array Value) (s : State) (mc ms : Nat) (free : Addr → Prop) : State → Prop := fun t =>
  ∃ o, t.status = .running ∧ Ended t below o ∧ vx_Q Qc XC mc ms free a s o t
theorem vx_ret {g : JFrame} {mc ms : Nat} (k : W p l e R s m args below meth c H locs cells slots (MQ below Qc args s mc ms free) g) : W p l e R s m args below meth c H locs cells slots (vx_MQ below Qc XC args s mc ms free) g := by
  intro T hT X
  obtain ⟨t, a1, o, b1, b2, b3, b4⟩ := k T hT X
  exact ⟨t, a1, o, b1, b2, Or.inl ⟨b3, b4⟩⟩
/-- not caught here: it goes on to the caller -/
theorem vx_widen {g : JFrame} {q : Addr} {k n : Nat} (h1 : cells ≤ k) (h2 : slots ≤ n) (kk : vx_W p l e R s m args below meth c H locs k n Q g q) : vx_W p l e R s m args below meth c H locs cells slots Q g q := fun T hT X => kk T hT (stand_widen X h1 h2)
theorem vx_out {pc : Nat} {E : String} {ce : Cell} {q : Addr} {mc ms : Nat} (hout : ∀ x ∈ c.exceptionTable.toList, covers x pc = false) (hlocks : meth.locks = false) (hcell : H[q]? = some ce) (hv : ce.vm = .none) (hcl : s.vm.findClass E = some ce.cls)
    (hx : ∀ t : State, t.heap = H → s.vm.Alike t.vm → XC E s t) (hf : ∀ z ∈ locs, free z.base) (hc : cells ≤ mc) (hs : slots ≤ ms) :
    vx_W p l e R s m args below meth c H locs cells slots (vx_MQ below Qc XC args s mc ms free) (F0 m pc ls rest) q := by
  intro T hT X
  obtain ⟨st1, hrun, hend, hW, hsm⟩ := X.leaveThrown q (g := F0 m pc ls rest) rfl rfl rfl hout hlocks
  have hcell9 : (T.setFrames (.throwing q :: below)).heap[q]? = some ce := by
    show T.heap[q]? = some ce
    rw [hT]; exact hcell
  exact ⟨_, st1, .threw q, hrun, hend, Or.inr ⟨q, rfl, E, ce, locs, hx _ hT hW.alike, hcell9, hv, hcl, hW, hsm.mono hc hs, hf⟩⟩
theorem vx_frame {U : State} {k n : Nat} (h : s.sameButNew ({ U with vm := s.vm } : State) locs k n) : s.heap.size ≤ U.heap.size ∧ ∀ q : Nat, q < s.heap.size → (∀ z ∈ locs, z.base ≠ q) → U.heap[q]? = s.heap[q]? := by
  obtain ⟨-, h2, -, -, -, h6⟩ := h
  refine ⟨h2, fun q hq hz => ?_⟩
  obtain ⟨c9, e1, e2, e3, e4⟩ := h6 q _ (Array.getElem?_eq_getElem hq)
  have hs : c9.slots = (s.heap[q]).slots := Array.ext_getElem? fun i => e4 i fun hm => hz _ hm rfl
  have h9 : c9 = s.heap[q] := by
    rw [hs] at e2
    exact e2
  have e5 : U.heap[q]? = some c9 := e1
  rw [e5, h9, Array.getElem?_eq_getElem hq]
/-- the words of a throw but the four that speak of the heap -/
def vx_no (w : Cond) : Bool := decide (w ≠ .isRef (.static Bundle.tN "UNASSIGNED_STACK" Bundle.steD)) && decide (w ≠ .isRef (.static Bundle.tN "SUPPRESSED_SENTINEL" Bundle.listD)) && decide (w ≠ .laysStatic Bundle.tN "UNASSIGNED_STACK" Bundle.steD) && decide (w ≠ .laysStatic Bundle.tN "SUPPRESSED_SENTINEL" Bundle.listD)
def vx_at0 (own : String) (ic : Nat) (X : String) (names : List String) : List Cond := (Bundle.ownAtoms0 own ic X names).filter vx_no
def vx_atS (own : String) (ic : Nat) (X : String) (names : List String) : List Cond := (Bundle.ownAtoms own ic X names).filter vx_no
/-- a word that the tables alone decide, or a good one -/
def vx_ot (w : Cond) : Bool := w.onTables || goodWord w
theorem vx_ot_at {args a' : Array Value} {s U : State} {w : Cond} (hW : s.WarmedH U.vm) (hvm : s.vm = U.vm) (hg : vx_ot w = true) (h : w.before args s = true) : w.before a' U = true := by
  simp only [vx_ot, Bool.or_eq_true] at hg
  rcases hg with hg | hg
  · exact va_tabs hg hvm h
  · exact word_at hW (good_of_word hg) h
/-- a list's words: the good ones out of the method's own list, the others by premises of their own -/
theorem vx_hat {args : Array Value} {s : State} {L B : List Cond} (h1 : ∀ w ∈ L.filter goodWord, w.before args s = true) (h2 : ∀ w ∈ L.filter (fun w => !goodWord w), w ∈ B) (h3 : ∀ w ∈ B, w.before args s = true) : ∀ w ∈ L, w.before args s = true := by
  intro w hw
  by_cases g : goodWord w = true
  · exact h1 w (List.mem_filter.mpr ⟨hw, g⟩)
  · refine h3 w (h2 w (List.mem_filter.mpr ⟨hw, ?_⟩))
    show (!goodWord w) = true
    cases hgw : goodWord w
    · rfl
    · exact absurd hgw g
theorem vx_c {args : Array Value} {s : State} {w : Cond} {B : List Cond} (h : w.before args s = true) (t : ∀ w ∈ B, w.before args s = true) : ∀ w' ∈ w :: B, w'.before args s = true := fun w' h' => (List.mem_cons.mp h').elim (fun e => by rw [e]; exact h) (t w')
theorem vx_n {args : Array Value} {s : State} : ∀ w ∈ ([] : List Cond), w.before args s = true := fun _ h => nomatch h
theorem vx_own {args : Array Value} {s : State} {L : List Cond} (h1 : ∀ w ∈ L.filter vx_no, w.before args s = true)
    (hU : (Cond.isRef (.static Bundle.tN "UNASSIGNED_STACK" Bundle.steD)).before args s = true) (hN : (Cond.isRef (.static Bundle.tN "SUPPRESSED_SENTINEL" Bundle.listD)).before args s = true)
    (lU : (Cond.laysStatic Bundle.tN "UNASSIGNED_STACK" Bundle.steD).before args s = true) (lN : (Cond.laysStatic Bundle.tN "SUPPRESSED_SENTINEL" Bundle.listD).before args s = true) : ∀ w ∈ L, w.before args s = true := by
  intro w hw
  by_cases e1 : w = .isRef (.static Bundle.tN "UNASSIGNED_STACK" Bundle.steD)
  · rw [e1]; exact hU
  · by_cases e2 : w = .isRef (.static Bundle.tN "SUPPRESSED_SENTINEL" Bundle.listD)
    · rw [e2]; exact hN
    · by_cases e3 : w = .laysStatic Bundle.tN "UNASSIGNED_STACK" Bundle.steD
      · rw [e3]; exact lU
      · by_cases e4 : w = .laysStatic Bundle.tN "SUPPRESSED_SENTINEL" Bundle.listD
        · rw [e4]; exact lN
        · exact h1 w (List.mem_filter.mpr ⟨hw, by unfold vx_no; rw [decide_eq_true e1, decide_eq_true e2, decide_eq_true e3, decide_eq_true e4]; rfl⟩)
/-- where a static field lies, its class's statics cell in H -/
def vx_L (C n d : String) (A : Nat → Prop) (U : State) (H : Heap) : Prop := ∃ (c : ClassId) (k : Class) (i : Nat) (f : Field) (a : Nat) (cell : Cell), U.vm.findClass C = some c ∧ U.fieldFound? C n d = some (c, k, i, f) ∧ f.isStatic = true ∧ k.statics = some a ∧ H[a]? = some cell ∧ cell.vm.isStatics = true ∧ cell.cls = c ∧ f.slot < cell.slots.size ∧ k.staticTypes[f.slot]? = some f.type ∧ ¬ A a
theorem vx_L.moved {C n d : String} {A : Nat → Prop} {u U : State} {H : Heap} (hvm : u.vm.Alike U.vm) (h : vx_L C n d A u H) : vx_L C n d A U H := by
  obtain ⟨c, k, i, f, a, cell, h1, h2, h3, h4, h5, h6, h7, h8, h9, h10⟩ := h
  obtain ⟨k', hi', he⟩ := State.fieldFound?_setVm hvm h2
  exact ⟨c, k', i, f, a, cell, by rw [hvm.findClass]; exact h1, hi', h3, by rw [he]; exact h4, h5, h6, h7, h8, by rw [he]; exact h9, h10⟩
theorem vx_L.kept {C n d : String} {A : Nat → Prop} {U : State} {H H1 : Heap} (h : vx_L C n d A U H) (hq : ∀ a : Nat, a < H.size → ¬ A a → H1[a]? = H[a]?) : vx_L C n d A U H1 := by
  obtain ⟨c, k, i, f, a, cell, h1, h2, h3, h4, h5, h6, h7, h8, h9, h10⟩ := h
  exact ⟨c, k, i, f, a, cell, h1, h2, h3, h4, by rw [hq a (Array.getElem?_eq_some_iff.mp h5).1 h10]; exact h5, h6, h7, h8, h9, h10⟩
theorem vx_L.narrow {C n d : String} {A B : Nat → Prop} {U : State} {H : Heap} (h : vx_L C n d A U H) (hAB : ∀ q, B q → A q) : vx_L C n d B U H := by
  obtain ⟨c, k, i, f, a, cell, h1, h2, h3, h4, h5, h6, h7, h8, h9, h10⟩ := h
  exact ⟨c, k, i, f, a, cell, h1, h2, h3, h4, h5, h6, h7, h8, h9, fun z => h10 (hAB _ z)⟩
theorem vx_L.word {C n d : String} {A : Nat → Prop} {s : State} {args : Array Value} (h : vx_L C n d A s s.heap) : (Cond.laysStatic C n d).before args s = true := by
  obtain ⟨c, k, i, f, a, cell, h1, h2, h3, h4, h5, h6, h7, h8, h9, -⟩ := h
  show (Cond.laysStatic C n d).holds args s none s [] = true
  exact Cond.laysStatic_of h1 h2 h3 h4 h5 h6 h7 h8 h9
/-- .. and what it holds: null or some reference -/
def vx_Zq (C n d : String) (A : Nat → Prop) (U : State) (H : Heap) : Prop := va_Zq C n d A U H ∧ vx_L C n d A U H
theorem vx_Zq.moved {C n d : String} {A : Nat → Prop} {u U : State} {H : Heap} (hvm : u.vm.Alike U.vm) (h : vx_Zq C n d A u H) : vx_Zq C n d A U H := ⟨va_Zq.moved hvm h.1, vx_L.moved hvm h.2⟩
theorem vx_Zq.kept {C n d : String} {A : Nat → Prop} {U : State} {H H1 : Heap} (h : vx_Zq C n d A U H) (hq : ∀ a : Nat, a < H.size → ¬ A a → H1[a]? = H[a]?) : vx_Zq C n d A U H1 := ⟨va_Zq.kept h.1 hq, vx_L.kept h.2 hq⟩
theorem vx_Zq.narrow {C n d : String} {A B : Nat → Prop} {U : State} {H : Heap} (h : vx_Zq C n d A U H) (hAB : ∀ q, B q → A q) : vx_Zq C n d B U H := ⟨va_Zq.narrow h.1 hAB, vx_L.narrow h.2 hAB⟩
theorem vx_Zqof {args : Array Value} {s : State} {C n d : String} {A : Nat → Prop} (hl : (Cond.laysStatic C n d).before args s = true) (hini : (Cond.initialized C).before args s = true) (h : (Cond.isRef (.static C n d)).before args s = true) (hA : ∀ a : Nat, a < s.heap.size → ¬ A a) : vx_Zq C n d A s s.heap := by
  refine ⟨va_Zqof hl hini h hA, ?_⟩
  obtain ⟨c, k, i, f, a, cell, h1, h2, h3, h4, h5, h6, h7, h8, h9⟩ := Cond.laysStatic_spec hl
  exact ⟨c, k, i, f, a, cell, h1, h2, h3, h4, h5, h6, h7, h8, h9, hA a (Array.getElem?_eq_some_iff.mp h5).1⟩
theorem vx_isRef {C n d : String} {v : Value} {A : Nat → Prop} {s : State} {args : Array Value} (h : va_Z C n d v A s s.heap) (hv : v.isRef = true) : (Cond.isRef (.static C n d)).before args s = true := by
  obtain ⟨cf, kf, fi, f, a, cell, h1, h2, h3, h4, h5, h6, h7, -⟩ := h
  have he : (Term.static C n d).eval args s none [] s = some v := by
    simp [Term.eval, State.fieldNamed?, h1, h2, h4, h5, h6, h7]
  simp only [Cond.before, Cond.holds, Cond.value, he]
  cases v <;> simp_all [Value.isRef]
theorem vx_isRefq {C n d : String} {A : Nat → Prop} {s : State} {args : Array Value} (h : va_Zq C n d A s s.heap) : (Cond.isRef (.static C n d)).before args s = true := by
  rcases h with h | ⟨t, h⟩
  · exact vx_isRef h rfl
  · exact vx_isRef h rfl
/-- the same frame, seen from here: as if the method were called anew in this heap -/
theorem vx_rebase {T : State} (X : Stand p l e R s m args below meth c T locs cells slots) {R' : Room} (hf : R'.frames ≤ R.frames) (hl : R'.locals ≤ R.locals) (hc : cells + R'.cells ≤ R.cells) (hs : slots + R'.slots ≤ R.slots) :
    Stand p l e R' ((T.setVm s.vm).setFrames (.invoking m args :: below)) m args below meth c T [] 0 0 := by
  have htop : (T.setVm s.vm).topJava?.isSome := X.here.top
  have hF : ((T.setVm s.vm).setFrames (.invoking m args :: below)).frames = .invoking m args :: below := State.frames_setFrames _ (State.cur_lt_of_top htop)
  obtain ⟨g₀, hg0⟩ := Option.isSome_iff_exists.mp htop
  obtain ⟨r, hr⟩ := State.topJava?_eq_some.mp hg0
  have hl9 : e.platform.stackLimits (T.setVm s.vm).me = e.platform.stackLimits s.me := X.limits
  have hb9 : (T.setVm s.vm).me.stackBytes = s.me.stackBytes := X.bytes
  refine ⟨X.admits, X.cas, X.clock, hF, ?_, X.hears, X.method, X.code, X.here, X.tail, X.warmed, ?_, ?_, ?_⟩
  · have h := X.room
    have hU : ((T.setVm s.vm).setFrames (.invoking m args :: below)).localsInUse = s.localsInUse := by
      rw [State.localsInUse_invoking hF (meth := meth) (c := c) X.method X.code, State.localsInUse_invoking X.frames X.method X.code]
    simp only [State.hasRoom, Bool.and_eq_true, decide_eq_true_eq] at h ⊢
    obtain ⟨⟨⟨⟨h1, h2, h3, h4, h5, h6⟩, h7⟩, h8⟩, h9⟩ := h
    rw [X.frames, List.length_cons] at h2 h3
    have q1 := X.heapSize
    have q2 := X.used
    simp only [hF, hU, List.length_cons, State.stackLimits_setFrames, State.stackBytes_setFrames, hl9, hb9]
    refine ⟨⟨⟨⟨by omega, by omega, by omega, by omega, by omega, h6⟩, ?_⟩, ?_⟩, X.book⟩
    · show T.heap.size + R'.cells ≤ e.platform.maxCells
      omega
    · show T.slotsUsed + R'.slots ≤ e.platform.maxSlots
      omega
  · rw [State.stackLimits_setFrames]; rfl
  · rw [State.stackBytes_setFrames]; rfl
  · refine ⟨?_, Nat.le_refl _, Nat.le_refl _, ?_, ?_, fun a c9 h9 => ⟨c9, h9, rfl, rfl, fun _ _ => rfl⟩⟩
    · obtain ⟨t, ht, -⟩ := State.frames_cons hr
      show T.setVm s.vm = { ((T.setVm s.vm).setFrames (.invoking m args :: below)).setFrames (T.setVm s.vm).frames with heap := T.heap, slotsUsed := T.slotsUsed }
      rw [State.setFrames_setFrames, State.setFrames_self ht]
      rfl
    · show T.slotsUsed = T.slotsUsed + ((T.heap.toList.drop T.heap.size).map (·.slots.size)).sum
      rw [List.drop_eq_nil_of_le (Nat.le_of_eq Array.length_toList)]
      rfl
    · show ((T.heap.toList.drop T.heap.size).map (·.slots.size)).sum ≤ 0
      rw [List.drop_eq_nil_of_le (Nat.le_of_eq Array.length_toList)]
      exact Nat.le_refl _
/-- 'throw new E()': new; dup; invokespecial; athrow -/
theorem vx_throw0 {cc : ByteArray} {pc : Nat} (hexec : p.tables.exec = Jvm.exec) (hb : c.code = cc) (hl : l.stackTraces = false) {own cls : String} {names : List String} {ik ic mc ms : Nat} {A : Nat → Prop}
    (hown : s.vm.findClass own = some m.cls) (hcls : Bundle.fit cls = true) (hnames : ∀ n ∈ names, Bundle.fit n = true)
    (hk : (Cond.classLink own ik cls).before args s = true) (hini : (Cond.initialized cls).before args s = true) (hat : ∀ w ∈ vx_at0 own ic cls names, w.before args s = true)
    (hgood : ∀ w ∈ Cond.classLink own ik cls :: Cond.initialized cls :: vx_at0 own ic cls names, vx_ot w = true)
    (hU : vx_Zq Bundle.tN "UNASSIGNED_STACK" Bundle.steD A s s.heap) (hN : vx_Zq Bundle.tN "SUPPRESSED_SENTINEL" Bundle.listD A s s.heap) (hS : va_S A s.heap H locs) (hsize : ls.size = c.maxLocals)
    (d0 : decode cc pc = .ok (.new ik, 3)) (d3 : decode cc (pc + 3) = .ok (.dup, 1)) (d4 : decode cc (pc + 4) = .ok (.invokespecial ic, 3)) (d7 : decode cc (pc + 7) = .ok (.athrow, 1))
    (hout : ∀ x ∈ c.exceptionTable.toList, covers x (pc + 7) = false)
    (hRframes : names.length + 3 < R.frames) (hRlocals : (rest.map fun v => v.category).sum + (13 * (names.length + 1) + 42) ≤ R.locals) (hRcells : cells + 1 ≤ R.cells) (hRslots : slots + 6 ≤ R.slots) (hlocks : meth.locks = false)
    (hx : ∀ t : State, s.vm.Alike t.vm → H.size ≤ t.heap.size → (∀ q : Nat, q < H.size → t.heap[q]? = H[q]?) → XC cls s t)
    (hf : ∀ z ∈ locs, free z.base) (hc : cells + 1 ≤ mc) (hs : slots + 6 ≤ ms) :
    W p l e R s m args below meth c H locs cells slots (vx_MQ below Qc XC args s mc ms free) (F0 m pc ls rest) := by
  intro T hT X
  have htr : e.platform.stackTraces = false := (show e.platform.stackTraces = l.stackTraces by rw [X.admits.platform]).trans hl
  have Y := vx_rebase X (R' := { frames := R.frames, locals := R.locals, cells := 1, slots := 6 }) (Nat.le_refl _) (Nat.le_refl _) hRcells hRslots
  obtain ⟨s', hA⟩ : ∃ z, z = (T.setVm s.vm).setFrames (.invoking m args :: below) := ⟨_, rfl⟩
  rw [← hA] at Y
  have hvm : s'.vm = s.vm := by rw [hA]; rfl
  have hhp : s'.heap = H := by rw [hA]; exact hT
  have hW0 : s.WarmedH s'.vm := by rw [hvm]; exact State.WarmedH.refl s
  have hat' : ∀ w ∈ vx_at0 own ic cls names, w.before args s' = true := fun w hw => vx_ot_at hW0 hvm.symm (hgood w (List.mem_cons_of_mem _ (List.mem_cons_of_mem _ hw))) (hat w hw)
  have hk' : (Cond.classLink own ik cls).before args s' = true := vx_ot_at hW0 hvm.symm (hgood _ List.mem_cons_self) hk
  have hini' : (Cond.initialized cls).before args s' = true := vx_ot_at hW0 hvm.symm (hgood _ (List.mem_cons_of_mem _ List.mem_cons_self)) hini
  have hU' : vx_Zq Bundle.tN "UNASSIGNED_STACK" Bundle.steD A s' s'.heap := by rw [hhp]; exact vx_Zq.moved hW0.alike (hU.kept hS.2.1)
  have hN' : vx_Zq Bundle.tN "SUPPRESSED_SENTINEL" Bundle.listD A s' s'.heap := by rw [hhp]; exact vx_Zq.moved hW0.alike (hN.kept hS.2.1)
  have h : ∀ w ∈ Bundle.ownAtoms0 own ic cls names, w.before args s' = true := vx_own hat' (vx_isRefq hU'.1) (vx_isRefq hN'.1) hU'.2.word hN'.2.word
  have hown' : s'.vm.findClass own = some m.cls := by rw [hvm]; exact hown
  have hins : (Cond.instantiable cls 6).before args s' = true := h _ (by simp [Bundle.ownAtoms0])
  obtain ⟨vm₁, cX, kX, hfX, hkX, -, -, X₁, st1⟩ := Y.newCold hexec (own := own) (C := cls) (index := ik) (n := 6) hown' hk' hins hini'
    (g := F0 m pc ls rest) rfl (by rw [hb]; exact d0) (Nat.le_refl _) (Nat.le_refl _)
  generalize hT1 : (T.setVm vm₁).pushCell { cls := cX, slots := kX.instanceTypes.map defaultValue, vm := .none } = T1 at X₁ st1
  have hcat : (Value.ref T.heap.size).category = 1 := rfl
  have hcellA : T1.heap[T.heap.size]? = some (freshCell cX kX) := by rw [← hT1]; exact State.heap_pushCell_size _ _
  have d3' : decode c.code (pc + 3) = .ok (.dup, 1) := by rw [hb]; exact d3
  obtain ⟨U, hsteps, hrun, hend, hW, hsame, ce, hce, hO⟩ := X₁.ctorThrow0 hexec htr (own := own) (cls := cls) (names := names) (ic := ic) hown' hcls hnames h (fun x hx => nomatch hx) hfX hkX hcellA (by rw [hhp, hT]; exact Nat.le_refl _)
    (g := { method := m, pc := pc + 4, locals := ls, stack := .ref T.heap.size :: .ref T.heap.size :: rest, locked := none }) rfl hsize rfl rfl (rest := rest) rfl
    (by rw [hb]; exact d4) (by rw [hb]; exact d7) hout hRframes (by simp only [List.map_cons, List.sum_cons, hcat]; omega) hlocks
  obtain ⟨f1, f2⟩ := vx_frame hsame
  rw [hhp] at f1 f2
  have hWs : s.WarmedH U.vm := State.WarmedH.trans hW0 hW
  have hcl : s.vm.findClass cls = some ce.cls := by
    have h9 := hO.cls
    rw [hvm] at h9
    exact h9
  have hall : s.sameButNew ({ U with vm := s.vm } : State) locs mc ms := by
    subst hA
    obtain ⟨e1, e2⟩ := hsame
    rw [State.setFrames_setFrames] at e1
    have h2 : (T.setVm s.vm).sameButNew ({ U with vm := s.vm } : State) [] (0 + 1) (0 + 6) := ⟨e1, e2⟩
    have h3 := X.same.trans h2
    rw [List.append_nil] at h3
    exact h3.mono hc hs
  refine ⟨U, ?_, .threw T.heap.size, hrun, hend, Or.inr ⟨T.heap.size, rfl, cls, ce, locs, hx U hWs.alike f1 (fun q hq => f2 q hq (fun z hz => nomatch hz)), hce, hO.vm, hcl, hWs, hall, hf⟩⟩
  refine st1 _ ?_
  show Steps p.tables e below (T1.setTop { method := m, pc := pc + 3, locals := ls, stack := .ref T.heap.size :: rest, locked := none }) _
  jvm_step X₁.here [X₁.here.top, hexec, d3', Value.category]
  exact hsteps
/-- 'throw new E("text")': new; dup; ldc; invokespecial; athrow -/
theorem vx_throwS {cc : ByteArray} {pc : Nat} (hexec : p.tables.exec = Jvm.exec) (hb : c.code = cc) (hl : l.stackTraces = false) {own cls text : String} {names : List String} {ik is ic mc ms sa : Nat} {A : Nat → Prop}
    (hown : s.vm.findClass own = some m.cls) (hcls : Bundle.fit cls = true) (hnames : ∀ n ∈ names, Bundle.fit n = true)
    (hk : (Cond.classLink own ik cls).before args s = true) (hini : (Cond.initialized cls).before args s = true) (hstr : vk_R own is text sa s) (hat : ∀ w ∈ vx_atS own ic cls names, w.before args s = true)
    (hgood : ∀ w ∈ Cond.classLink own ik cls :: Cond.initialized cls :: vx_atS own ic cls names, vx_ot w = true)
    (hU : vx_Zq Bundle.tN "UNASSIGNED_STACK" Bundle.steD A s s.heap) (hN : vx_Zq Bundle.tN "SUPPRESSED_SENTINEL" Bundle.listD A s s.heap) (hS : va_S A s.heap H locs) (hsize : ls.size = c.maxLocals)
    (d0 : decode cc pc = .ok (.new ik, 3)) (d3 : decode cc (pc + 3) = .ok (.dup, 1)) (d4 : decode cc (pc + 4) = .ok (.ldc is, 2)) (d6 : decode cc (pc + 6) = .ok (.invokespecial ic, 3)) (d9 : decode cc (pc + 9) = .ok (.athrow, 1))
    (hout : ∀ x ∈ c.exceptionTable.toList, covers x (pc + 9) = false)
    (hRframes : names.length + 3 < R.frames) (hRlocals : (rest.map fun v => v.category).sum + (13 * (names.length + 1) + 43) ≤ R.locals) (hRcells : cells + 1 ≤ R.cells) (hRslots : slots + 6 ≤ R.slots) (hlocks : meth.locks = false)
    (hx : ∀ t : State, s.vm.Alike t.vm → H.size ≤ t.heap.size → (∀ q : Nat, q < H.size → t.heap[q]? = H[q]?) → XC cls s t)
    (hf : ∀ z ∈ locs, free z.base) (hc : cells + 1 ≤ mc) (hs : slots + 6 ≤ ms) :
    W p l e R s m args below meth c H locs cells slots (vx_MQ below Qc XC args s mc ms free) (F0 m pc ls rest) := by
  intro T hT X
  have htr : e.platform.stackTraces = false := (show e.platform.stackTraces = l.stackTraces by rw [X.admits.platform]).trans hl
  have Y := vx_rebase X (R' := { frames := R.frames, locals := R.locals, cells := 1, slots := 6 }) (Nat.le_refl _) (Nat.le_refl _) hRcells hRslots
  obtain ⟨s', hA⟩ : ∃ z, z = (T.setVm s.vm).setFrames (.invoking m args :: below) := ⟨_, rfl⟩
  rw [← hA] at Y
  have hvm : s'.vm = s.vm := by rw [hA]; rfl
  have hhp : s'.heap = H := by rw [hA]; exact hT
  have hW0 : s.WarmedH s'.vm := by rw [hvm]; exact State.WarmedH.refl s
  have hat' : ∀ w ∈ vx_atS own ic cls names, w.before args s' = true := fun w hw => vx_ot_at hW0 hvm.symm (hgood w (List.mem_cons_of_mem _ (List.mem_cons_of_mem _ hw))) (hat w hw)
  have hk' : (Cond.classLink own ik cls).before args s' = true := vx_ot_at hW0 hvm.symm (hgood _ List.mem_cons_self) hk
  have hini' : (Cond.initialized cls).before args s' = true := vx_ot_at hW0 hvm.symm (hgood _ (List.mem_cons_of_mem _ List.mem_cons_self)) hini
  have hU' : vx_Zq Bundle.tN "UNASSIGNED_STACK" Bundle.steD A s' s'.heap := by rw [hhp]; exact vx_Zq.moved hW0.alike (hU.kept hS.2.1)
  have hN' : vx_Zq Bundle.tN "SUPPRESSED_SENTINEL" Bundle.listD A s' s'.heap := by rw [hhp]; exact vx_Zq.moved hW0.alike (hN.kept hS.2.1)
  have h : ∀ w ∈ Bundle.ownAtoms own ic cls names, w.before args s' = true := vx_own hat' (vx_isRefq hU'.1) (vx_isRefq hN'.1) hU'.2.word hN'.2.word
  have hown' : s'.vm.findClass own = some m.cls := by rw [hvm]; exact hown
  have hins : (Cond.instantiable cls 6).before args s' = true := h _ (by simp [Bundle.ownAtoms])
  obtain ⟨vm₁, cX, kX, hfX, hkX, -, -, X₁, st1⟩ := Y.newCold hexec (own := own) (C := cls) (index := ik) (n := 6) hown' hk' hins hini'
    (g := F0 m pc ls rest) rfl (by rw [hb]; exact d0) (Nat.le_refl _) (Nat.le_refl _)
  generalize hT1 : (T.setVm vm₁).pushCell { cls := cX, slots := kX.instanceTypes.map defaultValue, vm := .none } = T1 at X₁ st1
  have hcat : (Value.ref T.heap.size).category = 1 := rfl
  have hcellA : T1.heap[T.heap.size]? = some (freshCell cX kX) := by rw [← hT1]; exact State.heap_pushCell_size _ _
  have d3' : decode c.code (pc + 3) = .ok (.dup, 1) := by rw [hb]; exact d3
  have d4' : decode c.code (pc + 4) = .ok (.ldc is, 2) := by rw [hb]; exact d4
  have hstr' : vk_R own is text sa s' := vk_R.warm hW0 hstr
  obtain ⟨U, hsteps, hrun, hend, hW, hsame, ce, hce, hO⟩ := X₁.ctorThrowS hexec htr (own := own) (cls := cls) (names := names) (ic := ic) hown' hcls hnames h (fun x hx => nomatch hx) hfX hkX hcellA (by rw [hhp, hT]; exact Nat.le_refl _) (msg := .ref sa) rfl
    (g := { method := m, pc := pc + 6, locals := ls, stack := .ref sa :: .ref T.heap.size :: .ref T.heap.size :: rest, locked := none }) rfl hsize rfl rfl (rest := rest) rfl
    (by rw [hb]; exact d6) (by rw [hb]; exact d9) hout hRframes (by simp only [List.map_cons, List.sum_cons, hcat]; omega) hlocks
  obtain ⟨f1, f2⟩ := vx_frame hsame
  rw [hhp] at f1 f2
  have hWs : s.WarmedH U.vm := State.WarmedH.trans hW0 hW
  have hcl : s.vm.findClass cls = some ce.cls := by
    have h9 := hO.cls
    rw [hvm] at h9
    exact h9
  have hall : s.sameButNew ({ U with vm := s.vm } : State) locs mc ms := by
    subst hA
    obtain ⟨e1, e2⟩ := hsame
    rw [State.setFrames_setFrames] at e1
    have h2 : (T.setVm s.vm).sameButNew ({ U with vm := s.vm } : State) [] (0 + 1) (0 + 6) := ⟨e1, e2⟩
    have h3 := X.same.trans h2
    rw [List.append_nil] at h3
    exact h3.mono hc hs
  refine ⟨U, ?_, .threw T.heap.size, hrun, hend, Or.inr ⟨T.heap.size, rfl, cls, ce, locs, hx U hWs.alike f1 (fun q hq => f2 q hq (fun z hz => nomatch hz)), hce, hO.vm, hcl, hWs, hall, hf⟩⟩
  refine st1 _ ?_
  show Steps p.tables e below (T1.setTop { method := m, pc := pc + 3, locals := ls, stack := .ref T.heap.size :: rest, locked := none }) _
  jvm_step X₁.here [X₁.here.top, hexec, d3', Value.category]
  exact X₁.ldcString hexec (own := own) (text := text) (index := is) (a := sa) hown' hstr'.1 hstr'.2
    (g := { method := m, pc := pc + 4, locals := ls, stack := .ref T.heap.size :: .ref T.heap.size :: rest, locked := none }) rfl d4' _ hsteps
/-- 'throw new E("text")', the text by a wide index -/
theorem vx_throwSW {cc : ByteArray} {pc : Nat} (hexec : p.tables.exec = Jvm.exec) (hb : c.code = cc) (hl : l.stackTraces = false) {own cls text : String} {names : List String} {ik is ic mc ms sa : Nat} {A : Nat → Prop}
    (hown : s.vm.findClass own = some m.cls) (hcls : Bundle.fit cls = true) (hnames : ∀ n ∈ names, Bundle.fit n = true)
    (hk : (Cond.classLink own ik cls).before args s = true) (hini : (Cond.initialized cls).before args s = true) (hstr : vk_R own is text sa s) (hat : ∀ w ∈ vx_atS own ic cls names, w.before args s = true)
    (hgood : ∀ w ∈ Cond.classLink own ik cls :: Cond.initialized cls :: vx_atS own ic cls names, vx_ot w = true)
    (hU : vx_Zq Bundle.tN "UNASSIGNED_STACK" Bundle.steD A s s.heap) (hN : vx_Zq Bundle.tN "SUPPRESSED_SENTINEL" Bundle.listD A s s.heap) (hS : va_S A s.heap H locs) (hsize : ls.size = c.maxLocals)
    (d0 : decode cc pc = .ok (.new ik, 3)) (d3 : decode cc (pc + 3) = .ok (.dup, 1)) (d4 : decode cc (pc + 4) = .ok (.ldc_w is, 3)) (d7 : decode cc (pc + 7) = .ok (.invokespecial ic, 3)) (d10 : decode cc (pc + 10) = .ok (.athrow, 1))
    (hout : ∀ x ∈ c.exceptionTable.toList, covers x (pc + 10) = false)
    (hRframes : names.length + 3 < R.frames) (hRlocals : (rest.map fun v => v.category).sum + (13 * (names.length + 1) + 43) ≤ R.locals) (hRcells : cells + 1 ≤ R.cells) (hRslots : slots + 6 ≤ R.slots) (hlocks : meth.locks = false)
    (hx : ∀ t : State, s.vm.Alike t.vm → H.size ≤ t.heap.size → (∀ q : Nat, q < H.size → t.heap[q]? = H[q]?) → XC cls s t)
    (hf : ∀ z ∈ locs, free z.base) (hc : cells + 1 ≤ mc) (hs : slots + 6 ≤ ms) :
    W p l e R s m args below meth c H locs cells slots (vx_MQ below Qc XC args s mc ms free) (F0 m pc ls rest) := by
  intro T hT X
  have htr : e.platform.stackTraces = false := (show e.platform.stackTraces = l.stackTraces by rw [X.admits.platform]).trans hl
  have Y := vx_rebase X (R' := { frames := R.frames, locals := R.locals, cells := 1, slots := 6 }) (Nat.le_refl _) (Nat.le_refl _) hRcells hRslots
  obtain ⟨s', hA⟩ : ∃ z, z = (T.setVm s.vm).setFrames (.invoking m args :: below) := ⟨_, rfl⟩
  rw [← hA] at Y
  have hvm : s'.vm = s.vm := by rw [hA]; rfl
  have hhp : s'.heap = H := by rw [hA]; exact hT
  have hW0 : s.WarmedH s'.vm := by rw [hvm]; exact State.WarmedH.refl s
  have hat' : ∀ w ∈ vx_atS own ic cls names, w.before args s' = true := fun w hw => vx_ot_at hW0 hvm.symm (hgood w (List.mem_cons_of_mem _ (List.mem_cons_of_mem _ hw))) (hat w hw)
  have hk' : (Cond.classLink own ik cls).before args s' = true := vx_ot_at hW0 hvm.symm (hgood _ List.mem_cons_self) hk
  have hini' : (Cond.initialized cls).before args s' = true := vx_ot_at hW0 hvm.symm (hgood _ (List.mem_cons_of_mem _ List.mem_cons_self)) hini
  have hU' : vx_Zq Bundle.tN "UNASSIGNED_STACK" Bundle.steD A s' s'.heap := by rw [hhp]; exact vx_Zq.moved hW0.alike (hU.kept hS.2.1)
  have hN' : vx_Zq Bundle.tN "SUPPRESSED_SENTINEL" Bundle.listD A s' s'.heap := by rw [hhp]; exact vx_Zq.moved hW0.alike (hN.kept hS.2.1)
  have h : ∀ w ∈ Bundle.ownAtoms own ic cls names, w.before args s' = true := vx_own hat' (vx_isRefq hU'.1) (vx_isRefq hN'.1) hU'.2.word hN'.2.word
  have hown' : s'.vm.findClass own = some m.cls := by rw [hvm]; exact hown
  have hins : (Cond.instantiable cls 6).before args s' = true := h _ (by simp [Bundle.ownAtoms])
  obtain ⟨vm₁, cX, kX, hfX, hkX, -, -, X₁, st1⟩ := Y.newCold hexec (own := own) (C := cls) (index := ik) (n := 6) hown' hk' hins hini'
    (g := F0 m pc ls rest) rfl (by rw [hb]; exact d0) (Nat.le_refl _) (Nat.le_refl _)
  generalize hT1 : (T.setVm vm₁).pushCell { cls := cX, slots := kX.instanceTypes.map defaultValue, vm := .none } = T1 at X₁ st1
  have hcat : (Value.ref T.heap.size).category = 1 := rfl
  have hcellA : T1.heap[T.heap.size]? = some (freshCell cX kX) := by rw [← hT1]; exact State.heap_pushCell_size _ _
  have d3' : decode c.code (pc + 3) = .ok (.dup, 1) := by rw [hb]; exact d3
  have d4' : decode c.code (pc + 4) = .ok (.ldc_w is, 3) := by rw [hb]; exact d4
  have hstr' : vk_R own is text sa s' := vk_R.warm hW0 hstr
  obtain ⟨U, hsteps, hrun, hend, hW, hsame, ce, hce, hO⟩ := X₁.ctorThrowS hexec htr (own := own) (cls := cls) (names := names) (ic := ic) hown' hcls hnames h (fun x hx => nomatch hx) hfX hkX hcellA (by rw [hhp, hT]; exact Nat.le_refl _) (msg := .ref sa) rfl
    (g := { method := m, pc := pc + 7, locals := ls, stack := .ref sa :: .ref T.heap.size :: .ref T.heap.size :: rest, locked := none }) rfl hsize rfl rfl (rest := rest) rfl
    (by rw [hb]; exact d7) (by rw [hb]; exact d10) hout hRframes (by simp only [List.map_cons, List.sum_cons, hcat]; omega) hlocks
  obtain ⟨f1, f2⟩ := vx_frame hsame
  rw [hhp] at f1 f2
  have hWs : s.WarmedH U.vm := State.WarmedH.trans hW0 hW
  have hcl : s.vm.findClass cls = some ce.cls := by
    have h9 := hO.cls
    rw [hvm] at h9
    exact h9
  have hall : s.sameButNew ({ U with vm := s.vm } : State) locs mc ms := by
    subst hA
    obtain ⟨e1, e2⟩ := hsame
    rw [State.setFrames_setFrames] at e1
    have h2 : (T.setVm s.vm).sameButNew ({ U with vm := s.vm } : State) [] (0 + 1) (0 + 6) := ⟨e1, e2⟩
    have h3 := X.same.trans h2
    rw [List.append_nil] at h3
    exact h3.mono hc hs
  refine ⟨U, ?_, .threw T.heap.size, hrun, hend, Or.inr ⟨T.heap.size, rfl, cls, ce, locs, hx U hWs.alike f1 (fun q hq => f2 q hq (fun z hz => nomatch hz)), hce, hO.vm, hcl, hWs, hall, hf⟩⟩
  refine st1 _ ?_
  show Steps p.tables e below (T1.setTop { method := m, pc := pc + 3, locals := ls, stack := .ref T.heap.size :: rest, locked := none }) _
  jvm_step X₁.here [X₁.here.top, hexec, d3', Value.category]
  exact X₁.ldcStringW hexec (own := own) (text := text) (index := is) (a := sa) hown' hstr'.1 hstr'.2
    (g := { method := m, pc := pc + 4, locals := ls, stack := .ref T.heap.size :: .ref T.heap.size :: rest, locked := none }) rfl d4' _ hsteps
end Ends
section Bodies
variable {l : Launch}
theorem vx_ofW {y : MethodName} {ws ws' : List Cond} {rm : Room} {Pc : Array Value → State → Prop} {Qc : Array Value → State → Outcome → State → Prop} {XC : String → State → State → Prop} {mc ms : Nat} {free : Addr → Prop} {cc : ByteArray} {maxL : Nat} {ret : Option FieldType}
    (hy : plainName y.cls = true) (hw : ws = Cond.code y cc maxL ret :: ws')
    (body : ∀ p e s m args below meth c s₁, BodyLoose p l y (headSpec ws rm) cc maxL ret e s m args below meth c s₁ → c.maxLocals = maxL → (∀ x ∈ c.exceptionTable.toList, False) → Pc args s →
      W p l e (headSpec ws rm).room s m args below meth c s.heap [] 0 0 (vx_MQ below Qc XC args s mc ms free) (entryFrame m args maxL)) : vx_Met l y ws rm Pc Qc XC mc ms free := by
  refine MetFree.of_bodyS (code := cc) (maxLocals := maxL) (ret := ret) hy ?_ ?_
  · intro args s m h hn
    obtain ⟨meth, c, h1, h2, h3, h4, h5, h6, -, -⟩ := Cond.code_spec hn (atoms_spec (ws := ws) h _ (by rw [hw]; exact List.mem_cons_self))
    exact ⟨meth, c, h1, h2, h3, h4, h5, h6⟩
  · intro p e s m args below meth c s₁ B hml hP _
    have hh0 : s₁.heap = s.heap := by rw [B.state]; rfl
    have ht : ∀ x ∈ c.exceptionTable.toList, False := by
      obtain ⟨meth9, c9, h1, h2, -, -, -, -, h7, -⟩ := Cond.code_spec B.named (atoms_spec (ws := ws) B.pre _ (by rw [hw]; exact List.mem_cons_self))
      cases Option.some.inj (h1.symm.trans B.method)
      cases Option.some.inj (h2.symm.trans (Stand.of_body B).code)
      intro x hx
      rw [Array.isEmpty_iff.mp h7] at hx
      cases hx
    obtain ⟨t, a1, o, b1, b2, b3⟩ := body p e s m args below meth c s₁ B hml ht hP s₁ hh0 (Stand.of_body B)
    exact ⟨t, o, a1, b1, b2, b3⟩
/-- the table of a body with handlers -/
theorem vx_table {p : Program} {x y : MethodName} {S : Spec} {cc bytes : ByteArray} {maxL maxL' : Nat} {ret ret' : Option FieldType} {e : Env} {s s₁ : State} {m : MethodId} {args : Array Value} {below : List Frame} {meth : Method} {c : Code} {hh : List (Nat × Nat × Nat × Nat)}
    (B : BodyLoose p l y S cc maxL ret e s m args below meth c s₁) (h : (Cond.codeWith y bytes maxL' ret' hh).before args s = true) : c.exceptionTable.toList = tableOf hh := by
  obtain ⟨m9, meth9, c9, hn9, h1, h2, -, -, h6, -⟩ := Cond.codeWith_spec h
  cases Option.some.inj (hn9.symm.trans B.named)
  cases Option.some.inj (h1.symm.trans B.method)
  cases Option.some.inj (h2.symm.trans (Stand.of_body B).code)
  rw [← h6, table_eq]
end Bodies
end VXA
/-! ===== END ===== -/
/-! ===== BEGIN a static call of a method with an exception table ===== -/
section VXS
variable {p : Program} {l : Launch} {e : Env} {R : Room} {s : State} {m : MethodId} {args : Array Value} {below : List Frame} {meth : Method} {c : Code} {T : State} {H : Heap} {locs : List Loc} {cells slots : Nat}
abbrev vx_CSW (R : Room) (s : State) (args : Array Value) (own : String) (index : Nat) (y : MethodName) (bytes : ByteArray) (maxL : Nat) (ret : Option FieldType) (hh : List (Nat × Nat × Nat × Nat)) (ws : List Cond) (rm : Room) (mc ms n : Nat) : Prop :=
  (rm.cells = mc ∧ rm.slots = ms ∧ rm.frames + 1 ≤ R.frames ∧ 8 + (maxL + 11) + rm.locals ≤ R.locals ∧ (∀ w ∈ ws, ∀ (a' : Array Value) (U : State), s.WarmedH U.vm → w.before a' U = true) ∧ Cond.codeWith y bytes maxL ret hh ∈ ws) ∧
  (Cond.codeWith y bytes maxL ret hh).before args s = true ∧ (Cond.initialized y.cls).before args s = true ∧ (y.cls ≠ "java/lang/invoke/MethodHandle" ∧ y.cls ≠ "java/lang/invoke/VarHandle") ∧
  (∀ sig, parseMethodDescriptor y.desc = some sig → n = sig.parameters.length) ∧ (Cond.methodLink own index y).before args s = true ∧ (Cond.static y).before args s = true
theorem vx_cwSW {own : String} {index maxL mc ms : Nat} {y : MethodName} {bytes : ByteArray} {ret : Option FieldType} {hh : List (Nat × Nat × Nat × Nat)} {Ts ws ws' : List Cond} {rm : Room} (n : Nat) (ht : ∀ w ∈ Ts, w.before args s = true) (hT : GoodIn Ts (va_wsS own index y ws)) (hw : ws = Cond.codeWith y bytes maxL ret hh :: ws') (hrc : rm.cells = mc) (hrs : rm.slots = ms)
    (hd : y.cls ≠ "java/lang/invoke/MethodHandle" ∧ y.cls ≠ "java/lang/invoke/VarHandle" ∧ (parseMethodDescriptor y.desc).map (fun d => d.parameters.length) = some n) (hR : rm.frames + 1 ≤ R.frames ∧ 8 + (maxL + 11) + rm.locals ≤ R.locals) :
    vx_CSW R s args own index y bytes maxL ret hh ws rm mc ms n := by
  have ok : ∀ w ∈ va_wsS own index y ws, w.before args s = true := fun w h => ht w (hT w h).1
  have hG : GoodIn Ts ws := fun w h => hT w (by unfold va_wsS; exact List.mem_append_right _ h)
  have hc : Cond.codeWith y bytes maxL ret hh ∈ ws := by rw [hw]; exact List.mem_cons_self
  refine ⟨⟨hrc, hrs, hR.1, hR.2, pay_in ht hG, hc⟩, ht _ (hG _ hc).1, ok _ (by simp [va_wsS]), ⟨hd.1, hd.2.1⟩, fun sig h => ?_, ok _ (by simp [va_wsS]), ok _ (by simp [va_wsS])⟩
  have h2 := hd.2.2
  rw [h] at h2
  exact (Option.some.inj h2).symm
theorem vx_callSW (X : Stand p l e R s m args below meth c T locs cells slots) (hexec : p.tables.exec = Jvm.exec) {own : String} {index : Nat} {y : MethodName} {bytes : ByteArray} {maxL : Nat} {ret : Option FieldType} {hh : List (Nat × Nat × Nat × Nat)}
    (hown : s.vm.findClass own = some m.cls) (hlink : (Cond.methodLink own index y).before args s = true) (hstat : (Cond.static y).before args s = true) (hinit : (Cond.initialized y.cls).before args s = true)
    (hcode : (Cond.codeWith y bytes maxL ret hh).before args s = true) (hy : y.cls ≠ "java/lang/invoke/MethodHandle" ∧ y.cls ≠ "java/lang/invoke/VarHandle")
    {W9 : Nat} {Pre : Pt → Array Value → Prop} {Post : Pt → Array Value → Option Value → Pt → Prop} (hK : Back l R p e below s args y 3 W9 Pre Post)
    {g : JFrame} (hg : g.method = m) (hsize : g.locals.size = c.maxLocals) {argsL rest : List Value} (hlen : ∀ sig, parseMethodDescriptor y.desc = some sig → argsL.length = sig.parameters.length)
    (hstack : g.stack = argsL.reverse ++ rest) (hW : 2 * g.monitorRoom + (rest.map fun v => v.category).sum ≤ W9) (hdg : decode c.code g.pc = .ok (.invokestatic index, 3))
    (hpre : ∀ vm₁, s.WarmedH vm₁ → Pre ⟨T.setVm vm₁, locs, cells, slots⟩ argsL.toArray) :
    ∃ (v : Option Value) (vm₁ : Vm) (B : Pt), s.WarmedH vm₁ ∧ Stand p l e R s m args below meth c B.U B.locs B.cells B.slots ∧ Post ⟨T.setVm vm₁, locs, cells, slots⟩ argsL.toArray v B ∧
      ∀ target, Steps p.tables e below (B.U.setTop { g with pc := g.pc + 3, stack := v.toList ++ rest }) target → Steps p.tables e below (T.setTop g) target := by
  obtain ⟨mk, methM, cM, hnamed, hmethM, -, -, -, -, -, -, hsigM⟩ := Cond.codeWith_spec hcode
  have hstatic : methM.isStatic = true := Cond.static_spec hnamed hmethM hstat
  obtain ⟨kP, hkP, -⟩ := className_of_methodNamed hnamed
  have hinitP : kP.init = .initialized := Cond.initialized_spec (findClass_of_methodNamed hnamed) hkP hinit
  obtain ⟨vm₁, X₁, hstep₁⟩ := X.invokestatic hexec hown hlink hnamed hmethM hstatic hkP hinitP hy (g := g) hg (argsL := argsL) (rest := rest) (hlen _ hsigM) hstack hdg
  obtain ⟨v, B, X', hpost, hsteps⟩ := hK m meth c ⟨T.setVm vm₁, locs, cells, slots⟩ { g with stack := rest } (.invokestatic index) mk argsL.toArray X₁ hg hsize hdg hW (X₁.named hnamed) (hpre vm₁ X₁.warmed)
  exact ⟨v, vm₁, B, X₁.warmed, X', hpost, fun target h => hstep₁ _ fun acts => by rw [doInvoke_state]; exact hsteps.trans h⟩
theorem vx_runSW {y : MethodName} {bytes cc : ByteArray} {maxL nL mc ms n index : Nat} {ret : Option FieldType} {hh : List (Nat × Nat × Nat × Nat)} {ws : List Cond} {rm : Room} {Pc : Array Value → State → Prop} {Qc : Array Value → State → Outcome → State → Prop} {free : Addr → Prop} {Ts : List Cond} {own : String} {As rest : List Value} {g : JFrame}
    (S : CallFix p m c cc nL s args Ts own) (hM : Met l y ws rm Pc Qc mc ms free) (cw : vx_CSW R s args own index y bytes maxL ret hh ws rm mc ms n) (hp : PreS s H Pc As)
    (hg : g.method = m) (hn : As.length = n) (hsize : g.locals.size = nL) (hstack : g.stack = As.reverse ++ rest) (hW : 2 * g.monitorRoom + (rest.map fun v => v.category).sum ≤ 8) (hdg : decode cc g.pc = .ok (.invokestatic index, 3)) (hf : cells + mc ≤ R.cells ∧ slots + ms ≤ R.slots) :
    va_Run p l e R s m args below meth c H locs cells slots mc ms g rest (Qc As.toArray) (free) := by
  obtain ⟨⟨hrc, hrs, hfr, hlo, hws, hcw⟩, hcode, hini, hy, hlen, hl, hstt⟩ := cw
  have hK : Back l R p e below s args y 3 8 (PreOf R mc ms Pc) (PostOf Qc mc ms free) := va_backW (hh := hh) (bytes := bytes) (maxL := maxL) (ret := ret) hM hp.1 hrc hrs hfr hlo hws hcw (fun a' U hW => word_at hW (Or.inl (by first | rfl | simp [Cond.onTables, Cond.keeps, Cond.steady])) hini)
  obtain ⟨hx, hb, hml, ho, -⟩ := S
  intro T hT X
  obtain ⟨v, vm₁, ⟨U', l2, c2, s2⟩, hW₁, X', ⟨g', mk, t, L, e1, e2, hq, h1, hL, h2, h3⟩, st⟩ := vx_callSW X hx (hh := hh) (bytes := bytes) (maxL := maxL) (ret := ret) ho hl hstt hini hcode hy hK hg (hsize.trans hml.symm) (argsL := As) (rest := rest) (fun sig h => hn.trans (hlen sig h)) hstack hW (by rw [hb]; exact hdg)
    (fun vm₁ hW₁ => ⟨hf.1, hf.2, hp.2 (T.setVm vm₁) hT hW₁⟩)
  dsimp only [Pt.U, Pt.locs, Pt.cells, Pt.slots] at X' e1 e2 h1 h2 h3 st
  subst h1; subst h2; subst h3
  exact ⟨v, (T.setVm vm₁).calling g' mk As.toArray, t, U', L, hT, X', hL, e1, e2, hq, st⟩
/-- not caught here, past rows that name other classes: it goes on to the caller -/
theorem vx_outP {p : Program} {l : Launch} {e : Env} {R : Room} {s : State} {m : MethodId} {args : Array Value} {below : List Frame} {meth : Method} {c : Code} {H : Heap} {locs : List Loc} {cells slots : Nat} {free : Addr → Prop} {ls : Array Slot} {rest : List Value} {Qc : Array Value → State → Outcome → State → Prop} {XC : String → State → State → Prop}
    {pc : Nat} {own E : String} {ce : Cell} {q : Addr} {mc ms : Nat} (hown : s.vm.findClass own = some m.cls) (hlocks : meth.locks = false)
    (hpass : ∀ z ∈ c.exceptionTable.toList, covers z pc = false ∨ (z.catchType ≠ 0 ∧ ∃ nm : String, (Cond.classLink own z.catchType nm).before args s = true ∧ va_Nc E nm s)) (hcell : H[q]? = some ce) (hv : ce.vm = .none) (hcl : s.vm.findClass E = some ce.cls)
    (hx : ∀ t : State, t.heap = H → s.vm.Alike t.vm → XC E s t) (hf : ∀ z ∈ locs, free z.base) (hc : cells ≤ mc) (hs : slots ≤ ms) :
    vx_W p l e R s m args below meth c H locs cells slots (vx_MQ below Qc XC args s mc ms free) (F0 m pc ls rest) q := by
  intro T hT X
  have hpl : e.platform.magicAccessors = ({} : Platform).magicAccessors := by rw [X.admits.platform]
  obtain ⟨vm', hW', X', st⟩ := X.outThrough hlocks q (g := F0 m pc ls rest) rfl rfl rfl (cell := ce) (by rw [hT]; exact hcell) (by rw [hv]; rfl)
    (by obtain ⟨k9, h9, -⟩ := Vm.findClass_spec hcl; exact ⟨k9, h9⟩) (fun z hz => by
      rcases hpass z hz with h | ⟨hz0, nm, hl1, hn1⟩
      · exact Or.inl h
      · obtain ⟨c6, hc6, hcl6⟩ := Cond.classLink_spec hown hl1 e.platform hpl
        obtain ⟨a8, b8, h1, h2, h3⟩ := hn1
        cases Option.some.inj (h1.symm.trans hcl)
        cases Option.some.inj (h2.symm.trans hc6)
        exact Or.inr ⟨hz0, _, hcl6, h3⟩)
  obtain ⟨g₀, hfr⟩ := X'.frames_eq
  have hcell9 : ((T.setVm vm').setFrames (.throwing q :: below)).heap[q]? = some ce := by
    show T.heap[q]? = some ce
    rw [hT]; exact hcell
  have hend : Ended ((T.setVm vm').setFrames (.throwing q :: below)) below (.threw q) := State.frames_setFrames _ (State.cur_lt_of_frames hfr)
  refine ⟨(T.setVm vm').setFrames (.throwing q :: below), ?_, .threw q, X'.here.running, hend, Or.inr ⟨q, rfl, E, ce, locs, hx _ hT (X'.ends _).1.alike, hcell9, hv, hcl, (X'.ends _).1, (X'.ends _).2.mono hc hs, hf⟩⟩
  rw [X.pushThrowing_eq]
  exact st
/-- a thing of a world lies in the heap -/
theorem vx_lt {D : va_G} {cl : List vw_C} {ws : va_W} {H1 : Heap} (h : va_P D cl ws H1) {k : Nat} {q : Nat × va_E} (hk : ws[k]? = some q) : q.1 < H1.size := (h k q hk).lt
end VXS
/-! ===== END ===== -/
/-! ===== BEGIN methods with a table of their own: called by a name, returning or throwing ===== -/
section VXH
/-! vx_backW, vx_callVX, vx_callSX, vx_callVW, vx_runVW, vx_runVX, vx_runSX, vx_ofWH follow the same proofs as their sisters above (Free/Laws.lean, Shelf42/LK1.lean); vx_outP calls Shelf42/NT130.lean (outThrough). -/
section
variable {l : Launch} {R : Room} {p : Program} {e : Env} {below : List Frame} {s : State} {sargs : Array Value} {y : MethodName} {len W9 : Nat}
theorem vx_backW {ws : List Cond} {rm : Room} {Pc : Array Value → State → Prop} {Qc : Array Value → State → Outcome → State → Prop} {XC : String → State → State → Prop} {mc ms : Nat} {free : Addr → Prop} {bytes : ByteArray} {maxL : Nat} {ret : Option FieldType} {hh : List (Nat × Nat × Nat × Nat)}
    (hM : vx_Met l y ws rm Pc Qc XC mc ms free) (hblind : FrameBlind Pc) (hrc : rm.cells = mc) (hrs : rm.slots = ms)
    (hframes : rm.frames + 1 ≤ R.frames) (hlocals : W9 + (maxL + 11) + rm.locals ≤ R.locals)
    (hws : ∀ w ∈ ws, ∀ a' U, s.WarmedH U.vm → w.before a' U = true) (hcode : Cond.codeWith y bytes maxL ret hh ∈ ws) (hinit : ∀ a' U, s.WarmedH U.vm → (Cond.initialized y.cls).before a' U = true) :
    vx_Back l R p e below s sargs y len W9 (PreOf R mc ms Pc) (PostOf Qc mc ms free) (vx_Post XC mc ms free) := by
  intro m meth c A g ig mk a X hg hsize hdg hW hn hp
  have h1 : (headSpec ws rm).pre.before a A.U = true := atoms_intro fun w hw => hws w hw _ _ X.warmed
  have h2 : (Cond.codeWith y bytes maxL ret hh).before a A.U = true := hws _ hcode _ _ X.warmed
  have h3 : (Cond.initialized y.cls).before a A.U = true := hinit _ _ X.warmed
  have h4 : A.cells + (headSpec ws rm).room.cells ≤ R.cells := by rw [show (headSpec ws rm).room.cells = mc from hrc]; exact hp.1
  have h5 : A.slots + (headSpec ws rm).room.slots ≤ R.slots := by rw [show (headSpec ws rm).room.slots = ms from hrs]; exact hp.2.1
  have hPc : Pc a (A.U.calling g mk a) := hblind _ _ _ _ hp.2.2
  obtain ⟨U, Ls, c0, s0⟩ := A
  dsimp only [Pt.U, Pt.locs, Pt.cells, Pt.slots] at h1 h2 h3 h4 h5 X hn hPc ⊢
  obtain ⟨m9, methY, cY, hn9, hmY, hcY, -, hlY, -⟩ := Cond.codeWith_spec h2
  cases Option.some.inj (hn9.symm.trans hn)
  obtain ⟨kY, hkY, -⟩ := className_of_methodNamed hn
  have hinitY : kY.init = .initialized := Cond.initialized_spec (findClass_of_methodNamed hn) hkY h3
  have h : At U g.method c below := by rw [hg]; exact X.here
  have hlocals9 : W9 + (maxL + 11) + (headSpec ws rm).room.locals ≤ R.locals := hlocals
  have happ : (headSpec ws rm).appliesLoose y e.platform (U.calling g mk a) = true :=
    Spec.appliesLoose_calling (g := g) h hdg hn hkY hinitY
      (X.room_calling (g := g) (R' := (headSpec ws rm).room) hsize hmY hcY hframes (by rw [hlY]; omega) h4 h5) h1
  obtain ⟨mid, hmid⟩ := h.above
  have hfr : (U.setTop g).frames = (.java g :: mid) ++ below := by rw [State.frames_setTop' g h.top, hmid]; rfl
  obtain ⟨o, s₂, hsteps, -, hend, hq⟩ := Steps.callFree hM p X.admits X.cas X.clock (acts := []) hfr happ hPc trivial
  have hq' : vx_Q Qc XC mc ms free a (U.calling g mk a) o s₂ := hq
  rw [State.frames_setTop' g h.top] at hend
  obtain ⟨g₀, hg0⟩ := Option.isSome_iff_exists.mp h.top
  obtain ⟨r, hr⟩ := State.topJava?_eq_some.mp hg0
  have hr' : (({ U with heap := s₂.heap, slotsUsed := s₂.slotsUsed } : State).setVm s₂.vm).frames = .java g₀ :: r := hr
  rcases hq' with ⟨hqc, L, hfe, hL⟩ | ⟨q, rfl, E, ce, L, hx, hce, hcv, hcl, hW₂, hsm, hL⟩
  · obtain ⟨⟨v, rfl⟩, hW₂, e2, q2, q3, q4, q5, q6⟩ := id hfe
    have e3 : s₂ = ({ (U.calling g mk a).setFrames s₂.frames with heap := s₂.heap, slotsUsed := s₂.slotsUsed } : State).setVm s₂.vm := by
      have : s₂ = ({ s₂ with vm := (U.calling g mk a).vm } : State).setVm s₂.vm := rfl
      rw [e2] at this
      exact this
    obtain ⟨c₂, i₂, len₂, hc₂, hd₂, hf₂⟩ := hend
    have hW' : U.WarmedH s₂.vm := hW₂
    have hcc : c₂ = c := by
      have h1 : s₂.code? g.method = U.code? g.method := by
        rw [State.code?_eq, State.code?_eq, hW'.alike.method?]
      exact Option.some.inj (hc₂.symm.trans (h1.trans h.code))
    subst hcc
    have hlen : len₂ = len := by rw [hdg] at hd₂; cases hd₂; rfl
    subst hlen
    have hs₂ : s₂ = (({ U with heap := s₂.heap, slotsUsed := s₂.slotsUsed } : State).setVm s₂.vm).setTop { g with pc := g.pc + len₂, stack := v.toList ++ g.stack } := by
      refine e3.trans ?_
      rw [hf₂, State.calling_eq h.top, State.setFrames_setFrames, State.setTop_of_frames _ hr', hr]
      rfl
    have hsame : U.sameButNew ({ U with heap := s₂.heap, slotsUsed := s₂.slotsUsed } : State) L mc ms := by
      refine ⟨?_, q2, q3, q4, q5, q6⟩
      obtain ⟨t, ht, -⟩ := State.frames_cons hr
      show ({ U with heap := s₂.heap, slotsUsed := s₂.slotsUsed } : State) = { U.setFrames U.frames with heap := s₂.heap, slotsUsed := s₂.slotsUsed }
      rw [State.setFrames_self ht]
    subst hg
    refine Or.inl ⟨v, ⟨(({ U with heap := s₂.heap, slotsUsed := s₂.slotsUsed } : State).setVm s₂.vm), Ls ++ L, c0 + mc, s0 + ms⟩,
      ⟨X.admits, X.cas, X.clock, X.frames, X.room, X.hears, X.method, X.code, (X.here.setHeapUsed s₂.heap s₂.slotsUsed).setVm hW'.alike, X.tail, State.WarmedH.trans X.warmed hW', X.limits, X.bytes, X.same.trans (hsame.setVm s.vm)⟩,
      ⟨g, mk, s₂, L, rfl, rfl, hqc, rfl, hL, rfl, rfl⟩, ?_⟩
    show Steps p.tables e below _ ((({ U with heap := s₂.heap, slotsUsed := s₂.slotsUsed } : State).setVm s₂.vm).setTop { g with pc := g.pc + len₂, stack := v.toList ++ g.stack })
    rw [← hs₂]
    exact hsteps
  · obtain ⟨e2, q2, q3, q4, q5, q6⟩ := id hsm
    have e3 : s₂ = ({ (U.calling g mk a).setFrames s₂.frames with heap := s₂.heap, slotsUsed := s₂.slotsUsed } : State).setVm s₂.vm := by
      have : s₂ = ({ s₂ with vm := (U.calling g mk a).vm } : State).setVm s₂.vm := rfl
      rw [e2] at this
      exact this
    have hf₂ : s₂.frames = .throwing q :: .java g :: U.frames.tail := hend
    have hW' : U.WarmedH s₂.vm := hW₂
    have hs₂ : s₂ = ((({ U with heap := s₂.heap, slotsUsed := s₂.slotsUsed } : State).setVm s₂.vm).setTop g).pushFrame (.throwing q) := by
      refine e3.trans ?_
      rw [hf₂, State.calling_eq h.top, State.setFrames_setFrames, State.pushFrame, State.frames_setTop _ hr', State.setTop_of_frames _ hr', State.setFrames_setFrames, hr]
      rfl
    have hsame : U.sameButNew ({ U with heap := s₂.heap, slotsUsed := s₂.slotsUsed } : State) L mc ms := by
      refine ⟨?_, q2, q3, q4, q5, q6⟩
      obtain ⟨t, ht, -⟩ := State.frames_cons hr
      show ({ U with heap := s₂.heap, slotsUsed := s₂.slotsUsed } : State) = { U.setFrames U.frames with heap := s₂.heap, slotsUsed := s₂.slotsUsed }
      rw [State.setFrames_self ht]
    subst hg
    refine Or.inr ⟨q, ⟨(({ U with heap := s₂.heap, slotsUsed := s₂.slotsUsed } : State).setVm s₂.vm), Ls ++ L, c0 + mc, s0 + ms⟩,
      ⟨X.admits, X.cas, X.clock, X.frames, X.room, X.hears, X.method, X.code, (X.here.setHeapUsed s₂.heap s₂.slotsUsed).setVm hW'.alike, X.tail, State.WarmedH.trans X.warmed hW', X.limits, X.bytes, X.same.trans (hsame.setVm s.vm)⟩,
      ⟨g, mk, s₂, L, E, ce, rfl, rfl, hx, hce, hcv, hcl, rfl, hL, rfl, rfl⟩, ?_⟩
    show Steps p.tables e below _ (((({ U with heap := s₂.heap, slotsUsed := s₂.slotsUsed } : State).setVm s₂.vm).setTop g).pushFrame (.throwing q))
    rw [← hs₂]
    exact hsteps
end
variable {p : Program} {l : Launch} {e : Env} {R : Room} {s : State} {m : MethodId} {args : Array Value} {below : List Frame} {meth : Method} {c : Code} {T : State} {H : Heap} {locs : List Loc} {cells slots : Nat}
theorem vx_callVX (X : Stand p l e R s m args below meth c T locs cells slots) (hexec : p.tables.exec = Jvm.exec) {own C : String} {index : Nat} {y : MethodName} {bytes : ByteArray} {maxL : Nat} {ret : Option FieldType} {hh : List (Nat × Nat × Nat × Nat)}
    (hown : s.vm.findClass own = some m.cls) (hlink : (Cond.methodLink own index y).before args s = true) (hinst : (Cond.instanceMethod y).before args s = true) (hsel : (Cond.selects C y y).before args s = true)
    (hcode : (Cond.codeWith y bytes maxL ret hh).before args s = true) (hy : y.cls ≠ "java/lang/invoke/MethodHandle" ∧ y.cls ≠ "java/lang/invoke/VarHandle")
    {W9 : Nat} {Pre : Pt → Array Value → Prop} {Post : Pt → Array Value → Option Value → Pt → Prop} {PostX : Pt → Array Value → Addr → Pt → Prop} (hK : vx_Back l R p e below s args y 3 W9 Pre Post PostX)
    {b : Addr} {cellB : Cell} (hcell : T.heap[b]? = some cellB) (hobj : cellB.vm.isStatics = false) (hcls : s.vm.findClass C = some cellB.cls)
    {g : JFrame} (hg : g.method = m) (hsize : g.locals.size = c.maxLocals) {argsL rest : List Value} (hlen : ∀ sig, parseMethodDescriptor y.desc = some sig → argsL.length = sig.parameters.length)
    (hstack : g.stack = argsL.reverse ++ .ref b :: rest) (hW : 2 * g.monitorRoom + (rest.map fun v => v.category).sum ≤ W9) (hdg : decode c.code g.pc = .ok (.invokevirtual index, 3))
    (hpre : ∀ vm₁, s.WarmedH vm₁ → Pre ⟨T.setVm vm₁, locs, cells, slots⟩ (Value.ref b :: argsL).toArray) :
    (∃ (v : Option Value) (vm₁ : Vm) (B : Pt), s.WarmedH vm₁ ∧ Stand p l e R s m args below meth c B.U B.locs B.cells B.slots ∧ Post ⟨T.setVm vm₁, locs, cells, slots⟩ (Value.ref b :: argsL).toArray v B ∧
      ∀ target, Steps p.tables e below (B.U.setTop { g with pc := g.pc + 3, stack := v.toList ++ rest }) target → Steps p.tables e below (T.setTop g) target) ∨
    (∃ (q : Addr) (vm₁ : Vm) (B : Pt), s.WarmedH vm₁ ∧ Stand p l e R s m args below meth c B.U B.locs B.cells B.slots ∧ PostX ⟨T.setVm vm₁, locs, cells, slots⟩ (Value.ref b :: argsL).toArray q B ∧
      Steps p.tables e below (T.setTop g) ((B.U.setTop { g with stack := rest }).pushFrame (.throwing q))) := by
  obtain ⟨mk, methM, hnamed, hmethM, hstM, habM⟩ := Cond.instanceMethod_spec hinst
  obtain ⟨m8, methM', cM, hn8, hmethM', -, -, -, -, -, -, hsigM⟩ := Cond.codeWith_spec hcode
  cases Option.some.inj (hn8.symm.trans hnamed)
  cases hmethM.symm.trans hmethM'
  obtain ⟨c2, r2, m2, q1, q2, q3, q4, kP, hkP, hkPi⟩ := Cond.selects_spec hsel
  cases hcls.symm.trans q1
  cases (State.methodFound?_of_named hnamed hy).symm.trans q2
  cases hnamed.symm.trans q3
  have hselP : selectMethod e.platform s.vm cellB.cls mk = .method mk := by rw [Launch.admits_selectMethod X.admits]; exact q4
  obtain ⟨vm₁, X₁, hstep₁⟩ := X.invokevirtual hexec hown hlink hnamed hmethM hstM hkP hkPi hy (a := b) (cell := cellB) hcell
    (fun z h => by rw [h] at hobj; cases hobj) hselP hmethM habM hkP hkPi (g := g) hg (argsL := argsL) (rest := rest) (hlen _ hsigM) hstack hdg
  rcases hK m meth c ⟨T.setVm vm₁, locs, cells, slots⟩ { g with stack := rest } (.invokevirtual index) mk (Value.ref b :: argsL).toArray X₁ hg hsize hdg hW (X₁.named hnamed) (hpre vm₁ X₁.warmed) with ⟨v, B, X', hpost, hsteps⟩ | ⟨q, B, X', hpost, hsteps⟩
  · exact Or.inl ⟨v, vm₁, B, X₁.warmed, X', hpost, fun target h => hstep₁ _ fun acts => by rw [doInvoke_state]; exact hsteps.trans h⟩
  · exact Or.inr ⟨q, vm₁, B, X₁.warmed, X', hpost, hstep₁ _ fun acts => by rw [doInvoke_state]; exact hsteps⟩
theorem vx_callSX (X : Stand p l e R s m args below meth c T locs cells slots) (hexec : p.tables.exec = Jvm.exec) {own : String} {index : Nat} {y : MethodName} {bytes : ByteArray} {maxL : Nat} {ret : Option FieldType} {hh : List (Nat × Nat × Nat × Nat)}
    (hown : s.vm.findClass own = some m.cls) (hlink : (Cond.methodLink own index y).before args s = true) (hstat : (Cond.static y).before args s = true) (hinit : (Cond.initialized y.cls).before args s = true)
    (hcode : (Cond.codeWith y bytes maxL ret hh).before args s = true) (hy : y.cls ≠ "java/lang/invoke/MethodHandle" ∧ y.cls ≠ "java/lang/invoke/VarHandle")
    {W9 : Nat} {Pre : Pt → Array Value → Prop} {Post : Pt → Array Value → Option Value → Pt → Prop} {PostX : Pt → Array Value → Addr → Pt → Prop} (hK : vx_Back l R p e below s args y 3 W9 Pre Post PostX)
    {g : JFrame} (hg : g.method = m) (hsize : g.locals.size = c.maxLocals) {argsL rest : List Value} (hlen : ∀ sig, parseMethodDescriptor y.desc = some sig → argsL.length = sig.parameters.length)
    (hstack : g.stack = argsL.reverse ++ rest) (hW : 2 * g.monitorRoom + (rest.map fun v => v.category).sum ≤ W9) (hdg : decode c.code g.pc = .ok (.invokestatic index, 3))
    (hpre : ∀ vm₁, s.WarmedH vm₁ → Pre ⟨T.setVm vm₁, locs, cells, slots⟩ argsL.toArray) :
    (∃ (v : Option Value) (vm₁ : Vm) (B : Pt), s.WarmedH vm₁ ∧ Stand p l e R s m args below meth c B.U B.locs B.cells B.slots ∧ Post ⟨T.setVm vm₁, locs, cells, slots⟩ argsL.toArray v B ∧
      ∀ target, Steps p.tables e below (B.U.setTop { g with pc := g.pc + 3, stack := v.toList ++ rest }) target → Steps p.tables e below (T.setTop g) target) ∨
    (∃ (q : Addr) (vm₁ : Vm) (B : Pt), s.WarmedH vm₁ ∧ Stand p l e R s m args below meth c B.U B.locs B.cells B.slots ∧ PostX ⟨T.setVm vm₁, locs, cells, slots⟩ argsL.toArray q B ∧
      Steps p.tables e below (T.setTop g) ((B.U.setTop { g with stack := rest }).pushFrame (.throwing q))) := by
  obtain ⟨mk, methM, cM, hnamed, hmethM, -, -, -, -, -, -, hsigM⟩ := Cond.codeWith_spec hcode
  have hstatic : methM.isStatic = true := Cond.static_spec hnamed hmethM hstat
  obtain ⟨kP, hkP, -⟩ := className_of_methodNamed hnamed
  have hinitP : kP.init = .initialized := Cond.initialized_spec (findClass_of_methodNamed hnamed) hkP hinit
  obtain ⟨vm₁, X₁, hstep₁⟩ := X.invokestatic hexec hown hlink hnamed hmethM hstatic hkP hinitP hy (g := g) hg (argsL := argsL) (rest := rest) (hlen _ hsigM) hstack hdg
  rcases hK m meth c ⟨T.setVm vm₁, locs, cells, slots⟩ { g with stack := rest } (.invokestatic index) mk argsL.toArray X₁ hg hsize hdg hW (X₁.named hnamed) (hpre vm₁ X₁.warmed) with ⟨v, B, X', hpost, hsteps⟩ | ⟨q, B, X', hpost, hsteps⟩
  · exact Or.inl ⟨v, vm₁, B, X₁.warmed, X', hpost, fun target h => hstep₁ _ fun acts => by rw [doInvoke_state]; exact hsteps.trans h⟩
  · exact Or.inr ⟨q, vm₁, B, X₁.warmed, X', hpost, hstep₁ _ fun acts => by rw [doInvoke_state]; exact hsteps⟩
theorem vx_callVW (X : Stand p l e R s m args below meth c T locs cells slots) (hexec : p.tables.exec = Jvm.exec) {own C : String} {index : Nat} {y : MethodName} {bytes : ByteArray} {maxL : Nat} {ret : Option FieldType} {hh : List (Nat × Nat × Nat × Nat)}
    (hown : s.vm.findClass own = some m.cls) (hlink : (Cond.methodLink own index y).before args s = true) (hinst : (Cond.instanceMethod y).before args s = true) (hsel : (Cond.selects C y y).before args s = true)
    (hcode : (Cond.codeWith y bytes maxL ret hh).before args s = true) (hy : y.cls ≠ "java/lang/invoke/MethodHandle" ∧ y.cls ≠ "java/lang/invoke/VarHandle")
    {W9 : Nat} {Pre : Pt → Array Value → Prop} {Post : Pt → Array Value → Option Value → Pt → Prop} (hK : Back l R p e below s args y 3 W9 Pre Post)
    {b : Addr} {cellB : Cell} (hcell : T.heap[b]? = some cellB) (hobj : cellB.vm.isStatics = false) (hcls : s.vm.findClass C = some cellB.cls)
    {g : JFrame} (hg : g.method = m) (hsize : g.locals.size = c.maxLocals) {argsL rest : List Value} (hlen : ∀ sig, parseMethodDescriptor y.desc = some sig → argsL.length = sig.parameters.length)
    (hstack : g.stack = argsL.reverse ++ .ref b :: rest) (hW : 2 * g.monitorRoom + (rest.map fun v => v.category).sum ≤ W9) (hdg : decode c.code g.pc = .ok (.invokevirtual index, 3))
    (hpre : ∀ vm₁, s.WarmedH vm₁ → Pre ⟨T.setVm vm₁, locs, cells, slots⟩ (Value.ref b :: argsL).toArray) :
    ∃ (v : Option Value) (vm₁ : Vm) (B : Pt), s.WarmedH vm₁ ∧ Stand p l e R s m args below meth c B.U B.locs B.cells B.slots ∧ Post ⟨T.setVm vm₁, locs, cells, slots⟩ (Value.ref b :: argsL).toArray v B ∧
      ∀ target, Steps p.tables e below (B.U.setTop { g with pc := g.pc + 3, stack := v.toList ++ rest }) target → Steps p.tables e below (T.setTop g) target := by
  obtain ⟨mk, methM, hnamed, hmethM, hstM, habM⟩ := Cond.instanceMethod_spec hinst
  obtain ⟨m8, methM', cM, hn8, hmethM', -, -, -, -, -, -, hsigM⟩ := Cond.codeWith_spec hcode
  cases Option.some.inj (hn8.symm.trans hnamed)
  cases hmethM.symm.trans hmethM'
  obtain ⟨c2, r2, m2, q1, q2, q3, q4, kP, hkP, hkPi⟩ := Cond.selects_spec hsel
  cases hcls.symm.trans q1
  cases (State.methodFound?_of_named hnamed hy).symm.trans q2
  cases hnamed.symm.trans q3
  have hselP : selectMethod e.platform s.vm cellB.cls mk = .method mk := by rw [Launch.admits_selectMethod X.admits]; exact q4
  obtain ⟨vm₁, X₁, hstep₁⟩ := X.invokevirtual hexec hown hlink hnamed hmethM hstM hkP hkPi hy (a := b) (cell := cellB) hcell
    (fun z h => by rw [h] at hobj; cases hobj) hselP hmethM habM hkP hkPi (g := g) hg (argsL := argsL) (rest := rest) (hlen _ hsigM) hstack hdg
  obtain ⟨v, B, X', hpost, hsteps⟩ := hK m meth c ⟨T.setVm vm₁, locs, cells, slots⟩ { g with stack := rest } (.invokevirtual index) mk (Value.ref b :: argsL).toArray X₁ hg hsize hdg hW (X₁.named hnamed) (hpre vm₁ X₁.warmed)
  exact ⟨v, vm₁, B, X₁.warmed, X', hpost, fun target h => hstep₁ _ fun acts => by rw [doInvoke_state]; exact hsteps.trans h⟩
abbrev vx_CVW (R : Room) (s : State) (args : Array Value) (own C : String) (index : Nat) (y : MethodName) (bytes : ByteArray) (maxL : Nat) (ret : Option FieldType) (hh : List (Nat × Nat × Nat × Nat)) (ws : List Cond) (rm : Room) (mc ms n : Nat) : Prop :=
  (rm.cells = mc ∧ rm.slots = ms ∧ rm.frames + 1 ≤ R.frames ∧ 8 + (maxL + 11) + rm.locals ≤ R.locals ∧ (∀ w ∈ ws, ∀ (a' : Array Value) (U : State), s.WarmedH U.vm → w.before a' U = true) ∧ Cond.codeWith y bytes maxL ret hh ∈ ws) ∧
  (Cond.codeWith y bytes maxL ret hh).before args s = true ∧ (Cond.initialized y.cls).before args s = true ∧ (y.cls ≠ "java/lang/invoke/MethodHandle" ∧ y.cls ≠ "java/lang/invoke/VarHandle") ∧
  (∀ sig, parseMethodDescriptor y.desc = some sig → n = sig.parameters.length) ∧ (Cond.methodLink own index y).before args s = true ∧ (Cond.instanceMethod y).before args s = true ∧ (Cond.selects C y y).before args s = true
theorem vx_cwVW {own C : String} {index maxL mc ms : Nat} {y : MethodName} {bytes : ByteArray} {ret : Option FieldType} {hh : List (Nat × Nat × Nat × Nat)} {Ts ws ws' : List Cond} {rm : Room} (n : Nat) (ht : ∀ w ∈ Ts, w.before args s = true) (hT : GoodIn Ts (wsV own index C y ws)) (hw : ws = Cond.codeWith y bytes maxL ret hh :: ws') (hrc : rm.cells = mc) (hrs : rm.slots = ms)
    (hd : y.cls = C ∧ y.cls ≠ "java/lang/invoke/MethodHandle" ∧ y.cls ≠ "java/lang/invoke/VarHandle" ∧ (parseMethodDescriptor y.desc).map (fun d => d.parameters.length) = some n) (hR : rm.frames + 1 ≤ R.frames ∧ 8 + (maxL + 11) + rm.locals ≤ R.locals) :
    vx_CVW R s args own C index y bytes maxL ret hh ws rm mc ms n := by
  obtain ⟨hC, hd⟩ := hd
  subst hC
  have ok : ∀ w ∈ wsV own index y.cls y ws, w.before args s = true := fun w h => ht w (hT w h).1
  have hG : GoodIn Ts ws := fun w h => hT w (by unfold wsV; exact List.mem_append_right _ h)
  have hc : Cond.codeWith y bytes maxL ret hh ∈ ws := by rw [hw]; exact List.mem_cons_self
  refine ⟨⟨hrc, hrs, hR.1, hR.2, pay_in ht hG, hc⟩, ht _ (hG _ hc).1, ok _ (by simp [wsV]), ⟨hd.1, hd.2.1⟩, fun sig h => ?_, ok _ (by simp [wsV]), ok _ (by simp [wsV]), ok _ (by simp [wsV])⟩
  have h2 := hd.2.2
  rw [h] at h2
  exact (Option.some.inj h2).symm
theorem vx_runVW {y : MethodName} {bytes cc : ByteArray} {maxL nL mc ms n index : Nat} {ret : Option FieldType} {hh : List (Nat × Nat × Nat × Nat)} {ws : List Cond} {rm : Room} {Pc : Array Value → State → Prop} {Qc : Array Value → State → Outcome → State → Prop} {free : Addr → Prop} {Ts : List Cond} {own C : String} {b : Addr} {As rest : List Value} {g : JFrame}
    (S : CallFix p m c cc nL s args Ts own) (hM : Met l y ws rm Pc Qc mc ms free) (cw : vx_CVW R s args own C index y bytes maxL ret hh ws rm mc ms n) (hp : PreV s H C b Pc As)
    (hg : g.method = m) (hn : As.length = n) (hsize : g.locals.size = nL) (hstack : g.stack = As.reverse ++ .ref b :: rest) (hW : 2 * g.monitorRoom + (rest.map fun v => v.category).sum ≤ 8) (hdg : decode cc g.pc = .ok (.invokevirtual index, 3)) (hf : cells + mc ≤ R.cells ∧ slots + ms ≤ R.slots) :
    va_Run p l e R s m args below meth c H locs cells slots mc ms g rest (Qc (Value.ref b :: As).toArray) free := by
  obtain ⟨⟨hrc, hrs, hfr, hlo, hws, hcw⟩, hcode, hini, hy, hlen, hl, hin, hse⟩ := cw
  have hK : Back l R p e below s args y 3 8 (PreOf R mc ms Pc) (PostOf Qc mc ms free) := va_backW (hh := hh) (bytes := bytes) (maxL := maxL) (ret := ret) hM hp.1 hrc hrs hfr hlo hws hcw (fun a' U hW => word_at hW (Or.inl (by first | rfl | simp [Cond.onTables, Cond.keeps, Cond.steady])) hini)
  obtain ⟨hx, hb, hml, ho, -⟩ := S
  obtain ⟨-, ⟨cellB, hcB, hoB, hclB⟩, hPc⟩ := hp
  intro T hT X
  obtain ⟨v, vm₁, ⟨U', l2, c2, s2⟩, hW₁, X', ⟨g', mk, t, L, e1, e2, hq, h1, hL, h2, h3⟩, st⟩ := vx_callVW X hx (C := C) (hh := hh) (bytes := bytes) (maxL := maxL) (ret := ret) ho hl hin hse hcode hy hK (by rw [hT]; exact hcB) hoB hclB hg (hsize.trans hml.symm) (argsL := As) (rest := rest) (fun sig h => hn.trans (hlen sig h)) hstack hW (by rw [hb]; exact hdg)
    (fun vm₁ hW₁ => ⟨hf.1, hf.2, hPc (T.setVm vm₁) hT hW₁⟩)
  dsimp only [Pt.U, Pt.locs, Pt.cells, Pt.slots] at X' e1 e2 h1 h2 h3 st
  subst h1; subst h2; subst h3
  exact ⟨v, (T.setVm vm₁).calling g' mk (Value.ref b :: As).toArray, t, U', L, hT, X', hL, e1, e2, hq, st⟩
section
variable {y : MethodName} {bytes cc : ByteArray} {maxL nL mc ms n index : Nat} {ret : Option FieldType} {ws : List Cond} {rm : Room} {Pc : Array Value → State → Prop} {Qc : Array Value → State → Outcome → State → Prop} {XC : String → State → State → Prop} {free : Addr → Prop} {Ts : List Cond} {own C : String} {b : Addr} {As rest : List Value} {g : JFrame}
theorem vx_runVX {hh : List (Nat × Nat × Nat × Nat)} (S : CallFix p m c cc nL s args Ts own) (hM : vx_Met l y ws rm Pc Qc XC mc ms free) (cw : vx_CVW R s args own C index y bytes maxL ret hh ws rm mc ms n) (hp : PreV s H C b Pc As)
    (hg : g.method = m) (hn : As.length = n) (hsize : g.locals.size = nL) (hstack : g.stack = As.reverse ++ .ref b :: rest) (hW : 2 * g.monitorRoom + (rest.map fun v => v.category).sum ≤ 8) (hdg : decode cc g.pc = .ok (.invokevirtual index, 3)) (hf : cells + mc ≤ R.cells ∧ slots + ms ≤ R.slots) :
    vx_Run p l e R s m args below meth c H locs cells slots mc ms g rest (Qc (Value.ref b :: As).toArray) XC free := by
  obtain ⟨⟨hrc, hrs, hfr, hlo, hws, hcw⟩, hcode, hini, hy, hlen, hl, hin, hse⟩ := cw
  have hK : vx_Back l R p e below s args y 3 8 (PreOf R mc ms Pc) (PostOf Qc mc ms free) (vx_Post XC mc ms free) := vx_backW (hh := hh) (bytes := bytes) (maxL := maxL) (ret := ret) hM hp.1 hrc hrs hfr hlo hws hcw (fun a' U hW => word_at hW (Or.inl (by first | rfl | simp [Cond.onTables, Cond.keeps, Cond.steady])) hini)
  obtain ⟨hx, hb, hml, ho, -⟩ := S
  obtain ⟨-, ⟨cellB, hcB, hoB, hclB⟩, hPc⟩ := hp
  intro T hT X
  rcases vx_callVX X hx (C := C) (hh := hh) (bytes := bytes) (maxL := maxL) (ret := ret) ho hl hin hse hcode hy hK (by rw [hT]; exact hcB) hoB hclB hg (hsize.trans hml.symm) (argsL := As) (rest := rest) (fun sig h => hn.trans (hlen sig h)) hstack hW (by rw [hb]; exact hdg)
    (fun vm₁ hW₁ => ⟨hf.1, hf.2, hPc (T.setVm vm₁) hT hW₁⟩) with ⟨v, vm₁, ⟨U', l2, c2, s2⟩, hW₁, X', ⟨g', mk, t, L, e1, e2, hq, h1, hL, h2, h3⟩, st⟩ | ⟨q, vm₁, ⟨U', l2, c2, s2⟩, hW₁, X', ⟨g', mk, t, L, E, ce, e1, e2, hq, hce, hcv, hcl, h1, hL, h2, h3⟩, st⟩
  · dsimp only [Pt.U, Pt.locs, Pt.cells, Pt.slots] at X' e1 e2 h1 h2 h3 st
    subst h1; subst h2; subst h3
    exact Or.inl ⟨v, (T.setVm vm₁).calling g' mk (Value.ref b :: As).toArray, t, U', L, hT, X', hL, e1, e2, hq, st⟩
  · dsimp only [Pt.U, Pt.locs, Pt.cells, Pt.slots] at X' e1 e2 h1 h2 h3 st hcl
    subst h1; subst h2; subst h3
    exact Or.inr ⟨q, (T.setVm vm₁).calling g' mk (Value.ref b :: As).toArray, t, U', L, E, ce, hT, X', hL, e1, e2, hq, hce, hcv, vx_cls hW₁ hcl, st⟩
theorem vx_runSX {hh : List (Nat × Nat × Nat × Nat)} (S : CallFix p m c cc nL s args Ts own) (hM : vx_Met l y ws rm Pc Qc XC mc ms free) (cw : vx_CSW R s args own index y bytes maxL ret hh ws rm mc ms n) (hp : PreS s H Pc As)
    (hg : g.method = m) (hn : As.length = n) (hsize : g.locals.size = nL) (hstack : g.stack = As.reverse ++ rest) (hW : 2 * g.monitorRoom + (rest.map fun v => v.category).sum ≤ 8) (hdg : decode cc g.pc = .ok (.invokestatic index, 3)) (hf : cells + mc ≤ R.cells ∧ slots + ms ≤ R.slots) :
    vx_Run p l e R s m args below meth c H locs cells slots mc ms g rest (Qc As.toArray) XC free := by
  obtain ⟨⟨hrc, hrs, hfr, hlo, hws, hcw⟩, hcode, hini, hy, hlen, hl, hstt⟩ := cw
  have hK : vx_Back l R p e below s args y 3 8 (PreOf R mc ms Pc) (PostOf Qc mc ms free) (vx_Post XC mc ms free) := vx_backW (hh := hh) (bytes := bytes) (maxL := maxL) (ret := ret) hM hp.1 hrc hrs hfr hlo hws hcw (fun a' U hW => word_at hW (Or.inl (by first | rfl | simp [Cond.onTables, Cond.keeps, Cond.steady])) hini)
  obtain ⟨hx, hb, hml, ho, -⟩ := S
  intro T hT X
  rcases vx_callSX X hx (hh := hh) (bytes := bytes) (maxL := maxL) (ret := ret) ho hl hstt hini hcode hy hK hg (hsize.trans hml.symm) (argsL := As) (rest := rest) (fun sig h => hn.trans (hlen sig h)) hstack hW (by rw [hb]; exact hdg)
    (fun vm₁ hW₁ => ⟨hf.1, hf.2, hp.2 (T.setVm vm₁) hT hW₁⟩) with ⟨v, vm₁, ⟨U', l2, c2, s2⟩, hW₁, X', ⟨g', mk, t, L, e1, e2, hq, h1, hL, h2, h3⟩, st⟩ | ⟨q, vm₁, ⟨U', l2, c2, s2⟩, hW₁, X', ⟨g', mk, t, L, E, ce, e1, e2, hq, hce, hcv, hcl, h1, hL, h2, h3⟩, st⟩
  · dsimp only [Pt.U, Pt.locs, Pt.cells, Pt.slots] at X' e1 e2 h1 h2 h3 st
    subst h1; subst h2; subst h3
    exact Or.inl ⟨v, (T.setVm vm₁).calling g' mk As.toArray, t, U', L, hT, X', hL, e1, e2, hq, st⟩
  · dsimp only [Pt.U, Pt.locs, Pt.cells, Pt.slots] at X' e1 e2 h1 h2 h3 st hcl
    subst h1; subst h2; subst h3
    exact Or.inr ⟨q, (T.setVm vm₁).calling g' mk As.toArray, t, U', L, E, ce, hT, X', hL, e1, e2, hq, hce, hcv, vx_cls hW₁ hcl, st⟩
end
end VXH
theorem vx_ofWH {l : Launch} {y : MethodName} {ws ws' : List Cond} {rm : Room} {Pc : Array Value → State → Prop} {Qc : Array Value → State → Outcome → State → Prop} {XC : String → State → State → Prop} {mc ms : Nat} {free : Addr → Prop} {cc : ByteArray} {maxL : Nat} {ret : Option FieldType} {hh : List (Nat × Nat × Nat × Nat)}
    (hy : plainName y.cls = true) (hw : ws = Cond.codeWith y cc maxL ret hh :: ws')
    (body : ∀ p e s m args below meth c s₁, BodyLoose p l y (headSpec ws rm) cc maxL ret e s m args below meth c s₁ → c.maxLocals = maxL → Pc args s →
      W p l e (headSpec ws rm).room s m args below meth c s.heap [] 0 0 (vx_MQ below Qc XC args s mc ms free) (entryFrame m args maxL)) : vx_Met l y ws rm Pc Qc XC mc ms free := by
  refine MetFree.of_bodyS (code := cc) (maxLocals := maxL) (ret := ret) hy ?_ ?_
  · intro args s m h hn
    obtain ⟨m9, meth, c, hn9, h1, h2, h3, h4, -, h5, h6, -⟩ := Cond.codeWith_spec (atoms_spec (ws := ws) h _ (by rw [hw]; exact List.mem_cons_self))
    cases hn.symm.trans hn9
    exact ⟨meth, c, h1, h2, h3, h4, h5, h6⟩
  · intro p e s m args below meth c s₁ B hml hP _
    have hh0 : s₁.heap = s.heap := by rw [B.state]; rfl
    obtain ⟨t, a1, o, b1, b2, b3⟩ := body p e s m args below meth c s₁ B hml hP s₁ hh0 (Stand.of_body B)
    exact ⟨t, o, a1, b1, b2, b3⟩
/-! ===== END ===== -/
/-! ===== BEGIN what the machine throws by itself, no traces kept ===== -/
section VXM
set_option maxHeartbeats 1000000 in
/-- the machine throws cls with the message text, no traces kept: from its note over the frame g to 'throwing' over the same frame (follows the proofs of Stand.vmThrowsMessage, Shelf/KitTracedVmS.lean, and Stand.throwsMessageColdBareV, StandMessageColdV.lean, without the step out of the frame) -/
theorem vx_vmAt {p : Program} {l : Launch} {e : Env} {R : Room} {s : State} {m₀ : MethodId} {args : Array Value} {below : List Frame} {meth : Method} {c : Code} {W : State} {locs : List Loc} {cells slots : Nat}
    (X : Stand p l e R s m₀ args below meth c W locs cells slots) (hexec : p.tables.exec = Jvm.exec) (htr : e.platform.stackTraces = false) {cls : String} {names : List String} {text : String}
    (hcls : Bundle.fit cls = true) (hnames : ∀ n ∈ names, Bundle.fit n = true) (hsoe : (cls == "java/lang/StackOverflowError") = false) (hoom : (cls == "java/lang/OutOfMemoryError") = false)
    (h : ∀ a ∈ Bundle.messageArmAtoms cls names, a.before args s = true)
    (hlocs : ∀ x ∈ locs, ∀ cell, s.heap[x.base]? = some cell → cell.vm.isStatics = false)
    (htext : (text == notModelled) = false) (hlimit : ¬ (stringBytes (stringToUtf16 text)).size > e.platform.arrayLengthLimit) (hheap : ¬ (stringBytes (stringToUtf16 text)).size * componentBytes .byte > e.platform.maxHeapBytes)
    {g : JFrame} (hg : g.method = m₀) (hsize : g.locals.size = c.maxLocals)
    (hRframes : names.length + 4 < R.frames) (hRlocals : 2 * g.monitorRoom + (g.stack.map fun v => v.category).sum + 10240 ≤ R.locals) (hshort : 13 * names.length + 55 ≤ 10240)
    (hRcells : cells + 3 ≤ R.cells) (hRslots : slots + ((stringBytes (stringToUtf16 text)).size + 4 + 6) ≤ R.slots) (hlocks : meth.locks = false) :
    ∃ (S : State) (q : Addr) (ce : Cell), (∀ target, Steps p.tables e below ((S.setTop g).pushFrame (.throwing q)) target → Steps p.tables e below ((W.setTop g).pushFrame (.throwNew cls (some text) none)) target) ∧
      Stand p l e R s m₀ args below meth c S locs (cells + 3) (slots + ((stringBytes (stringToUtf16 text)).size + 4 + 6)) ∧ S.heap[q]? = some ce ∧ s.vm.findClass cls = some ce.cls ∧ ce.vm = .none := by
  have howns : e.platform.frameOwnsMonitors = true := by rw [X.admits.platform]
  have hfin : e.platform.finalization = false := by rw [X.admits.platform]
  have hpl : e.platform.magicAccessors = ({} : Platform).magicAccessors := by rw [X.admits.platform]
  have a : ∀ x, x ∈ Bundle.messageArmAtoms cls names → x.holds args s none s [] = true := fun x hx => h x hx
  obtain ⟨T, Z0, L, -, Y⟩ := ThrowableC.of_atoms (args := args) howns hfin hpl (fun x hx => h x (by simp [Bundle.messageArmAtoms, hx]))
  obtain ⟨Z, M, LZ, LM, hnZ⟩ := Init0T.ofS_atoms (args := args) hpl L Y (fun x hx => h x (by simp [Bundle.messageArmAtoms, hx]))
  obtain ⟨P1, Ps, hlen, L1, hL, hP1m, hlink1, hlink⟩ := Bundle.chainS (args := args) hpl hnZ names cls hcls hnames (fun x hx => h x (by simp [Bundle.messageArmAtoms, hx]))
  obtain ⟨Zs, LZs, hn4, hfitv, hfitc⟩ := StringT.of_atoms (args := args) (fun x hx => h x (by simp [Bundle.messageArmAtoms, hx]))
  have hfound : s.vm.findClass cls = some P1.m.cls := findClass_of_methodNamed hP1m
  obtain ⟨c1, kX, hc1, hk, hord, -, -, hn6⟩ := Cond.instantiable_spec (a (.instantiable cls 6) (by simp [Bundle.messageArmAtoms]))
  cases Option.some.inj (hc1.symm.trans hfound)
  have hinit := Cond.initialized_spec hfound hk (a (.initialized cls) (by simp [Bundle.messageArmAtoms]))
  have hctor : kX.findMethod "<init>" "(Ljava/lang/String;)V" = some P1.m.idx := findMethod_of_methodNamed hP1m hk
  have hsel0 : selectMethod e.platform s.vm P1.m.cls T.fill0 = .method T.fill0 := by
    obtain ⟨c2, r2, m2, q1, q2, q3, q4, -⟩ := Cond.selects_spec (a (.selects cls Bundle.tFill0 Bundle.tFill0) (by simp [Bundle.messageArmAtoms]))
    cases Option.some.inj (q1.symm.trans hfound)
    cases Option.some.inj (q2.symm.trans (State.methodFound?_of_named Y.fill0 (by decide)))
    cases Option.some.inj (q3.symm.trans Y.fill0)
    rw [Launch.admits_selectMethod X.admits]; exact q4
  have hselF : selectMethod e.platform s.vm P1.m.cls T.fill = .method T.fill := by
    obtain ⟨c2, r2, m2, q1, q2, q3, q4, -⟩ := Cond.selects_spec (a (.selects cls Bundle.tFill Bundle.tFill) (by simp [Bundle.messageArmAtoms]))
    cases Option.some.inj (q1.symm.trans hfound)
    cases Option.some.inj (q2.symm.trans (State.methodFound?_of_named Y.fill (by decide)))
    cases Option.some.inj (q3.symm.trans Y.fill)
    rw [Launch.admits_selectMethod X.admits]; exact q4
  obtain ⟨cellS0, hcS0, hiss⟩ := Y.statics
  obtain ⟨u0, hu0⟩ := Cond.staticRefV Y.unassigned L.unassignedStatic L.statics hcS0 hiss (a (.isRef (.static Bundle.tN "UNASSIGNED_STACK" Bundle.steD)) (by simp [Bundle.messageArmAtoms]))
  obtain ⟨sen, hsen⟩ := Cond.staticRefV Y.sentinel L.sentinelStatic L.statics hcS0 hiss (a (.isRef (.static Bundle.tN "SUPPRESSED_SENTINEL" Bundle.listD)) (by simp [Bundle.messageArmAtoms]))
  obtain ⟨ci198, i198, fB, hk198, hg198, ha198, hsB, -, hnB, htB, hffB⟩ := Cond.ownField (t := .object "java/lang/Object") Y.found L.cls (by decide +kernel) (a (.fieldLink Bundle.tN 198 Bundle.tN "backtrace" "Ljava/lang/Object;") (by simp [Bundle.messageArmAtoms])) (a (.lays Bundle.tN Bundle.tN "backtrace" "Ljava/lang/Object;") (by simp [Bundle.messageArmAtoms])) e.platform hpl
  obtain ⟨cellS, hcS', heS, -, hkeep⟩ := X.same.2.2.2.2.2 T.aS cellS0 hcS0
  have hcellS : W.heap[T.aS]? = some cellS := hcS'
  have hout' : ∀ i, (⟨T.aS, i⟩ : Loc) ∉ locs := fun i hmem => by
    have := hlocs _ hmem cellS0 hcS0
    rw [hiss] at this; cases this
  have hknownS : cellS.vm ≠ .unknown := by
    rw [heS]; intro hu
    rw [show cellS0.vm = .unknown from hu] at hiss
    cases hiss
  have hvU : cellS.slots[T.fUnassigned.slot]? = some u0.v := by rw [hkeep _ (hout' _)]; exact hu0
  have hvSen : cellS.slots[T.fSentinel.slot]? = some sen.v := by rw [hkeep _ (hout' _)]; exact hsen
  obtain ⟨iM, hffM⟩ := Y.msg
  obtain ⟨tyC, dC, hdC, hdnC⟩ := Cond.laysAt hfound hk Y.cause (a (.lays cls Bundle.tN "cause" "Ljava/lang/Throwable;") (by simp [Bundle.messageArmAtoms]))
  obtain ⟨tyS, dS, hdS, hdnS⟩ := Cond.laysAt hfound hk Y.stack (a (.lays cls Bundle.tN "stackTrace" Bundle.steD) (by simp [Bundle.messageArmAtoms]))
  obtain ⟨tyP, dP, hdP, hdnP⟩ := Cond.laysAt hfound hk Y.supp (a (.lays cls Bundle.tN "suppressedExceptions" Bundle.listD) (by simp [Bundle.messageArmAtoms]))
  obtain ⟨tyM, dM, hdM, hdnM⟩ := Cond.laysAt hfound hk hffM (a (.lays cls Bundle.tN "detailMessage" "Ljava/lang/String;") (by simp [Bundle.messageArmAtoms]))
  obtain ⟨tyB, dB, hdB, hdnB⟩ := Cond.laysAt hfound hk hffB (a (.lays cls Bundle.tN "backtrace" "Ljava/lang/Object;") (by simp [Bundle.messageArmAtoms]))
  have bC := Cond.laysApart hdB hdC hdnB hdnC (by rw [hnB, Y.causeName]; decide)
  have bS := Cond.laysApart hdB hdS hdnB hdnS (by rw [hnB, Y.stackName]; decide)
  have bP := Cond.laysApart hdB hdP hdnB hdnP (by rw [hnB, Y.suppName]; decide)
  have hbk : ((preparedCellV T.toThrowableT (freshCell P1.m.cls kX) (W.heap.size + 2) u0 sen).withEntry W.cur).slots[fB.slot]? = some .null := by
    have := fresh_default (c := P1.m.cls) tyB
    rw [htB] at this
    simpa [preparedCellV, Cell.setSlot, Cell.withEntry, Array.getElem?_setIfInBounds, bC, bS, bP, bC.symm, bS.symm, bP.symm, defaultValue] using this
  have tkC := Takes.of_laid (v := .ref (W.heap.size + 2)) hk hord tyC (by rw [Y.causeType]; rfl)
  have tkS := Takes.of_laid (v := u0.v) hk hord tyS (by rw [Y.stackType]; exact fits_refV_array _ u0)
  have tkP := Takes.of_laid (v := sen.v) hk hord tyP (by rw [Y.suppType]; exact fits_refV_object _ sen)
  have tkM := Takes.of_laid (v := .ref (W.heap.size + 1)) hk hord tyM (by rw [Y.msgType]; rfl)
  have hskip : SkipFacts T e.platform s (fun u => u) u0 ((preparedCellV T.toThrowableT (freshCell P1.m.cls kX) (W.heap.size + 2) u0 sen).withEntry W.cur) := ⟨{ ci198 := ci198, i198 := i198, fBack := fB }, ⟨hk198, hg198, ha198, hsB⟩, hbk, fun _ _ => rfl⟩
  have h0 : At W g.method c below := by rw [hg]; exact X.here
  obtain ⟨hbeyond, hfreeW⟩ := X.vmMayThrow hsize (.throwNew cls (some text) none) (fun f hf => by cases hf) rfl hRlocals
  have hfr' : W.frames.length + Ps.length + 4 < (e.platform.stackLimits W.me).1 := by have := X.framesAbove hRframes; omega
  have hwd' : (stackUse (.java g :: W.frames.tail)).2 + 13 * Ps.length + 55 ≤ (e.platform.stackLimits W.me).2 := by have := X.stackAbove hsize (K := 13 * Ps.length + 55) (by omega); omega
  have hslots : W.slotsUsed + (stringBytes (stringToUtf16 text)).size + Zs.kS.instanceTypes.size + kX.instanceTypes.size ≤ e.platform.maxSlots := by
    have := X.slotsAbove hRslots
    rw [hn4, hn6]
    omega
  obtain ⟨vm', hW', st⟩ := Steps.vmThrowsMessageColdByV p (s₀ := s) (S := W) (g := g) h0 hexec T L Z LZ M LM X.warmed (t := W.cur) rfl Zs LZs P1 L1 Ps hL hlink1 hlink hsoe hoom hfound hk hinit hord hctor
    (Launch.admits_hotImplicitExceptions X.admits) hbeyond hfreeW htext hlimit hheap (X.cellsAbove hRcells) hslots (hfitv _) (hfitc _)
    (Nn := fun u => u) heapOnly_id (fun _ _ => rfl) (fun _ => rfl) (fun u x y => setCell_twice _ _ _ _) (fun _ => Nat.le_refl _) (cN := ((preparedCellV T.toThrowableT (freshCell P1.m.cls kX) (W.heap.size + 2) u0 sen).withEntry W.cur))
    hsel0 hcellS hknownS hvU tkS (fun _ hu => hu) (fun _ hu => hu) rfl rfl rfl (by simp [preparedCellV, Cell.setSlot, Cell.withEntry]) hskip (fun _ _ hA hW _ hroom _ hrest => L.nativeOff p htr hA hW hroom hrest) hselF hvSen tkC tkP tkM Y.objLocals rfl hfr' hwd'
  rw [plainBareV_eq T.toThrowableT (W.heap.size + 2) u0 sen (.ref (W.heap.size + 1)) W.cur rfl rfl] at st
  obtain ⟨-, -, w3, w4, -, -, -⟩ := withThrown_facts e.platform W Zs text P1.m.cls kX
  have X3 := ((X.pushed (bytesOf Zs.cB (stringToUtf16 text))).pushed (stringAt Zs.cS Zs.kS Zs.fv Zs.fc (stringToUtf16 text) W.heap.size)).pushed (freshCell P1.m.cls kX)
  rw [← withString_eq] at X3
  have X4 := X3.noted hW'
  have ha : (W.heap.size + 2) < ((withThrown W Zs text P1.m.cls kX).setVm vm').heap.size := by show _ < (withThrown W Zs text P1.m.cls kX).heap.size; rw [w3]; omega
  have hcell : ((withThrown W Zs text P1.m.cls kX).setVm vm').heap[(W.heap.size + 2)]? = some (freshCell P1.m.cls kX) := w4
  have X5 := ((((X4.stored hcell T.fCause.slot (.ref (W.heap.size + 2))).storedAgain ha T.fStack.slot u0.v).storedAgain ha T.fSupp.slot sen.v).storedAgain ha T.fStack.slot u0.v).storedAgain ha T.fMsg.slot (.ref (W.heap.size + 1))
  obtain ⟨g₁, hfrM⟩ := X5.frames_eq
  have hU : ((((withThrown W Zs text P1.m.cls kX).setVm vm').setCell (W.heap.size + 2) (plainBareV T.toThrowableT (freshCell P1.m.cls kX) (W.heap.size + 2) u0 sen (.ref (W.heap.size + 1)))).setTop g).pushFrame (.throwing (W.heap.size + 2)) = (((withThrown W Zs text P1.m.cls kX).setVm vm').setCell (W.heap.size + 2) (plainBareV T.toThrowableT (freshCell P1.m.cls kX) (W.heap.size + 2) u0 sen (.ref (W.heap.size + 1)))).setFrames (.throwing (W.heap.size + 2) :: .java g :: below) := by
    rw [State.pushFrame, State.frames_setTop _ hfrM, State.setTop_of_frames _ hfrM, State.setFrames_setFrames]
  have b1 : (bytesOf Zs.cB (stringToUtf16 text)).slots.size = (stringBytes (stringToUtf16 text)).size := by
    rw [(Cell.writeAll_facts _ _).2.2]; simp [bytes0]
  have b2 : (stringAt Zs.cS Zs.kS Zs.fv Zs.fc (stringToUtf16 text) W.heap.size).slots.size = 4 := by simp [string0, Cell.setSlot, hn4]
  have b3 : (freshCell P1.m.cls kX).slots.size = 6 := by simp [hn6]
  rw [b1, b2, b3] at X5
  have e9 : slots + (stringBytes (stringToUtf16 text)).size + 4 + 6 = slots + ((stringBytes (stringToUtf16 text)).size + 4 + 6) := by omega
  rw [e9] at X5
  simp only [List.append_assoc, List.cons_append, List.nil_append] at X5
  refine ⟨((withThrown W Zs text P1.m.cls kX).setVm vm').setCell (W.heap.size + 2) (plainBareV T.toThrowableT (freshCell P1.m.cls kX) (W.heap.size + 2) u0 sen (.ref (W.heap.size + 1))), W.heap.size + 2, _, fun target ht => st _ (by rw [X.tail, ← hU]; exact ht),
    X5.forget (fun y hy => ?_), heapAt_setCell_self _ ha, hfound, rfl⟩
  simp only [List.mem_cons, List.not_mem_nil, or_false] at hy
  have hge : s.heap.size ≤ W.heap.size := X.same.2.1
  rcases hy with rfl | rfl | rfl | rfl | rfl <;> exact Nat.le_trans hge (Nat.le_add_right _ 2)
set_option maxHeartbeats 1000000 in
/-- the machine throws NullPointerException, no traces kept: from its note over the frame g to 'throwing' over the same frame (follows the proof of Stand.vmThrowsNpe, Shelf42/KT2.lean; throwsNpeColdBareVAt, Shelf42/NT91.lean, called) -/
theorem vx_npeAt {p : Program} {l : Launch} {e : Env} {R : Room} {s : State} {m₀ : MethodId} {args : Array Value} {below : List Frame} {meth : Method} {c : Code} {W : State} {locs : List Loc} {cells slots : Nat}
    (X : Stand p l e R s m₀ args below meth c W locs cells slots) (hexec : p.tables.exec = Jvm.exec) (htr : e.platform.stackTraces = false) {n : Nat}
    (h : ∀ a ∈ Bundle.npeArmAtoms n, a.before args s = true)
    (hlocs : ∀ x ∈ locs, ∀ cell, s.heap[x.base]? = some cell → cell.vm.isStatics = false)
    {g : JFrame} (hg : g.method = m₀) (hsize : g.locals.size = c.maxLocals)
    (hRframes : 7 < R.frames) (hRlocals : 2 * g.monitorRoom + (g.stack.map fun v => v.category).sum + 10240 ≤ R.locals)
    (hRcells : cells + 1 ≤ R.cells) (hRslots : slots + n ≤ R.slots) (hlocks : meth.locks = false) :
    ∃ (S : State) (q : Addr) (ce : Cell), (∀ target, Steps p.tables e below ((S.setTop g).pushFrame (.throwing q)) target → Steps p.tables e below ((W.setTop g).pushFrame (.throwNew "java/lang/NullPointerException" none none)) target) ∧
      Stand p l e R s m₀ args below meth c S locs (cells + 1) (slots + n) ∧ S.heap[q]? = some ce ∧ s.vm.findClass "java/lang/NullPointerException" = some ce.cls ∧ ce.vm = .none := by
  have howns : e.platform.frameOwnsMonitors = true := by rw [X.admits.platform]
  have hfin : e.platform.finalization = false := by rw [X.admits.platform]
  have hpl : e.platform.magicAccessors = ({} : Platform).magicAccessors := by rw [X.admits.platform]
  have hpl2 : e.platform.arrayCloneIsPublic = true := by rw [X.admits.platform]
  have a' : ∀ x, x ∈ Bundle.npeArmAtoms n → x.holds args s none s [] = true := fun x hx => h x hx
  obtain ⟨T, Z, L, LZ, Y⟩ := ThrowableC.of_atoms (args := args) howns hfin hpl (fun x hx => h x (by simp [Bundle.npeArmAtoms, hx]))
  obtain ⟨N, LN, hcN, hnNF, hordN, hffS⟩ := NpeC.of_atoms (args := args) hpl hpl2 L Y (fun x hx => h x (by simp [Bundle.npeArmAtoms, hx]))
  obtain ⟨P1, L1, hP1m, hP1s⟩ := PassC.of_atoms (args := args) (s := s) hpl (X := Bundle.nN) (Y := Bundle.rN) (by decide) (by decide) LibCode.NullPointerException.Init0.at_0 LibCode.NullPointerException.Init0.at_1 LibCode.NullPointerException.Init0.at_4 (fun x hx => h x (by simp [Bundle.npeArmAtoms, hx]))
  obtain ⟨PR, LR, hPRm, hPRs⟩ := PassC.of_atoms (args := args) (s := s) hpl (X := Bundle.rN) (Y := Bundle.eN) (by decide) (by decide) LibCode.RuntimeException.Init0.at_0 LibCode.RuntimeException.Init0.at_1 LibCode.RuntimeException.Init0.at_4 (fun x hx => h x (by simp [Bundle.npeArmAtoms, hx]))
  obtain ⟨PE, LEx, hPEm, hPEs⟩ := PassC.of_atoms (args := args) (s := s) hpl (X := Bundle.eN) (Y := Bundle.tN) (by decide) (by decide) LibCode.Exception.Init0.at_0 LibCode.Exception.Init0.at_1 LibCode.Exception.Init0.at_4 (fun x hx => h x (by simp [Bundle.npeArmAtoms, hx]))
  have hfound : s.vm.findClass Bundle.nN = some P1.m.cls := findClass_of_methodNamed hP1m
  have ecls : N.cN = P1.m.cls := Option.some.inj (hcN.symm.trans hfound)
  have hk : s.vm.classes[P1.m.cls]? = some N.kN := by rw [← ecls]; exact LN.cls
  have hinit := Cond.initialized_spec hfound hk (a' (.initialized Bundle.nN) (by simp [Bundle.npeArmAtoms]))
  have hctor : N.kN.findMethod "<init>" "()V" = some P1.m.idx := findMethod_of_methodNamed hP1m hk
  obtain ⟨c1, k1, hc1, hk1, -, -, -, hn⟩ := Cond.instantiable_spec (a' (.instantiable Bundle.nN n) (by simp [Bundle.npeArmAtoms]))
  cases Option.some.inj (hc1.symm.trans hfound)
  cases Option.some.inj (hk1.symm.trans hk)
  have hfsz : (freshCell P1.m.cls N.kN).slots.size = n := by simp [hn]
  have hlink1 : P1.sup = PR.m := Option.some.inj (hP1s.symm.trans hPRm)
  have hlinkR : PR.sup = PE.m := Option.some.inj (hPRs.symm.trans hPEm)
  have hlinkE : PE.sup = Z.m T.toThrowableT := Option.some.inj (hPEs.symm.trans Y.init0)
  have hLs : ∀ P, P ∈ [PR, PE] → P.Links0 e.platform s := fun P hP => by
    simp only [List.mem_cons, List.not_mem_nil, or_false] at hP
    rcases hP with rfl | rfl
    · exact LR
    · exact LEx
  have hsel0 : selectMethod e.platform s.vm P1.m.cls T.fill0 = .method T.fill0 := by
    obtain ⟨c2, r2, m2, q1, q2, q3, q4, -⟩ := Cond.selects_spec (a' (.selects Bundle.nN Bundle.tFill0 Bundle.tFill0) (by simp [Bundle.npeArmAtoms]))
    cases Option.some.inj (q1.symm.trans hfound)
    cases Option.some.inj (q2.symm.trans (State.methodFound?_of_named Y.fill0 (by decide)))
    cases Option.some.inj (q3.symm.trans Y.fill0)
    rw [Launch.admits_selectMethod X.admits]; exact q4
  have hselF : selectMethod e.platform s.vm P1.m.cls T.fill = .method N.fill := by
    obtain ⟨c2, r2, m2, q1, q2, q3, q4, -⟩ := Cond.selects_spec (a' (.selects Bundle.nN Bundle.tFill Bundle.nFill) (by simp [Bundle.npeArmAtoms]))
    cases Option.some.inj (q1.symm.trans hfound)
    cases Option.some.inj (q2.symm.trans (State.methodFound?_of_named Y.fill (by decide)))
    cases Option.some.inj (q3.symm.trans hnNF)
    rw [Launch.admits_selectMethod X.admits]; exact q4
  obtain ⟨cellS0, hcS0, hiss⟩ := Y.statics
  obtain ⟨u0, hu0⟩ := Cond.staticRefV Y.unassigned L.unassignedStatic L.statics hcS0 hiss (a' (.isRef (.static Bundle.tN "UNASSIGNED_STACK" Bundle.steD)) (by simp [Bundle.npeArmAtoms]))
  obtain ⟨sen, hsen⟩ := Cond.staticRefV Y.sentinel L.sentinelStatic L.statics hcS0 hiss (a' (.isRef (.static Bundle.tN "SUPPRESSED_SENTINEL" Bundle.listD)) (by simp [Bundle.npeArmAtoms]))
  obtain ⟨ci198, i198, fB, hk198, hg198, ha198, hsB, -, hnB, htB, hffB⟩ := Cond.ownField (t := .object "java/lang/Object") Y.found L.cls (by decide +kernel) (a' (.fieldLink Bundle.tN 198 Bundle.tN "backtrace" Bundle.objD) (by simp [Bundle.npeArmAtoms])) (a' (.lays Bundle.tN Bundle.tN "backtrace" Bundle.objD) (by simp [Bundle.npeArmAtoms])) e.platform hpl
  obtain ⟨cellS, hcS', heS, -, hkeep⟩ := X.same.2.2.2.2.2 T.aS cellS0 hcS0
  have hcellS : W.heap[T.aS]? = some cellS := hcS'
  have hout' : ∀ i, (⟨T.aS, i⟩ : Loc) ∉ locs := fun i hmem => by
    have := hlocs _ hmem cellS0 hcS0
    rw [hiss] at this; cases this
  have hknownS : cellS.vm ≠ .unknown := by
    rw [heS]; intro hu
    rw [show cellS0.vm = .unknown from hu] at hiss
    cases hiss
  have hvU : cellS.slots[T.fUnassigned.slot]? = some u0.v := by rw [hkeep _ (hout' _)]; exact hu0
  have hvSen : cellS.slots[T.fSentinel.slot]? = some sen.v := by rw [hkeep _ (hout' _)]; exact hsen
  obtain ⟨tyC, dC, hdC, hdnC⟩ := Cond.laysAt hfound hk Y.cause (a' (.lays Bundle.nN Bundle.tN "cause" "Ljava/lang/Throwable;") (by simp [Bundle.npeArmAtoms]))
  obtain ⟨tyS, dS, hdS, hdnS⟩ := Cond.laysAt hfound hk Y.stack (a' (.lays Bundle.nN Bundle.tN "stackTrace" Bundle.steD) (by simp [Bundle.npeArmAtoms]))
  obtain ⟨tyP, dP, hdP, hdnP⟩ := Cond.laysAt hfound hk Y.supp (a' (.lays Bundle.nN Bundle.tN "suppressedExceptions" Bundle.listD) (by simp [Bundle.npeArmAtoms]))
  obtain ⟨tyX, dX, hdX, hdnX⟩ := Cond.laysAt hfound hk hffS (a' (.lays Bundle.nN Bundle.nN "extendedMessageState" "I") (by simp [Bundle.npeArmAtoms, Bundle.npeAtoms]))
  obtain ⟨hnX, htX⟩ := State.fieldFound?_type hffS (t := .int) (by decide +kernel)
  have xC := Cond.laysApart hdC hdX hdnC hdnX (by rw [hnX, Y.causeName]; decide)
  have xS := Cond.laysApart hdS hdX hdnS hdnX (by rw [hnX, Y.stackName]; decide)
  have xP := Cond.laysApart hdP hdX hdnP hdnX (by rw [hnX, Y.suppName]; decide)
  have hv0 : (freshCell P1.m.cls N.kN).slots[N.fState.slot]? = some (.int 0) := by
    have := fresh_default (c := P1.m.cls) tyX
    rw [htX] at this; exact this
  obtain ⟨tyB, dB, hdB, hdnB⟩ := Cond.laysAt hfound hk hffB (a' (.lays Bundle.nN Bundle.tN "backtrace" Bundle.objD) (by simp [Bundle.npeArmAtoms]))
  have bC := Cond.laysApart hdB hdC hdnB hdnC (by rw [hnB, Y.causeName]; decide)
  have bS := Cond.laysApart hdB hdS hdnB hdnS (by rw [hnB, Y.stackName]; decide)
  have bP := Cond.laysApart hdB hdP hdnB hdnP (by rw [hnB, Y.suppName]; decide)
  have bX := Cond.laysApart hdB hdX hdnB hdnX (by rw [hnB, hnX]; decide)
  have hbk : ((npeCell N.toNpeT (preparedCellV T.toThrowableT (freshCell P1.m.cls N.kN) W.heap.size u0 sen) W.cur).withEntry W.cur).slots[fB.slot]? = some .null := by
    have := fresh_default (c := P1.m.cls) tyB
    rw [htB] at this
    simpa [npeCell, preparedCellV, Cell.setSlot, Cell.withEntry, Array.getElem?_setIfInBounds, bC, bS, bP, bX, bC.symm, bS.symm, bP.symm, bX.symm, defaultValue] using this
  have tkC := Takes.of_laid (v := .ref W.heap.size) hk hordN tyC (by rw [Y.causeType]; rfl)
  have tkS := Takes.of_laid (v := u0.v) hk hordN tyS (by rw [Y.stackType]; exact fits_refV_array _ u0)
  have tkP := Takes.of_laid (v := sen.v) hk hordN tyP (by rw [Y.suppType]; exact fits_refV_object _ sen)
  have tkX := Takes.of_laid (v := .int 1) hk hordN tyX (by rw [htX]; rfl)
  have hskip : SkipFacts T e.platform s (fun u => u) u0 ((npeCell N.toNpeT (preparedCellV T.toThrowableT (freshCell P1.m.cls N.kN) W.heap.size u0 sen) W.cur).withEntry W.cur) := ⟨{ ci198 := ci198, i198 := i198, fBack := fB }, ⟨hk198, hg198, ha198, hsB⟩, hbk, fun _ _ => rfl⟩
  obtain ⟨vm', X3, st, -⟩ := X.throwsNpeColdBareVAt hexec hg hsize T L Z LZ N LN P1 L1 [PR, PE] hLs hlink1 ⟨hlinkR, hlinkE, trivial⟩ hfound hk hinit hordN hctor hsel0 hselF hcellS hknownS hvU hvSen
    hv0 xC xS xP tkC tkS tkP tkX Y.objLocals hskip (fun _ _ hA hW _ hroom _ hrest => L.nativeOff p htr hA hW hroom hrest) (by simpa using hRframes) hRlocals (by simp) hRcells (by rw [hn]; exact hRslots)
  have hlt : W.heap.size < ((W.pushCell (freshCell P1.m.cls N.kN)).setVm vm').heap.size := by
    show W.heap.size < (W.pushCell (freshCell P1.m.cls N.kN)).heap.size
    rw [State.heap_size_pushCell]; omega
  rw [hfsz] at X3
  obtain ⟨g₁, hfrM⟩ := X3.frames_eq
  have hU : ((((W.pushCell (freshCell P1.m.cls N.kN)).setVm vm').setCell W.heap.size (npeBareV T.toThrowableT N.toNpeT (freshCell P1.m.cls N.kN) W.heap.size u0 sen)).setTop g).pushFrame (.throwing W.heap.size) = (((W.pushCell (freshCell P1.m.cls N.kN)).setVm vm').setCell W.heap.size (npeBareV T.toThrowableT N.toNpeT (freshCell P1.m.cls N.kN) W.heap.size u0 sen)).setFrames (.throwing W.heap.size :: .java g :: below) := by
    rw [State.pushFrame, State.frames_setTop _ hfrM, State.setTop_of_frames _ hfrM, State.setFrames_setFrames]
  refine ⟨_, W.heap.size, _, fun target ht => st.trans (by rw [← hU]; exact ht), X3.forget (fun y hy => ?_), heapAt_setCell_self _ hlt, hfound, rfl⟩
  simp only [List.mem_cons, List.not_mem_nil, or_false] at hy
  have hge : s.heap.size ≤ W.heap.size := X.same.2.1
  rcases hy with rfl | rfl | rfl | rfl | rfl <;> exact hge
/-- the words of a machine's NullPointerException, but the four that speak of the heap -/
def vx_atN (n : Nat) : List Cond := (Bundle.npeArmAtoms n).filter vx_no
/-- the words of a machine's throw with a message, but the four that speak of the heap -/
def vx_atM (X : String) (names : List String) : List Cond := (Bundle.messageArmAtoms X names).filter vx_no
section
variable {p : Program} {l : Launch} {e : Env} {R : Room} {s : State} {m : MethodId} {args : Array Value} {below : List Frame} {meth : Method} {c : Code} {H : Heap} {locs : List Loc} {cells slots : Nat}
/-- a frame seen from a rebased start, seen from the first start again -/
theorem vx_back9 {T S : State} {R' : Room} {k n : Nat} (X : Stand p l e R s m args below meth c T locs cells slots) (Y : Stand p l e R' ((T.setVm s.vm).setFrames (.invoking m args :: below)) m args below meth c T [] 0 0) (Z : Stand p l e R' ((T.setVm s.vm).setFrames (.invoking m args :: below)) m args below meth c S [] k n) :
    Stand p l e R s m args below meth c S locs (cells + k) (slots + n) := by
  have hW0 : s.WarmedH ((T.setVm s.vm).setFrames (.invoking m args :: below)).vm := State.WarmedH.refl s
  refine { admits := X.admits, cas := X.cas, clock := X.clock, frames := X.frames, room := X.room, hears := X.hears, method := X.method, code := X.code, here := Z.here, tail := Z.tail, warmed := State.WarmedH.trans hW0 Z.warmed, limits := Z.limits.trans (Y.limits.symm.trans X.limits), bytes := Z.bytes.trans (Y.bytes.symm.trans X.bytes), same := ?_ }
  obtain ⟨e1, e2⟩ := Z.same
  rw [State.setFrames_setFrames] at e1
  have h2 : (T.setVm s.vm).sameButNew (S.setVm s.vm) [] k n := ⟨e1, e2⟩
  have h3 := X.same.trans h2
  rw [List.append_nil] at h3
  exact h3
/-- from the machine's note that E is thrown here with this text -/
def vx_Note (p : Program) (l : Launch) (e : Env) (R : Room) (s : State) (m : MethodId) (args : Array Value) (below : List Frame) (meth : Method) (c : Code) (H : Heap) (locs : List Loc) (cells slots : Nat) (Q : State → Prop) (g : JFrame) (E text : String) : Prop :=
  ∀ T : State, T.heap = H → Stand p l e R s m args below meth c T locs cells slots → ∃ t, Steps p.tables e below ((T.setTop g).pushFrame (.throwNew E (some text) none)) t ∧ Q t
theorem vx_vm {pc : Nat} {ls : Array Slot} {rest : List Value} {Q : State → Prop} (hexec : p.tables.exec = Jvm.exec) (hl : l.stackTraces = false) {cls text : String} {names : List String} {nb : Nat} {A : Nat → Prop}
    (hcls : Bundle.fit cls = true) (hnames : ∀ n ∈ names, Bundle.fit n = true) (hsoe : (cls == "java/lang/StackOverflowError") = false) (hoom : (cls == "java/lang/OutOfMemoryError") = false)
    (hat : ∀ w ∈ vx_atM cls names, w.before args s = true) (hgood : ∀ w ∈ vx_atM cls names, vx_ot w = true)
    (hU : vx_Zq Bundle.tN "UNASSIGNED_STACK" Bundle.steD A s s.heap) (hN : vx_Zq Bundle.tN "SUPPRESSED_SENTINEL" Bundle.listD A s s.heap) (hS : va_S A s.heap H locs) (hsize : ls.size = c.maxLocals)
    (htext : (text == notModelled) = false) (hnb : (stringBytes (stringToUtf16 text)).size ≤ nb) (hnb1 : nb ≤ 1000)
    (hRframes : names.length + 4 < R.frames) (hRlocals : (rest.map fun v => v.category).sum + 10240 ≤ R.locals) (hshort : 13 * names.length + 55 ≤ 10240) (hRcells : cells + 3 ≤ R.cells) (hRslots : slots + (nb + 10) ≤ R.slots) (hlocks : meth.locks = false)
    (k : ∀ (H1 : Heap) (q9 : Addr) (ce : Cell), H.size ≤ H1.size → (∀ q : Nat, q < H.size → H1[q]? = H[q]?) → va_S A s.heap H1 locs → H1[q9]? = some ce → ce.vm = .none → s.vm.findClass cls = some ce.cls → vx_W p l e R s m args below meth c H1 locs (cells + 3) (slots + (nb + 10)) Q (F0 m pc ls rest) q9) :
    vx_Note p l e R s m args below meth c H locs cells slots Q (F0 m pc ls rest) cls text := by
  intro T hT X
  have htr : e.platform.stackTraces = false := (show e.platform.stackTraces = l.stackTraces by rw [X.admits.platform]).trans hl
  have Y := vx_rebase X (R' := { frames := R.frames, locals := R.locals, cells := 3, slots := nb + 10 }) (Nat.le_refl _) (Nat.le_refl _) hRcells hRslots
  have hhp : ((T.setVm s.vm).setFrames (.invoking m args :: below)).heap = H := hT
  have hW0 : s.WarmedH ((T.setVm s.vm).setFrames (.invoking m args :: below)).vm := State.WarmedH.refl s
  have hat' : ∀ w ∈ vx_atM cls names, w.before args ((T.setVm s.vm).setFrames (.invoking m args :: below)) = true := fun w hw => vx_ot_at hW0 rfl (hgood w hw) (hat w hw)
  have hU' : vx_Zq Bundle.tN "UNASSIGNED_STACK" Bundle.steD A ((T.setVm s.vm).setFrames (.invoking m args :: below)) ((T.setVm s.vm).setFrames (.invoking m args :: below)).heap := by rw [hhp]; exact vx_Zq.moved hW0.alike (hU.kept hS.2.1)
  have hN' : vx_Zq Bundle.tN "SUPPRESSED_SENTINEL" Bundle.listD A ((T.setVm s.vm).setFrames (.invoking m args :: below)) ((T.setVm s.vm).setFrames (.invoking m args :: below)).heap := by rw [hhp]; exact vx_Zq.moved hW0.alike (hN.kept hS.2.1)
  obtain ⟨S, q, ce, st, Z, hce, hcl', hv⟩ := vx_vmAt Y hexec htr (cls := cls) (names := names) (text := text) hcls hnames hsoe hoom (vx_own hat' (vx_isRefq hU'.1) (vx_isRefq hN'.1) hU'.2.word hN'.2.word) (fun x hx => nomatch hx) htext
    (by rw [Launch.admits_arrayLengthLimit X.admits]; omega) (by rw [Launch.admits_maxHeapBytes X.admits]; simp only [componentBytes]; omega)
    (g := F0 m pc ls rest) rfl hsize hRframes (by show 2 * 0 + (rest.map fun v => v.category).sum + 10240 ≤ R.locals; omega) hshort (by show 0 + 3 ≤ 3; omega) (by show 0 + (_ + 4 + 6) ≤ nb + 10; omega) hlocks
  obtain ⟨f1, f2⟩ := vx_frame Z.same
  have f1' : H.size ≤ S.heap.size := by rw [← hT]; exact f1
  have f2' : ∀ q : Nat, q < H.size → S.heap[q]? = H[q]? := fun q hq => by
    rw [← hT]
    exact f2 q (by rw [← hT] at hq; exact hq) (fun z hz => nomatch hz)
  have X5 := vx_back9 X Y Z
  have X6 : Stand p l e R s m args below meth c S locs (cells + 3) (slots + (nb + 10)) := { X5 with same := X5.same.mono (by omega) (by omega) }
  obtain ⟨t, a1, b1⟩ := k S.heap q ce f1' f2' ⟨Nat.le_trans hS.1 f1', fun q h1 h2 => (f2' q (Nat.lt_of_lt_of_le h1 hS.1)).trans (hS.2.1 q h1 h2), hS.2.2⟩ hce hv hcl' S rfl X6
  exact ⟨t, st t a1, b1⟩
/-- from the machine's note that NullPointerException is thrown here -/
def vx_NoteN (p : Program) (l : Launch) (e : Env) (R : Room) (s : State) (m : MethodId) (args : Array Value) (below : List Frame) (meth : Method) (c : Code) (H : Heap) (locs : List Loc) (cells slots : Nat) (Q : State → Prop) (g : JFrame) : Prop :=
  ∀ T : State, T.heap = H → Stand p l e R s m args below meth c T locs cells slots → ∃ t, Steps p.tables e below ((T.setTop g).pushFrame (.throwNew "java/lang/NullPointerException" none none)) t ∧ Q t
theorem vx_npe {pc : Nat} {ls : Array Slot} {rest : List Value} {Q : State → Prop} (hexec : p.tables.exec = Jvm.exec) (hl : l.stackTraces = false) {nb : Nat} {A : Nat → Prop}
    (hat : ∀ w ∈ vx_atN nb, w.before args s = true) (hgood : ∀ w ∈ vx_atN nb, vx_ot w = true)
    (hU : vx_Zq Bundle.tN "UNASSIGNED_STACK" Bundle.steD A s s.heap) (hN : vx_Zq Bundle.tN "SUPPRESSED_SENTINEL" Bundle.listD A s s.heap) (hS : va_S A s.heap H locs) (hsize : ls.size = c.maxLocals)
    (hRframes : 7 < R.frames) (hRlocals : (rest.map fun v => v.category).sum + 10240 ≤ R.locals) (hRcells : cells + 1 ≤ R.cells) (hRslots : slots + nb ≤ R.slots) (hlocks : meth.locks = false)
    (k : ∀ (H1 : Heap) (q9 : Addr) (ce : Cell), H.size ≤ H1.size → (∀ q : Nat, q < H.size → H1[q]? = H[q]?) → va_S A s.heap H1 locs → H1[q9]? = some ce → ce.vm = .none → s.vm.findClass "java/lang/NullPointerException" = some ce.cls → vx_W p l e R s m args below meth c H1 locs (cells + 1) (slots + nb) Q (F0 m pc ls rest) q9) :
    vx_NoteN p l e R s m args below meth c H locs cells slots Q (F0 m pc ls rest) := by
  intro T hT X
  have htr : e.platform.stackTraces = false := (show e.platform.stackTraces = l.stackTraces by rw [X.admits.platform]).trans hl
  have Y := vx_rebase X (R' := { frames := R.frames, locals := R.locals, cells := 1, slots := nb }) (Nat.le_refl _) (Nat.le_refl _) hRcells hRslots
  have hhp : ((T.setVm s.vm).setFrames (.invoking m args :: below)).heap = H := hT
  have hW0 : s.WarmedH ((T.setVm s.vm).setFrames (.invoking m args :: below)).vm := State.WarmedH.refl s
  have hat' : ∀ w ∈ vx_atN nb, w.before args ((T.setVm s.vm).setFrames (.invoking m args :: below)) = true := fun w hw => vx_ot_at hW0 rfl (hgood w hw) (hat w hw)
  have hU' : vx_Zq Bundle.tN "UNASSIGNED_STACK" Bundle.steD A ((T.setVm s.vm).setFrames (.invoking m args :: below)) ((T.setVm s.vm).setFrames (.invoking m args :: below)).heap := by rw [hhp]; exact vx_Zq.moved hW0.alike (hU.kept hS.2.1)
  have hN' : vx_Zq Bundle.tN "SUPPRESSED_SENTINEL" Bundle.listD A ((T.setVm s.vm).setFrames (.invoking m args :: below)) ((T.setVm s.vm).setFrames (.invoking m args :: below)).heap := by rw [hhp]; exact vx_Zq.moved hW0.alike (hN.kept hS.2.1)
  obtain ⟨S, q, ce, st, Z, hce, hcl', hv⟩ := vx_npeAt Y hexec htr (n := nb) (vx_own hat' (vx_isRefq hU'.1) (vx_isRefq hN'.1) hU'.2.word hN'.2.word) (fun x hx => nomatch hx)
    (g := F0 m pc ls rest) rfl hsize hRframes (by show 2 * 0 + (rest.map fun v => v.category).sum + 10240 ≤ R.locals; omega) (by show 0 + 1 ≤ 1; omega) (by show 0 + nb ≤ nb; omega) hlocks
  obtain ⟨f1, f2⟩ := vx_frame Z.same
  have f1' : H.size ≤ S.heap.size := by rw [← hT]; exact f1
  have f2' : ∀ q : Nat, q < H.size → S.heap[q]? = H[q]? := fun q hq => by
    rw [← hT]
    exact f2 q (by rw [← hT] at hq; exact hq) (fun z hz => nomatch hz)
  have X5 := vx_back9 X Y Z
  have X6 : Stand p l e R s m args below meth c S locs (cells + 1) (slots + nb) := { X5 with same := X5.same.mono (by omega) (by omega) }
  obtain ⟨t, a1, b1⟩ := k S.heap q ce f1' f2' ⟨Nat.le_trans hS.1 f1', fun q h1 h2 => (f2' q (Nat.lt_of_lt_of_le h1 hS.1)).trans (hS.2.1 q h1 h2), hS.2.2⟩ hce hv hcl' S rfl X6
  exact ⟨t, st t a1, b1⟩
variable {Q : State → Prop} {cc : ByteArray} {pc : Nat} {ls : Array Slot} {rest : List Value}
theorem vx_idivZ (hexec : p.tables.exec = Jvm.exec) (hb : c.code = cc) {a b : Int32} (h0 : b = 0) (d : decode cc pc = .ok (.idiv, 1)) (k : vx_Note p l e R s m args below meth c H locs cells slots Q (F0 m pc ls rest) "java/lang/ArithmeticException" "/ by zero") :
    W p l e R s m args below meth c H locs cells slots Q (F0 m pc ls (.int b :: .int a :: rest)) := by
  intro T hT X
  obtain ⟨t, st, q⟩ := k T hT X
  exact ⟨t, X.idivZero hexec (g := F0 m pc ls (.int b :: .int a :: rest)) rfl (a := a) (rest := rest) (by rw [h0]) (by rw [hb]; exact d) t st, q⟩
theorem vx_iremZ (hexec : p.tables.exec = Jvm.exec) (hb : c.code = cc) {a b : Int32} (h0 : b = 0) (d : decode cc pc = .ok (.irem, 1)) (k : vx_Note p l e R s m args below meth c H locs cells slots Q (F0 m pc ls rest) "java/lang/ArithmeticException" "/ by zero") :
    W p l e R s m args below meth c H locs cells slots Q (F0 m pc ls (.int b :: .int a :: rest)) := by
  intro T hT X
  obtain ⟨t, st, q⟩ := k T hT X
  exact ⟨t, X.iremZero hexec (g := F0 m pc ls (.int b :: .int a :: rest)) rfl (a := a) (rest := rest) (by rw [h0]) (by rw [hb]; exact d) t st, q⟩
theorem vx_ldivZ (hexec : p.tables.exec = Jvm.exec) (hb : c.code = cc) {a b : Int64} (h0 : b = 0) (d : decode cc pc = .ok (.ldiv, 1)) (k : vx_Note p l e R s m args below meth c H locs cells slots Q (F0 m pc ls rest) "java/lang/ArithmeticException" "/ by zero") :
    W p l e R s m args below meth c H locs cells slots Q (F0 m pc ls (.long b :: .long a :: rest)) := by
  intro T hT X
  obtain ⟨t, st, q⟩ := k T hT X
  exact ⟨t, X.ldivZero hexec (g := F0 m pc ls (.long b :: .long a :: rest)) rfl (a := a) (rest := rest) (by rw [h0]) (by rw [hb]; exact d) t st, q⟩
theorem vx_lremZ (hexec : p.tables.exec = Jvm.exec) (hb : c.code = cc) {a b : Int64} (h0 : b = 0) (d : decode cc pc = .ok (.lrem, 1)) (k : vx_Note p l e R s m args below meth c H locs cells slots Q (F0 m pc ls rest) "java/lang/ArithmeticException" "/ by zero") :
    W p l e R s m args below meth c H locs cells slots Q (F0 m pc ls (.long b :: .long a :: rest)) := by
  intro T hT X
  obtain ⟨t, st, q⟩ := k T hT X
  exact ⟨t, X.lremZero hexec (g := F0 m pc ls (.long b :: .long a :: rest)) rfl (a := a) (rest := rest) (by rw [h0]) (by rw [hb]; exact d) t st, q⟩
theorem vx_ialdZ {D : va_G} {cl : List vw_C} {ws : va_W} {tys : List (ClassId × FieldType)} {a : Nat} (hexec : p.tables.exec = Jvm.exec) (hb : c.code = cc) (hK : va_K D cl tys s) (hP : va_P D cl ws H) (q0 t0 : Nat) {cA : ClassId} {n : Nat} {f : Nat → Int32} (ha : ws[q0]? = some (a, .inl (cA, n, .inl f))) (ht : tys[t0]? = some (cA, .int)) {i : Int32} (hout : ¬ vp_in i n) (hdg : decode cc pc = .ok (.iaload, 1))
    (k : ∀ tx : String, tx = (toString "Index " ++ toString i ++ toString " out of bounds for length " ++ toString n : String) → vx_Note p l e R s m args below meth c H locs cells slots Q (F0 m pc ls rest) "java/lang/ArrayIndexOutOfBoundsException" tx) : W p l e R s m args below meth c H locs cells slots Q (F0 m pc ls (.int i :: .ref a :: rest)) := by
  intro T hT X
  obtain ⟨t, st, q⟩ := k _ rfl T hT X
  refine ⟨t, ?_, q⟩
  have h1 := X.ialoadOut hexec (by rw [hT]; exact hP q0 _ ha) ((hK.2 t0 _ ht).1 n (fun j => .int (f j))) (j := i) (by show (i < 0 ∨ (arrV _ _ _).slots.size ≤ _); rw [arrV_size]; exact Classical.byContradiction hout) (g := F0 m pc ls (.int i :: .ref a :: rest)) rfl (rest := rest) rfl (by rw [hb]; exact hdg) t
  simp only [arrV_size] at h1
  exact h1 st
theorem vx_iastZ {D : va_G} {cl : List vw_C} {ws : va_W} {tys : List (ClassId × FieldType)} {a : Nat} (hexec : p.tables.exec = Jvm.exec) (hb : c.code = cc) (hK : va_K D cl tys s) (hP : va_P D cl ws H) (q0 t0 : Nat) {cA : ClassId} {n : Nat} {f : Nat → Int32} (ha : ws[q0]? = some (a, .inl (cA, n, .inl f))) (ht : tys[t0]? = some (cA, .int)) {i : Int32} {x : Int32} (hout : ¬ vp_in i n) (hdg : decode cc pc = .ok (.iastore, 1))
    (k : ∀ tx : String, tx = (toString "Index " ++ toString i ++ toString " out of bounds for length " ++ toString n : String) → vx_Note p l e R s m args below meth c H locs cells slots Q (F0 m pc ls rest) "java/lang/ArrayIndexOutOfBoundsException" tx) : W p l e R s m args below meth c H locs cells slots Q (F0 m pc ls (.int x :: .int i :: .ref a :: rest)) := by
  intro T hT X
  obtain ⟨t, st, q⟩ := k _ rfl T hT X
  refine ⟨t, ?_, q⟩
  have h1 := X.iastoreOut hexec (by rw [hT]; exact hP q0 _ ha) ((hK.2 t0 _ ht).1 n (fun j => .int (f j))) (j := i) (by show (i < 0 ∨ (arrV _ _ _).slots.size ≤ _); rw [arrV_size]; exact Classical.byContradiction hout) (g := F0 m pc ls (.int x :: .int i :: .ref a :: rest)) rfl (rest := rest) rfl (by rw [hb]; exact hdg) t
  simp only [arrV_size] at h1
  exact h1 st
theorem vx_baldZ {D : va_G} {cl : List vw_C} {ws : va_W} {tys : List (ClassId × FieldType)} {a : Nat} (hexec : p.tables.exec = Jvm.exec) (hb : c.code = cc) (hK : va_K D cl tys s) (hP : va_P D cl ws H) (q0 t0 : Nat) {cA : ClassId} {n : Nat} {f : Nat → Int32} (ha : ws[q0]? = some (a, .inl (cA, n, .inl f))) (ht : tys[t0]? = some (cA, .byte)) {i : Int32} (hout : ¬ vp_in i n) (hdg : decode cc pc = .ok (.baload, 1))
    (k : ∀ tx : String, tx = (toString "Index " ++ toString i ++ toString " out of bounds for length " ++ toString n : String) → vx_Note p l e R s m args below meth c H locs cells slots Q (F0 m pc ls rest) "java/lang/ArrayIndexOutOfBoundsException" tx) : W p l e R s m args below meth c H locs cells slots Q (F0 m pc ls (.int i :: .ref a :: rest)) := by
  intro T hT X
  obtain ⟨t, st, q⟩ := k _ rfl T hT X
  refine ⟨t, ?_, q⟩
  have h1 := X.baloadOut hexec (by rw [hT]; exact hP q0 _ ha) ((hK.2 t0 _ ht).1 n (fun j => .int (f j))) (j := i) (by show (i < 0 ∨ (arrV _ _ _).slots.size ≤ _); rw [arrV_size]; exact Classical.byContradiction hout) (g := F0 m pc ls (.int i :: .ref a :: rest)) rfl (rest := rest) rfl (by rw [hb]; exact hdg) t
  simp only [arrV_size] at h1
  exact h1 st
theorem vx_bastZ {D : va_G} {cl : List vw_C} {ws : va_W} {tys : List (ClassId × FieldType)} {a : Nat} (hexec : p.tables.exec = Jvm.exec) (hb : c.code = cc) (hK : va_K D cl tys s) (hP : va_P D cl ws H) (q0 t0 : Nat) {cA : ClassId} {n : Nat} {f : Nat → Int32} (ha : ws[q0]? = some (a, .inl (cA, n, .inl f))) (ht : tys[t0]? = some (cA, .byte)) {i : Int32} {x : Int32} (hout : ¬ vp_in i n) (hdg : decode cc pc = .ok (.bastore, 1))
    (k : ∀ tx : String, tx = (toString "Index " ++ toString i ++ toString " out of bounds for length " ++ toString n : String) → vx_Note p l e R s m args below meth c H locs cells slots Q (F0 m pc ls rest) "java/lang/ArrayIndexOutOfBoundsException" tx) : W p l e R s m args below meth c H locs cells slots Q (F0 m pc ls (.int x :: .int i :: .ref a :: rest)) := by
  intro T hT X
  obtain ⟨t, st, q⟩ := k _ rfl T hT X
  refine ⟨t, ?_, q⟩
  have h1 := X.bastoreOut hexec (by rw [hT]; exact hP q0 _ ha) ((hK.2 t0 _ ht).1 n (fun j => .int (f j))) (j := i) (by show (i < 0 ∨ (arrV _ _ _).slots.size ≤ _); rw [arrV_size]; exact Classical.byContradiction hout) (g := F0 m pc ls (.int x :: .int i :: .ref a :: rest)) rfl (rest := rest) rfl (by rw [hb]; exact hdg) t
  simp only [arrV_size] at h1
  exact h1 st
theorem vx_zaldZ {D : va_G} {cl : List vw_C} {ws : va_W} {tys : List (ClassId × FieldType)} {a : Nat} (hexec : p.tables.exec = Jvm.exec) (hb : c.code = cc) (hK : va_K D cl tys s) (hP : va_P D cl ws H) (q0 t0 : Nat) {cA : ClassId} {n : Nat} {f : Nat → Int32} (ha : ws[q0]? = some (a, .inl (cA, n, .inl f))) (ht : tys[t0]? = some (cA, .boolean)) {i : Int32} (hout : ¬ vp_in i n) (hdg : decode cc pc = .ok (.baload, 1))
    (k : ∀ tx : String, tx = (toString "Index " ++ toString i ++ toString " out of bounds for length " ++ toString n : String) → vx_Note p l e R s m args below meth c H locs cells slots Q (F0 m pc ls rest) "java/lang/ArrayIndexOutOfBoundsException" tx) : W p l e R s m args below meth c H locs cells slots Q (F0 m pc ls (.int i :: .ref a :: rest)) := by
  intro T hT X
  obtain ⟨t, st, q⟩ := k _ rfl T hT X
  refine ⟨t, ?_, q⟩
  have h1 := X.baloadOut hexec (by rw [hT]; exact hP q0 _ ha) ((hK.2 t0 _ ht).1 n (fun j => .int (f j))) (j := i) (by show (i < 0 ∨ (arrV _ _ _).slots.size ≤ _); rw [arrV_size]; exact Classical.byContradiction hout) (g := F0 m pc ls (.int i :: .ref a :: rest)) rfl (rest := rest) rfl (by rw [hb]; exact hdg) t
  simp only [arrV_size] at h1
  exact h1 st
theorem vx_zastZ {D : va_G} {cl : List vw_C} {ws : va_W} {tys : List (ClassId × FieldType)} {a : Nat} (hexec : p.tables.exec = Jvm.exec) (hb : c.code = cc) (hK : va_K D cl tys s) (hP : va_P D cl ws H) (q0 t0 : Nat) {cA : ClassId} {n : Nat} {f : Nat → Int32} (ha : ws[q0]? = some (a, .inl (cA, n, .inl f))) (ht : tys[t0]? = some (cA, .boolean)) {i : Int32} {x : Int32} (hout : ¬ vp_in i n) (hdg : decode cc pc = .ok (.bastore, 1))
    (k : ∀ tx : String, tx = (toString "Index " ++ toString i ++ toString " out of bounds for length " ++ toString n : String) → vx_Note p l e R s m args below meth c H locs cells slots Q (F0 m pc ls rest) "java/lang/ArrayIndexOutOfBoundsException" tx) : W p l e R s m args below meth c H locs cells slots Q (F0 m pc ls (.int x :: .int i :: .ref a :: rest)) := by
  intro T hT X
  obtain ⟨t, st, q⟩ := k _ rfl T hT X
  refine ⟨t, ?_, q⟩
  have h1 := X.bastoreOut hexec (by rw [hT]; exact hP q0 _ ha) ((hK.2 t0 _ ht).1 n (fun j => .int (f j))) (j := i) (by show (i < 0 ∨ (arrV _ _ _).slots.size ≤ _); rw [arrV_size]; exact Classical.byContradiction hout) (g := F0 m pc ls (.int x :: .int i :: .ref a :: rest)) rfl (rest := rest) rfl (by rw [hb]; exact hdg) t
  simp only [arrV_size] at h1
  exact h1 st
theorem vx_caldZ {D : va_G} {cl : List vw_C} {ws : va_W} {tys : List (ClassId × FieldType)} {a : Nat} (hexec : p.tables.exec = Jvm.exec) (hb : c.code = cc) (hK : va_K D cl tys s) (hP : va_P D cl ws H) (q0 t0 : Nat) {cA : ClassId} {n : Nat} {f : Nat → Int32} (ha : ws[q0]? = some (a, .inl (cA, n, .inl f))) (ht : tys[t0]? = some (cA, .char)) {i : Int32} (hout : ¬ vp_in i n) (hdg : decode cc pc = .ok (.caload, 1))
    (k : ∀ tx : String, tx = (toString "Index " ++ toString i ++ toString " out of bounds for length " ++ toString n : String) → vx_Note p l e R s m args below meth c H locs cells slots Q (F0 m pc ls rest) "java/lang/ArrayIndexOutOfBoundsException" tx) : W p l e R s m args below meth c H locs cells slots Q (F0 m pc ls (.int i :: .ref a :: rest)) := by
  intro T hT X
  obtain ⟨t, st, q⟩ := k _ rfl T hT X
  refine ⟨t, ?_, q⟩
  have h1 := X.caloadOut hexec (by rw [hT]; exact hP q0 _ ha) ((hK.2 t0 _ ht).1 n (fun j => .int (f j))) (j := i) (by show (i < 0 ∨ (arrV _ _ _).slots.size ≤ _); rw [arrV_size]; exact Classical.byContradiction hout) (g := F0 m pc ls (.int i :: .ref a :: rest)) rfl (rest := rest) rfl (by rw [hb]; exact hdg) t
  simp only [arrV_size] at h1
  exact h1 st
theorem vx_castZ {D : va_G} {cl : List vw_C} {ws : va_W} {tys : List (ClassId × FieldType)} {a : Nat} (hexec : p.tables.exec = Jvm.exec) (hb : c.code = cc) (hK : va_K D cl tys s) (hP : va_P D cl ws H) (q0 t0 : Nat) {cA : ClassId} {n : Nat} {f : Nat → Int32} (ha : ws[q0]? = some (a, .inl (cA, n, .inl f))) (ht : tys[t0]? = some (cA, .char)) {i : Int32} {x : Int32} (hout : ¬ vp_in i n) (hdg : decode cc pc = .ok (.castore, 1))
    (k : ∀ tx : String, tx = (toString "Index " ++ toString i ++ toString " out of bounds for length " ++ toString n : String) → vx_Note p l e R s m args below meth c H locs cells slots Q (F0 m pc ls rest) "java/lang/ArrayIndexOutOfBoundsException" tx) : W p l e R s m args below meth c H locs cells slots Q (F0 m pc ls (.int x :: .int i :: .ref a :: rest)) := by
  intro T hT X
  obtain ⟨t, st, q⟩ := k _ rfl T hT X
  refine ⟨t, ?_, q⟩
  have h1 := X.castoreOut hexec (by rw [hT]; exact hP q0 _ ha) ((hK.2 t0 _ ht).1 n (fun j => .int (f j))) (j := i) (by show (i < 0 ∨ (arrV _ _ _).slots.size ≤ _); rw [arrV_size]; exact Classical.byContradiction hout) (g := F0 m pc ls (.int x :: .int i :: .ref a :: rest)) rfl (rest := rest) rfl (by rw [hb]; exact hdg) t
  simp only [arrV_size] at h1
  exact h1 st
theorem vx_saldZ {D : va_G} {cl : List vw_C} {ws : va_W} {tys : List (ClassId × FieldType)} {a : Nat} (hexec : p.tables.exec = Jvm.exec) (hb : c.code = cc) (hK : va_K D cl tys s) (hP : va_P D cl ws H) (q0 t0 : Nat) {cA : ClassId} {n : Nat} {f : Nat → Int32} (ha : ws[q0]? = some (a, .inl (cA, n, .inl f))) (ht : tys[t0]? = some (cA, .short)) {i : Int32} (hout : ¬ vp_in i n) (hdg : decode cc pc = .ok (.saload, 1))
    (k : ∀ tx : String, tx = (toString "Index " ++ toString i ++ toString " out of bounds for length " ++ toString n : String) → vx_Note p l e R s m args below meth c H locs cells slots Q (F0 m pc ls rest) "java/lang/ArrayIndexOutOfBoundsException" tx) : W p l e R s m args below meth c H locs cells slots Q (F0 m pc ls (.int i :: .ref a :: rest)) := by
  intro T hT X
  obtain ⟨t, st, q⟩ := k _ rfl T hT X
  refine ⟨t, ?_, q⟩
  have h1 := X.saloadOut hexec (by rw [hT]; exact hP q0 _ ha) ((hK.2 t0 _ ht).1 n (fun j => .int (f j))) (j := i) (by show (i < 0 ∨ (arrV _ _ _).slots.size ≤ _); rw [arrV_size]; exact Classical.byContradiction hout) (g := F0 m pc ls (.int i :: .ref a :: rest)) rfl (rest := rest) rfl (by rw [hb]; exact hdg) t
  simp only [arrV_size] at h1
  exact h1 st
theorem vx_sastZ {D : va_G} {cl : List vw_C} {ws : va_W} {tys : List (ClassId × FieldType)} {a : Nat} (hexec : p.tables.exec = Jvm.exec) (hb : c.code = cc) (hK : va_K D cl tys s) (hP : va_P D cl ws H) (q0 t0 : Nat) {cA : ClassId} {n : Nat} {f : Nat → Int32} (ha : ws[q0]? = some (a, .inl (cA, n, .inl f))) (ht : tys[t0]? = some (cA, .short)) {i : Int32} {x : Int32} (hout : ¬ vp_in i n) (hdg : decode cc pc = .ok (.sastore, 1))
    (k : ∀ tx : String, tx = (toString "Index " ++ toString i ++ toString " out of bounds for length " ++ toString n : String) → vx_Note p l e R s m args below meth c H locs cells slots Q (F0 m pc ls rest) "java/lang/ArrayIndexOutOfBoundsException" tx) : W p l e R s m args below meth c H locs cells slots Q (F0 m pc ls (.int x :: .int i :: .ref a :: rest)) := by
  intro T hT X
  obtain ⟨t, st, q⟩ := k _ rfl T hT X
  refine ⟨t, ?_, q⟩
  have h1 := X.sastoreOut hexec (by rw [hT]; exact hP q0 _ ha) ((hK.2 t0 _ ht).1 n (fun j => .int (f j))) (j := i) (by show (i < 0 ∨ (arrV _ _ _).slots.size ≤ _); rw [arrV_size]; exact Classical.byContradiction hout) (g := F0 m pc ls (.int x :: .int i :: .ref a :: rest)) rfl (rest := rest) rfl (by rw [hb]; exact hdg) t
  simp only [arrV_size] at h1
  exact h1 st
theorem vx_laldZ {D : va_G} {cl : List vw_C} {ws : va_W} {tys : List (ClassId × FieldType)} {a : Nat} (hexec : p.tables.exec = Jvm.exec) (hb : c.code = cc) (hK : va_K D cl tys s) (hP : va_P D cl ws H) (q0 t0 : Nat) {cA : ClassId} {n : Nat} {f : Nat → Int64} (ha : ws[q0]? = some (a, .inl (cA, n, .inr (.inl f)))) (ht : tys[t0]? = some (cA, .long)) {i : Int32} (hout : ¬ vp_in i n) (hdg : decode cc pc = .ok (.laload, 1))
    (k : ∀ tx : String, tx = (toString "Index " ++ toString i ++ toString " out of bounds for length " ++ toString n : String) → vx_Note p l e R s m args below meth c H locs cells slots Q (F0 m pc ls rest) "java/lang/ArrayIndexOutOfBoundsException" tx) : W p l e R s m args below meth c H locs cells slots Q (F0 m pc ls (.int i :: .ref a :: rest)) := by
  intro T hT X
  obtain ⟨t, st, q⟩ := k _ rfl T hT X
  refine ⟨t, ?_, q⟩
  have h1 := X.laloadOut hexec (by rw [hT]; exact hP q0 _ ha) ((hK.2 t0 _ ht).1 n (fun j => .long (f j))) (j := i) (by show (i < 0 ∨ (arrV _ _ _).slots.size ≤ _); rw [arrV_size]; exact Classical.byContradiction hout) (g := F0 m pc ls (.int i :: .ref a :: rest)) rfl (rest := rest) rfl (by rw [hb]; exact hdg) t
  simp only [arrV_size] at h1
  exact h1 st
theorem vx_lastZ {D : va_G} {cl : List vw_C} {ws : va_W} {tys : List (ClassId × FieldType)} {a : Nat} (hexec : p.tables.exec = Jvm.exec) (hb : c.code = cc) (hK : va_K D cl tys s) (hP : va_P D cl ws H) (q0 t0 : Nat) {cA : ClassId} {n : Nat} {f : Nat → Int64} (ha : ws[q0]? = some (a, .inl (cA, n, .inr (.inl f)))) (ht : tys[t0]? = some (cA, .long)) {i : Int32} {x : Int64} (hout : ¬ vp_in i n) (hdg : decode cc pc = .ok (.lastore, 1))
    (k : ∀ tx : String, tx = (toString "Index " ++ toString i ++ toString " out of bounds for length " ++ toString n : String) → vx_Note p l e R s m args below meth c H locs cells slots Q (F0 m pc ls rest) "java/lang/ArrayIndexOutOfBoundsException" tx) : W p l e R s m args below meth c H locs cells slots Q (F0 m pc ls (.long x :: .int i :: .ref a :: rest)) := by
  intro T hT X
  obtain ⟨t, st, q⟩ := k _ rfl T hT X
  refine ⟨t, ?_, q⟩
  have h1 := X.lastoreOut hexec (by rw [hT]; exact hP q0 _ ha) ((hK.2 t0 _ ht).1 n (fun j => .long (f j))) (j := i) (by show (i < 0 ∨ (arrV _ _ _).slots.size ≤ _); rw [arrV_size]; exact Classical.byContradiction hout) (g := F0 m pc ls (.long x :: .int i :: .ref a :: rest)) rfl (rest := rest) rfl (by rw [hb]; exact hdg) t
  simp only [arrV_size] at h1
  exact h1 st
theorem vx_faldZ {D : va_G} {cl : List vw_C} {ws : va_W} {tys : List (ClassId × FieldType)} {a : Nat} (hexec : p.tables.exec = Jvm.exec) (hb : c.code = cc) (hK : va_K D cl tys s) (hP : va_P D cl ws H) (q0 t0 : Nat) {cA : ClassId} {n : Nat} {f : Nat → UInt32} (ha : ws[q0]? = some (a, .inl (cA, n, .inr (.inr (.inl f))))) (ht : tys[t0]? = some (cA, .float)) {i : Int32} (hout : ¬ vp_in i n) (hdg : decode cc pc = .ok (.faload, 1))
    (k : ∀ tx : String, tx = (toString "Index " ++ toString i ++ toString " out of bounds for length " ++ toString n : String) → vx_Note p l e R s m args below meth c H locs cells slots Q (F0 m pc ls rest) "java/lang/ArrayIndexOutOfBoundsException" tx) : W p l e R s m args below meth c H locs cells slots Q (F0 m pc ls (.int i :: .ref a :: rest)) := by
  intro T hT X
  obtain ⟨t, st, q⟩ := k _ rfl T hT X
  refine ⟨t, ?_, q⟩
  have h1 := X.faloadOut hexec (by rw [hT]; exact hP q0 _ ha) ((hK.2 t0 _ ht).1 n (fun j => .float (f j))) (j := i) (by show (i < 0 ∨ (arrV _ _ _).slots.size ≤ _); rw [arrV_size]; exact Classical.byContradiction hout) (g := F0 m pc ls (.int i :: .ref a :: rest)) rfl (rest := rest) rfl (by rw [hb]; exact hdg) t
  simp only [arrV_size] at h1
  exact h1 st
theorem vx_fastZ {D : va_G} {cl : List vw_C} {ws : va_W} {tys : List (ClassId × FieldType)} {a : Nat} (hexec : p.tables.exec = Jvm.exec) (hb : c.code = cc) (hK : va_K D cl tys s) (hP : va_P D cl ws H) (q0 t0 : Nat) {cA : ClassId} {n : Nat} {f : Nat → UInt32} (ha : ws[q0]? = some (a, .inl (cA, n, .inr (.inr (.inl f))))) (ht : tys[t0]? = some (cA, .float)) {i : Int32} {x : UInt32} (hout : ¬ vp_in i n) (hdg : decode cc pc = .ok (.fastore, 1))
    (k : ∀ tx : String, tx = (toString "Index " ++ toString i ++ toString " out of bounds for length " ++ toString n : String) → vx_Note p l e R s m args below meth c H locs cells slots Q (F0 m pc ls rest) "java/lang/ArrayIndexOutOfBoundsException" tx) : W p l e R s m args below meth c H locs cells slots Q (F0 m pc ls (.float x :: .int i :: .ref a :: rest)) := by
  intro T hT X
  obtain ⟨t, st, q⟩ := k _ rfl T hT X
  refine ⟨t, ?_, q⟩
  have h1 := X.fastoreOut hexec (by rw [hT]; exact hP q0 _ ha) ((hK.2 t0 _ ht).1 n (fun j => .float (f j))) (j := i) (by show (i < 0 ∨ (arrV _ _ _).slots.size ≤ _); rw [arrV_size]; exact Classical.byContradiction hout) (g := F0 m pc ls (.float x :: .int i :: .ref a :: rest)) rfl (rest := rest) rfl (by rw [hb]; exact hdg) t
  simp only [arrV_size] at h1
  exact h1 st
theorem vx_daldZ {D : va_G} {cl : List vw_C} {ws : va_W} {tys : List (ClassId × FieldType)} {a : Nat} (hexec : p.tables.exec = Jvm.exec) (hb : c.code = cc) (hK : va_K D cl tys s) (hP : va_P D cl ws H) (q0 t0 : Nat) {cA : ClassId} {n : Nat} {f : Nat → UInt64} (ha : ws[q0]? = some (a, .inl (cA, n, .inr (.inr (.inr (.inl f)))))) (ht : tys[t0]? = some (cA, .double)) {i : Int32} (hout : ¬ vp_in i n) (hdg : decode cc pc = .ok (.daload, 1))
    (k : ∀ tx : String, tx = (toString "Index " ++ toString i ++ toString " out of bounds for length " ++ toString n : String) → vx_Note p l e R s m args below meth c H locs cells slots Q (F0 m pc ls rest) "java/lang/ArrayIndexOutOfBoundsException" tx) : W p l e R s m args below meth c H locs cells slots Q (F0 m pc ls (.int i :: .ref a :: rest)) := by
  intro T hT X
  obtain ⟨t, st, q⟩ := k _ rfl T hT X
  refine ⟨t, ?_, q⟩
  have h1 := X.daloadOut hexec (by rw [hT]; exact hP q0 _ ha) ((hK.2 t0 _ ht).1 n (fun j => .double (f j))) (j := i) (by show (i < 0 ∨ (arrV _ _ _).slots.size ≤ _); rw [arrV_size]; exact Classical.byContradiction hout) (g := F0 m pc ls (.int i :: .ref a :: rest)) rfl (rest := rest) rfl (by rw [hb]; exact hdg) t
  simp only [arrV_size] at h1
  exact h1 st
theorem vx_dastZ {D : va_G} {cl : List vw_C} {ws : va_W} {tys : List (ClassId × FieldType)} {a : Nat} (hexec : p.tables.exec = Jvm.exec) (hb : c.code = cc) (hK : va_K D cl tys s) (hP : va_P D cl ws H) (q0 t0 : Nat) {cA : ClassId} {n : Nat} {f : Nat → UInt64} (ha : ws[q0]? = some (a, .inl (cA, n, .inr (.inr (.inr (.inl f)))))) (ht : tys[t0]? = some (cA, .double)) {i : Int32} {x : UInt64} (hout : ¬ vp_in i n) (hdg : decode cc pc = .ok (.dastore, 1))
    (k : ∀ tx : String, tx = (toString "Index " ++ toString i ++ toString " out of bounds for length " ++ toString n : String) → vx_Note p l e R s m args below meth c H locs cells slots Q (F0 m pc ls rest) "java/lang/ArrayIndexOutOfBoundsException" tx) : W p l e R s m args below meth c H locs cells slots Q (F0 m pc ls (.double x :: .int i :: .ref a :: rest)) := by
  intro T hT X
  obtain ⟨t, st, q⟩ := k _ rfl T hT X
  refine ⟨t, ?_, q⟩
  have h1 := X.dastoreOut hexec (by rw [hT]; exact hP q0 _ ha) ((hK.2 t0 _ ht).1 n (fun j => .double (f j))) (j := i) (by show (i < 0 ∨ (arrV _ _ _).slots.size ≤ _); rw [arrV_size]; exact Classical.byContradiction hout) (g := F0 m pc ls (.double x :: .int i :: .ref a :: rest)) rfl (rest := rest) rfl (by rw [hb]; exact hdg) t
  simp only [arrV_size] at h1
  exact h1 st
theorem vx_arraylengthN (hexec : p.tables.exec = Jvm.exec) (hb : c.code = cc) (hdg : decode cc pc = .ok (.arraylength, 1)) (k : vx_NoteN p l e R s m args below meth c H locs cells slots Q (F0 m pc ls rest)) : W p l e R s m args below meth c H locs cells slots Q (F0 m pc ls (.null :: rest)) := by
  intro T hT X
  obtain ⟨t, st, q⟩ := k T hT X
  exact ⟨t, X.arraylengthNull hexec (g := F0 m pc ls (.null :: rest)) rfl (rest := rest) rfl (by rw [hb]; exact hdg) t st, q⟩
theorem vx_ialoadN (hexec : p.tables.exec = Jvm.exec) (hb : c.code = cc) {i : Int32} (hdg : decode cc pc = .ok (.iaload, 1)) (k : vx_NoteN p l e R s m args below meth c H locs cells slots Q (F0 m pc ls rest)) : W p l e R s m args below meth c H locs cells slots Q (F0 m pc ls (.int i :: .null :: rest)) := by
  intro T hT X
  obtain ⟨t, st, q⟩ := k T hT X
  exact ⟨t, X.ialoadNull hexec (g := F0 m pc ls (.int i :: .null :: rest)) rfl (rest := rest) rfl (by rw [hb]; exact hdg) t st, q⟩
theorem vx_laloadN (hexec : p.tables.exec = Jvm.exec) (hb : c.code = cc) {i : Int32} (hdg : decode cc pc = .ok (.laload, 1)) (k : vx_NoteN p l e R s m args below meth c H locs cells slots Q (F0 m pc ls rest)) : W p l e R s m args below meth c H locs cells slots Q (F0 m pc ls (.int i :: .null :: rest)) := by
  intro T hT X
  obtain ⟨t, st, q⟩ := k T hT X
  exact ⟨t, X.laloadNull hexec (g := F0 m pc ls (.int i :: .null :: rest)) rfl (rest := rest) rfl (by rw [hb]; exact hdg) t st, q⟩
theorem vx_faloadN (hexec : p.tables.exec = Jvm.exec) (hb : c.code = cc) {i : Int32} (hdg : decode cc pc = .ok (.faload, 1)) (k : vx_NoteN p l e R s m args below meth c H locs cells slots Q (F0 m pc ls rest)) : W p l e R s m args below meth c H locs cells slots Q (F0 m pc ls (.int i :: .null :: rest)) := by
  intro T hT X
  obtain ⟨t, st, q⟩ := k T hT X
  exact ⟨t, X.faloadNull hexec (g := F0 m pc ls (.int i :: .null :: rest)) rfl (rest := rest) rfl (by rw [hb]; exact hdg) t st, q⟩
theorem vx_daloadN (hexec : p.tables.exec = Jvm.exec) (hb : c.code = cc) {i : Int32} (hdg : decode cc pc = .ok (.daload, 1)) (k : vx_NoteN p l e R s m args below meth c H locs cells slots Q (F0 m pc ls rest)) : W p l e R s m args below meth c H locs cells slots Q (F0 m pc ls (.int i :: .null :: rest)) := by
  intro T hT X
  obtain ⟨t, st, q⟩ := k T hT X
  exact ⟨t, X.daloadNull hexec (g := F0 m pc ls (.int i :: .null :: rest)) rfl (rest := rest) rfl (by rw [hb]; exact hdg) t st, q⟩
theorem vx_aaloadN (hexec : p.tables.exec = Jvm.exec) (hb : c.code = cc) {i : Int32} (hdg : decode cc pc = .ok (.aaload, 1)) (k : vx_NoteN p l e R s m args below meth c H locs cells slots Q (F0 m pc ls rest)) : W p l e R s m args below meth c H locs cells slots Q (F0 m pc ls (.int i :: .null :: rest)) := by
  intro T hT X
  obtain ⟨t, st, q⟩ := k T hT X
  exact ⟨t, X.aaloadNull hexec (g := F0 m pc ls (.int i :: .null :: rest)) rfl (rest := rest) rfl (by rw [hb]; exact hdg) t st, q⟩
theorem vx_baloadN (hexec : p.tables.exec = Jvm.exec) (hb : c.code = cc) {i : Int32} (hdg : decode cc pc = .ok (.baload, 1)) (k : vx_NoteN p l e R s m args below meth c H locs cells slots Q (F0 m pc ls rest)) : W p l e R s m args below meth c H locs cells slots Q (F0 m pc ls (.int i :: .null :: rest)) := by
  intro T hT X
  obtain ⟨t, st, q⟩ := k T hT X
  exact ⟨t, X.baloadNull hexec (g := F0 m pc ls (.int i :: .null :: rest)) rfl (rest := rest) rfl (by rw [hb]; exact hdg) t st, q⟩
theorem vx_caloadN (hexec : p.tables.exec = Jvm.exec) (hb : c.code = cc) {i : Int32} (hdg : decode cc pc = .ok (.caload, 1)) (k : vx_NoteN p l e R s m args below meth c H locs cells slots Q (F0 m pc ls rest)) : W p l e R s m args below meth c H locs cells slots Q (F0 m pc ls (.int i :: .null :: rest)) := by
  intro T hT X
  obtain ⟨t, st, q⟩ := k T hT X
  exact ⟨t, X.caloadNull hexec (g := F0 m pc ls (.int i :: .null :: rest)) rfl (rest := rest) rfl (by rw [hb]; exact hdg) t st, q⟩
theorem vx_saloadN (hexec : p.tables.exec = Jvm.exec) (hb : c.code = cc) {i : Int32} (hdg : decode cc pc = .ok (.saload, 1)) (k : vx_NoteN p l e R s m args below meth c H locs cells slots Q (F0 m pc ls rest)) : W p l e R s m args below meth c H locs cells slots Q (F0 m pc ls (.int i :: .null :: rest)) := by
  intro T hT X
  obtain ⟨t, st, q⟩ := k T hT X
  exact ⟨t, X.saloadNull hexec (g := F0 m pc ls (.int i :: .null :: rest)) rfl (rest := rest) rfl (by rw [hb]; exact hdg) t st, q⟩
theorem vx_iastoreN (hexec : p.tables.exec = Jvm.exec) (hb : c.code = cc) {x : Int32} {i : Int32} (hdg : decode cc pc = .ok (.iastore, 1)) (k : vx_NoteN p l e R s m args below meth c H locs cells slots Q (F0 m pc ls rest)) : W p l e R s m args below meth c H locs cells slots Q (F0 m pc ls (.int x :: .int i :: .null :: rest)) := by
  intro T hT X
  obtain ⟨t, st, q⟩ := k T hT X
  exact ⟨t, X.iastoreNull hexec (g := F0 m pc ls (.int x :: .int i :: .null :: rest)) rfl (rest := rest) rfl (by rw [hb]; exact hdg) t st, q⟩
theorem vx_lastoreN (hexec : p.tables.exec = Jvm.exec) (hb : c.code = cc) {x : Int64} {i : Int32} (hdg : decode cc pc = .ok (.lastore, 1)) (k : vx_NoteN p l e R s m args below meth c H locs cells slots Q (F0 m pc ls rest)) : W p l e R s m args below meth c H locs cells slots Q (F0 m pc ls (.long x :: .int i :: .null :: rest)) := by
  intro T hT X
  obtain ⟨t, st, q⟩ := k T hT X
  exact ⟨t, X.lastoreNull hexec (g := F0 m pc ls (.long x :: .int i :: .null :: rest)) rfl (rest := rest) rfl (by rw [hb]; exact hdg) t st, q⟩
theorem vx_fastoreN (hexec : p.tables.exec = Jvm.exec) (hb : c.code = cc) {x : UInt32} {i : Int32} (hdg : decode cc pc = .ok (.fastore, 1)) (k : vx_NoteN p l e R s m args below meth c H locs cells slots Q (F0 m pc ls rest)) : W p l e R s m args below meth c H locs cells slots Q (F0 m pc ls (.float x :: .int i :: .null :: rest)) := by
  intro T hT X
  obtain ⟨t, st, q⟩ := k T hT X
  exact ⟨t, X.fastoreNull hexec (g := F0 m pc ls (.float x :: .int i :: .null :: rest)) rfl (rest := rest) rfl (by rw [hb]; exact hdg) t st, q⟩
theorem vx_dastoreN (hexec : p.tables.exec = Jvm.exec) (hb : c.code = cc) {x : UInt64} {i : Int32} (hdg : decode cc pc = .ok (.dastore, 1)) (k : vx_NoteN p l e R s m args below meth c H locs cells slots Q (F0 m pc ls rest)) : W p l e R s m args below meth c H locs cells slots Q (F0 m pc ls (.double x :: .int i :: .null :: rest)) := by
  intro T hT X
  obtain ⟨t, st, q⟩ := k T hT X
  exact ⟨t, X.dastoreNull hexec (g := F0 m pc ls (.double x :: .int i :: .null :: rest)) rfl (rest := rest) rfl (by rw [hb]; exact hdg) t st, q⟩
theorem vx_bastoreN (hexec : p.tables.exec = Jvm.exec) (hb : c.code = cc) {x : Int32} {i : Int32} (hdg : decode cc pc = .ok (.bastore, 1)) (k : vx_NoteN p l e R s m args below meth c H locs cells slots Q (F0 m pc ls rest)) : W p l e R s m args below meth c H locs cells slots Q (F0 m pc ls (.int x :: .int i :: .null :: rest)) := by
  intro T hT X
  obtain ⟨t, st, q⟩ := k T hT X
  exact ⟨t, X.bastoreNull hexec (g := F0 m pc ls (.int x :: .int i :: .null :: rest)) rfl (rest := rest) rfl (by rw [hb]; exact hdg) t st, q⟩
theorem vx_castoreN (hexec : p.tables.exec = Jvm.exec) (hb : c.code = cc) {x : Int32} {i : Int32} (hdg : decode cc pc = .ok (.castore, 1)) (k : vx_NoteN p l e R s m args below meth c H locs cells slots Q (F0 m pc ls rest)) : W p l e R s m args below meth c H locs cells slots Q (F0 m pc ls (.int x :: .int i :: .null :: rest)) := by
  intro T hT X
  obtain ⟨t, st, q⟩ := k T hT X
  exact ⟨t, X.castoreNull hexec (g := F0 m pc ls (.int x :: .int i :: .null :: rest)) rfl (rest := rest) rfl (by rw [hb]; exact hdg) t st, q⟩
theorem vx_sastoreN (hexec : p.tables.exec = Jvm.exec) (hb : c.code = cc) {x : Int32} {i : Int32} (hdg : decode cc pc = .ok (.sastore, 1)) (k : vx_NoteN p l e R s m args below meth c H locs cells slots Q (F0 m pc ls rest)) : W p l e R s m args below meth c H locs cells slots Q (F0 m pc ls (.int x :: .int i :: .null :: rest)) := by
  intro T hT X
  obtain ⟨t, st, q⟩ := k T hT X
  exact ⟨t, X.sastoreNull hexec (g := F0 m pc ls (.int x :: .int i :: .null :: rest)) rfl (rest := rest) rfl (by rw [hb]; exact hdg) t st, q⟩
theorem vx_invokeN {own C : String} {index maxL : Nat} {y : MethodName} {bytes : ByteArray} {ret : Option FieldType} (hexec : p.tables.exec = Jvm.exec) (hb : c.code = cc) (hown : s.vm.findClass own = some m.cls) (hlink : (Cond.methodLink own index y).before args s = true) (hinst : (Cond.instanceMethod y).before args s = true) (hcode : (Cond.code y bytes maxL ret).before args s = true) (hsel : (Cond.selects C y y).before args s = true)
    (hx : y.cls ≠ "java/lang/invoke/MethodHandle" ∧ y.cls ≠ "java/lang/invoke/VarHandle") {As : List Value} (hlen : (parseMethodDescriptor y.desc).map (fun d => d.parameters.length) = some As.length) (hdg : decode cc pc = .ok (.invokevirtual index, 3))
    (k : vx_NoteN p l e R s m args below meth c H locs cells slots Q (F0 m pc ls rest)) {st0 : List Value} (hst : st0 = As.reverse ++ .null :: rest) : W p l e R s m args below meth c H locs cells slots Q (F0 m pc ls st0) := by
  intro T hT X
  obtain ⟨r0, r, hn, hrm, hstR, hsigR⟩ := va_Decl.of hinst hcode
  obtain ⟨c2, r2, m2, q1, q2, q3, q4, kP, hkP, hkPi⟩ := Cond.selects_spec hsel
  cases hn.symm.trans q3
  have hl9 : As.length = r.sig.parameters.length := by
    rw [hsigR] at hlen
    exact (Option.some.inj hlen).symm
  obtain ⟨vm', X1, st1⟩ := X.invokevirtualNull hexec hown hlink hn hrm hstR hkP hkPi hx (g := F0 m pc ls st0) rfl (argsL := As) (rest := rest) hl9 hst (by rw [hb]; exact hdg)
  obtain ⟨t, st, q⟩ := k (T.setVm vm') hT X1
  exact ⟨t, st1 t st, q⟩
theorem vx_newarrayZ {atype : ArrayType} (hexec : p.tables.exec = Jvm.exec) (hb : c.code = cc) {n : Int32} (h0 : n < 0) (hdg : decode cc pc = .ok (.newarray atype, 2)) (k : ∀ tx : String, tx = toString n → vx_Note p l e R s m args below meth c H locs cells slots Q (F0 m pc ls rest) "java/lang/NegativeArraySizeException" tx) : W p l e R s m args below meth c H locs cells slots Q (F0 m pc ls (.int n :: rest)) := by
  intro T hT X
  obtain ⟨t, st, q⟩ := k _ rfl T hT X
  exact ⟨t, X.newarrayNegative hexec (g := F0 m pc ls (.int n :: rest)) rfl h0 (rest := rest) rfl (by rw [hb]; exact hdg) t st, q⟩
end
end VXM
/-! ===== END ===== -/
/-! ===== BEGIN an exception as an object: made, kept, thrown later (no traces kept) ===== -/
section VXK
variable {p : Program} {l : Launch} {e : Env} {R : Room} {s : State} {m₀ : MethodId} {args : Array Value} {below : List Frame} {meth : Method} {c : Code} {W : State} {locs : List Loc} {cells slots : Nat}
set_option maxHeartbeats 1000000 in
theorem vx_ctorMadeS (X : Stand p l e R s m₀ args below meth c W locs cells slots) (hexec : p.tables.exec = Jvm.exec) (htr : e.platform.stackTraces = false) {own cls : String} {names : List String} {ic : Nat}
    (hown : s.vm.findClass own = some m₀.cls) (hcls : Bundle.fit cls = true) (hnames : ∀ n ∈ names, Bundle.fit n = true)
    (h : ∀ a ∈ Bundle.ownAtoms own ic cls names, a.before args s = true)
    (hlocs : ∀ x ∈ locs, ∀ cell, s.heap[x.base]? = some cell → cell.vm.isStatics = false)
    {a : Addr} {cX : ClassId} {kX : Class} (hfoundX : s.vm.findClass cls = some cX) (hkX : s.vm.classes[cX]? = some kX) (hcell : W.heap[a]? = some (freshCell cX kX)) (hnew : s.heap.size ≤ a)
    {msg : Value} (hmsg : msg.isRef = true)
    {g : JFrame} (hg : g.method = m₀) (hsize : g.locals.size = c.maxLocals) {rest : List Value} (hstack : g.stack = msg :: .ref a :: .ref a :: rest)
    (hd6 : decode c.code g.pc = .ok (.invokespecial ic, 3))
    (hRframes : names.length + 3 < R.frames) (hRlocals : 2 * g.monitorRoom + ((Value.ref a :: rest).map fun v => v.category).sum + (13 * (names.length + 1) + 42) ≤ R.locals) :
    ∃ (V : State) (ce : Cell) (L : List Loc), Stand p l e R s m₀ args below meth c (V.setCell a ce) (locs ++ L) cells slots ∧ (∀ y ∈ L, y.base = a) ∧ a < V.heap.size ∧ ce.cls = cX ∧ ce.vm = .none ∧
      ∀ target, Steps p.tables e below ((V.setCell a ce).setTop { g with stack := .ref a :: rest, pc := g.pc + 3 }) target → Steps p.tables e below (W.setTop g) target := by
  have howns : e.platform.frameOwnsMonitors = true := by rw [X.admits.platform]
  have hfin : e.platform.finalization = false := by rw [X.admits.platform]
  have hpl : e.platform.magicAccessors = ({} : Platform).magicAccessors := by rw [X.admits.platform]
  have a' : ∀ x, x ∈ Bundle.ownAtoms own ic cls names → x.holds args s none s [] = true := fun x hx => h x hx
  obtain ⟨T, Z0, L, -, Y⟩ := ThrowableC.of_atoms (args := args) howns hfin hpl (fun x hx => h x (by simp [Bundle.ownAtoms, hx]))
  obtain ⟨Z, M, LZ, LM, hnZ⟩ := Init0T.ofS_atoms (args := args) hpl L Y (fun x hx => h x (by simp [Bundle.ownAtoms, hx]))
  obtain ⟨P1, Ps, hlen, L1, hL, hP1m, hlink1, hlink⟩ := Bundle.chainS (args := args) hpl hnZ names cls hcls hnames (fun x hx => h x (by simp [Bundle.ownAtoms, hx]))
  have hfound : s.vm.findClass cls = some P1.m.cls := findClass_of_methodNamed hP1m
  cases Option.some.inj (hfoundX.symm.trans hfound)
  obtain ⟨c1, kX', hc1, hk, hord, -, -, hn6⟩ := Cond.instantiable_spec (a' (.instantiable cls 6) (by simp [Bundle.ownAtoms]))
  cases Option.some.inj (hc1.symm.trans hfound)
  cases Option.some.inj (hkX.symm.trans hk)
  have hsel0 : selectMethod e.platform s.vm P1.m.cls T.fill0 = .method T.fill0 := by
    obtain ⟨c2, r2, m2, q1, q2, q3, q4, -⟩ := Cond.selects_spec (a' (.selects cls Bundle.tFill0 Bundle.tFill0) (by simp [Bundle.ownAtoms]))
    cases Option.some.inj (q1.symm.trans hfound)
    cases Option.some.inj (q2.symm.trans (State.methodFound?_of_named Y.fill0 (by decide)))
    cases Option.some.inj (q3.symm.trans Y.fill0)
    rw [Launch.admits_selectMethod X.admits]; exact q4
  have hselF : selectMethod e.platform s.vm P1.m.cls T.fill = .method T.fill := by
    obtain ⟨c2, r2, m2, q1, q2, q3, q4, -⟩ := Cond.selects_spec (a' (.selects cls Bundle.tFill Bundle.tFill) (by simp [Bundle.ownAtoms]))
    cases Option.some.inj (q1.symm.trans hfound)
    cases Option.some.inj (q2.symm.trans (State.methodFound?_of_named Y.fill (by decide)))
    cases Option.some.inj (q3.symm.trans Y.fill)
    rw [Launch.admits_selectMethod X.admits]; exact q4
  obtain ⟨cellS0, hcS0, hiss⟩ := Y.statics
  obtain ⟨u0, hu0⟩ := Cond.staticRefV Y.unassigned L.unassignedStatic L.statics hcS0 hiss (a' (.isRef (.static Bundle.tN "UNASSIGNED_STACK" Bundle.steD)) (by simp [Bundle.ownAtoms]))
  obtain ⟨sen, hsen⟩ := Cond.staticRefV Y.sentinel L.sentinelStatic L.statics hcS0 hiss (a' (.isRef (.static Bundle.tN "SUPPRESSED_SENTINEL" Bundle.listD)) (by simp [Bundle.ownAtoms]))
  obtain ⟨ci198, i198, fB, hk198, hg198, ha198, hsB, -, hnB, htB, hffB⟩ := Cond.ownField (t := .object "java/lang/Object") Y.found L.cls (by decide +kernel) (a' (.fieldLink Bundle.tN 198 Bundle.tN "backtrace" "Ljava/lang/Object;") (by simp [Bundle.ownAtoms])) (a' (.lays Bundle.tN Bundle.tN "backtrace" "Ljava/lang/Object;") (by simp [Bundle.ownAtoms])) e.platform hpl
  obtain ⟨cellS, hcS', heS, -, hkeep⟩ := X.same.2.2.2.2.2 T.aS cellS0 hcS0
  have hcellS : W.heap[T.aS]? = some cellS := hcS'
  have hout' : ∀ i, (⟨T.aS, i⟩ : Loc) ∉ locs := fun i hmem => by
    have := hlocs _ hmem cellS0 hcS0
    rw [hiss] at this; cases this
  have hknownS : cellS.vm ≠ .unknown := by
    rw [heS]; intro hu
    rw [show cellS0.vm = .unknown from hu] at hiss
    cases hiss
  have hneS : T.aS ≠ a := Nat.ne_of_lt (Nat.lt_of_lt_of_le (Array.getElem?_eq_some_iff.mp hcS0).1 hnew)
  obtain ⟨iM, hffM⟩ := Y.msg
  obtain ⟨tyC, dC, hdC, hdnC⟩ := Cond.laysAt hfound hk Y.cause (a' (.lays cls Bundle.tN "cause" "Ljava/lang/Throwable;") (by simp [Bundle.ownAtoms]))
  obtain ⟨tyS, dS, hdS, hdnS⟩ := Cond.laysAt hfound hk Y.stack (a' (.lays cls Bundle.tN "stackTrace" Bundle.steD) (by simp [Bundle.ownAtoms]))
  obtain ⟨tyP, dP, hdP, hdnP⟩ := Cond.laysAt hfound hk Y.supp (a' (.lays cls Bundle.tN "suppressedExceptions" Bundle.listD) (by simp [Bundle.ownAtoms]))
  obtain ⟨tyM, dM, hdM, hdnM⟩ := Cond.laysAt hfound hk hffM (a' (.lays cls Bundle.tN "detailMessage" "Ljava/lang/String;") (by simp [Bundle.ownAtoms]))
  obtain ⟨tyB, dB, hdB, hdnB⟩ := Cond.laysAt hfound hk hffB (a' (.lays cls Bundle.tN "backtrace" "Ljava/lang/Object;") (by simp [Bundle.ownAtoms]))
  have bC := Cond.laysApart hdB hdC hdnB hdnC (by rw [hnB, Y.causeName]; decide)
  have bS := Cond.laysApart hdB hdS hdnB hdnS (by rw [hnB, Y.stackName]; decide)
  have bP := Cond.laysApart hdB hdP hdnB hdnP (by rw [hnB, Y.suppName]; decide)
  have hskip : SkipFacts T e.platform s (fun u => u) u0 ((preparedCellV T.toThrowableT (freshCell P1.m.cls kX) a u0 sen).withEntry W.cur) :=
    ⟨{ ci198 := ci198, i198 := i198, fBack := fB }, ⟨hk198, hg198, ha198, hsB⟩, by
      have := fresh_default (c := P1.m.cls) tyB
      rw [htB] at this
      simpa [preparedCellV, Cell.setSlot, Cell.withEntry, Array.getElem?_setIfInBounds, bC, bS, bP, bC.symm, bS.symm, bP.symm, defaultValue] using this, fun _ _ => rfl⟩
  obtain ⟨tm, methC, cdC, kC, vm₁, hnC, -, -, -, -, -, -, -, hW₁, st1⟩ := Steps.initColdS (tb := p.tables) (e := e) (below := below) (s := s) (U := W) X.here hexec X.warmed hpl hown (t := Bundle.initS cls) rfl rfl (Bundle.fit_spec hcls).2
    (a' (.methodLink own ic (Bundle.initS cls)) (by simp [Bundle.ownAtoms])) (h (.instanceMethod (Bundle.initS cls)) (by cases names <;> simp [Bundle.ownAtoms, Bundle.chainSAtoms, Bundle.passSAtoms])) (bytes := Bundle.six) (maxL := 2) (h (.code (Bundle.initS cls) Bundle.six 2 none) (by cases names <;> simp [Bundle.ownAtoms, Bundle.chainSAtoms, Bundle.passSAtoms]))
    (f := g) hg (a := a) (msg := msg) (rest := .ref a :: rest) hstack hd6
  cases Option.some.inj (hnC.symm.trans hP1m)
  have X₁ := X.noted hW₁
  obtain ⟨vm₂, X₂, st2⟩ := X₁.ctorMessageOffV hexec (g := { g with stack := .ref a :: rest }) hg hsize T L Z LZ M LM (P1 :: Ps)
    (fun P hP => by rcases List.mem_cons.mp hP with rfl | hP; exact L1; exact hL P hP) ⟨hlink1, hlink⟩ (u0 := u0) (sen := sen) (self := a) hmsg (cell := freshCell P1.m.cls kX) (cellS := cellS)
    hcell (fun _ => by simp) (by simp) rfl rfl hsel0 hselF hcellS hneS hknownS (by rw [hkeep _ (hout' _)]; exact hu0) (by rw [hkeep _ (hout' _)]; exact hsen)
    (Takes.of_laid hk hord tyC (by rw [Y.causeType]; rfl)) (Takes.of_laid hk hord tyS (by rw [Y.stackType]; exact fits_refV_array _ u0)) (Takes.of_laid hk hord tyP (by rw [Y.suppType]; exact fits_refV_object _ sen))
    (Takes.of_laid hk hord tyM (by rw [Y.msgType]; exact fits_refV_object _ ⟨msg, hmsg⟩)) Y.objLocals hskip htr [] hd6
    (by simp only [List.length_cons, hlen]; omega) (by simp only [List.length_cons, hlen]; exact hRlocals)
  have hlt : a < ((W.setVm vm₁).setVm vm₂).heap.size := (Array.getElem?_eq_some_iff.mp hcell).1
  refine ⟨(W.setVm vm₁).setVm vm₂, _, _, X₂, fun y hy => ?_, hlt, rfl, rfl, fun target hwalk => st1 _ (fun acts => ?_)⟩
  · simp only [List.mem_cons, List.not_mem_nil, or_false] at hy
    rcases hy with rfl | rfl | rfl | rfl | rfl <;> rfl
  · rw [doInvoke_state]
    exact st2 _ hwalk
set_option maxHeartbeats 1000000 in
theorem vx_ctorMade0 (X : Stand p l e R s m₀ args below meth c W locs cells slots) (hexec : p.tables.exec = Jvm.exec) (htr : e.platform.stackTraces = false) {own cls : String} {names : List String} {ic : Nat}
    (hown : s.vm.findClass own = some m₀.cls) (hcls : Bundle.fit cls = true) (hnames : ∀ n ∈ names, Bundle.fit n = true)
    (h : ∀ a ∈ Bundle.ownAtoms0 own ic cls names, a.before args s = true)
    (hlocs : ∀ x ∈ locs, ∀ cell, s.heap[x.base]? = some cell → cell.vm.isStatics = false)
    {a : Addr} {cX : ClassId} {kX : Class} (hfoundX : s.vm.findClass cls = some cX) (hkX : s.vm.classes[cX]? = some kX) (hcell : W.heap[a]? = some (freshCell cX kX)) (hnew : s.heap.size ≤ a)
    {g : JFrame} (hg : g.method = m₀) (hsize : g.locals.size = c.maxLocals) {rest : List Value} (hstack : g.stack = .ref a :: .ref a :: rest)
    (hd6 : decode c.code g.pc = .ok (.invokespecial ic, 3))
    (hRframes : names.length + 3 < R.frames) (hRlocals : 2 * g.monitorRoom + ((Value.ref a :: rest).map fun v => v.category).sum + (13 * (names.length + 1) + 41) ≤ R.locals) :
    ∃ (V : State) (ce : Cell) (L : List Loc), Stand p l e R s m₀ args below meth c (V.setCell a ce) (locs ++ L) cells slots ∧ (∀ y ∈ L, y.base = a) ∧ a < V.heap.size ∧ ce.cls = cX ∧ ce.vm = .none ∧
      ∀ target, Steps p.tables e below ((V.setCell a ce).setTop { g with stack := .ref a :: rest, pc := g.pc + 3 }) target → Steps p.tables e below (W.setTop g) target := by
  have howns : e.platform.frameOwnsMonitors = true := by rw [X.admits.platform]
  have hfin : e.platform.finalization = false := by rw [X.admits.platform]
  have hpl : e.platform.magicAccessors = ({} : Platform).magicAccessors := by rw [X.admits.platform]
  have a' : ∀ x, x ∈ Bundle.ownAtoms0 own ic cls names → x.holds args s none s [] = true := fun x hx => h x hx
  obtain ⟨T, Z, L, LZ, Y⟩ := ThrowableC.of_atoms (args := args) howns hfin hpl (fun x hx => h x (by simp [Bundle.ownAtoms0, hx]))
  obtain ⟨P1, Ps, hlen, L1, hL, hP1m, hlink1, hlink⟩ := Bundle.chain0 (args := args) hpl Y.init0 names cls hcls hnames (fun x hx => h x (by simp [Bundle.ownAtoms0, hx]))
  have hfound : s.vm.findClass cls = some P1.m.cls := findClass_of_methodNamed hP1m
  cases Option.some.inj (hfoundX.symm.trans hfound)
  obtain ⟨c1, kX', hc1, hk, hord, -, -, hn6⟩ := Cond.instantiable_spec (a' (.instantiable cls 6) (by simp [Bundle.ownAtoms0]))
  cases Option.some.inj (hc1.symm.trans hfound)
  cases Option.some.inj (hkX.symm.trans hk)
  have hsel0 : selectMethod e.platform s.vm P1.m.cls T.fill0 = .method T.fill0 := by
    obtain ⟨c2, r2, m2, q1, q2, q3, q4, -⟩ := Cond.selects_spec (a' (.selects cls Bundle.tFill0 Bundle.tFill0) (by simp [Bundle.ownAtoms0]))
    cases Option.some.inj (q1.symm.trans hfound)
    cases Option.some.inj (q2.symm.trans (State.methodFound?_of_named Y.fill0 (by decide)))
    cases Option.some.inj (q3.symm.trans Y.fill0)
    rw [Launch.admits_selectMethod X.admits]; exact q4
  have hselF : selectMethod e.platform s.vm P1.m.cls T.fill = .method T.fill := by
    obtain ⟨c2, r2, m2, q1, q2, q3, q4, -⟩ := Cond.selects_spec (a' (.selects cls Bundle.tFill Bundle.tFill) (by simp [Bundle.ownAtoms0]))
    cases Option.some.inj (q1.symm.trans hfound)
    cases Option.some.inj (q2.symm.trans (State.methodFound?_of_named Y.fill (by decide)))
    cases Option.some.inj (q3.symm.trans Y.fill)
    rw [Launch.admits_selectMethod X.admits]; exact q4
  obtain ⟨cellS0, hcS0, hiss⟩ := Y.statics
  obtain ⟨u0, hu0⟩ := Cond.staticRefV Y.unassigned L.unassignedStatic L.statics hcS0 hiss (a' (.isRef (.static Bundle.tN "UNASSIGNED_STACK" Bundle.steD)) (by simp [Bundle.ownAtoms0]))
  obtain ⟨sen, hsen⟩ := Cond.staticRefV Y.sentinel L.sentinelStatic L.statics hcS0 hiss (a' (.isRef (.static Bundle.tN "SUPPRESSED_SENTINEL" Bundle.listD)) (by simp [Bundle.ownAtoms0]))
  obtain ⟨ci198, i198, fB, hk198, hg198, ha198, hsB, -, hnB, htB, hffB⟩ := Cond.ownField (t := .object "java/lang/Object") Y.found L.cls (by decide +kernel) (a' (.fieldLink Bundle.tN 198 Bundle.tN "backtrace" "Ljava/lang/Object;") (by simp [Bundle.ownAtoms0])) (a' (.lays Bundle.tN Bundle.tN "backtrace" "Ljava/lang/Object;") (by simp [Bundle.ownAtoms0])) e.platform hpl
  obtain ⟨cellS, hcS', heS, -, hkeep⟩ := X.same.2.2.2.2.2 T.aS cellS0 hcS0
  have hcellS : W.heap[T.aS]? = some cellS := hcS'
  have hout' : ∀ i, (⟨T.aS, i⟩ : Loc) ∉ locs := fun i hmem => by
    have := hlocs _ hmem cellS0 hcS0
    rw [hiss] at this; cases this
  have hknownS : cellS.vm ≠ .unknown := by
    rw [heS]; intro hu
    rw [show cellS0.vm = .unknown from hu] at hiss
    cases hiss
  have hneS : T.aS ≠ a := Nat.ne_of_lt (Nat.lt_of_lt_of_le (Array.getElem?_eq_some_iff.mp hcS0).1 hnew)
  obtain ⟨iM, hffM⟩ := Y.msg
  obtain ⟨tyC, dC, hdC, hdnC⟩ := Cond.laysAt hfound hk Y.cause (a' (.lays cls Bundle.tN "cause" "Ljava/lang/Throwable;") (by simp [Bundle.ownAtoms0]))
  obtain ⟨tyS, dS, hdS, hdnS⟩ := Cond.laysAt hfound hk Y.stack (a' (.lays cls Bundle.tN "stackTrace" Bundle.steD) (by simp [Bundle.ownAtoms0]))
  obtain ⟨tyP, dP, hdP, hdnP⟩ := Cond.laysAt hfound hk Y.supp (a' (.lays cls Bundle.tN "suppressedExceptions" Bundle.listD) (by simp [Bundle.ownAtoms0]))
  obtain ⟨tyM, dM, hdM, hdnM⟩ := Cond.laysAt hfound hk hffM (a' (.lays cls Bundle.tN "detailMessage" "Ljava/lang/String;") (by simp [Bundle.ownAtoms0]))
  obtain ⟨tyB, dB, hdB, hdnB⟩ := Cond.laysAt hfound hk hffB (a' (.lays cls Bundle.tN "backtrace" "Ljava/lang/Object;") (by simp [Bundle.ownAtoms0]))
  have bC := Cond.laysApart hdB hdC hdnB hdnC (by rw [hnB, Y.causeName]; decide)
  have bS := Cond.laysApart hdB hdS hdnB hdnS (by rw [hnB, Y.stackName]; decide)
  have bP := Cond.laysApart hdB hdP hdnB hdnP (by rw [hnB, Y.suppName]; decide)
  have hskip : SkipFacts T e.platform s (fun u => u) u0 ((preparedCellV T.toThrowableT (freshCell P1.m.cls kX) a u0 sen).withEntry W.cur) :=
    ⟨{ ci198 := ci198, i198 := i198, fBack := fB }, ⟨hk198, hg198, ha198, hsB⟩, by
      have := fresh_default (c := P1.m.cls) tyB
      rw [htB] at this
      simpa [preparedCellV, Cell.setSlot, Cell.withEntry, Array.getElem?_setIfInBounds, bC, bS, bP, bC.symm, bS.symm, bP.symm, defaultValue] using this, fun _ _ => rfl⟩
  obtain ⟨tm, methC, cdC, kC, vm₁, hnC, -, -, -, -, -, -, -, hW₁, st1⟩ := Steps.initCold (tb := p.tables) (e := e) (below := below) (s := s) (U := W) X.here hexec X.warmed hpl hown (t := Bundle.init0 cls) rfl rfl (Bundle.fit_spec hcls).2
    (a' (.methodLink own ic (Bundle.init0 cls)) (by simp [Bundle.ownAtoms0])) (h (.instanceMethod (Bundle.init0 cls)) (by cases names <;> simp [Bundle.ownAtoms0, Bundle.chain0Atoms, Bundle.passAtoms])) (bytes := Bundle.five) (maxL := 1) (h (.code (Bundle.init0 cls) Bundle.five 1 none) (by cases names <;> simp [Bundle.ownAtoms0, Bundle.chain0Atoms, Bundle.passAtoms]))
    (f := g) hg (a := a) (rest := .ref a :: rest) hstack hd6
  cases Option.some.inj (hnC.symm.trans hP1m)
  have X₁ := X.noted hW₁
  obtain ⟨vm₂, X₂, st2⟩ := X₁.ctorPlainOffV hexec (g := { g with stack := .ref a :: rest }) hg hsize T L Z LZ (P1 :: Ps)
    (fun P hP => by rcases List.mem_cons.mp hP with rfl | hP; exact L1; exact hL P hP) ⟨hlink1, hlink⟩ (u0 := u0) (sen := sen) (self := a) (cell := freshCell P1.m.cls kX) (cellS := cellS)
    hcell (fun _ => by simp) (by simp) rfl rfl hsel0 hselF hcellS hneS hknownS (by rw [hkeep _ (hout' _)]; exact hu0) (by rw [hkeep _ (hout' _)]; exact hsen)
    (Takes.of_laid hk hord tyC (by rw [Y.causeType]; rfl)) (Takes.of_laid hk hord tyS (by rw [Y.stackType]; exact fits_refV_array _ u0)) (Takes.of_laid hk hord tyP (by rw [Y.suppType]; exact fits_refV_object _ sen)) Y.objLocals hskip htr [] hd6
    (by simp only [List.length_cons, hlen]; omega) (by simp only [List.length_cons, hlen]; exact hRlocals)
  have hlt : a < ((W.setVm vm₁).setVm vm₂).heap.size := (Array.getElem?_eq_some_iff.mp hcell).1
  refine ⟨(W.setVm vm₁).setVm vm₂, _, _, X₂, fun y hy => ?_, hlt, rfl, rfl, fun target hwalk => st1 _ (fun acts => ?_)⟩
  · simp only [List.mem_cons, List.not_mem_nil, or_false] at hy
    rcases hy with rfl | rfl | rfl | rfl <;> rfl
  · rw [doInvoke_state]
    exact st2 _ hwalk
end VXK
section VXK2
variable {p : Program} {l : Launch} {e : Env} {R : Room} {s : State} {m : MethodId} {args : Array Value} {below : List Frame} {meth : Method} {c : Code} {H : Heap} {locs : List Loc} {cells slots : Nat} {Q : State → Prop}
variable {ls : Array Slot} {rest : List Value} {D : va_G} {cl : List vw_C} {tys : List (ClassId × FieldType)} {ws : va_W}
/-- 'new E("text")' that isn't thrown at once: the object goes on the stack -/
theorem vx_makeS {cc : ByteArray} {pc : Nat} (hexec : p.tables.exec = Jvm.exec) (hb : c.code = cc) (hl : l.stackTraces = false) {own cls text : String} {names : List String} {ik is ic sa ci : Nat} {A : Nat → Prop} {T0 : u_T}
    (hown : s.vm.findClass own = some m.cls) (hcls : Bundle.fit cls = true) (hnames : ∀ n ∈ names, Bundle.fit n = true)
    (hk : (Cond.classLink own ik cls).before args s = true) (hini : (Cond.initialized cls).before args s = true) (hstr : vk_R own is text sa s) (hat : ∀ w ∈ vx_atS own ic cls names, w.before args s = true)
    (hgood : ∀ w ∈ Cond.classLink own ik cls :: Cond.initialized cls :: vx_atS own ic cls names, vx_ot w = true)
    (hU : vx_Zq Bundle.tN "UNASSIGNED_STACK" Bundle.steD A s s.heap) (hN : vx_Zq Bundle.tN "SUPPRESSED_SENTINEL" Bundle.listD A s s.heap) (hS : va_S A s.heap H locs) (hsize : ls.size = c.maxLocals)
    (d0 : decode cc pc = .ok (.new ik, 3)) (d3 : decode cc (pc + 3) = .ok (.dup, 1)) (d4 : decode cc (pc + 4) = .ok (.ldc is, 2)) (d6 : decode cc (pc + 6) = .ok (.invokespecial ic, 3))
    (hK : va_K D cl tys s) (hP : va_P D cl ws H) (hD : va_D A ws) (hA : ∀ q, s.heap.size ≤ q → A q) (hc : cl[ci]? = some (cls, T0, 0))
    (hRframes : names.length + 3 < R.frames) (hRlocals : (rest.map fun v => v.category).sum + (13 * (names.length + 1) + 43) ≤ R.locals) (hRcells : cells + 1 ≤ R.cells) (hRslots : slots + 6 ≤ R.slots)
    (kk : ∀ (q : Nat) (H1 : Heap), va_P D cl (ws ++ [(q, .inr (ci, []))]) H1 → va_D A (ws ++ [(q, .inr (ci, []))]) → va_S A s.heap H1 locs → W p l e R s m args below meth c H1 locs (cells + 1) (slots + 6) Q (F0 m (pc + 9) ls (.ref q :: rest))) :
    W p l e R s m args below meth c H locs cells slots Q (F0 m pc ls rest) := by
  intro T hT X
  subst hT
  have htr : e.platform.stackTraces = false := (show e.platform.stackTraces = l.stackTraces by rw [X.admits.platform]).trans hl
  have Y := vx_rebase X (R' := { frames := R.frames, locals := R.locals, cells := 1, slots := 6 }) (Nat.le_refl _) (Nat.le_refl _) hRcells hRslots
  obtain ⟨s', hA'⟩ : ∃ z, z = (T.setVm s.vm).setFrames (.invoking m args :: below) := ⟨_, rfl⟩
  rw [← hA'] at Y
  have hvm : s'.vm = s.vm := by rw [hA']; rfl
  have hhp : s'.heap = T.heap := by rw [hA']; rfl
  have hW0 : s.WarmedH s'.vm := by rw [hvm]; exact State.WarmedH.refl s
  have hat' : ∀ w ∈ vx_atS own ic cls names, w.before args s' = true := fun w hw => vx_ot_at hW0 hvm.symm (hgood w (List.mem_cons_of_mem _ (List.mem_cons_of_mem _ hw))) (hat w hw)
  have hk' : (Cond.classLink own ik cls).before args s' = true := vx_ot_at hW0 hvm.symm (hgood _ List.mem_cons_self) hk
  have hini' : (Cond.initialized cls).before args s' = true := vx_ot_at hW0 hvm.symm (hgood _ (List.mem_cons_of_mem _ List.mem_cons_self)) hini
  have hU' : vx_Zq Bundle.tN "UNASSIGNED_STACK" Bundle.steD A s' s'.heap := by rw [hhp]; exact vx_Zq.moved hW0.alike (hU.kept hS.2.1)
  have hN' : vx_Zq Bundle.tN "SUPPRESSED_SENTINEL" Bundle.listD A s' s'.heap := by rw [hhp]; exact vx_Zq.moved hW0.alike (hN.kept hS.2.1)
  have h : ∀ w ∈ Bundle.ownAtoms own ic cls names, w.before args s' = true := vx_own hat' (vx_isRefq hU'.1) (vx_isRefq hN'.1) hU'.2.word hN'.2.word
  have hown' : s'.vm.findClass own = some m.cls := by rw [hvm]; exact hown
  have hins : (Cond.instantiable cls 6).before args s' = true := h _ (by simp [Bundle.ownAtoms])
  obtain ⟨vm₁, cX, kX, hfX, hkX, -, -, X₁, st1⟩ := Y.newCold hexec (own := own) (C := cls) (index := ik) (n := 6) hown' hk' hins hini'
    (g := F0 m pc ls rest) rfl (by rw [hb]; exact d0) (Nat.le_refl _) (Nat.le_refl _)
  generalize hT1 : (T.setVm vm₁).pushCell { cls := cX, slots := kX.instanceTypes.map defaultValue, vm := .none } = T1 at X₁ st1
  have hcat : (Value.ref T.heap.size).category = 1 := rfl
  have hcellA : T1.heap[T.heap.size]? = some (freshCell cX kX) := by rw [← hT1]; exact State.heap_pushCell_size _ _
  have d3' : decode c.code (pc + 3) = .ok (.dup, 1) := by rw [hb]; exact d3
  have d4' : decode c.code (pc + 4) = .ok (.ldc is, 2) := by rw [hb]; exact d4
  have hstr' : vk_R own is text sa s' := vk_R.warm hW0 hstr
  obtain ⟨V, ce, L, Z, hL, hlt, hcl9, hvm9, st⟩ := vx_ctorMadeS X₁ hexec htr (own := own) (cls := cls) (names := names) (ic := ic) hown' hcls hnames h (fun x hx => nomatch hx) hfX hkX hcellA (by rw [hhp]; exact Nat.le_refl _) (msg := .ref sa) rfl
    (g := { method := m, pc := pc + 6, locals := ls, stack := .ref sa :: .ref T.heap.size :: .ref T.heap.size :: rest, locked := none }) rfl hsize (rest := rest) rfl
    (by rw [hb]; exact d6) hRframes (by simp only [List.map_cons, List.sum_cons, hcat]; omega)
  have Z0 := Stand.forget (locs := []) Z (fun y hy => by rw [hL y hy, hhp]; exact Nat.le_refl _)
  obtain ⟨f1, f2⟩ := vx_frame Z0.same
  rw [hhp] at f1 f2
  have hcid : ce.cls = D.1 ci := by
    rw [hcl9]
    have h1 := (hK.1 ci _ hc).2.1
    rw [hvm] at hfX
    exact Option.some.inj (hfX.symm.trans h1)
  have hh : (V.setCell T.heap.size ce).heap[T.heap.size]? = some ce := heapAt_setCell_self (s := V) ce hlt
  subst hA'
  have X5 := vx_back9 X Y Z0
  have X6 : Stand p l e R s m args below meth c (V.setCell T.heap.size ce) locs (cells + 1) (slots + 6) := { X5 with same := X5.same.mono (by omega) (by omega) }
  have hk9 : ∀ (k : Nat) (x : Nat × va_E), ws[k]? = some x → (V.setCell T.heap.size ce).heap[x.1]? = T.heap[x.1]? := fun k x hx => f2 x.1 ((hP k x hx).lt) (fun z hz => nomatch hz)
  obtain ⟨t, a1, b1⟩ := kk T.heap.size (V.setCell T.heap.size ce).heap ((hP.kept hk9).app (fun k x hx => by
      have hz : k < 1 := (List.getElem?_eq_some_iff.mp hx).1
      rw [show k = 0 by omega] at hx
      cases hx
      exact ⟨_, hc, ce, hh, hcid, hvm9, fun k hk => absurd hk (Nat.not_lt_zero k)⟩)) (hD.push hP rfl (hA _ hS.1)) ⟨Nat.le_trans hS.1 f1, fun q h1 h2 => (f2 q (Nat.lt_of_lt_of_le h1 hS.1) (fun z hz => nomatch hz)).trans (hS.2.1 q h1 h2), hS.2.2⟩ _ rfl X6
  refine ⟨t, st1 _ ?_, b1⟩
  show Steps p.tables e below (T1.setTop { method := m, pc := pc + 3, locals := ls, stack := .ref T.heap.size :: rest, locked := none }) _
  jvm_step X₁.here [X₁.here.top, hexec, d3', Value.category]
  exact X₁.ldcString hexec (own := own) (text := text) (index := is) (a := sa) hown' hstr'.1 hstr'.2
    (g := { method := m, pc := pc + 4, locals := ls, stack := .ref T.heap.size :: .ref T.heap.size :: rest, locked := none }) rfl d4' _ (st _ a1)
/-- 'new E()' that isn't thrown at once: the object goes on the stack -/
theorem vx_make0 {cc : ByteArray} {pc : Nat} (hexec : p.tables.exec = Jvm.exec) (hb : c.code = cc) (hl : l.stackTraces = false) {own cls : String} {names : List String} {ik ic ci : Nat} {A : Nat → Prop} {T0 : u_T}
    (hown : s.vm.findClass own = some m.cls) (hcls : Bundle.fit cls = true) (hnames : ∀ n ∈ names, Bundle.fit n = true)
    (hk : (Cond.classLink own ik cls).before args s = true) (hini : (Cond.initialized cls).before args s = true) (hat : ∀ w ∈ vx_at0 own ic cls names, w.before args s = true)
    (hgood : ∀ w ∈ Cond.classLink own ik cls :: Cond.initialized cls :: vx_at0 own ic cls names, vx_ot w = true)
    (hU : vx_Zq Bundle.tN "UNASSIGNED_STACK" Bundle.steD A s s.heap) (hN : vx_Zq Bundle.tN "SUPPRESSED_SENTINEL" Bundle.listD A s s.heap) (hS : va_S A s.heap H locs) (hsize : ls.size = c.maxLocals)
    (d0 : decode cc pc = .ok (.new ik, 3)) (d3 : decode cc (pc + 3) = .ok (.dup, 1)) (d4 : decode cc (pc + 4) = .ok (.invokespecial ic, 3))
    (hK : va_K D cl tys s) (hP : va_P D cl ws H) (hD : va_D A ws) (hA : ∀ q, s.heap.size ≤ q → A q) (hc : cl[ci]? = some (cls, T0, 0))
    (hRframes : names.length + 3 < R.frames) (hRlocals : (rest.map fun v => v.category).sum + (13 * (names.length + 1) + 42) ≤ R.locals) (hRcells : cells + 1 ≤ R.cells) (hRslots : slots + 6 ≤ R.slots)
    (kk : ∀ (q : Nat) (H1 : Heap), va_P D cl (ws ++ [(q, .inr (ci, []))]) H1 → va_D A (ws ++ [(q, .inr (ci, []))]) → va_S A s.heap H1 locs → W p l e R s m args below meth c H1 locs (cells + 1) (slots + 6) Q (F0 m (pc + 7) ls (.ref q :: rest))) :
    W p l e R s m args below meth c H locs cells slots Q (F0 m pc ls rest) := by
  intro T hT X
  subst hT
  have htr : e.platform.stackTraces = false := (show e.platform.stackTraces = l.stackTraces by rw [X.admits.platform]).trans hl
  have Y := vx_rebase X (R' := { frames := R.frames, locals := R.locals, cells := 1, slots := 6 }) (Nat.le_refl _) (Nat.le_refl _) hRcells hRslots
  obtain ⟨s', hA'⟩ : ∃ z, z = (T.setVm s.vm).setFrames (.invoking m args :: below) := ⟨_, rfl⟩
  rw [← hA'] at Y
  have hvm : s'.vm = s.vm := by rw [hA']; rfl
  have hhp : s'.heap = T.heap := by rw [hA']; rfl
  have hW0 : s.WarmedH s'.vm := by rw [hvm]; exact State.WarmedH.refl s
  have hat' : ∀ w ∈ vx_at0 own ic cls names, w.before args s' = true := fun w hw => vx_ot_at hW0 hvm.symm (hgood w (List.mem_cons_of_mem _ (List.mem_cons_of_mem _ hw))) (hat w hw)
  have hk' : (Cond.classLink own ik cls).before args s' = true := vx_ot_at hW0 hvm.symm (hgood _ List.mem_cons_self) hk
  have hini' : (Cond.initialized cls).before args s' = true := vx_ot_at hW0 hvm.symm (hgood _ (List.mem_cons_of_mem _ List.mem_cons_self)) hini
  have hU' : vx_Zq Bundle.tN "UNASSIGNED_STACK" Bundle.steD A s' s'.heap := by rw [hhp]; exact vx_Zq.moved hW0.alike (hU.kept hS.2.1)
  have hN' : vx_Zq Bundle.tN "SUPPRESSED_SENTINEL" Bundle.listD A s' s'.heap := by rw [hhp]; exact vx_Zq.moved hW0.alike (hN.kept hS.2.1)
  have h : ∀ w ∈ Bundle.ownAtoms0 own ic cls names, w.before args s' = true := vx_own hat' (vx_isRefq hU'.1) (vx_isRefq hN'.1) hU'.2.word hN'.2.word
  have hown' : s'.vm.findClass own = some m.cls := by rw [hvm]; exact hown
  have hins : (Cond.instantiable cls 6).before args s' = true := h _ (by simp [Bundle.ownAtoms0])
  obtain ⟨vm₁, cX, kX, hfX, hkX, -, -, X₁, st1⟩ := Y.newCold hexec (own := own) (C := cls) (index := ik) (n := 6) hown' hk' hins hini'
    (g := F0 m pc ls rest) rfl (by rw [hb]; exact d0) (Nat.le_refl _) (Nat.le_refl _)
  generalize hT1 : (T.setVm vm₁).pushCell { cls := cX, slots := kX.instanceTypes.map defaultValue, vm := .none } = T1 at X₁ st1
  have hcat : (Value.ref T.heap.size).category = 1 := rfl
  have hcellA : T1.heap[T.heap.size]? = some (freshCell cX kX) := by rw [← hT1]; exact State.heap_pushCell_size _ _
  have d3' : decode c.code (pc + 3) = .ok (.dup, 1) := by rw [hb]; exact d3
  obtain ⟨V, ce, L, Z, hL, hlt, hcl9, hvm9, st⟩ := vx_ctorMade0 X₁ hexec htr (own := own) (cls := cls) (names := names) (ic := ic) hown' hcls hnames h (fun x hx => nomatch hx) hfX hkX hcellA (by rw [hhp]; exact Nat.le_refl _)
    (g := { method := m, pc := pc + 4, locals := ls, stack := .ref T.heap.size :: .ref T.heap.size :: rest, locked := none }) rfl hsize (rest := rest) rfl
    (by rw [hb]; exact d4) hRframes (by simp only [List.map_cons, List.sum_cons, hcat]; omega)
  have Z0 := Stand.forget (locs := []) Z (fun y hy => by rw [hL y hy, hhp]; exact Nat.le_refl _)
  obtain ⟨f1, f2⟩ := vx_frame Z0.same
  rw [hhp] at f1 f2
  have hcid : ce.cls = D.1 ci := by
    rw [hcl9]
    have h1 := (hK.1 ci _ hc).2.1
    rw [hvm] at hfX
    exact Option.some.inj (hfX.symm.trans h1)
  have hh : (V.setCell T.heap.size ce).heap[T.heap.size]? = some ce := heapAt_setCell_self (s := V) ce hlt
  subst hA'
  have X5 := vx_back9 X Y Z0
  have X6 : Stand p l e R s m args below meth c (V.setCell T.heap.size ce) locs (cells + 1) (slots + 6) := { X5 with same := X5.same.mono (by omega) (by omega) }
  have hk9 : ∀ (k : Nat) (x : Nat × va_E), ws[k]? = some x → (V.setCell T.heap.size ce).heap[x.1]? = T.heap[x.1]? := fun k x hx => f2 x.1 ((hP k x hx).lt) (fun z hz => nomatch hz)
  obtain ⟨t, a1, b1⟩ := kk T.heap.size (V.setCell T.heap.size ce).heap ((hP.kept hk9).app (fun k x hx => by
      have hz : k < 1 := (List.getElem?_eq_some_iff.mp hx).1
      rw [show k = 0 by omega] at hx
      cases hx
      exact ⟨_, hc, ce, hh, hcid, hvm9, fun k hk => absurd hk (Nat.not_lt_zero k)⟩)) (hD.push hP rfl (hA _ hS.1)) ⟨Nat.le_trans hS.1 f1, fun q h1 h2 => (f2 q (Nat.lt_of_lt_of_le h1 hS.1) (fun z hz => nomatch hz)).trans (hS.2.1 q h1 h2), hS.2.2⟩ _ rfl X6
  refine ⟨t, st1 _ ?_, b1⟩
  show Steps p.tables e below (T1.setTop { method := m, pc := pc + 3, locals := ls, stack := .ref T.heap.size :: rest, locked := none }) _
  jvm_step X₁.here [X₁.here.top, hexec, d3', Value.category]
  exact st _ a1
/-- 'throw x' of an object that was made before -/
theorem vx_athrow {cc : ByteArray} {pc : Nat} (hexec : p.tables.exec = Jvm.exec) (hb : c.code = cc) {q : Addr} (hdg : decode cc pc = .ok (.athrow, 1)) (k : vx_W p l e R s m args below meth c H locs cells slots Q (F0 m pc ls rest) q) : W p l e R s m args below meth c H locs cells slots Q (F0 m pc ls (.ref q :: rest)) := by
  intro T hT X
  obtain ⟨t, st, hq⟩ := k T hT X
  refine ⟨t, ?_, hq⟩
  have hdg' : decode c.code pc = .ok (.athrow, 1) := by rw [hb]; exact hdg
  jvm_step X.here [X.here.top, hexec, hdg', athrow.wp_sem]
  exact st
end VXK2
/-! ===== END ===== -/
/-! ===== BEGIN a constructor that throws (launches without stack traces) ===== -/
section VXIA
variable {p : Program} {l : Launch} {e : Env} {R : Room} {s : State} {m : MethodId} {args : Array Value} {below : List Frame} {meth : Method} {c : Code} {T : State} {locs : List Loc} {cells slots : Nat}
theorem vx_callI (X : Stand p l e R s m args below meth c T locs cells slots) (hexec : p.tables.exec = Jvm.exec) {own : String} {index : Nat} {y : MethodName} {bytes : ByteArray} {maxL : Nat}
    (hown : s.vm.findClass own = some m.cls) (hy1 : y.name = "<init>") (hlink : (Cond.methodLink own index y).before args s = true) (hinst : (Cond.instanceMethod y).before args s = true)
    (hcode : (Cond.code y bytes maxL none).before args s = true) (hy : y.cls ≠ "java/lang/invoke/MethodHandle" ∧ y.cls ≠ "java/lang/invoke/VarHandle")
    {W9 : Nat} {Pre : Pt → Array Value → Prop} {Post : Pt → Array Value → Option Value → Pt → Prop} {PostX : Pt → Array Value → Addr → Pt → Prop} (hK : vx_Back l R p e below s args y 3 W9 Pre Post PostX)
    {g : JFrame} (hg : g.method = m) (hsize : g.locals.size = c.maxLocals) {a : Addr} {argsL rest : List Value} (hlen : ∀ sig, parseMethodDescriptor y.desc = some sig → argsL.length = sig.parameters.length)
    (hstack : g.stack = argsL.reverse ++ .ref a :: rest) (hW : 2 * g.monitorRoom + (rest.map fun v => v.category).sum ≤ W9) (hdg : decode c.code g.pc = .ok (.invokespecial index, 3))
    (hpre : ∀ vm₁, s.WarmedH vm₁ → Pre ⟨T.setVm vm₁, locs, cells, slots⟩ (Value.ref a :: argsL).toArray) :
    (∃ (v : Option Value) (vm₁ : Vm) (B : Pt), s.WarmedH vm₁ ∧ Stand p l e R s m args below meth c B.U B.locs B.cells B.slots ∧ Post ⟨T.setVm vm₁, locs, cells, slots⟩ (Value.ref a :: argsL).toArray v B ∧
      ∀ target, Steps p.tables e below (B.U.setTop { g with pc := g.pc + 3, stack := v.toList ++ rest }) target → Steps p.tables e below (T.setTop g) target) ∨
    (∃ (q : Addr) (vm₁ : Vm) (B : Pt), s.WarmedH vm₁ ∧ Stand p l e R s m args below meth c B.U B.locs B.cells B.slots ∧ PostX ⟨T.setVm vm₁, locs, cells, slots⟩ (Value.ref a :: argsL).toArray q B ∧
      Steps p.tables e below (T.setTop g) ((B.U.setTop { g with stack := rest }).pushFrame (.throwing q))) := by
  subst hg
  have hpl : e.platform.magicAccessors = ({} : Platform).magicAccessors := by rw [X.admits.platform]
  obtain ⟨mk, methM, cM, kP, vm₁, hnamed, hmethM, hcodeM, -, hlocalsM, -, hkP, -, hW₁, hstep₁⟩ := Steps.initColdArgs (e := e) X.here hexec X.warmed hpl hown hy1 hy hlink hinst hcode (f := g) rfl hlen hstack hdg
  have X₁ := X.noted hW₁
  rcases hK g.method meth c ⟨T.setVm vm₁, locs, cells, slots⟩ { g with stack := rest } (.invokespecial index) mk (Value.ref a :: argsL).toArray X₁ rfl hsize hdg hW (X₁.named hnamed) (hpre vm₁ X₁.warmed) with ⟨v, B, X', hpost, hsteps⟩ | ⟨q, B, X', hpost, hsteps⟩
  · exact Or.inl ⟨v, vm₁, B, X₁.warmed, X', hpost, fun target h => hstep₁ _ fun acts => by rw [doInvoke_state]; exact hsteps.trans h⟩
  · exact Or.inr ⟨q, vm₁, B, X₁.warmed, X', hpost, hstep₁ _ fun acts => by rw [doInvoke_state]; exact hsteps⟩
end VXIA
section VXIB
variable {p : Program} {l : Launch} {e : Env} {R : Room} {s : State} {m : MethodId} {args : Array Value} {below : List Frame} {meth : Method} {c : Code} {H : Heap} {locs : List Loc} {cells slots : Nat}
variable {y : MethodName} {bytes cc : ByteArray} {maxL nL mc ms n index : Nat} {ret : Option FieldType} {ws : List Cond} {rm : Room} {Pc : Array Value → State → Prop} {Qc : Array Value → State → Outcome → State → Prop} {XC : String → State → State → Prop} {free : Addr → Prop} {Ts : List Cond} {own C : String} {b : Addr} {As rest : List Value} {g : JFrame}
theorem vx_runI (S : CallFix p m c cc nL s args Ts own) (hM : vx_Met l y ws rm Pc Qc XC mc ms free) (cw : CallB R s args own index y bytes maxL none ws rm mc ms n ∧ y.name = "<init>" ∧ (Cond.instanceMethod y).before args s = true) (hp : PreS s H Pc (.ref b :: As))
    (hg : g.method = m) (hn : As.length = n) (hsize : g.locals.size = nL) (hstack : g.stack = As.reverse ++ .ref b :: rest) (hW : 2 * g.monitorRoom + (rest.map fun v => v.category).sum ≤ 8) (hdg : decode cc g.pc = .ok (.invokespecial index, 3)) (hf : cells + mc ≤ R.cells ∧ slots + ms ≤ R.slots) :
    vx_Run p l e R s m args below meth c H locs cells slots mc ms g rest (Qc (Value.ref b :: As).toArray) XC free := by
  have hK : vx_Back l R p e below s args y 3 8 (PreOf R mc ms Pc) (PostOf Qc mc ms free) (vx_Post XC mc ms free) := vx_callBack cw.1 hM hp.1
  obtain ⟨⟨-, -, -, -, -, -, hcode, -, hy, hlen, hl⟩, hy1, hin⟩ := cw
  obtain ⟨hx, hb, hml, ho, -⟩ := S
  have hPc := hp.2
  intro T hT X
  rcases vx_callI X hx (bytes := bytes) (maxL := maxL) ho hy1 hl hin hcode hy hK hg (hsize.trans hml.symm) (a := b) (argsL := As) (rest := rest) (fun sig h => hn.trans (hlen sig h)) hstack hW (by rw [hb]; exact hdg)
    (fun vm₁ hW₁ => ⟨hf.1, hf.2, hPc (T.setVm vm₁) hT hW₁⟩) with ⟨v, vm₁, ⟨U', l2, c2, s2⟩, hW₁, X', ⟨g', mk, t, L, e1, e2, hq, h1, hL, h2, h3⟩, st⟩ | ⟨q, vm₁, ⟨U', l2, c2, s2⟩, hW₁, X', ⟨g', mk, t, L, E, ce, e1, e2, hq, hce, hcv, hcl, h1, hL, h2, h3⟩, st⟩
  · dsimp only [Pt.U, Pt.locs, Pt.cells, Pt.slots] at X' e1 e2 h1 h2 h3 st
    subst h1; subst h2; subst h3
    exact Or.inl ⟨v, (T.setVm vm₁).calling g' mk (Value.ref b :: As).toArray, t, U', L, hT, X', hL, e1, e2, hq, st⟩
  · dsimp only [Pt.U, Pt.locs, Pt.cells, Pt.slots] at X' e1 e2 h1 h2 h3 st hcl
    subst h1; subst h2; subst h3
    exact Or.inr ⟨q, (T.setVm vm₁).calling g' mk (Value.ref b :: As).toArray, t, U', L, E, ce, hT, X', hL, e1, e2, hq, hce, hcv, vx_cls hW₁ hcl, st⟩
end VXIB
/-! ===== END ===== -/
/-! ===== BEGIN a private constructor of a nest mate that throws ===== -/
section VXIC
variable {p : Program} {l : Launch} {e : Env} {R : Room} {s : State} {m : MethodId} {args : Array Value} {below : List Frame} {meth : Method} {c : Code} {T : State} {locs : List Loc} {cells slots : Nat}
theorem vx_callIN (X : Stand p l e R s m args below meth c T locs cells slots) (hexec : p.tables.exec = Jvm.exec) {own : String} {index : Nat} {host : String} {y : MethodName} {bytes : ByteArray} {maxL : Nat}
    (hown : s.vm.findClass own = some m.cls) (hy1 : y.name = "<init>") (hlink : (Cond.methodLinkNest own index y host).before args s = true) (hinst : (Cond.instanceMethod y).before args s = true)
    (hcode : (Cond.code y bytes maxL none).before args s = true) (hy : y.cls ≠ "java/lang/invoke/MethodHandle" ∧ y.cls ≠ "java/lang/invoke/VarHandle")
    {W9 : Nat} {Pre : Pt → Array Value → Prop} {Post : Pt → Array Value → Option Value → Pt → Prop} {PostX : Pt → Array Value → Addr → Pt → Prop} (hK : vx_Back l R p e below s args y 3 W9 Pre Post PostX)
    {g : JFrame} (hg : g.method = m) (hsize : g.locals.size = c.maxLocals) {a : Addr} {argsL rest : List Value} (hlen : ∀ sig, parseMethodDescriptor y.desc = some sig → argsL.length = sig.parameters.length)
    (hstack : g.stack = argsL.reverse ++ .ref a :: rest) (hW : 2 * g.monitorRoom + (rest.map fun v => v.category).sum ≤ W9) (hdg : decode c.code g.pc = .ok (.invokespecial index, 3))
    (hpre : ∀ vm₁, s.WarmedH vm₁ → Pre ⟨T.setVm vm₁, locs, cells, slots⟩ (Value.ref a :: argsL).toArray) :
    (∃ (v : Option Value) (vm₁ : Vm) (B : Pt), s.WarmedH vm₁ ∧ Stand p l e R s m args below meth c B.U B.locs B.cells B.slots ∧ Post ⟨T.setVm vm₁, locs, cells, slots⟩ (Value.ref a :: argsL).toArray v B ∧
      ∀ target, Steps p.tables e below (B.U.setTop { g with pc := g.pc + 3, stack := v.toList ++ rest }) target → Steps p.tables e below (T.setTop g) target) ∨
    (∃ (q : Addr) (vm₁ : Vm) (B : Pt), s.WarmedH vm₁ ∧ Stand p l e R s m args below meth c B.U B.locs B.cells B.slots ∧ PostX ⟨T.setVm vm₁, locs, cells, slots⟩ (Value.ref a :: argsL).toArray q B ∧
      Steps p.tables e below (T.setTop g) ((B.U.setTop { g with stack := rest }).pushFrame (.throwing q))) := by
  subst hg
  have hpl : e.platform.magicAccessors = ({} : Platform).magicAccessors := by rw [X.admits.platform]
  obtain ⟨mk, methM, cM, kP, vm₁, hnamed, hmethM, hcodeM, -, hlocalsM, -, hkP, -, hW₁, hstep₁⟩ := Steps.initColdArgsNest (e := e) X.here hexec X.warmed hpl hown hy1 hy hlink hinst hcode (f := g) rfl hlen hstack hdg
  have X₁ := X.noted hW₁
  rcases hK g.method meth c ⟨T.setVm vm₁, locs, cells, slots⟩ { g with stack := rest } (.invokespecial index) mk (Value.ref a :: argsL).toArray X₁ rfl hsize hdg hW (X₁.named hnamed) (hpre vm₁ X₁.warmed) with ⟨v, B, X', hpost, hsteps⟩ | ⟨q, B, X', hpost, hsteps⟩
  · exact Or.inl ⟨v, vm₁, B, X₁.warmed, X', hpost, fun target h => hstep₁ _ fun acts => by rw [doInvoke_state]; exact hsteps.trans h⟩
  · exact Or.inr ⟨q, vm₁, B, X₁.warmed, X', hpost, hstep₁ _ fun acts => by rw [doInvoke_state]; exact hsteps⟩
end VXIC
section VXID
variable {p : Program} {l : Launch} {e : Env} {R : Room} {s : State} {m : MethodId} {args : Array Value} {below : List Frame} {meth : Method} {c : Code} {H : Heap} {locs : List Loc} {cells slots : Nat}
theorem vx_runIN {y : MethodName} {bytes cc : ByteArray} {maxL nL mc ms n index : Nat} {ws : List Cond} {rm : Room} {Pc : Array Value → State → Prop} {Qc : Array Value → State → Outcome → State → Prop} {XC : String → State → State → Prop} {free : Addr → Prop} {Ts : List Cond} {own host : String} {b : Addr} {As rest : List Value} {g : JFrame}
    (S : CallFix p m c cc nL s args Ts own) (hM : vx_Met l y ws rm Pc Qc XC mc ms free) (cw : va_CN R s args own index y host bytes maxL none ws rm mc ms n ∧ y.name = "<init>" ∧ (Cond.instanceMethod y).before args s = true) (hp : PreS s H Pc (.ref b :: As))
    (hg : g.method = m) (hn : As.length = n) (hsize : g.locals.size = nL) (hstack : g.stack = As.reverse ++ .ref b :: rest) (hW : 2 * g.monitorRoom + (rest.map fun v => v.category).sum ≤ 8) (hdg : decode cc g.pc = .ok (.invokespecial index, 3)) (hf : cells + mc ≤ R.cells ∧ slots + ms ≤ R.slots) :
    vx_Run p l e R s m args below meth c H locs cells slots mc ms g rest (Qc (Value.ref b :: As).toArray) XC free := by
  obtain ⟨⟨⟨hrc, hrs, hfr, hlo, hws, hcw⟩, hcode, hini, hy, hlen, hl⟩, hx1, hx2⟩ := cw
  have hK : vx_Back l R p e below s args y 3 8 (PreOf R mc ms Pc) (PostOf Qc mc ms free) (vx_Post XC mc ms free) := vx_back (bytes := bytes) (maxL := maxL) (ret := none) hM hp.1 hrc hrs hfr hlo hws hcw (fun a' U hW => word_at hW (Or.inl (by first | rfl | simp [Cond.onTables, Cond.keeps, Cond.steady])) hini)
  obtain ⟨hx, hb, hml, ho, -⟩ := S
  have hPc := hp.2
  intro T hT X
  rcases vx_callIN X hx (bytes := bytes) (maxL := maxL) ho hx1 hl hx2 hcode hy hK hg (hsize.trans hml.symm) (a := b) (argsL := As) (rest := rest) (fun sig h => hn.trans (hlen sig h)) hstack hW (by rw [hb]; exact hdg)
    (fun vm₁ hW₁ => ⟨hf.1, hf.2, hPc (T.setVm vm₁) hT hW₁⟩) with ⟨v, vm₁, ⟨U', l2, c2, s2⟩, hW₁, X', ⟨g', mk, t, L, e1, e2, hq, h1, hL, h2, h3⟩, st⟩ | ⟨q, vm₁, ⟨U', l2, c2, s2⟩, hW₁, X', ⟨g', mk, t, L, E, ce, e1, e2, hq, hce, hcv, hcl, h1, hL, h2, h3⟩, st⟩
  · dsimp only [Pt.U, Pt.locs, Pt.cells, Pt.slots] at X' e1 e2 h1 h2 h3 st
    subst h1; subst h2; subst h3
    exact Or.inl ⟨v, (T.setVm vm₁).calling g' mk (Value.ref b :: As).toArray, t, U', L, hT, X', hL, e1, e2, hq, st⟩
  · dsimp only [Pt.U, Pt.locs, Pt.cells, Pt.slots] at X' e1 e2 h1 h2 h3 st hcl
    subst h1; subst h2; subst h3
    exact Or.inr ⟨q, (T.setVm vm₁).calling g' mk (Value.ref b :: As).toArray, t, U', L, E, ce, hT, X', hL, e1, e2, hq, hce, hcv, vx_cls hW₁ hcl, st⟩
end VXID
/-! ===== END ===== -/
/-! ===== BEGIN a method of a class above, found by the receiver, that may throw (follows va_callVU, va_runU of this kit) ===== -/
section
variable {p : Program} {l : Launch} {e : Env} {R : Room} {s : State} {m : MethodId} {args : Array Value} {below : List Frame} {meth : Method} {c : Code} {H : Heap} {locs : List Loc} {cells slots : Nat}
theorem vx_callVU {T : State} {locs : List Loc} {cells slots : Nat} (X : Stand p l e R s m args below meth c T locs cells slots) (hexec : p.tables.exec = Jvm.exec) {own C owner : String} {index : Nat} {x y : MethodName} {bytes : ByteArray} {maxL : Nat} {ret : Option FieldType}
    (hown : s.vm.findClass own = some m.cls) (hlink : (Cond.methodLink own index x).before args s = true) (hsame : (Cond.sameMethod x.cls owner x.name x.desc).before args s = true)
    (hd0 : va_Decl s ⟨owner, x.name, x.desc⟩) (howner : owner ≠ "java/lang/invoke/MethodHandle" ∧ owner ≠ "java/lang/invoke/VarHandle")
    (hsel : (Cond.selects C x y).before args s = true) (hinst : (Cond.instanceMethod y).before args s = true) (hcode : (Cond.code y bytes maxL ret).before args s = true)
    {W : Nat} {Pre : Pt → Array Value → Prop} {Post : Pt → Array Value → Option Value → Pt → Prop} {PostX : Pt → Array Value → Addr → Pt → Prop} (hK : vx_Back l R p e below s args y 3 W Pre Post PostX)
    {b : Addr} {cellB : Cell} (hcell : T.heap[b]? = some cellB) (hobj : cellB.vm.isStatics = false) (hcls : s.vm.findClass C = some cellB.cls)
    {g : JFrame} (hg : g.method = m) (hsize : g.locals.size = c.maxLocals) {argsL rest : List Value} (hlen : ∀ sig, parseMethodDescriptor x.desc = some sig → argsL.length = sig.parameters.length)
    (hstack : g.stack = argsL.reverse ++ .ref b :: rest) (hW : 2 * g.monitorRoom + (rest.map fun v => v.category).sum ≤ W) (hdg : decode c.code g.pc = .ok (.invokevirtual index, 3))
    (hpre : ∀ vm₁, s.WarmedH vm₁ → Pre ⟨T.setVm vm₁, locs, cells, slots⟩ (Value.ref b :: argsL).toArray) :
    (∃ (v : Option Value) (vm₁ : Vm) (B : Pt), s.WarmedH vm₁ ∧ Stand p l e R s m args below meth c B.U B.locs B.cells B.slots ∧ Post ⟨T.setVm vm₁, locs, cells, slots⟩ (Value.ref b :: argsL).toArray v B ∧
      ∀ target, Steps p.tables e below (B.U.setTop { g with pc := g.pc + 3, stack := v.toList ++ rest }) target → Steps p.tables e below (T.setTop g) target) ∨
    (∃ (q : Addr) (vm₁ : Vm) (B : Pt), s.WarmedH vm₁ ∧ Stand p l e R s m args below meth c B.U B.locs B.cells B.slots ∧ PostX ⟨T.setVm vm₁, locs, cells, slots⟩ (Value.ref b :: argsL).toArray q B ∧
      Steps p.tables e below (T.setTop g) ((B.U.setTop { g with stack := rest }).pushFrame (.throwing q))) := by
  obtain ⟨r0, r, hn, hrm, hstR, hsigR⟩ := hd0
  obtain ⟨cn, ck, r1, hcn, hck, hni, hf, hn1⟩ := Cond.sameMethod_found hsame
  cases hn.symm.trans hn1
  obtain ⟨mk, methM, hnamed, hmethM, -, habM⟩ := Cond.instanceMethod_spec hinst
  obtain ⟨c2, r2, m2, q1, q2, q3, q4, kP, hkP, hkPi⟩ := Cond.selects_spec hsel
  cases hcls.symm.trans q1
  cases hf.symm.trans q2
  cases hnamed.symm.trans q3
  have hselP : selectMethod e.platform s.vm cellB.cls r0 = .method mk := by rw [Launch.admits_selectMethod X.admits]; exact q4
  obtain ⟨vm₁, X₁, hstep₁⟩ := X.invokevirtualUp hexec hown hlink hsame howner hn hrm hstR (a := b) (cell := cellB) hcell
    (fun z h => by rw [h] at hobj; cases hobj) hselP hmethM habM hkP hkPi (g := g) hg (argsL := argsL) (rest := rest) (hlen _ hsigR) hstack hdg
  rcases hK m meth c ⟨T.setVm vm₁, locs, cells, slots⟩ { g with stack := rest } (.invokevirtual index) mk (Value.ref b :: argsL).toArray X₁ hg hsize hdg hW (X₁.named hnamed) (hpre vm₁ X₁.warmed) with ⟨v, B, X', hpost, hsteps⟩ | ⟨q, B, X', hpost, hsteps⟩
  · exact Or.inl ⟨v, vm₁, B, X₁.warmed, X', hpost, fun target h => hstep₁ _ fun acts => by rw [doInvoke_state]; exact hsteps.trans h⟩
  · exact Or.inr ⟨q, vm₁, B, X₁.warmed, X', hpost, hstep₁ _ fun acts => by rw [doInvoke_state]; exact hsteps⟩
theorem vx_runU {x y : MethodName} {bytes cc : ByteArray} {maxL nL mc ms n index : Nat} {ret : Option FieldType} {ws : List Cond} {rm : Room} {Pc : Array Value → State → Prop} {Qc : Array Value → State → Outcome → State → Prop} {XC : String → State → State → Prop} {free : Addr → Prop} {Ts : List Cond} {own C owner : String} {b : Addr} {As rest : List Value} {g : JFrame}
    (S : CallFix p m c cc nL s args Ts own) (hM : vx_Met l y ws rm Pc Qc XC mc ms free) (cw : va_CU R s args own C owner index x y bytes maxL ret ws rm mc ms n) (hp : PreV s H C b Pc As)
    (hg : g.method = m) (hn : As.length = n) (hsize : g.locals.size = nL) (hstack : g.stack = As.reverse ++ .ref b :: rest) (hW : 2 * g.monitorRoom + (rest.map fun v => v.category).sum ≤ 8) (hdg : decode cc g.pc = .ok (.invokevirtual index, 3)) (hf : cells + mc ≤ R.cells ∧ slots + ms ≤ R.slots) :
    vx_Run p l e R s m args below meth c H locs cells slots mc ms g rest (Qc (Value.ref b :: As).toArray) XC free := by
  obtain ⟨hrc, hrs, hfr, hlo, hws, hcw⟩ := cw.back
  have hini := cw.init
  have hK : vx_Back l R p e below s args y 3 8 (PreOf R mc ms Pc) (PostOf Qc mc ms free) (vx_Post XC mc ms free) := vx_back (bytes := bytes) (maxL := maxL) (ret := ret) hM hp.1 hrc hrs hfr hlo hws hcw (fun a' U hW => word_at hW (Or.inl (by first | rfl | simp [Cond.onTables, Cond.keeps, Cond.steady])) hini)
  obtain ⟨hx, hb, hml, ho, -⟩ := S
  obtain ⟨-, ⟨cellB, hcB, hoB, hclB⟩, hPc⟩ := hp
  intro T hT X
  rcases vx_callVU X hx (C := C) (owner := owner) (bytes := bytes) (maxL := maxL) (ret := ret) ho cw.link cw.same cw.decl cw.notMH cw.sel cw.inst cw.code hK (by rw [hT]; exact hcB) hoB hclB hg (hsize.trans hml.symm) (argsL := As) (rest := rest) (fun sig h => hn.trans (cw.len sig h)) hstack hW (by rw [hb]; exact hdg)
    (fun vm₁ hW₁ => ⟨hf.1, hf.2, hPc (T.setVm vm₁) hT hW₁⟩) with ⟨v, vm₁, ⟨U', l2, c2, s2⟩, hW₁, X', ⟨g', mk, t, L, e1, e2, hq, h1, hL, h2, h3⟩, st⟩ | ⟨q, vm₁, ⟨U', l2, c2, s2⟩, hW₁, X', ⟨g', mk, t, L, E, ce, e1, e2, hq, hce, hcv, hcl, h1, hL, h2, h3⟩, st⟩
  · dsimp only [Pt.U, Pt.locs, Pt.cells, Pt.slots] at X' e1 e2 h1 h2 h3 st
    subst h1; subst h2; subst h3
    exact Or.inl ⟨v, (T.setVm vm₁).calling g' mk (Value.ref b :: As).toArray, t, U', L, hT, X', hL, e1, e2, hq, st⟩
  · dsimp only [Pt.U, Pt.locs, Pt.cells, Pt.slots] at X' e1 e2 h1 h2 h3 st hcl
    subst h1; subst h2; subst h3
    exact Or.inr ⟨q, (T.setVm vm₁).calling g' mk (Value.ref b :: As).toArray, t, U', L, E, ce, hT, X', hL, e1, e2, hq, hce, hcv, vx_cls hW₁ hcl, st⟩
end
/-! ===== END ===== -/
/-! ===== BEGIN super.m(..) that may throw (follows va_callSU, va_runSU) ===== -/
section
variable {p : Program} {l : Launch} {e : Env} {R : Room} {s : State} {m : MethodId} {args : Array Value} {below : List Frame} {meth : Method} {c : Code} {H : Heap} {locs : List Loc} {cells slots : Nat}
theorem vx_callSU {T : State} {locs : List Loc} {cells slots : Nat} (X : Stand p l e R s m args below meth c T locs cells slots) (hexec : p.tables.exec = Jvm.exec) {own : String} {index : Nat} {y : MethodName} {bytes : ByteArray} {maxL : Nat} {ret : Option FieldType}
    (hown : s.vm.findClass own = some m.cls) (hlink : (Cond.methodLink own index y).before args s = true) (hsame : (Cond.sameMethod y.cls y.cls y.name y.desc).before args s = true) (hsup : (Cond.superclass own y.cls).before args s = true)
    (hinst : (Cond.instanceMethod y).before args s = true) (hcode : (Cond.code y bytes maxL ret).before args s = true) (hno : y.name ≠ "<init>")
    {W : Nat} {Pre : Pt → Array Value → Prop} {Post : Pt → Array Value → Option Value → Pt → Prop} {PostX : Pt → Array Value → Addr → Pt → Prop} (hK : vx_Back l R p e below s args y 3 W Pre Post PostX)
    {b : Addr} {cellB : Cell} {kB : Class} (hcell : T.heap[b]? = some cellB) (hobj : cellB.vm.isStatics = false) (hkB : s.vm.classes[cellB.cls]? = some kB)
    {g : JFrame} (hg : g.method = m) (hsize : g.locals.size = c.maxLocals) {argsL rest : List Value} (hlen : ∀ sig, parseMethodDescriptor y.desc = some sig → argsL.length = sig.parameters.length)
    (hstack : g.stack = argsL.reverse ++ .ref b :: rest) (hW : 2 * g.monitorRoom + (rest.map fun v => v.category).sum ≤ W) (hdg : decode c.code g.pc = .ok (.invokespecial index, 3))
    (hpre : ∀ vm₁, s.WarmedH vm₁ → Pre ⟨T.setVm vm₁, locs, cells, slots⟩ (Value.ref b :: argsL).toArray) :
    (∃ (v : Option Value) (vm₁ : Vm) (B : Pt), s.WarmedH vm₁ ∧ Stand p l e R s m args below meth c B.U B.locs B.cells B.slots ∧ Post ⟨T.setVm vm₁, locs, cells, slots⟩ (Value.ref b :: argsL).toArray v B ∧
      ∀ target, Steps p.tables e below (B.U.setTop { g with pc := g.pc + 3, stack := v.toList ++ rest }) target → Steps p.tables e below (T.setTop g) target) ∨
    (∃ (q : Addr) (vm₁ : Vm) (B : Pt), s.WarmedH vm₁ ∧ Stand p l e R s m args below meth c B.U B.locs B.cells B.slots ∧ PostX ⟨T.setVm vm₁, locs, cells, slots⟩ (Value.ref b :: argsL).toArray q B ∧
      Steps p.tables e below (T.setTop g) ((B.U.setTop { g with stack := rest }).pushFrame (.throwing q))) := by
  obtain ⟨mk, methM, hnamed, hmethM, hstM, habM⟩ := Cond.instanceMethod_spec hinst
  obtain ⟨methM', cM, hmethM', -, -, -, -, -, -, hsigM⟩ := Cond.code_spec hnamed hcode
  cases hmethM.symm.trans hmethM'
  obtain ⟨ps, dk, kp, hps, hdk, hkp, hsuper, -, -, hnid⟩ := Cond.superclass_spec hown hsup
  have hn : s.methodNamed? ⟨y.cls, y.name, y.desc⟩ = some mk := hnamed
  have hpm : ps = mk.cls := Option.some.inj (hps.symm.trans (findClass_of_methodNamed hnamed))
  have hsub : s.vm.isSubclass ps mk.cls = true := by rw [hpm]; simp [Vm.isSubclass, Vm.isSubclassAux]
  obtain ⟨vm₁, X₁, hstep₁⟩ := X.invokespecialUp hexec hown hlink hsame hn hmethM hstM habM hno hdk hnid hps hsuper hsub (a := b) (cell := cellB) hcell
    (fun z h => by rw [h] at hobj; cases hobj) hkB (g := g) hg (argsL := argsL) (rest := rest) (hlen _ hsigM) hstack hdg
  rcases hK m meth c ⟨T.setVm vm₁, locs, cells, slots⟩ { g with stack := rest } (.invokespecial index) mk (Value.ref b :: argsL).toArray X₁ hg hsize hdg hW (X₁.named hnamed) (hpre vm₁ X₁.warmed) with ⟨v, B, X', hpost, hsteps⟩ | ⟨q, B, X', hpost, hsteps⟩
  · exact Or.inl ⟨v, vm₁, B, X₁.warmed, X', hpost, fun target h => hstep₁ _ (by rw [doInvoke_state]; exact hsteps.trans h)⟩
  · exact Or.inr ⟨q, vm₁, B, X₁.warmed, X', hpost, hstep₁ _ (by rw [doInvoke_state]; exact hsteps)⟩
theorem vx_runSU {y : MethodName} {bytes cc : ByteArray} {maxL nL mc ms n index : Nat} {ret : Option FieldType} {ws : List Cond} {rm : Room} {Pc : Array Value → State → Prop} {Qc : Array Value → State → Outcome → State → Prop} {XC : String → State → State → Prop} {free : Addr → Prop} {Ts : List Cond} {own C : String} {cC : ClassId} {b : Addr} {As rest : List Value} {g : JFrame}
    (hat : ClassAt s C cC) (S : CallFix p m c cc nL s args Ts own) (hM : vx_Met l y ws rm Pc Qc XC mc ms free) (cw : va_CS R s args own index y bytes maxL ret ws rm mc ms n) (hp : PreV s H C b Pc As)
    (hg : g.method = m) (hn : As.length = n) (hsize : g.locals.size = nL) (hstack : g.stack = As.reverse ++ .ref b :: rest) (hW : 2 * g.monitorRoom + (rest.map fun v => v.category).sum ≤ 8) (hdg : decode cc g.pc = .ok (.invokespecial index, 3)) (hf : cells + mc ≤ R.cells ∧ slots + ms ≤ R.slots) :
    vx_Run p l e R s m args below meth c H locs cells slots mc ms g rest (Qc (Value.ref b :: As).toArray) XC free := by
  obtain ⟨⟨hrc, hrs, hfr, hlo, hws, hcw⟩, hl1, hl2, hl3, hl4, hini, hcode, hno, hlen⟩ := cw
  have hK : vx_Back l R p e below s args y 3 8 (PreOf R mc ms Pc) (PostOf Qc mc ms free) (vx_Post XC mc ms free) := vx_back (bytes := bytes) (maxL := maxL) (ret := ret) hM hp.1 hrc hrs hfr hlo hws hcw (fun a' U hW => word_at hW (Or.inl (by first | rfl | simp [Cond.onTables, Cond.keeps, Cond.steady])) hini)
  obtain ⟨hx, hb, hml, ho, -⟩ := S
  obtain ⟨-, ⟨cellB, hcB, hoB, hclB⟩, hPc⟩ := hp
  obtain ⟨hfc, kB, hkB, -⟩ := hat
  cases hfc.symm.trans hclB
  intro T hT X
  rcases vx_callSU X hx (bytes := bytes) (maxL := maxL) (ret := ret) ho hl1 hl2 hl3 hl4 hcode hno hK (by rw [hT]; exact hcB) hoB hkB hg (hsize.trans hml.symm) (argsL := As) (rest := rest) (fun sig h => hn.trans (hlen sig h)) hstack hW (by rw [hb]; exact hdg)
    (fun vm₁ hW₁ => ⟨hf.1, hf.2, hPc (T.setVm vm₁) hT hW₁⟩) with ⟨v, vm₁, ⟨U', l2, c2, s2⟩, hW₁, X', ⟨g', mk, t, L, e1, e2, hq, h1, hL, h2, h3⟩, st⟩ | ⟨q, vm₁, ⟨U', l2, c2, s2⟩, hW₁, X', ⟨g', mk, t, L, E, ce, e1, e2, hq, hce, hcv, hcl, h1, hL, h2, h3⟩, st⟩
  · dsimp only [Pt.U, Pt.locs, Pt.cells, Pt.slots] at X' e1 e2 h1 h2 h3 st
    subst h1; subst h2; subst h3
    exact Or.inl ⟨v, (T.setVm vm₁).calling g' mk (Value.ref b :: As).toArray, t, U', L, hT, X', hL, e1, e2, hq, st⟩
  · dsimp only [Pt.U, Pt.locs, Pt.cells, Pt.slots] at X' e1 e2 h1 h2 h3 st hcl
    subst h1; subst h2; subst h3
    exact Or.inr ⟨q, (T.setVm vm₁).calling g' mk (Value.ref b :: As).toArray, t, U', L, E, ce, hT, X', hL, e1, e2, hq, hce, hcv, vx_cls hW₁ hcl, st⟩
end
/-! ===== END ===== -/
/-! ===== BEGIN a private method of a nest mate that may throw (follows va_callVN, va_callSN, va_runVN, va_runSN) ===== -/
section
variable {p : Program} {l : Launch} {e : Env} {R : Room} {s : State} {m : MethodId} {args : Array Value} {below : List Frame} {meth : Method} {c : Code} {H : Heap} {locs : List Loc} {cells slots : Nat}
variable {T : State}
theorem vx_callVN (X : Stand p l e R s m args below meth c T locs cells slots) (hexec : p.tables.exec = Jvm.exec) {own C : String} {index : Nat} {host : String} {y : MethodName} {bytes : ByteArray} {maxL : Nat} {ret : Option FieldType}
    (hown : s.vm.findClass own = some m.cls) (hlink : (Cond.methodLinkNest own index y host).before args s = true) (hinst : (Cond.instanceMethod y).before args s = true) (hsel : (Cond.selects C y y).before args s = true)
    (hcode : (Cond.code y bytes maxL ret).before args s = true) (hy : y.cls ≠ "java/lang/invoke/MethodHandle" ∧ y.cls ≠ "java/lang/invoke/VarHandle")
    {W : Nat} {Pre : Pt → Array Value → Prop} {Post : Pt → Array Value → Option Value → Pt → Prop} {PostX : Pt → Array Value → Addr → Pt → Prop} (hK : vx_Back l R p e below s args y 3 W Pre Post PostX)
    {b : Addr} {cellB : Cell} (hcell : T.heap[b]? = some cellB) (hobj : cellB.vm.isStatics = false) (hcls : s.vm.findClass C = some cellB.cls)
    {g : JFrame} (hg : g.method = m) (hsize : g.locals.size = c.maxLocals) {argsL rest : List Value} (hlen : ∀ sig, parseMethodDescriptor y.desc = some sig → argsL.length = sig.parameters.length)
    (hstack : g.stack = argsL.reverse ++ .ref b :: rest) (hW : 2 * g.monitorRoom + (rest.map fun v => v.category).sum ≤ W) (hdg : decode c.code g.pc = .ok (.invokevirtual index, 3))
    (hpre : ∀ vm₁, s.WarmedH vm₁ → Pre ⟨T.setVm vm₁, locs, cells, slots⟩ (Value.ref b :: argsL).toArray) :
    (∃ (v : Option Value) (vm₁ : Vm) (B : Pt), s.WarmedH vm₁ ∧ Stand p l e R s m args below meth c B.U B.locs B.cells B.slots ∧ Post ⟨T.setVm vm₁, locs, cells, slots⟩ (Value.ref b :: argsL).toArray v B ∧
      ∀ target, Steps p.tables e below (B.U.setTop { g with pc := g.pc + 3, stack := v.toList ++ rest }) target → Steps p.tables e below (T.setTop g) target) ∨
    (∃ (q : Addr) (vm₁ : Vm) (B : Pt), s.WarmedH vm₁ ∧ Stand p l e R s m args below meth c B.U B.locs B.cells B.slots ∧ PostX ⟨T.setVm vm₁, locs, cells, slots⟩ (Value.ref b :: argsL).toArray q B ∧
      Steps p.tables e below (T.setTop g) ((B.U.setTop { g with stack := rest }).pushFrame (.throwing q))) := by
  obtain ⟨mk, methM, hnamed, hmethM, hstM, habM⟩ := Cond.instanceMethod_spec hinst
  obtain ⟨methM', cM, hmethM', -, -, -, -, -, -, hsigM⟩ := Cond.code_spec hnamed hcode
  cases hmethM.symm.trans hmethM'
  obtain ⟨c2, r2, m2, q1, q2, q3, q4, kP, hkP, hkPi⟩ := Cond.selects_spec hsel
  cases hcls.symm.trans q1
  cases (State.methodFound?_of_named hnamed hy).symm.trans q2
  cases hnamed.symm.trans q3
  have hselP : selectMethod e.platform s.vm cellB.cls mk = .method mk := by rw [Launch.admits_selectMethod X.admits]; exact q4
  obtain ⟨vm₁, X₁, hstep₁⟩ := X.invokevirtualNest hexec hown hlink hnamed hmethM hstM hkP hkPi hy (a := b) (cell := cellB) hcell
    (fun z h => by rw [h] at hobj; cases hobj) hselP hmethM habM hkP hkPi (g := g) hg (argsL := argsL) (rest := rest) (hlen _ hsigM) hstack hdg
  rcases hK m meth c ⟨T.setVm vm₁, locs, cells, slots⟩ { g with stack := rest } (.invokevirtual index) mk (Value.ref b :: argsL).toArray X₁ hg hsize hdg hW (X₁.named hnamed) (hpre vm₁ X₁.warmed) with ⟨v, B, X', hpost, hsteps⟩ | ⟨q, B, X', hpost, hsteps⟩
  · exact Or.inl ⟨v, vm₁, B, X₁.warmed, X', hpost, fun target h => hstep₁ _ fun acts => by rw [doInvoke_state]; exact hsteps.trans h⟩
  · exact Or.inr ⟨q, vm₁, B, X₁.warmed, X', hpost, hstep₁ _ fun acts => by rw [doInvoke_state]; exact hsteps⟩
theorem vx_callSN (X : Stand p l e R s m args below meth c T locs cells slots) (hexec : p.tables.exec = Jvm.exec) {own : String} {index : Nat} {host : String} {y : MethodName} {bytes : ByteArray} {maxL : Nat} {ret : Option FieldType}
    (hown : s.vm.findClass own = some m.cls) (hlink : (Cond.methodLinkNest own index y host).before args s = true) (hstat : (Cond.static y).before args s = true) (hinit : (Cond.initialized y.cls).before args s = true)
    (hcode : (Cond.code y bytes maxL ret).before args s = true) (hy : y.cls ≠ "java/lang/invoke/MethodHandle" ∧ y.cls ≠ "java/lang/invoke/VarHandle")
    {W : Nat} {Pre : Pt → Array Value → Prop} {Post : Pt → Array Value → Option Value → Pt → Prop} {PostX : Pt → Array Value → Addr → Pt → Prop} (hK : vx_Back l R p e below s args y 3 W Pre Post PostX)
    {g : JFrame} (hg : g.method = m) (hsize : g.locals.size = c.maxLocals) {argsL rest : List Value} (hlen : ∀ sig, parseMethodDescriptor y.desc = some sig → argsL.length = sig.parameters.length)
    (hstack : g.stack = argsL.reverse ++ rest) (hW : 2 * g.monitorRoom + (rest.map fun v => v.category).sum ≤ W) (hdg : decode c.code g.pc = .ok (.invokestatic index, 3))
    (hpre : ∀ vm₁, s.WarmedH vm₁ → Pre ⟨T.setVm vm₁, locs, cells, slots⟩ argsL.toArray) :
    (∃ (v : Option Value) (vm₁ : Vm) (B : Pt), s.WarmedH vm₁ ∧ Stand p l e R s m args below meth c B.U B.locs B.cells B.slots ∧ Post ⟨T.setVm vm₁, locs, cells, slots⟩ argsL.toArray v B ∧
      ∀ target, Steps p.tables e below (B.U.setTop { g with pc := g.pc + 3, stack := v.toList ++ rest }) target → Steps p.tables e below (T.setTop g) target) ∨
    (∃ (q : Addr) (vm₁ : Vm) (B : Pt), s.WarmedH vm₁ ∧ Stand p l e R s m args below meth c B.U B.locs B.cells B.slots ∧ PostX ⟨T.setVm vm₁, locs, cells, slots⟩ argsL.toArray q B ∧
      Steps p.tables e below (T.setTop g) ((B.U.setTop { g with stack := rest }).pushFrame (.throwing q))) := by
  obtain ⟨mk, hnamed⟩ := Cond.code_named hcode
  obtain ⟨methM, cM, hmethM, -, -, -, -, -, -, hsigM⟩ := Cond.code_spec hnamed hcode
  have hstatic : methM.isStatic = true := Cond.static_spec hnamed hmethM hstat
  obtain ⟨kP, hkP, -⟩ := className_of_methodNamed hnamed
  have hinitP : kP.init = .initialized := Cond.initialized_spec (findClass_of_methodNamed hnamed) hkP hinit
  obtain ⟨vm₁, X₁, hstep₁⟩ := X.invokestaticNest hexec hown hlink hnamed hmethM hstatic hkP hinitP hy (g := g) hg (argsL := argsL) (rest := rest) (hlen _ hsigM) hstack hdg
  rcases hK m meth c ⟨T.setVm vm₁, locs, cells, slots⟩ { g with stack := rest } (.invokestatic index) mk argsL.toArray X₁ hg hsize hdg hW (X₁.named hnamed) (hpre vm₁ X₁.warmed) with ⟨v, B, X', hpost, hsteps⟩ | ⟨q, B, X', hpost, hsteps⟩
  · exact Or.inl ⟨v, vm₁, B, X₁.warmed, X', hpost, fun target h => hstep₁ _ fun acts => by rw [doInvoke_state]; exact hsteps.trans h⟩
  · exact Or.inr ⟨q, vm₁, B, X₁.warmed, X', hpost, hstep₁ _ fun acts => by rw [doInvoke_state]; exact hsteps⟩
theorem vx_runVN {y : MethodName} {bytes cc : ByteArray} {maxL nL mc ms n index : Nat} {ret : Option FieldType} {ws : List Cond} {rm : Room} {Pc : Array Value → State → Prop} {Qc : Array Value → State → Outcome → State → Prop} {XC : String → State → State → Prop} {free : Addr → Prop} {Ts : List Cond} {own C host : String} {b : Addr} {As rest : List Value} {g : JFrame}
    (S : CallFix p m c cc nL s args Ts own) (hM : vx_Met l y ws rm Pc Qc XC mc ms free) (cw : va_CN R s args own index y host bytes maxL ret ws rm mc ms n ∧ (Cond.instanceMethod y).before args s = true ∧ (Cond.selects C y y).before args s = true) (hp : PreV s H C b Pc As)
    (hg : g.method = m) (hn : As.length = n) (hsize : g.locals.size = nL) (hstack : g.stack = As.reverse ++ .ref b :: rest) (hW : 2 * g.monitorRoom + (rest.map fun v => v.category).sum ≤ 8) (hdg : decode cc g.pc = .ok (.invokevirtual index, 3)) (hf : cells + mc ≤ R.cells ∧ slots + ms ≤ R.slots) :
    vx_Run p l e R s m args below meth c H locs cells slots mc ms g rest (Qc (Value.ref b :: As).toArray) XC free := by
  obtain ⟨⟨⟨hrc, hrs, hfr, hlo, hws, hcw⟩, hcode, hini, hy, hlen, hl⟩, hx1, hx2⟩ := cw
  have hK : vx_Back l R p e below s args y 3 8 (PreOf R mc ms Pc) (PostOf Qc mc ms free) (vx_Post XC mc ms free) := vx_back (bytes := bytes) (maxL := maxL) (ret := ret) hM hp.1 hrc hrs hfr hlo hws hcw (fun a' U hW => word_at hW (Or.inl (by first | rfl | simp [Cond.onTables, Cond.keeps, Cond.steady])) hini)
  obtain ⟨hx, hb, hml, ho, -⟩ := S
  obtain ⟨-, ⟨cellB, hcB, hoB, hclB⟩, hPc⟩ := hp
  intro T hT X
  rcases vx_callVN X hx (C := C) (bytes := bytes) (maxL := maxL) (ret := ret) ho hl hx1 hx2 hcode hy hK (by rw [hT]; exact hcB) hoB hclB hg (hsize.trans hml.symm) (argsL := As) (rest := rest) (fun sig h => hn.trans (hlen sig h)) hstack hW (by rw [hb]; exact hdg)
    (fun vm₁ hW₁ => ⟨hf.1, hf.2, hPc (T.setVm vm₁) hT hW₁⟩) with ⟨v, vm₁, ⟨U', l2, c2, s2⟩, hW₁, X', ⟨g', mk, t, L, e1, e2, hq, h1, hL, h2, h3⟩, st⟩ | ⟨q, vm₁, ⟨U', l2, c2, s2⟩, hW₁, X', ⟨g', mk, t, L, E, ce, e1, e2, hq, hce, hcv, hcl, h1, hL, h2, h3⟩, st⟩
  · dsimp only [Pt.U, Pt.locs, Pt.cells, Pt.slots] at X' e1 e2 h1 h2 h3 st
    subst h1; subst h2; subst h3
    exact Or.inl ⟨v, (T.setVm vm₁).calling g' mk (Value.ref b :: As).toArray, t, U', L, hT, X', hL, e1, e2, hq, st⟩
  · dsimp only [Pt.U, Pt.locs, Pt.cells, Pt.slots] at X' e1 e2 h1 h2 h3 st hcl
    subst h1; subst h2; subst h3
    exact Or.inr ⟨q, (T.setVm vm₁).calling g' mk (Value.ref b :: As).toArray, t, U', L, E, ce, hT, X', hL, e1, e2, hq, hce, hcv, vx_cls hW₁ hcl, st⟩
theorem vx_runSN {y : MethodName} {bytes cc : ByteArray} {maxL nL mc ms n index : Nat} {ret : Option FieldType} {ws : List Cond} {rm : Room} {Pc : Array Value → State → Prop} {Qc : Array Value → State → Outcome → State → Prop} {XC : String → State → State → Prop} {free : Addr → Prop} {Ts : List Cond} {own host : String} {As rest : List Value} {g : JFrame}
    (S : CallFix p m c cc nL s args Ts own) (hM : vx_Met l y ws rm Pc Qc XC mc ms free) (cw : va_CN R s args own index y host bytes maxL ret ws rm mc ms n ∧ (Cond.static y).before args s = true ∧ True) (hp : PreS s H Pc As)
    (hg : g.method = m) (hn : As.length = n) (hsize : g.locals.size = nL) (hstack : g.stack = As.reverse ++ rest) (hW : 2 * g.monitorRoom + (rest.map fun v => v.category).sum ≤ 8) (hdg : decode cc g.pc = .ok (.invokestatic index, 3)) (hf : cells + mc ≤ R.cells ∧ slots + ms ≤ R.slots) :
    vx_Run p l e R s m args below meth c H locs cells slots mc ms g rest (Qc As.toArray) XC free := by
  obtain ⟨⟨⟨hrc, hrs, hfr, hlo, hws, hcw⟩, hcode, hini, hy, hlen, hl⟩, hx1, hx2⟩ := cw
  have hK : vx_Back l R p e below s args y 3 8 (PreOf R mc ms Pc) (PostOf Qc mc ms free) (vx_Post XC mc ms free) := vx_back (bytes := bytes) (maxL := maxL) (ret := ret) hM hp.1 hrc hrs hfr hlo hws hcw (fun a' U hW => word_at hW (Or.inl (by first | rfl | simp [Cond.onTables, Cond.keeps, Cond.steady])) hini)
  obtain ⟨hx, hb, hml, ho, -⟩ := S
  have hPc := hp.2
  intro T hT X
  rcases vx_callSN X hx (bytes := bytes) (maxL := maxL) (ret := ret) ho hl hx1 hini hcode hy hK hg (hsize.trans hml.symm) (argsL := As) (rest := rest) (fun sig h => hn.trans (hlen sig h)) hstack hW (by rw [hb]; exact hdg)
    (fun vm₁ hW₁ => ⟨hf.1, hf.2, hPc (T.setVm vm₁) hT hW₁⟩) with ⟨v, vm₁, ⟨U', l2, c2, s2⟩, hW₁, X', ⟨g', mk, t, L, e1, e2, hq, h1, hL, h2, h3⟩, st⟩ | ⟨q, vm₁, ⟨U', l2, c2, s2⟩, hW₁, X', ⟨g', mk, t, L, E, ce, e1, e2, hq, hce, hcv, hcl, h1, hL, h2, h3⟩, st⟩
  · dsimp only [Pt.U, Pt.locs, Pt.cells, Pt.slots] at X' e1 e2 h1 h2 h3 st
    subst h1; subst h2; subst h3
    exact Or.inl ⟨v, (T.setVm vm₁).calling g' mk As.toArray, t, U', L, hT, X', hL, e1, e2, hq, st⟩
  · dsimp only [Pt.U, Pt.locs, Pt.cells, Pt.slots] at X' e1 e2 h1 h2 h3 st hcl
    subst h1; subst h2; subst h3
    exact Or.inr ⟨q, (T.setVm vm₁).calling g' mk As.toArray, t, U', L, E, ce, hT, X', hL, e1, e2, hq, hce, hcv, vx_cls hW₁ hcl, st⟩
end
/-! ===== END ===== -/
/-! ===== BEGIN calls by an interface of methods that may throw (vx_callIF, vx_runF follow va_callIF, va_runF of this kit) ===== -/
section
variable {p : Program} {l : Launch} {e : Env} {R : Room} {s : State} {m : MethodId} {args : Array Value} {below : List Frame} {meth : Method} {c : Code} {H : Heap} {locs : List Loc} {cells slots : Nat} {Q : State → Prop}
variable {mc ms : Nat} {free : Addr → Prop} {A0 A1 : Nat → Prop} {H0 : Heap} {a : Array Value} {pc : Nat} {ls : Array Slot} {st0 rest : List Value}
def vx_Run5 (p : Program) (l : Launch) (e : Env) (R : Room) (s : State) (m : MethodId) (args : Array Value) (below : List Frame) (meth : Method) (c : Code) (H : Heap) (locs : List Loc) (cells slots mc ms : Nat) (g : JFrame) (rest : List Value) (Qa : State → Outcome → State → Prop) (XC : String → State → State → Prop) (free : Addr → Prop) : Prop :=
  ∀ T : State, T.heap = H → Stand p l e R s m args below meth c T locs cells slots →
    (∃ (v : Option Value) (st₀ t T' : State) (L : List Loc), st₀.heap = H ∧ Stand p l e R s m args below meth c T' (locs ++ L) (cells + mc) (slots + ms) ∧ (∀ q ∈ L, free q.base) ∧ T'.heap = t.heap ∧ T'.vm = t.vm ∧ Qa st₀ (.returned v) t ∧
      Goes p e below T g T' { g with pc := g.pc + 5, stack := v.toList ++ rest }) ∨
    (∃ (q : Addr) (st₀ t T' : State) (L : List Loc) (E : String) (ce : Cell), st₀.heap = H ∧ Stand p l e R s m args below meth c T' (locs ++ L) (cells + mc) (slots + ms) ∧ (∀ z ∈ L, free z.base) ∧ T'.heap = t.heap ∧ T'.vm = t.vm ∧ XC E st₀ t ∧ t.heap[q]? = some ce ∧ ce.vm = .none ∧ s.vm.findClass E = some ce.cls ∧
      Steps p.tables e below (T.setTop g) ((T'.setTop { g with stack := rest }).pushFrame (.throwing q)))
theorem vx_callIF {T : State} (X : Stand p l e R s m args below meth c T locs cells slots) (hexec : p.tables.exec = Jvm.exec) {own C : String} {index count : Nat} {x y : MethodName} {bytes : ByteArray} {maxL : Nat} {ret : Option FieldType}
    (hown : s.vm.findClass own = some m.cls) (hlink : (Cond.methodLink own index x).before args s = true) (hdecl : (Cond.declares x).before args s = true) (hface : (Cond.interfaceMethod x.cls x.cls x.name x.desc).before args s = true)
    (hsel : (Cond.selects C x y).before args s = true) (hinst : (Cond.instanceMethod y).before args s = true) (hpub : (Cond.publicMethod y).before args s = true) (hunh : (Cond.unhidden C x.name x.desc).before args s = true)
    (hcast : (Cond.castable C x.cls).before args s = true) (hcode : (Cond.code y bytes maxL ret).before args s = true) (hx : x.cls ≠ "java/lang/invoke/MethodHandle" ∧ x.cls ≠ "java/lang/invoke/VarHandle")
    {W9 : Nat} {Pre : Pt → Array Value → Prop} {Post : Pt → Array Value → Option Value → Pt → Prop} {PostX : Pt → Array Value → Addr → Pt → Prop} (hK : vx_Back l R p e below s args y 5 W9 Pre Post PostX)
    {b : Addr} {cellB : Cell} {kB : Class} (hcell : T.heap[b]? = some cellB) (hobj : cellB.vm.isStatics = false) (hcls : s.vm.findClass C = some cellB.cls) (hkB : s.vm.classes[cellB.cls]? = some kB)
    {g : JFrame} (hg : g.method = m) (hsize : g.locals.size = c.maxLocals) {argsL rest : List Value} (hlen : ∀ sig, parseMethodDescriptor x.desc = some sig → argsL.length = sig.parameters.length)
    (hstack : g.stack = argsL.reverse ++ .ref b :: rest) (hW : 2 * g.monitorRoom + (rest.map fun v => v.category).sum ≤ W9) (hdg : decode c.code g.pc = .ok (.invokeinterface index count, 5))
    (hpre : ∀ vm₁, s.WarmedH vm₁ → Pre ⟨T.setVm vm₁, locs, cells, slots⟩ (Value.ref b :: argsL).toArray) :
    (∃ (v : Option Value) (vm₁ : Vm) (B : Pt), s.WarmedH vm₁ ∧ Stand p l e R s m args below meth c B.U B.locs B.cells B.slots ∧ Post ⟨T.setVm vm₁, locs, cells, slots⟩ (Value.ref b :: argsL).toArray v B ∧
      ∀ target, Steps p.tables e below (B.U.setTop { g with pc := g.pc + 5, stack := v.toList ++ rest }) target → Steps p.tables e below (T.setTop g) target) ∨
    (∃ (q : Addr) (vm₁ : Vm) (B : Pt), s.WarmedH vm₁ ∧ Stand p l e R s m args below meth c B.U B.locs B.cells B.slots ∧ PostX ⟨T.setVm vm₁, locs, cells, slots⟩ (Value.ref b :: argsL).toArray q B ∧
      Steps p.tables e below (T.setTop g) ((B.U.setTop { g with stack := rest }).pushFrame (.throwing q))) := by
  obtain ⟨r0, r, hn, hrm, hstR, hsigR⟩ := Cond.declares_spec hdecl
  obtain ⟨cL, kL, r1, hcL, hkL, hiL, hfoundL, hn1⟩ := Cond.interfaceMethod_spec hface
  cases hn.symm.trans hn1
  have hr0cls : r0.cls = cL := Option.some.inj ((findClass_of_methodNamed hn).symm.trans hcL)
  obtain ⟨hnameR, hdescR⟩ := name_of_methodNamed hn hrm
  obtain ⟨mk, methM, hnamed, hmethM, -, habM⟩ := Cond.instanceMethod_spec hinst
  obtain ⟨c2, r2, m2, q1, q2, q3, q4, -⟩ := Cond.selects_spec hsel
  cases hcls.symm.trans q1
  cases hfoundL.symm.trans q2
  cases hnamed.symm.trans q3
  have hselP : selectMethod e.platform s.vm cellB.cls r0 = .method mk := by rw [Launch.admits_selectMethod X.admits]; exact q4
  have hpubM : hasFlag methM.accessFlags Acc.public_ = true := Cond.publicMethod_spec hnamed hmethM hpub
  have hway : ((cellB.cls :: s.vm.superclasses cellB.cls).any fun k => (declaredIn s.vm r.name r.desc k).any fun (_, z) => z.isPrivate || z.isStatic) = false := by
    rw [hnameR, hdescR]; exact Cond.unhidden_spec hcls hunh
  obtain ⟨c3, t3, w1, w2, w3⟩ := Cond.castable_spec hcast
  cases hcls.symm.trans w1
  cases hcL.symm.trans w2
  obtain ⟨vm₁, X₁, hstep₁⟩ := X.invokeinterface hexec hown hlink hn hrm hstR (by rw [hr0cls]; exact hkL) hiL hx (a := b) (cell := cellB) (kcell := kB) hcell
    (fun z h => by rw [h] at hobj; cases hobj) hkB (by rw [hr0cls]; exact w3) hselP hmethM hway hpubM habM (g := g) hg (argsL := argsL) (rest := rest) (hlen _ hsigR) hstack hdg
  rcases hK m meth c ⟨T.setVm vm₁, locs, cells, slots⟩ { g with stack := rest } (.invokeinterface index count) mk (Value.ref b :: argsL).toArray X₁ hg hsize hdg hW (X₁.named hnamed) (hpre vm₁ X₁.warmed) with ⟨v, B, X', hpost, hsteps⟩ | ⟨q, B, X', hpost, hsteps⟩
  · exact Or.inl ⟨v, vm₁, B, X₁.warmed, X', hpost, fun target h => hstep₁ _ fun acts => by rw [doInvoke_state]; exact hsteps.trans h⟩
  · exact Or.inr ⟨q, vm₁, B, X₁.warmed, X', hpost, hstep₁ _ fun acts => by rw [doInvoke_state]; exact hsteps⟩
theorem vx_runF {x y : MethodName} {bytes cc : ByteArray} {maxL nL mc ms n index count : Nat} {ret : Option FieldType} {ws : List Cond} {rm : Room} {Pc : Array Value → State → Prop} {Qc : Array Value → State → Outcome → State → Prop} {XC : String → State → State → Prop} {free : Addr → Prop} {Ts : List Cond} {own C : String} {cC : ClassId} {b : Addr} {As rest : List Value} {g : JFrame}
    (hat : ClassAt s C cC) (S : CallFix p m c cc nL s args Ts own) (hM : vx_Met l y ws rm Pc Qc XC mc ms free) (cw : va_CI R s args own C index x y bytes maxL ret ws rm mc ms n) (hp : PreV s H C b Pc As)
    (hg : g.method = m) (hn : As.length = n) (hsize : g.locals.size = nL) (hstack : g.stack = As.reverse ++ .ref b :: rest) (hW : 2 * g.monitorRoom + (rest.map fun v => v.category).sum ≤ 8) (hdg : decode cc g.pc = .ok (.invokeinterface index count, 5)) (hf : cells + mc ≤ R.cells ∧ slots + ms ≤ R.slots) :
    vx_Run5 p l e R s m args below meth c H locs cells slots mc ms g rest (Qc (Value.ref b :: As).toArray) XC free := by
  obtain ⟨hrc, hrs, hfr, hlo, hws, hcw⟩ := cw.back
  have hini := cw.init
  have hK : vx_Back l R p e below s args y 5 8 (PreOf R mc ms Pc) (PostOf Qc mc ms free) (vx_Post XC mc ms free) := vx_back (bytes := bytes) (maxL := maxL) (ret := ret) hM hp.1 hrc hrs hfr hlo hws hcw (fun a' U hW => word_at hW (Or.inl (by first | rfl | simp [Cond.onTables, Cond.keeps, Cond.steady])) hini)
  obtain ⟨hx, hb, hml, ho, -⟩ := S
  obtain ⟨-, ⟨cellB, hcB, hoB, hclB⟩, hPc⟩ := hp
  obtain ⟨hfc, kB, hkB, -⟩ := hat
  cases hfc.symm.trans hclB
  intro T hT X
  rcases vx_callIF X hx (C := C) (bytes := bytes) (maxL := maxL) (ret := ret) ho cw.link cw.decl cw.face cw.sel cw.inst cw.pub cw.unh cw.cast cw.code cw.notMH hK (by rw [hT]; exact hcB) hoB hclB hkB hg (hsize.trans hml.symm) (argsL := As) (rest := rest) (fun sig h => hn.trans (cw.len sig h)) hstack hW (by rw [hb]; exact hdg)
    (fun vm₁ hW₁ => ⟨hf.1, hf.2, hPc (T.setVm vm₁) hT hW₁⟩) with ⟨v, vm₁, ⟨U', l2, c2, s2⟩, hW₁, X', ⟨g', mk, t, L, e1, e2, hq, h1, hL, h2, h3⟩, st⟩ | ⟨q, vm₁, ⟨U', l2, c2, s2⟩, hW₁, X', ⟨g', mk, t, L, E, ce, e1, e2, hq, hce, hcv, hcl, h1, hL, h2, h3⟩, st⟩
  · dsimp only [Pt.U, Pt.locs, Pt.cells, Pt.slots] at X' e1 e2 h1 h2 h3 st
    subst h1; subst h2; subst h3
    exact Or.inl ⟨v, (T.setVm vm₁).calling g' mk (Value.ref b :: As).toArray, t, U', L, hT, X', hL, e1, e2, hq, st⟩
  · dsimp only [Pt.U, Pt.locs, Pt.cells, Pt.slots] at X' e1 e2 h1 h2 h3 st hcl
    subst h1; subst h2; subst h3
    exact Or.inr ⟨q, (T.setVm vm₁).calling g' mk (Value.ref b :: As).toArray, t, U', L, E, ce, hT, X', hL, e1, e2, hq, hce, hcv, vx_cls hW₁ hcl, st⟩
theorem vx_callFv {S SX : Type} {post : S → Prop} {px : SX → Prop} {B : S → State → Prop} {BX : String → SX → State → Prop} {AX : Nat → Prop} (hr : vx_Run5 p l e R s m args below meth c H locs cells slots mc ms (F0 m pc ls st0) rest (va_Qv post B A1 a) (vx_X px BX AX) free) (hS : va_S A0 H0 H locs) (hA : ∀ q, q < H.size → A1 q → A0 q) (hf : ∀ q, free q → A0 q) (hAX : ∀ q, q < H.size → AX q → A0 q)
    (kx : ∀ (E : String) (ce : Cell) (q9 : Addr) (u : SX) (t : State) (H1 : Heap) (locs1 : List Loc), t.heap = H1 → s.vm.Alike t.vm → px u → BX E u t → H.size ≤ H1.size → (∀ q : Nat, q < H.size → ¬ AX q → H1[q]? = H[q]?) → va_S A0 H0 H1 locs1 → H1[q9]? = some ce → ce.vm = .none → s.vm.findClass E = some ce.cls → vx_W p l e R s m args below meth c H1 locs1 (cells + mc) (slots + ms) Q (F0 m pc ls rest) q9)
    (kk : ∀ (u : S) (t : State) (H1 : Heap) (locs1 : List Loc), t.heap = H1 → s.vm.Alike t.vm → post u → B u t → H.size ≤ H1.size → (∀ q : Nat, q < H.size → ¬ A1 q → H1[q]? = H[q]?) → va_S A0 H0 H1 locs1 → W p l e R s m args below meth c H1 locs1 (cells + mc) (slots + ms) Q (F0 m (pc + 5) ls (rest))) : W p l e R s m args below meth c H locs cells slots Q (F0 m pc ls st0) := by
  intro T hT X
  rcases hr T hT X with ⟨v, st₀, t, T', L, h0, X', hL, e1, e2, ⟨⟨u, hv, hp, hb⟩, hF⟩, st⟩ | ⟨q, st₀, t, T', L, E, ce, h0, X', hL, e1, e2, ⟨u, hp, hb, hF⟩, hce, hcv, hcl, st⟩
  · cases hv
    obtain ⟨k1, k2, k3⟩ := vx_keep h0 e1 hS hA hf hL hF
    obtain ⟨t2, a1, b1⟩ := kk u t T'.heap (locs ++ L) e1.symm (by rw [← e2]; exact X'.warmed.alike) hp hb k1 k2 k3 T' rfl X'
    exact ⟨t2, st t2 a1, b1⟩
  · obtain ⟨k1, k2, k3⟩ := vx_keep h0 e1 hS hAX hf hL hF
    obtain ⟨t2, a1, b1⟩ := kx E ce q u t T'.heap (locs ++ L) e1.symm (by rw [← e2]; exact X'.warmed.alike) hp hb k1 k2 k3 (by rw [e1]; exact hce) hcv hcl T' rfl X'
    exact ⟨t2, st.trans a1, b1⟩
theorem vx_callFi {S SX : Type} {post : Int32 → S → Prop} {px : SX → Prop} {B : S → State → Prop} {BX : String → SX → State → Prop} {AX : Nat → Prop} (hr : vx_Run5 p l e R s m args below meth c H locs cells slots mc ms (F0 m pc ls st0) rest (va_Qi post B A1 a) (vx_X px BX AX) free) (hS : va_S A0 H0 H locs) (hA : ∀ q, q < H.size → A1 q → A0 q) (hf : ∀ q, free q → A0 q) (hAX : ∀ q, q < H.size → AX q → A0 q)
    (kx : ∀ (E : String) (ce : Cell) (q9 : Addr) (u : SX) (t : State) (H1 : Heap) (locs1 : List Loc), t.heap = H1 → s.vm.Alike t.vm → px u → BX E u t → H.size ≤ H1.size → (∀ q : Nat, q < H.size → ¬ AX q → H1[q]? = H[q]?) → va_S A0 H0 H1 locs1 → H1[q9]? = some ce → ce.vm = .none → s.vm.findClass E = some ce.cls → vx_W p l e R s m args below meth c H1 locs1 (cells + mc) (slots + ms) Q (F0 m pc ls rest) q9)
    (kk : ∀ (r : Int32) (u : S) (t : State) (H1 : Heap) (locs1 : List Loc), t.heap = H1 → s.vm.Alike t.vm → post r u → B u t → H.size ≤ H1.size → (∀ q : Nat, q < H.size → ¬ A1 q → H1[q]? = H[q]?) → va_S A0 H0 H1 locs1 → W p l e R s m args below meth c H1 locs1 (cells + mc) (slots + ms) Q (F0 m (pc + 5) ls (.int r :: rest))) : W p l e R s m args below meth c H locs cells slots Q (F0 m pc ls st0) := by
  intro T hT X
  rcases hr T hT X with ⟨v, st₀, t, T', L, h0, X', hL, e1, e2, ⟨⟨r, u, hv, hp, hb⟩, hF⟩, st⟩ | ⟨q, st₀, t, T', L, E, ce, h0, X', hL, e1, e2, ⟨u, hp, hb, hF⟩, hce, hcv, hcl, st⟩
  · cases hv
    obtain ⟨k1, k2, k3⟩ := vx_keep h0 e1 hS hA hf hL hF
    obtain ⟨t2, a1, b1⟩ := kk r u t T'.heap (locs ++ L) e1.symm (by rw [← e2]; exact X'.warmed.alike) hp hb k1 k2 k3 T' rfl X'
    exact ⟨t2, st t2 a1, b1⟩
  · obtain ⟨k1, k2, k3⟩ := vx_keep h0 e1 hS hAX hf hL hF
    obtain ⟨t2, a1, b1⟩ := kx E ce q u t T'.heap (locs ++ L) e1.symm (by rw [← e2]; exact X'.warmed.alike) hp hb k1 k2 k3 (by rw [e1]; exact hce) hcv hcl T' rfl X'
    exact ⟨t2, st.trans a1, b1⟩
theorem vx_callFl {S SX : Type} {post : Int64 → S → Prop} {px : SX → Prop} {B : S → State → Prop} {BX : String → SX → State → Prop} {AX : Nat → Prop} (hr : vx_Run5 p l e R s m args below meth c H locs cells slots mc ms (F0 m pc ls st0) rest (va_Ql post B A1 a) (vx_X px BX AX) free) (hS : va_S A0 H0 H locs) (hA : ∀ q, q < H.size → A1 q → A0 q) (hf : ∀ q, free q → A0 q) (hAX : ∀ q, q < H.size → AX q → A0 q)
    (kx : ∀ (E : String) (ce : Cell) (q9 : Addr) (u : SX) (t : State) (H1 : Heap) (locs1 : List Loc), t.heap = H1 → s.vm.Alike t.vm → px u → BX E u t → H.size ≤ H1.size → (∀ q : Nat, q < H.size → ¬ AX q → H1[q]? = H[q]?) → va_S A0 H0 H1 locs1 → H1[q9]? = some ce → ce.vm = .none → s.vm.findClass E = some ce.cls → vx_W p l e R s m args below meth c H1 locs1 (cells + mc) (slots + ms) Q (F0 m pc ls rest) q9)
    (kk : ∀ (r : Int64) (u : S) (t : State) (H1 : Heap) (locs1 : List Loc), t.heap = H1 → s.vm.Alike t.vm → post r u → B u t → H.size ≤ H1.size → (∀ q : Nat, q < H.size → ¬ A1 q → H1[q]? = H[q]?) → va_S A0 H0 H1 locs1 → W p l e R s m args below meth c H1 locs1 (cells + mc) (slots + ms) Q (F0 m (pc + 5) ls (.long r :: rest))) : W p l e R s m args below meth c H locs cells slots Q (F0 m pc ls st0) := by
  intro T hT X
  rcases hr T hT X with ⟨v, st₀, t, T', L, h0, X', hL, e1, e2, ⟨⟨r, u, hv, hp, hb⟩, hF⟩, st⟩ | ⟨q, st₀, t, T', L, E, ce, h0, X', hL, e1, e2, ⟨u, hp, hb, hF⟩, hce, hcv, hcl, st⟩
  · cases hv
    obtain ⟨k1, k2, k3⟩ := vx_keep h0 e1 hS hA hf hL hF
    obtain ⟨t2, a1, b1⟩ := kk r u t T'.heap (locs ++ L) e1.symm (by rw [← e2]; exact X'.warmed.alike) hp hb k1 k2 k3 T' rfl X'
    exact ⟨t2, st t2 a1, b1⟩
  · obtain ⟨k1, k2, k3⟩ := vx_keep h0 e1 hS hAX hf hL hF
    obtain ⟨t2, a1, b1⟩ := kx E ce q u t T'.heap (locs ++ L) e1.symm (by rw [← e2]; exact X'.warmed.alike) hp hb k1 k2 k3 (by rw [e1]; exact hce) hcv hcl T' rfl X'
    exact ⟨t2, st.trans a1, b1⟩
theorem vx_callFf {S SX : Type} {post : UInt32 → S → Prop} {px : SX → Prop} {B : S → State → Prop} {BX : String → SX → State → Prop} {AX : Nat → Prop} (hr : vx_Run5 p l e R s m args below meth c H locs cells slots mc ms (F0 m pc ls st0) rest (va_Qf post B A1 a) (vx_X px BX AX) free) (hS : va_S A0 H0 H locs) (hA : ∀ q, q < H.size → A1 q → A0 q) (hf : ∀ q, free q → A0 q) (hAX : ∀ q, q < H.size → AX q → A0 q)
    (kx : ∀ (E : String) (ce : Cell) (q9 : Addr) (u : SX) (t : State) (H1 : Heap) (locs1 : List Loc), t.heap = H1 → s.vm.Alike t.vm → px u → BX E u t → H.size ≤ H1.size → (∀ q : Nat, q < H.size → ¬ AX q → H1[q]? = H[q]?) → va_S A0 H0 H1 locs1 → H1[q9]? = some ce → ce.vm = .none → s.vm.findClass E = some ce.cls → vx_W p l e R s m args below meth c H1 locs1 (cells + mc) (slots + ms) Q (F0 m pc ls rest) q9)
    (kk : ∀ (r : UInt32) (u : S) (t : State) (H1 : Heap) (locs1 : List Loc), t.heap = H1 → s.vm.Alike t.vm → post r u → B u t → H.size ≤ H1.size → (∀ q : Nat, q < H.size → ¬ A1 q → H1[q]? = H[q]?) → va_S A0 H0 H1 locs1 → W p l e R s m args below meth c H1 locs1 (cells + mc) (slots + ms) Q (F0 m (pc + 5) ls (.float r :: rest))) : W p l e R s m args below meth c H locs cells slots Q (F0 m pc ls st0) := by
  intro T hT X
  rcases hr T hT X with ⟨v, st₀, t, T', L, h0, X', hL, e1, e2, ⟨⟨r, u, hv, hp, hb⟩, hF⟩, st⟩ | ⟨q, st₀, t, T', L, E, ce, h0, X', hL, e1, e2, ⟨u, hp, hb, hF⟩, hce, hcv, hcl, st⟩
  · cases hv
    obtain ⟨k1, k2, k3⟩ := vx_keep h0 e1 hS hA hf hL hF
    obtain ⟨t2, a1, b1⟩ := kk r u t T'.heap (locs ++ L) e1.symm (by rw [← e2]; exact X'.warmed.alike) hp hb k1 k2 k3 T' rfl X'
    exact ⟨t2, st t2 a1, b1⟩
  · obtain ⟨k1, k2, k3⟩ := vx_keep h0 e1 hS hAX hf hL hF
    obtain ⟨t2, a1, b1⟩ := kx E ce q u t T'.heap (locs ++ L) e1.symm (by rw [← e2]; exact X'.warmed.alike) hp hb k1 k2 k3 (by rw [e1]; exact hce) hcv hcl T' rfl X'
    exact ⟨t2, st.trans a1, b1⟩
theorem vx_callFd {S SX : Type} {post : UInt64 → S → Prop} {px : SX → Prop} {B : S → State → Prop} {BX : String → SX → State → Prop} {AX : Nat → Prop} (hr : vx_Run5 p l e R s m args below meth c H locs cells slots mc ms (F0 m pc ls st0) rest (va_Qd post B A1 a) (vx_X px BX AX) free) (hS : va_S A0 H0 H locs) (hA : ∀ q, q < H.size → A1 q → A0 q) (hf : ∀ q, free q → A0 q) (hAX : ∀ q, q < H.size → AX q → A0 q)
    (kx : ∀ (E : String) (ce : Cell) (q9 : Addr) (u : SX) (t : State) (H1 : Heap) (locs1 : List Loc), t.heap = H1 → s.vm.Alike t.vm → px u → BX E u t → H.size ≤ H1.size → (∀ q : Nat, q < H.size → ¬ AX q → H1[q]? = H[q]?) → va_S A0 H0 H1 locs1 → H1[q9]? = some ce → ce.vm = .none → s.vm.findClass E = some ce.cls → vx_W p l e R s m args below meth c H1 locs1 (cells + mc) (slots + ms) Q (F0 m pc ls rest) q9)
    (kk : ∀ (r : UInt64) (u : S) (t : State) (H1 : Heap) (locs1 : List Loc), t.heap = H1 → s.vm.Alike t.vm → post r u → B u t → H.size ≤ H1.size → (∀ q : Nat, q < H.size → ¬ A1 q → H1[q]? = H[q]?) → va_S A0 H0 H1 locs1 → W p l e R s m args below meth c H1 locs1 (cells + mc) (slots + ms) Q (F0 m (pc + 5) ls (.double r :: rest))) : W p l e R s m args below meth c H locs cells slots Q (F0 m pc ls st0) := by
  intro T hT X
  rcases hr T hT X with ⟨v, st₀, t, T', L, h0, X', hL, e1, e2, ⟨⟨r, u, hv, hp, hb⟩, hF⟩, st⟩ | ⟨q, st₀, t, T', L, E, ce, h0, X', hL, e1, e2, ⟨u, hp, hb, hF⟩, hce, hcv, hcl, st⟩
  · cases hv
    obtain ⟨k1, k2, k3⟩ := vx_keep h0 e1 hS hA hf hL hF
    obtain ⟨t2, a1, b1⟩ := kk r u t T'.heap (locs ++ L) e1.symm (by rw [← e2]; exact X'.warmed.alike) hp hb k1 k2 k3 T' rfl X'
    exact ⟨t2, st t2 a1, b1⟩
  · obtain ⟨k1, k2, k3⟩ := vx_keep h0 e1 hS hAX hf hL hF
    obtain ⟨t2, a1, b1⟩ := kx E ce q u t T'.heap (locs ++ L) e1.symm (by rw [← e2]; exact X'.warmed.alike) hp hb k1 k2 k3 (by rw [e1]; exact hce) hcv hcl T' rfl X'
    exact ⟨t2, st.trans a1, b1⟩
end
/-! ===== END ===== -/
/-! ===== BEGIN by an interface, a method with a table of its own that may throw (follows va_callIFW, va_runFW) ===== -/
section
variable {p : Program} {l : Launch} {e : Env} {R : Room} {s : State} {m : MethodId} {args : Array Value} {below : List Frame} {meth : Method} {c : Code} {H : Heap} {locs : List Loc} {cells slots : Nat}
theorem vx_callIFW {T : State} (X : Stand p l e R s m args below meth c T locs cells slots) (hexec : p.tables.exec = Jvm.exec) {own C : String} {index count : Nat} {x y : MethodName} {bytes : ByteArray} {maxL : Nat} {ret : Option FieldType} {hh : List (Nat × Nat × Nat × Nat)}
    (hown : s.vm.findClass own = some m.cls) (hlink : (Cond.methodLink own index x).before args s = true) (hdecl : (Cond.declares x).before args s = true) (hface : (Cond.interfaceMethod x.cls x.cls x.name x.desc).before args s = true)
    (hsel : (Cond.selects C x y).before args s = true) (hinst : (Cond.instanceMethod y).before args s = true) (hpub : (Cond.publicMethod y).before args s = true) (hunh : (Cond.unhidden C x.name x.desc).before args s = true)
    (hcast : (Cond.castable C x.cls).before args s = true) (hcode : (Cond.codeWith y bytes maxL ret hh).before args s = true) (hx : x.cls ≠ "java/lang/invoke/MethodHandle" ∧ x.cls ≠ "java/lang/invoke/VarHandle")
    {W : Nat} {Pre : Pt → Array Value → Prop} {Post : Pt → Array Value → Option Value → Pt → Prop} {PostX : Pt → Array Value → Addr → Pt → Prop} (hK : vx_Back l R p e below s args y 5 W Pre Post PostX)
    {b : Addr} {cellB : Cell} {kB : Class} (hcell : T.heap[b]? = some cellB) (hobj : cellB.vm.isStatics = false) (hcls : s.vm.findClass C = some cellB.cls) (hkB : s.vm.classes[cellB.cls]? = some kB)
    {g : JFrame} (hg : g.method = m) (hsize : g.locals.size = c.maxLocals) {argsL rest : List Value} (hlen : ∀ sig, parseMethodDescriptor x.desc = some sig → argsL.length = sig.parameters.length)
    (hstack : g.stack = argsL.reverse ++ .ref b :: rest) (hW : 2 * g.monitorRoom + (rest.map fun v => v.category).sum ≤ W) (hdg : decode c.code g.pc = .ok (.invokeinterface index count, 5))
    (hpre : ∀ vm₁, s.WarmedH vm₁ → Pre ⟨T.setVm vm₁, locs, cells, slots⟩ (Value.ref b :: argsL).toArray) :
    (∃ (v : Option Value) (vm₁ : Vm) (B : Pt), s.WarmedH vm₁ ∧ Stand p l e R s m args below meth c B.U B.locs B.cells B.slots ∧ Post ⟨T.setVm vm₁, locs, cells, slots⟩ (Value.ref b :: argsL).toArray v B ∧
      ∀ target, Steps p.tables e below (B.U.setTop { g with pc := g.pc + 5, stack := v.toList ++ rest }) target → Steps p.tables e below (T.setTop g) target) ∨
    (∃ (q : Addr) (vm₁ : Vm) (B : Pt), s.WarmedH vm₁ ∧ Stand p l e R s m args below meth c B.U B.locs B.cells B.slots ∧ PostX ⟨T.setVm vm₁, locs, cells, slots⟩ (Value.ref b :: argsL).toArray q B ∧
      Steps p.tables e below (T.setTop g) ((B.U.setTop { g with stack := rest }).pushFrame (.throwing q))) := by
  obtain ⟨r0, r, hn, hrm, hstR, hsigR⟩ := Cond.declares_spec hdecl
  obtain ⟨cL, kL, r1, hcL, hkL, hiL, hfoundL, hn1⟩ := Cond.interfaceMethod_spec hface
  cases hn.symm.trans hn1
  have hr0cls : r0.cls = cL := Option.some.inj ((findClass_of_methodNamed hn).symm.trans hcL)
  obtain ⟨hnameR, hdescR⟩ := name_of_methodNamed hn hrm
  obtain ⟨mk, methM, hnamed, hmethM, -, habM⟩ := Cond.instanceMethod_spec hinst
  obtain ⟨c2, r2, m2, q1, q2, q3, q4, -⟩ := Cond.selects_spec hsel
  cases hcls.symm.trans q1
  cases hfoundL.symm.trans q2
  cases hnamed.symm.trans q3
  have hselP : selectMethod e.platform s.vm cellB.cls r0 = .method mk := by rw [Launch.admits_selectMethod X.admits]; exact q4
  have hpubM : hasFlag methM.accessFlags Acc.public_ = true := Cond.publicMethod_spec hnamed hmethM hpub
  have hway : ((cellB.cls :: s.vm.superclasses cellB.cls).any fun k => (declaredIn s.vm r.name r.desc k).any fun (_, z) => z.isPrivate || z.isStatic) = false := by
    rw [hnameR, hdescR]; exact Cond.unhidden_spec hcls hunh
  obtain ⟨c3, t3, w1, w2, w3⟩ := Cond.castable_spec hcast
  cases hcls.symm.trans w1
  cases hcL.symm.trans w2
  obtain ⟨vm₁, X₁, hstep₁⟩ := X.invokeinterface hexec hown hlink hn hrm hstR (by rw [hr0cls]; exact hkL) hiL hx (a := b) (cell := cellB) (kcell := kB) hcell
    (fun z h => by rw [h] at hobj; cases hobj) hkB (by rw [hr0cls]; exact w3) hselP hmethM hway hpubM habM (g := g) hg (argsL := argsL) (rest := rest) (hlen _ hsigR) hstack hdg
  rcases hK m meth c ⟨T.setVm vm₁, locs, cells, slots⟩ { g with stack := rest } (.invokeinterface index count) mk (Value.ref b :: argsL).toArray X₁ hg hsize hdg hW (X₁.named hnamed) (hpre vm₁ X₁.warmed) with ⟨v, B, X', hpost, hsteps⟩ | ⟨q, B, X', hpost, hsteps⟩
  · exact Or.inl ⟨v, vm₁, B, X₁.warmed, X', hpost, fun target h => hstep₁ _ fun acts => by rw [doInvoke_state]; exact hsteps.trans h⟩
  · exact Or.inr ⟨q, vm₁, B, X₁.warmed, X', hpost, hstep₁ _ fun acts => by rw [doInvoke_state]; exact hsteps⟩
theorem vx_runFW {x y : MethodName} {bytes cc : ByteArray} {maxL nL mc ms n index count : Nat} {ret : Option FieldType} {hh : List (Nat × Nat × Nat × Nat)} {ws : List Cond} {rm : Room} {Pc : Array Value → State → Prop} {Qc : Array Value → State → Outcome → State → Prop} {XC : String → State → State → Prop} {free : Addr → Prop} {Ts : List Cond} {own C : String} {cC : ClassId} {b : Addr} {As rest : List Value} {g : JFrame}
    (hat : ClassAt s C cC) (S : CallFix p m c cc nL s args Ts own) (hM : vx_Met l y ws rm Pc Qc XC mc ms free) (cw : va_CIW R s args own C index x y bytes maxL ret hh ws rm mc ms n) (hp : PreV s H C b Pc As)
    (hg : g.method = m) (hn : As.length = n) (hsize : g.locals.size = nL) (hstack : g.stack = As.reverse ++ .ref b :: rest) (hW : 2 * g.monitorRoom + (rest.map fun v => v.category).sum ≤ 8) (hdg : decode cc g.pc = .ok (.invokeinterface index count, 5)) (hf : cells + mc ≤ R.cells ∧ slots + ms ≤ R.slots) :
    vx_Run5 p l e R s m args below meth c H locs cells slots mc ms g rest (Qc (Value.ref b :: As).toArray) XC free := by
  obtain ⟨hrc, hrs, hfr, hlo, hws, hcw⟩ := cw.back
  have hini := cw.init
  have hK : vx_Back l R p e below s args y 5 8 (PreOf R mc ms Pc) (PostOf Qc mc ms free) (vx_Post XC mc ms free) := vx_backW (hh := hh) (bytes := bytes) (maxL := maxL) (ret := ret) hM hp.1 hrc hrs hfr hlo hws hcw (fun a' U hW => word_at hW (Or.inl (by first | rfl | simp [Cond.onTables, Cond.keeps, Cond.steady])) hini)
  obtain ⟨hx, hb, hml, ho, -⟩ := S
  obtain ⟨-, ⟨cellB, hcB, hoB, hclB⟩, hPc⟩ := hp
  obtain ⟨hfc, kB, hkB, -⟩ := hat
  cases hfc.symm.trans hclB
  intro T hT X
  rcases vx_callIFW X hx (C := C) (hh := hh) (bytes := bytes) (maxL := maxL) (ret := ret) ho cw.link cw.decl cw.face cw.sel cw.inst cw.pub cw.unh cw.cast cw.code cw.notMH hK (by rw [hT]; exact hcB) hoB hclB hkB hg (hsize.trans hml.symm) (argsL := As) (rest := rest) (fun sig h => hn.trans (cw.len sig h)) hstack hW (by rw [hb]; exact hdg)
    (fun vm₁ hW₁ => ⟨hf.1, hf.2, hPc (T.setVm vm₁) hT hW₁⟩) with ⟨v, vm₁, ⟨U', l2, c2, s2⟩, hW₁, X', ⟨g', mk, t, L, e1, e2, hq, h1, hL, h2, h3⟩, st⟩ | ⟨q, vm₁, ⟨U', l2, c2, s2⟩, hW₁, X', ⟨g', mk, t, L, E, ce, e1, e2, hq, hce, hcv, hcl, h1, hL, h2, h3⟩, st⟩
  · dsimp only [Pt.U, Pt.locs, Pt.cells, Pt.slots] at X' e1 e2 h1 h2 h3 st
    subst h1; subst h2; subst h3
    exact Or.inl ⟨v, (T.setVm vm₁).calling g' mk (Value.ref b :: As).toArray, t, U', L, hT, X', hL, e1, e2, hq, st⟩
  · dsimp only [Pt.U, Pt.locs, Pt.cells, Pt.slots] at X' e1 e2 h1 h2 h3 st hcl
    subst h1; subst h2; subst h3
    exact Or.inr ⟨q, (T.setVm vm₁).calling g' mk (Value.ref b :: As).toArray, t, U', L, E, ce, hT, X', hL, e1, e2, hq, hce, hcv, vx_cls hW₁ hcl, st⟩
end
/-! ===== END ===== -/
/-! ===== BEGIN .. of methods that hand back an object of the pool ===== -/
section
variable {p : Program} {l : Launch} {e : Env} {R : Room} {s : State} {m : MethodId} {args : Array Value} {below : List Frame} {meth : Method} {c : Code} {H : Heap} {locs : List Loc} {cells slots : Nat} {Q : State → Prop}
variable {mc ms : Nat} {free : Addr → Prop} {A0 A1 : Nat → Prop} {H0 : Heap} {a : Array Value} {pc : Nat} {ls : Array Slot} {st0 rest : List Value}
theorem vx_callq {S SX : Type} {post : Option Nat → S → Prop} {px : SX → Prop} {B : S → State → Prop} {BX : String → SX → State → Prop} {AX : Nat → Prop} (hr : vx_Run p l e R s m args below meth c H locs cells slots mc ms (F0 m pc ls st0) rest (va_Qq post B A1 a) (vx_X px BX AX) free) (hS : va_S A0 H0 H locs) (hA : ∀ q, q < H.size → A1 q → A0 q) (hf : ∀ q, free q → A0 q) (hAX : ∀ q, q < H.size → AX q → A0 q)
    (kx : ∀ (E : String) (ce : Cell) (q9 : Addr) (u : SX) (t : State) (H1 : Heap) (locs1 : List Loc), t.heap = H1 → s.vm.Alike t.vm → px u → BX E u t → H.size ≤ H1.size → (∀ q : Nat, q < H.size → ¬ AX q → H1[q]? = H[q]?) → va_S A0 H0 H1 locs1 → H1[q9]? = some ce → ce.vm = .none → s.vm.findClass E = some ce.cls → vx_W p l e R s m args below meth c H1 locs1 (cells + mc) (slots + ms) Q (F0 m pc ls rest) q9)
    (kk : ∀ (r : Option Nat) (u : S) (t : State) (H1 : Heap) (locs1 : List Loc), t.heap = H1 → s.vm.Alike t.vm → post r u → B u t → H.size ≤ H1.size → (∀ q : Nat, q < H.size → ¬ A1 q → H1[q]? = H[q]?) → va_S A0 H0 H1 locs1 → W p l e R s m args below meth c H1 locs1 (cells + mc) (slots + ms) Q (F0 m (pc + 3) ls (va_rf r :: rest))) : W p l e R s m args below meth c H locs cells slots Q (F0 m pc ls st0) := by
  intro T hT X
  rcases hr T hT X with ⟨v, st₀, t, T', L, h0, X', hL, e1, e2, ⟨⟨r, u, hv, hp, hb⟩, hF⟩, st⟩ | ⟨q, st₀, t, T', L, E, ce, h0, X', hL, e1, e2, ⟨u, hp, hb, hF⟩, hce, hcv, hcl, st⟩
  · cases hv
    obtain ⟨k1, k2, k3⟩ := vx_keep h0 e1 hS hA hf hL hF
    obtain ⟨t2, a1, b1⟩ := kk r u t T'.heap (locs ++ L) e1.symm (by rw [← e2]; exact X'.warmed.alike) hp hb k1 k2 k3 T' rfl X'
    exact ⟨t2, st t2 a1, b1⟩
  · obtain ⟨k1, k2, k3⟩ := vx_keep h0 e1 hS hAX hf hL hF
    obtain ⟨t2, a1, b1⟩ := kx E ce q u t T'.heap (locs ++ L) e1.symm (by rw [← e2]; exact X'.warmed.alike) hp hb k1 k2 k3 (by rw [e1]; exact hce) hcv hcl T' rfl X'
    exact ⟨t2, st.trans a1, b1⟩
end
/-! ===== END ===== -/
/-! ===== BEGIN .. a constant ===== -/
section
variable {p : Program} {l : Launch} {e : Env} {R : Room} {s : State} {m : MethodId} {args : Array Value} {below : List Frame} {meth : Method} {c : Code} {H : Heap} {locs : List Loc} {cells slots : Nat} {Q : State → Prop}
variable {mc ms : Nat} {free : Addr → Prop} {A0 A1 : Nat → Prop} {H0 : Heap} {a : Array Value} {pc : Nat} {ls : Array Slot} {st0 rest : List Value}
theorem vx_calle {ad : Nat → Nat} {S SX : Type} {post : Option Nat → S → Prop} {px : SX → Prop} {B : S → State → Prop} {BX : String → SX → State → Prop} {AX : Nat → Prop} (hr : vx_Run p l e R s m args below meth c H locs cells slots mc ms (F0 m pc ls st0) rest (va_Qe ad post B A1 a) (vx_X px BX AX) free) (hS : va_S A0 H0 H locs) (hA : ∀ q, q < H.size → A1 q → A0 q) (hf : ∀ q, free q → A0 q) (hAX : ∀ q, q < H.size → AX q → A0 q)
    (kx : ∀ (E : String) (ce : Cell) (q9 : Addr) (u : SX) (t : State) (H1 : Heap) (locs1 : List Loc), t.heap = H1 → s.vm.Alike t.vm → px u → BX E u t → H.size ≤ H1.size → (∀ q : Nat, q < H.size → ¬ AX q → H1[q]? = H[q]?) → va_S A0 H0 H1 locs1 → H1[q9]? = some ce → ce.vm = .none → s.vm.findClass E = some ce.cls → vx_W p l e R s m args below meth c H1 locs1 (cells + mc) (slots + ms) Q (F0 m pc ls rest) q9)
    (kk : ∀ (r : Option Nat) (u : S) (t : State) (H1 : Heap) (locs1 : List Loc), t.heap = H1 → s.vm.Alike t.vm → post r u → B u t → H.size ≤ H1.size → (∀ q : Nat, q < H.size → ¬ A1 q → H1[q]? = H[q]?) → va_S A0 H0 H1 locs1 → W p l e R s m args below meth c H1 locs1 (cells + mc) (slots + ms) Q (F0 m (pc + 3) ls (va_re ad r :: rest))) : W p l e R s m args below meth c H locs cells slots Q (F0 m pc ls st0) := by
  intro T hT X
  rcases hr T hT X with ⟨v, st₀, t, T', L, h0, X', hL, e1, e2, ⟨⟨r, u, hv, hp, hb⟩, hF⟩, st⟩ | ⟨q, st₀, t, T', L, E, ce, h0, X', hL, e1, e2, ⟨u, hp, hb, hF⟩, hce, hcv, hcl, st⟩
  · cases hv
    obtain ⟨k1, k2, k3⟩ := vx_keep h0 e1 hS hA hf hL hF
    obtain ⟨t2, a1, b1⟩ := kk r u t T'.heap (locs ++ L) e1.symm (by rw [← e2]; exact X'.warmed.alike) hp hb k1 k2 k3 T' rfl X'
    exact ⟨t2, st t2 a1, b1⟩
  · obtain ⟨k1, k2, k3⟩ := vx_keep h0 e1 hS hAX hf hL hF
    obtain ⟨t2, a1, b1⟩ := kx E ce q u t T'.heap (locs ++ L) e1.symm (by rw [← e2]; exact X'.warmed.alike) hp hb k1 k2 k3 (by rw [e1]; exact hce) hcv hcl T' rfl X'
    exact ⟨t2, st.trans a1, b1⟩
end
/-! ===== END ===== -/
/-! ===== BEGIN .. by an interface, an object ===== -/
section
variable {p : Program} {l : Launch} {e : Env} {R : Room} {s : State} {m : MethodId} {args : Array Value} {below : List Frame} {meth : Method} {c : Code} {H : Heap} {locs : List Loc} {cells slots : Nat} {Q : State → Prop}
variable {mc ms : Nat} {free : Addr → Prop} {A0 A1 : Nat → Prop} {H0 : Heap} {a : Array Value} {pc : Nat} {ls : Array Slot} {st0 rest : List Value}
theorem vx_callFq {S SX : Type} {post : Option Nat → S → Prop} {px : SX → Prop} {B : S → State → Prop} {BX : String → SX → State → Prop} {AX : Nat → Prop} (hr : vx_Run5 p l e R s m args below meth c H locs cells slots mc ms (F0 m pc ls st0) rest (va_Qq post B A1 a) (vx_X px BX AX) free) (hS : va_S A0 H0 H locs) (hA : ∀ q, q < H.size → A1 q → A0 q) (hf : ∀ q, free q → A0 q) (hAX : ∀ q, q < H.size → AX q → A0 q)
    (kx : ∀ (E : String) (ce : Cell) (q9 : Addr) (u : SX) (t : State) (H1 : Heap) (locs1 : List Loc), t.heap = H1 → s.vm.Alike t.vm → px u → BX E u t → H.size ≤ H1.size → (∀ q : Nat, q < H.size → ¬ AX q → H1[q]? = H[q]?) → va_S A0 H0 H1 locs1 → H1[q9]? = some ce → ce.vm = .none → s.vm.findClass E = some ce.cls → vx_W p l e R s m args below meth c H1 locs1 (cells + mc) (slots + ms) Q (F0 m pc ls rest) q9)
    (kk : ∀ (r : Option Nat) (u : S) (t : State) (H1 : Heap) (locs1 : List Loc), t.heap = H1 → s.vm.Alike t.vm → post r u → B u t → H.size ≤ H1.size → (∀ q : Nat, q < H.size → ¬ A1 q → H1[q]? = H[q]?) → va_S A0 H0 H1 locs1 → W p l e R s m args below meth c H1 locs1 (cells + mc) (slots + ms) Q (F0 m (pc + 5) ls (va_rf r :: rest))) : W p l e R s m args below meth c H locs cells slots Q (F0 m pc ls st0) := by
  intro T hT X
  rcases hr T hT X with ⟨v, st₀, t, T', L, h0, X', hL, e1, e2, ⟨⟨r, u, hv, hp, hb⟩, hF⟩, st⟩ | ⟨q, st₀, t, T', L, E, ce, h0, X', hL, e1, e2, ⟨u, hp, hb, hF⟩, hce, hcv, hcl, st⟩
  · cases hv
    obtain ⟨k1, k2, k3⟩ := vx_keep h0 e1 hS hA hf hL hF
    obtain ⟨t2, a1, b1⟩ := kk r u t T'.heap (locs ++ L) e1.symm (by rw [← e2]; exact X'.warmed.alike) hp hb k1 k2 k3 T' rfl X'
    exact ⟨t2, st t2 a1, b1⟩
  · obtain ⟨k1, k2, k3⟩ := vx_keep h0 e1 hS hAX hf hL hF
    obtain ⟨t2, a1, b1⟩ := kx E ce q u t T'.heap (locs ++ L) e1.symm (by rw [← e2]; exact X'.warmed.alike) hp hb k1 k2 k3 (by rw [e1]; exact hce) hcv hcl T' rfl X'
    exact ⟨t2, st.trans a1, b1⟩
end
/-! ===== END ===== -/
/-! ===== BEGIN .. by an interface, a constant ===== -/
section
variable {p : Program} {l : Launch} {e : Env} {R : Room} {s : State} {m : MethodId} {args : Array Value} {below : List Frame} {meth : Method} {c : Code} {H : Heap} {locs : List Loc} {cells slots : Nat} {Q : State → Prop}
variable {mc ms : Nat} {free : Addr → Prop} {A0 A1 : Nat → Prop} {H0 : Heap} {a : Array Value} {pc : Nat} {ls : Array Slot} {st0 rest : List Value}
theorem vx_callFe {ad : Nat → Nat} {S SX : Type} {post : Option Nat → S → Prop} {px : SX → Prop} {B : S → State → Prop} {BX : String → SX → State → Prop} {AX : Nat → Prop} (hr : vx_Run5 p l e R s m args below meth c H locs cells slots mc ms (F0 m pc ls st0) rest (va_Qe ad post B A1 a) (vx_X px BX AX) free) (hS : va_S A0 H0 H locs) (hA : ∀ q, q < H.size → A1 q → A0 q) (hf : ∀ q, free q → A0 q) (hAX : ∀ q, q < H.size → AX q → A0 q)
    (kx : ∀ (E : String) (ce : Cell) (q9 : Addr) (u : SX) (t : State) (H1 : Heap) (locs1 : List Loc), t.heap = H1 → s.vm.Alike t.vm → px u → BX E u t → H.size ≤ H1.size → (∀ q : Nat, q < H.size → ¬ AX q → H1[q]? = H[q]?) → va_S A0 H0 H1 locs1 → H1[q9]? = some ce → ce.vm = .none → s.vm.findClass E = some ce.cls → vx_W p l e R s m args below meth c H1 locs1 (cells + mc) (slots + ms) Q (F0 m pc ls rest) q9)
    (kk : ∀ (r : Option Nat) (u : S) (t : State) (H1 : Heap) (locs1 : List Loc), t.heap = H1 → s.vm.Alike t.vm → post r u → B u t → H.size ≤ H1.size → (∀ q : Nat, q < H.size → ¬ A1 q → H1[q]? = H[q]?) → va_S A0 H0 H1 locs1 → W p l e R s m args below meth c H1 locs1 (cells + mc) (slots + ms) Q (F0 m (pc + 5) ls (va_re ad r :: rest))) : W p l e R s m args below meth c H locs cells slots Q (F0 m pc ls st0) := by
  intro T hT X
  rcases hr T hT X with ⟨v, st₀, t, T', L, h0, X', hL, e1, e2, ⟨⟨r, u, hv, hp, hb⟩, hF⟩, st⟩ | ⟨q, st₀, t, T', L, E, ce, h0, X', hL, e1, e2, ⟨u, hp, hb, hF⟩, hce, hcv, hcl, st⟩
  · cases hv
    obtain ⟨k1, k2, k3⟩ := vx_keep h0 e1 hS hA hf hL hF
    obtain ⟨t2, a1, b1⟩ := kk r u t T'.heap (locs ++ L) e1.symm (by rw [← e2]; exact X'.warmed.alike) hp hb k1 k2 k3 T' rfl X'
    exact ⟨t2, st t2 a1, b1⟩
  · obtain ⟨k1, k2, k3⟩ := vx_keep h0 e1 hS hAX hf hL hF
    obtain ⟨t2, a1, b1⟩ := kx E ce q u t T'.heap (locs ++ L) e1.symm (by rw [← e2]; exact X'.warmed.alike) hp hb k1 k2 k3 (by rw [e1]; exact hce) hcv hcl T' rfl X'
    exact ⟨t2, st.trans a1, b1⟩
end
/-! ===== END ===== -/
/-! ===== BEGIN what the machine throws by itself: null at a field, at athrow ===== -/
section VXM2
variable {p : Program} {l : Launch} {e : Env} {R : Room} {s : State} {m : MethodId} {args : Array Value} {below : List Frame} {meth : Method} {c : Code} {H : Heap} {locs : List Loc} {cells slots : Nat}
variable {Q : State → Prop} {cc : ByteArray} {pc : Nat} {ls : Array Slot} {rest : List Value}
theorem vx_getfN {D cl tys} {own ref C : String} {T : u_T} {N ci index : Nat} {Ts : List Cond} (hexec : p.tables.exec = Jvm.exec) (hb : c.code = cc) (hts : ∀ w ∈ Ts, w.before args s = true) (hin : ∀ w ∈ u_ws C T N, w ∈ Ts) (hown : s.vm.findClass own = some m.cls) (hK : va_K D cl tys s) (hc : cl[ci]? = some (C, T, N)) (k : Nat) (hk : k < N) (hlink : (Cond.fieldLink own index ref (T k).2.1 (T k).2.2.1).before args s = true) (hsame : ∀ x, s.fieldFound? (T k).1 (T k).2.1 (T k).2.2.1 = some x → s.fieldFound? ref (T k).2.1 (T k).2.2.1 = some x) (hdg : decode cc pc = .ok (.getfield index, 3)) (kk : vx_NoteN p l e R s m args below meth c H locs cells slots Q (F0 m pc ls rest)) : W p l e R s m args below meth c H locs cells slots Q (F0 m pc ls (.null :: rest)) := by
  obtain ⟨hS, hfc, kC, hkC, -⟩ := hK.1 ci _ hc
  obtain ⟨cf, kf, fi, f, hi, -⟩ := hS k hk
  intro U hU X
  obtain ⟨vm', X1, st1⟩ := X.getfieldNull hexec hown hlink (hsame _ hi) (u_facts hfc hkC (u_lays hts hin hk) hi).1 (g := F0 m pc ls (.null :: rest)) rfl (rest := rest) rfl (by rw [hb]; exact hdg)
  obtain ⟨t, st, q⟩ := kk (U.setVm vm') hU X1
  exact ⟨t, st1 t st, q⟩
theorem vx_getfNN {D cl tys} {own ref C host : String} {T : u_T} {N ci index : Nat} {Ts : List Cond} (hexec : p.tables.exec = Jvm.exec) (hb : c.code = cc) (hts : ∀ w ∈ Ts, w.before args s = true) (hin : ∀ w ∈ u_ws C T N, w ∈ Ts) (hown : s.vm.findClass own = some m.cls) (hK : va_K D cl tys s) (hc : cl[ci]? = some (C, T, N)) (k : Nat) (hk : k < N) (hlink : (Cond.fieldLinkNest own index ref (T k).2.1 (T k).2.2.1 host).before args s = true) (hsame : ∀ x, s.fieldFound? (T k).1 (T k).2.1 (T k).2.2.1 = some x → s.fieldFound? ref (T k).2.1 (T k).2.2.1 = some x) (hdg : decode cc pc = .ok (.getfield index, 3)) (kk : vx_NoteN p l e R s m args below meth c H locs cells slots Q (F0 m pc ls rest)) : W p l e R s m args below meth c H locs cells slots Q (F0 m pc ls (.null :: rest)) := by
  obtain ⟨hS, hfc, kC, hkC, -⟩ := hK.1 ci _ hc
  obtain ⟨cf, kf, fi, f, hi, -⟩ := hS k hk
  intro U hU X
  obtain ⟨vm', X1, st1⟩ := X.getfieldNullNest hexec hown hlink (hsame _ hi) (u_facts hfc hkC (u_lays hts hin hk) hi).1 (g := F0 m pc ls (.null :: rest)) rfl (rest := rest) rfl (by rw [hb]; exact hdg)
  obtain ⟨t, st, q⟩ := kk (U.setVm vm') hU X1
  exact ⟨t, st1 t st, q⟩
theorem vx_putfN {D cl tys} {own ref C : String} {T : u_T} {N ci index : Nat} {Ts : List Cond} (hexec : p.tables.exec = Jvm.exec) (hb : c.code = cc) (hts : ∀ w ∈ Ts, w.before args s = true) (hin : ∀ w ∈ u_ws C T N, w ∈ Ts) (hown : s.vm.findClass own = some m.cls) (hK : va_K D cl tys s) (hc : cl[ci]? = some (C, T, N)) (k : Nat) (hk : k < N) (hlink : (Cond.fieldLink own index ref (T k).2.1 (T k).2.2.1).before args s = true) (hsame : ∀ x, s.fieldFound? (T k).1 (T k).2.1 (T k).2.2.1 = some x → s.fieldFound? ref (T k).2.1 (T k).2.2.1 = some x) (hfin : (T k).2.2.2 = false) {v : Value} (hdg : decode cc pc = .ok (.putfield index, 3)) (kk : vx_NoteN p l e R s m args below meth c H locs cells slots Q (F0 m pc ls rest)) : W p l e R s m args below meth c H locs cells slots Q (F0 m pc ls (v :: .null :: rest)) := by
  obtain ⟨hS, hfc, kC, hkC, -⟩ := hK.1 ci _ hc
  obtain ⟨cf, kf, fi, f, hi, -⟩ := hS k hk
  have hlay := hts _ (hin _ (u_in_lay hk))
  unfold u_lay at hlay
  rw [if_neg (by rw [hfin]; decide)] at hlay
  obtain ⟨c9, k9, cf9, kf9, fi9, f9, -, -, hi9, hst9, hnf9, -⟩ := Cond.lays_spec hlay
  cases hi.symm.trans hi9
  intro U hU X
  obtain ⟨vm', X1, st1⟩ := X.putfieldNull hexec hown hlink (hsame _ hi) hst9 hnf9 (g := F0 m pc ls (v :: .null :: rest)) rfl (v := v) (rest := rest) rfl (by rw [hb]; exact hdg)
  obtain ⟨t, st, q⟩ := kk (U.setVm vm') hU X1
  exact ⟨t, st1 t st, q⟩
theorem vx_putfNN {D cl tys} {own ref C host : String} {T : u_T} {N ci index : Nat} {Ts : List Cond} (hexec : p.tables.exec = Jvm.exec) (hb : c.code = cc) (hts : ∀ w ∈ Ts, w.before args s = true) (hin : ∀ w ∈ u_ws C T N, w ∈ Ts) (hown : s.vm.findClass own = some m.cls) (hK : va_K D cl tys s) (hc : cl[ci]? = some (C, T, N)) (k : Nat) (hk : k < N) (hlink : (Cond.fieldLinkNest own index ref (T k).2.1 (T k).2.2.1 host).before args s = true) (hsame : ∀ x, s.fieldFound? (T k).1 (T k).2.1 (T k).2.2.1 = some x → s.fieldFound? ref (T k).2.1 (T k).2.2.1 = some x) (hfin : (T k).2.2.2 = false) {v : Value} (hdg : decode cc pc = .ok (.putfield index, 3)) (kk : vx_NoteN p l e R s m args below meth c H locs cells slots Q (F0 m pc ls rest)) : W p l e R s m args below meth c H locs cells slots Q (F0 m pc ls (v :: .null :: rest)) := by
  obtain ⟨hS, hfc, kC, hkC, -⟩ := hK.1 ci _ hc
  obtain ⟨cf, kf, fi, f, hi, -⟩ := hS k hk
  have hlay := hts _ (hin _ (u_in_lay hk))
  unfold u_lay at hlay
  rw [if_neg (by rw [hfin]; decide)] at hlay
  obtain ⟨c9, k9, cf9, kf9, fi9, f9, -, -, hi9, hst9, hnf9, -⟩ := Cond.lays_spec hlay
  cases hi.symm.trans hi9
  intro U hU X
  obtain ⟨vm', X1, st1⟩ := X.putfieldNullNest hexec hown hlink (hsame _ hi) hst9 hnf9 (g := F0 m pc ls (v :: .null :: rest)) rfl (v := v) (rest := rest) rfl (by rw [hb]; exact hdg)
  obtain ⟨t, st, q⟩ := kk (U.setVm vm') hU X1
  exact ⟨t, st1 t st, q⟩
theorem vx_athrowN (hexec : p.tables.exec = Jvm.exec) (hb : c.code = cc) (hdg : decode cc pc = .ok (.athrow, 1)) (k : vx_NoteN p l e R s m args below meth c H locs cells slots Q (F0 m pc ls rest)) : W p l e R s m args below meth c H locs cells slots Q (F0 m pc ls (.null :: rest)) := by
  intro T hT X
  obtain ⟨t, st, q⟩ := k T hT X
  exact ⟨t, X.athrowNull hexec (g := F0 m pc ls (.null :: rest)) rfl (rest := rest) rfl (by rw [hb]; exact hdg) t st, q⟩
end VXM2
/-! ===== END ===== -/
end
section
abbrev RX0 : String := "ContainerHost$Checkpoint"
def TX0 : u_T := fun k => match k with
  | 0 => ("ContainerHost$Checkpoint", "own", "LContainerHost$Layer;", true)
  | 1 => ("ContainerHost$Checkpoint", "shares", "I", true)
  | 2 => ("ContainerHost$Checkpoint", "memory", "I", true)
  | 3 => ("ContainerHost$Checkpoint", "processes", "I", true)
  | 4 => ("ContainerHost$Checkpoint", "permitted", "I", true)
  | 5 => ("ContainerHost$Checkpoint", "effective", "I", true)
  | _ => ("ContainerHost$Checkpoint", "ports", "I", true)
def tyX0 : Nat → FieldType := fun k => match k with
  | 0 => .object "ContainerHost$Layer"
  | 1 => .int
  | 2 => .int
  | 3 => .int
  | 4 => .int
  | 5 => .int
  | _ => .int
abbrev wsX00 : List Cond := u_ws RX0 TX0 7
theorem nmX0 : ∀ a, a < 7 → ∀ b, b < 7 → a ≠ b → (TX0 a).2.1 ≠ (TX0 b).2.1 := by decide +kernel
theorem tyX0_ok : ∀ k, k < 7 → parseFieldDescriptor (TX0 k).2.2.1 = some (tyX0 k) := by decide +kernel
abbrev cX0_init : ByteArray := prog_2_method_1_code
abbrev RX1 : String := "ContainerHost$Container"
def TX1 : u_T := fun k => match k with
  | 0 => ("ContainerHost$Part", "shares", "I", true)
  | 1 => ("ContainerHost$Container", "number", "I", true)
  | 2 => ("ContainerHost$Container", "group", "LContainerHost$Group;", true)
  | 3 => ("ContainerHost$Container", "own", "LContainerHost$Layer;", true)
  | 4 => ("ContainerHost$Container", "state", "I", false)
  | 5 => ("ContainerHost$Container", "memory", "I", false)
  | 6 => ("ContainerHost$Container", "processes", "I", false)
  | 7 => ("ContainerHost$Container", "time", "I", false)
  | 8 => ("ContainerHost$Container", "permitted", "I", false)
  | 9 => ("ContainerHost$Container", "effective", "I", false)
  | 10 => ("ContainerHost$Container", "ports", "I", false)
  | 11 => ("ContainerHost$Container", "bridge", "I", false)
  | _ => ("ContainerHost$Container", "address", "I", false)
def tyX1 : Nat → FieldType := fun k => match k with
  | 0 => .int
  | 1 => .int
  | 2 => .object "ContainerHost$Group"
  | 3 => .object "ContainerHost$Layer"
  | 4 => .int
  | 5 => .int
  | 6 => .int
  | 7 => .int
  | 8 => .int
  | 9 => .int
  | 10 => .int
  | 11 => .int
  | _ => .int
abbrev wsX10 : List Cond := u_ws RX1 TX1 13
theorem nmX1 : ∀ a, a < 13 → ∀ b, b < 13 → a ≠ b → (TX1 a).2.1 ≠ (TX1 b).2.1 := by decide +kernel
theorem tyX1_ok : ∀ k, k < 13 → parseFieldDescriptor (TX1 k).2.2.1 = some (tyX1 k) := by decide +kernel
abbrev cX1_init : ByteArray := prog_3_method_1_code
abbrev cX1_grant : ByteArray := prog_3_method_2_code
abbrev cX1_charge : ByteArray := prog_3_method_3_code
abbrev cX1_listensOn : ByteArray := prog_3_method_4_code
abbrev cX1_leaveBridge : ByteArray := prog_3_method_5_code
abbrev RX2 : String := "ContainerHost$Group"
def TX2 : u_T := fun k => match k with
  | 0 => ("ContainerHost$Part", "shares", "I", true)
  | 1 => ("ContainerHost$Group", "parent", "LContainerHost$Group;", true)
  | 2 => ("ContainerHost$Group", "memoryLimit", "I", true)
  | 3 => ("ContainerHost$Group", "processLimit", "I", true)
  | 4 => ("ContainerHost$Group", "memory", "I", false)
  | 5 => ("ContainerHost$Group", "processes", "I", false)
  | _ => ("ContainerHost$Group", "granted", "I", false)
def tyX2 : Nat → FieldType := fun k => match k with
  | 0 => .int
  | 1 => .object "ContainerHost$Group"
  | 2 => .int
  | 3 => .int
  | 4 => .int
  | 5 => .int
  | _ => .int
abbrev wsX20 : List Cond := u_ws RX2 TX2 7
theorem nmX2 : ∀ a, a < 7 → ∀ b, b < 7 → a ≠ b → (TX2 a).2.1 ≠ (TX2 b).2.1 := by decide +kernel
theorem tyX2_ok : ∀ k, k < 7 → parseFieldDescriptor (TX2 k).2.2.1 = some (tyX2 k) := by decide +kernel
abbrev cX2_init : ByteArray := prog_4_method_1_code
abbrev cX2_grant : ByteArray := prog_4_method_2_code
abbrev cX2_isWithin : ByteArray := prog_4_method_3_code
abbrev cX2_hasRoom : ByteArray := prog_4_method_4_code
abbrev cX2_firstWithoutMemory : ByteArray := prog_4_method_5_code
abbrev RX3 : String := "ContainerHost$Image"
def TX3 : u_T := fun k => match k with
  | 0 => ("ContainerHost$Image", "top", "LContainerHost$Layer;", true)
  | _ => ("ContainerHost$Image", "sealed", "Z", false)
def tyX3 : Nat → FieldType := fun k => match k with
  | 0 => .object "ContainerHost$Layer"
  | _ => .boolean
abbrev wsX30 : List Cond := u_ws RX3 TX3 2
theorem nmX3 : ∀ a, a < 2 → ∀ b, b < 2 → a ≠ b → (TX3 a).2.1 ≠ (TX3 b).2.1 := by decide +kernel
theorem tyX3_ok : ∀ k, k < 2 → parseFieldDescriptor (TX3 k).2.2.1 = some (tyX3 k) := by decide +kernel
abbrev cX3_init : ByteArray := prog_5_method_1_code
abbrev RX4 : String := "ContainerHost$Layer"
def TX4 : u_T := fun k => match k with
  | 0 => ("ContainerHost$Layer", "below", "LContainerHost$Layer;", true)
  | 1 => ("ContainerHost$Layer", "height", "I", true)
  | 2 => ("ContainerHost$Layer", "files", "[I", true)
  | _ => ("ContainerHost$Layer", "opaque", "I", false)
def tyX4 : Nat → FieldType := fun k => match k with
  | 0 => .object "ContainerHost$Layer"
  | 1 => .int
  | 2 => .array .int
  | _ => .int
abbrev wsX40 : List Cond := u_ws RX4 TX4 4
theorem nmX4 : ∀ a, a < 4 → ∀ b, b < 4 → a ≠ b → (TX4 a).2.1 ≠ (TX4 b).2.1 := by decide +kernel
theorem tyX4_ok : ∀ k, k < 4 → parseFieldDescriptor (TX4 k).2.2.1 = some (tyX4 k) := by decide +kernel
abbrev cX4_init : ByteArray := prog_6_method_1_code
abbrev cX4_copied : ByteArray := prog_6_method_2_code
abbrev cX4_makeOpaque : ByteArray := prog_6_method_3_code
abbrev cX4_hidesBelow : ByteArray := prog_6_method_4_code
abbrev cX4_countEntries : ByteArray := prog_6_method_5_code
abbrev cX4_fileSeen : ByteArray := prog_6_method_6_code
abbrev cX4_filesSeenIn : ByteArray := prog_6_method_7_code
abbrev cX4_fileBuiltUp : ByteArray := prog_6_method_8_code
abbrev cX4_laidOver : ByteArray := prog_6_method_9_code
abbrev cX4_atHeight : ByteArray := prog_6_method_10_code
abbrev RX5 : String := "ContainerHost$Part"
abbrev cX5_init : ByteArray := prog_7_method_1_code
abbrev RX6 : String := "ContainerHost"
def TX6 : u_T := fun k => match k with
  | 0 => ("ContainerHost", "imageList", "Ljava/util/ArrayList;", true)
  | 1 => ("ContainerHost", "groupList", "Ljava/util/ArrayList;", true)
  | 2 => ("ContainerHost", "containerList", "Ljava/util/ArrayList;", true)
  | 3 => ("ContainerHost", "checkpointList", "Ljava/util/ArrayList;", true)
  | 4 => ("ContainerHost", "publishedOn", "[LContainerHost$Container;", true)
  | 5 => ("ContainerHost", "parts", "Ljava/util/ArrayList;", true)
  | _ => ("ContainerHost", "remainders", "[I", true)
def tyX6 : Nat → FieldType := fun k => match k with
  | 0 => .object "java/util/ArrayList"
  | 1 => .object "java/util/ArrayList"
  | 2 => .object "java/util/ArrayList"
  | 3 => .object "java/util/ArrayList"
  | 4 => .array (.object "ContainerHost$Container")
  | 5 => .object "java/util/ArrayList"
  | _ => .array .int
abbrev wsX60 : List Cond := u_ws RX6 TX6 7
theorem nmX6 : ∀ a, a < 7 → ∀ b, b < 7 → a ≠ b → (TX6 a).2.1 ≠ (TX6 b).2.1 := by decide +kernel
theorem tyX6_ok : ∀ k, k < 7 → parseFieldDescriptor (TX6 k).2.2.1 = some (tyX6 k) := by decide +kernel
abbrev cX6_init : ByteArray := prog_1_method_1_code
abbrev cX6_newImage : ByteArray := prog_1_method_2_code
abbrev cX6_write : ByteArray := prog_1_method_3_code
abbrev cX6_remove : ByteArray := prog_1_method_4_code
abbrev cX6_clear : ByteArray := prog_1_method_5_code
abbrev cX6_seal : ByteArray := prog_1_method_6_code
abbrev cX6_shown : ByteArray := prog_1_method_7_code
abbrev cX6_entries : ByteArray := prog_1_method_8_code
abbrev cX6_commit : ByteArray := prog_1_method_9_code
abbrev cX6_newGroup : ByteArray := prog_1_method_10_code
abbrev cX6_groupMemory : ByteArray := prog_1_method_11_code
abbrev cX6_groupProcesses : ByteArray := prog_1_method_12_code
abbrev cX6_run : ByteArray := prog_1_method_13_code
abbrev cX6_pause : ByteArray := prog_1_method_14_code
abbrev cX6_resume : ByteArray := prog_1_method_15_code
abbrev cX6_stop : ByteArray := prog_1_method_16_code
abbrev cX6_allocate : ByteArray := prog_1_method_17_code
abbrev cX6_free : ByteArray := prog_1_method_18_code
abbrev cX6_fork : ByteArray := prog_1_method_19_code
abbrev cX6_exit : ByteArray := prog_1_method_20_code
abbrev cX6_schedule : ByteArray := prog_1_method_21_code
abbrev cX6_writeFile : ByteArray := prog_1_method_22_code
abbrev cX6_removeFile : ByteArray := prog_1_method_23_code
abbrev cX6_fileOf : ByteArray := prog_1_method_24_code
abbrev cX6_plainFileOf : ByteArray := prog_1_method_25_code
abbrev cX6_raise : ByteArray := prog_1_method_26_code
abbrev cX6_lower : ByteArray := prog_1_method_27_code
abbrev cX6_drop : ByteArray := prog_1_method_28_code
abbrev cX6_kill : ByteArray := prog_1_method_29_code
abbrev cX6_attach : ByteArray := prog_1_method_30_code
abbrev cX6_detach : ByteArray := prog_1_method_31_code
abbrev cX6_listen : ByteArray := prog_1_method_32_code
abbrev cX6_publish : ByteArray := prog_1_method_33_code
abbrev cX6_connect : ByteArray := prog_1_method_34_code
abbrev cX6_connectHost : ByteArray := prog_1_method_35_code
abbrev cX6_save : ByteArray := prog_1_method_36_code
abbrev cX6_restore : ByteArray := prog_1_method_37_code
abbrev cX6_containers : ByteArray := prog_1_method_38_code
abbrev cX6_stateOf : ByteArray := prog_1_method_39_code
abbrev cX6_memoryOf : ByteArray := prog_1_method_40_code
abbrev cX6_timeOf : ByteArray := prog_1_method_41_code
abbrev cX6_capabilitiesOf : ByteArray := prog_1_method_42_code
abbrev cX6_addressOf : ByteArray := prog_1_method_43_code
abbrev cX6_imageAt : ByteArray := prog_1_method_44_code
abbrev cX6_groupAt : ByteArray := prog_1_method_45_code
abbrev cX6_containerAt : ByteArray := prog_1_method_46_code
abbrev cX6_runningAt : ByteArray := prog_1_method_47_code
abbrev cX6_pausedAt : ByteArray := prog_1_method_48_code
abbrev cX6_requireFile : ByteArray := prog_1_method_49_code
abbrev cX6_requireCapability : ByteArray := prog_1_method_50_code
abbrev cX6_requirePort : ByteArray := prog_1_method_51_code
abbrev cX6_requireHostPort : ByteArray := prog_1_method_52_code
abbrev cX6_requireWithin : ByteArray := prog_1_method_53_code
abbrev cX6_requireOpen : ByteArray := prog_1_method_54_code
abbrev cX6_requireImageSlot : ByteArray := prog_1_method_55_code
abbrev cX6_requireContainerSlot : ByteArray := prog_1_method_56_code
abbrev cX6_requireRoom : ByteArray := prog_1_method_57_code
abbrev cX6_requireRunning : ByteArray := prog_1_method_58_code
abbrev cX6_requireEffective : ByteArray := prog_1_method_59_code
abbrev cX6_requireMayChange : ByteArray := prog_1_method_60_code
abbrev cX6_requireAttached : ByteArray := prog_1_method_61_code
abbrev cX6_baseLayer : ByteArray := prog_1_method_62_code
abbrev cX6_addImage : ByteArray := prog_1_method_63_code
abbrev cX6_whiteOut : ByteArray := prog_1_method_64_code
abbrev cX6_addContainer : ByteArray := prog_1_method_65_code
abbrev cX6_halt : ByteArray := prog_1_method_66_code
abbrev cX6_killUntilFits : ByteArray := prog_1_method_67_code
abbrev cX6_largestIn : ByteArray := prog_1_method_68_code
abbrev cX6_hasRunning : ByteArray := prog_1_method_69_code
abbrev cX6_shareOut : ByteArray := prog_1_method_70_code
abbrev cX6_collectParts : ByteArray := prog_1_method_71_code
abbrev cX6_grantLeft : ByteArray := prog_1_method_72_code
abbrev cX6_greatestRemainder : ByteArray := prog_1_method_73_code
abbrev cX6_attachedAt : ByteArray := prog_1_method_74_code
abbrev cX6_leastFreeAddress : ByteArray := prog_1_method_75_code
abbrev cX6_countPublished : ByteArray := prog_1_method_76_code
abbrev RX7 : String := "ContainerHostModel"
def TX7 : u_T := fun k => match k with
  | 0 => ("ContainerHostModel", "thrown", "I", false)
  | 1 => ("ContainerHostModel", "contents", "[I", true)
  | 2 => ("ContainerHostModel", "opaque", "[I", true)
  | 3 => ("ContainerHostModel", "images", "I", false)
  | 4 => ("ContainerHostModel", "bases", "[I", true)
  | 5 => ("ContainerHostModel", "isSealed", "[Z", true)
  | 6 => ("ContainerHostModel", "groups", "I", false)
  | 7 => ("ContainerHostModel", "parents", "[I", true)
  | 8 => ("ContainerHostModel", "memoryLimits", "[I", true)
  | 9 => ("ContainerHostModel", "processLimits", "[I", true)
  | 10 => ("ContainerHostModel", "groupShares", "[I", true)
  | 11 => ("ContainerHostModel", "containers", "I", false)
  | 12 => ("ContainerHostModel", "imageOf", "[I", true)
  | 13 => ("ContainerHostModel", "sharesOf", "[I", true)
  | 14 => ("ContainerHostModel", "memory", "[I", true)
  | 15 => ("ContainerHostModel", "processes", "[I", true)
  | 16 => ("ContainerHostModel", "permitted", "[I", true)
  | 17 => ("ContainerHostModel", "effective", "[I", true)
  | 18 => ("ContainerHostModel", "listens", "[I", true)
  | 19 => ("ContainerHostModel", "states", "[I", true)
  | 20 => ("ContainerHostModel", "groupOf", "[I", true)
  | 21 => ("ContainerHostModel", "addresses", "[I", true)
  | 22 => ("ContainerHostModel", "times", "[I", true)
  | 23 => ("ContainerHostModel", "checkpoints", "I", false)
  | 24 => ("ContainerHostModel", "published", "[I", true)
  | 25 => ("ContainerHostModel", "publishedPort", "[I", true)
  | 26 => ("ContainerHostModel", "gets", "[I", true)
  | _ => ("ContainerHostModel", "remainders", "[I", true)
def tyX7 : Nat → FieldType := fun k => match k with
  | 0 => .int
  | 1 => .array .int
  | 2 => .array .int
  | 3 => .int
  | 4 => .array .int
  | 5 => .array .boolean
  | 6 => .int
  | 7 => .array .int
  | 8 => .array .int
  | 9 => .array .int
  | 10 => .array .int
  | 11 => .int
  | 12 => .array .int
  | 13 => .array .int
  | 14 => .array .int
  | 15 => .array .int
  | 16 => .array .int
  | 17 => .array .int
  | 18 => .array .int
  | 19 => .array .int
  | 20 => .array .int
  | 21 => .array .int
  | 22 => .array .int
  | 23 => .int
  | 24 => .array .int
  | 25 => .array .int
  | 26 => .array .int
  | _ => .array .int
abbrev wsX70 : List Cond := u_ws RX7 TX7 28
theorem nmX7 : ∀ a, a < 28 → ∀ b, b < 28 → a ≠ b → (TX7 a).2.1 ≠ (TX7 b).2.1 := by decide +kernel
theorem tyX7_ok : ∀ k, k < 28 → parseFieldDescriptor (TX7 k).2.2.1 = some (tyX7 k) := by decide +kernel
abbrev cX7_init : ByteArray := prog_9_method_1_code
abbrev cX7_thrown : ByteArray := prog_9_method_2_code
abbrev cX7_holds : ByteArray := prog_9_method_3_code
abbrev cX7_isIn : ByteArray := prog_9_method_4_code
abbrev cX7_isImage : ByteArray := prog_9_method_5_code
abbrev cX7_isContainer : ByteArray := prog_9_method_6_code
abbrev cX7_isGroup : ByteArray := prog_9_method_7_code
abbrev cX7_layersOf : ByteArray := prog_9_method_8_code
abbrev cX7_shows : ByteArray := prog_9_method_9_code
abbrev cX7_imageShows : ByteArray := prog_9_method_10_code
abbrev cX7_containerSees : ByteArray := prog_9_method_11_code
abbrev cX7_empties : ByteArray := prog_9_method_12_code
abbrev cX7_copies : ByteArray := prog_9_method_13_code
abbrev cX7_newImage : ByteArray := prog_9_method_14_code
abbrev cX7_isContent : ByteArray := prog_9_method_15_code
abbrev cX7_write : ByteArray := prog_9_method_16_code
abbrev cX7_remove : ByteArray := prog_9_method_17_code
abbrev cX7_clear : ByteArray := prog_9_method_18_code
abbrev cX7_seal : ByteArray := prog_9_method_19_code
abbrev cX7_shown : ByteArray := prog_9_method_20_code
abbrev cX7_entries : ByteArray := prog_9_method_21_code
abbrev cX7_commit : ByteArray := prog_9_method_22_code
abbrev cX7_isBelow : ByteArray := prog_9_method_23_code
abbrev cX7_memoryIn : ByteArray := prog_9_method_24_code
abbrev cX7_processesIn : ByteArray := prog_9_method_25_code
abbrev cX7_newGroup : ByteArray := prog_9_method_26_code
abbrev cX7_groupMemory : ByteArray := prog_9_method_27_code
abbrev cX7_groupProcesses : ByteArray := prog_9_method_28_code
abbrev cX7_tooMuch : ByteArray := prog_9_method_29_code
abbrev cX7_begins : ByteArray := prog_9_method_30_code
abbrev cX7_run : ByteArray := prog_9_method_31_code
abbrev cX7_isThere : ByteArray := prog_9_method_32_code
abbrev cX7_pause : ByteArray := prog_9_method_33_code
abbrev cX7_resume : ByteArray := prog_9_method_34_code
abbrev cX7_stops : ByteArray := prog_9_method_35_code
abbrev cX7_stop : ByteArray := prog_9_method_36_code
abbrev cX7_greatest : ByteArray := prog_9_method_37_code
abbrev cX7_areUnits : ByteArray := prog_9_method_38_code
abbrev cX7_allocate : ByteArray := prog_9_method_39_code
abbrev cX7_free : ByteArray := prog_9_method_40_code
abbrev cX7_fork : ByteArray := prog_9_method_41_code
abbrev cX7_exit : ByteArray := prog_9_method_42_code
abbrev cX7_isPart : ByteArray := prog_9_method_43_code
abbrev cX7_sharesOfPart : ByteArray := prog_9_method_44_code
abbrev cX7_gives : ByteArray := prog_9_method_45_code
abbrev cX7_sharesOut : ByteArray := prog_9_method_46_code
abbrev cX7_schedule : ByteArray := prog_9_method_47_code
abbrev cX7_isEffective : ByteArray := prog_9_method_48_code
abbrev cX7_mayChange : ByteArray := prog_9_method_49_code
abbrev cX7_writeFile : ByteArray := prog_9_method_50_code
abbrev cX7_removeFile : ByteArray := prog_9_method_51_code
abbrev cX7_fileOf : ByteArray := prog_9_method_52_code
abbrev cX7_layerAt : ByteArray := prog_9_method_53_code
abbrev cX7_plainFileOf : ByteArray := prog_9_method_54_code
abbrev cX7_isCapability : ByteArray := prog_9_method_55_code
abbrev cX7_raise : ByteArray := prog_9_method_56_code
abbrev cX7_lower : ByteArray := prog_9_method_57_code
abbrev cX7_drop : ByteArray := prog_9_method_58_code
abbrev cX7_kill : ByteArray := prog_9_method_59_code
abbrev cX7_atAddress : ByteArray := prog_9_method_60_code
abbrev cX7_freeAddress : ByteArray := prog_9_method_61_code
abbrev cX7_attach : ByteArray := prog_9_method_62_code
abbrev cX7_detach : ByteArray := prog_9_method_63_code
abbrev cX7_isListening : ByteArray := prog_9_method_64_code
abbrev cX7_listen : ByteArray := prog_9_method_65_code
abbrev cX7_publish : ByteArray := prog_9_method_66_code
abbrev cX7_connect : ByteArray := prog_9_method_67_code
abbrev cX7_connectHost : ByteArray := prog_9_method_68_code
abbrev cX7_keeps : ByteArray := prog_9_method_69_code
abbrev cX7_save : ByteArray := prog_9_method_70_code
abbrev cX7_restore : ByteArray := prog_9_method_71_code
abbrev cX7_containers : ByteArray := prog_9_method_72_code
abbrev cX7_isAsked : ByteArray := prog_9_method_73_code
abbrev cX7_stateOf : ByteArray := prog_9_method_74_code
abbrev cX7_memoryOf : ByteArray := prog_9_method_75_code
abbrev cX7_timeOf : ByteArray := prog_9_method_76_code
abbrev cX7_capabilitiesOf : ByteArray := prog_9_method_77_code
abbrev cX7_addressOf : ByteArray := prog_9_method_78_code
abbrev RJx145de : String := "java/io/Serializable"
abbrev RJx8e188 : String := "java/lang/Cloneable"
abbrev RJ6 : String := "java/lang/Integer"
abbrev cJ6_bitCount_0f7a4 : ByteArray := prog_16_method_49_code
abbrev RJxab1ab : String := "java/lang/Iterable"
abbrev RJ9 : String := "java/lang/Math"
abbrev cJ9_max_7cf53 : ByteArray := prog_18_method_65_code
abbrev cJ9_min_7cf53 : ByteArray := prog_18_method_69_code
abbrev RJ0 : String := "java/lang/String"
abbrev RJ10 : String := "java/lang/System"
abbrev RJxa1e45 : String := "java/util/AbstractCollection"
abbrev cJxa1e45_init_da8c8 : ByteArray := prog_23_method_1_code
abbrev RJxc12de : String := "java/util/AbstractList"
abbrev cJxc12de_init_da8c8 : ByteArray := prog_24_method_1_code
abbrev RJx4a65c : String := "java/util/ArrayList"
def TJx4a65c : u_T := fun k => match k with
  | 0 => ("java/util/AbstractList", "modCount", "I", false)
  | 1 => ("java/util/ArrayList", "elementData", "[Ljava/lang/Object;", false)
  | _ => ("java/util/ArrayList", "size", "I", false)
def tyJx4a65c : Nat → FieldType := fun k => match k with
  | 0 => .int
  | 1 => .array (.object "java/lang/Object")
  | _ => .int
abbrev wsJx4a65c0 : List Cond := u_ws RJx4a65c TJx4a65c 3
theorem nmJx4a65c : ∀ a, a < 3 → ∀ b, b < 3 → a ≠ b → (TJx4a65c a).2.1 ≠ (TJx4a65c b).2.1 := by decide +kernel
theorem tyJx4a65c_ok : ∀ k, k < 3 → parseFieldDescriptor (TJx4a65c k).2.2.1 = some (tyJx4a65c k) := by decide +kernel
abbrev cJx4a65c_init_da8c8 : ByteArray := prog_25_method_2_code
abbrev cJx4a65c_grow_92f84 : ByteArray := prog_25_method_6_code
abbrev cJx4a65c_grow_d5877 : ByteArray := prog_25_method_7_code
abbrev cJx4a65c_size_8abf5 : ByteArray := prog_25_method_8_code
abbrev cJx4a65c_elementData_915e3 : ByteArray := prog_25_method_18_code
abbrev cJx4a65c_get_915e3 : ByteArray := prog_25_method_20_code
abbrev cJx4a65c_add_72be8 : ByteArray := prog_25_method_24_code
abbrev cJx4a65c_add_9ea2d : ByteArray := prog_25_method_25_code
abbrev cJx4a65c_clear_da8c8 : ByteArray := prog_25_method_40_code
abbrev RJ7 : String := "java/util/Arrays"
abbrev cJ7_copyOf_1904c : ByteArray := prog_26_method_119_code
abbrev cJ7_copyOf_6403c : ByteArray := prog_26_method_120_code
abbrev RJx5ef63 : String := "java/util/Collection"
abbrev RJxbd725 : String := "java/util/List"
abbrev RJ15 : String := "java/util/Objects"
abbrev cJ15_checkIndex_7cf53 : ByteArray := prog_29_method_17_code
abbrev RJxf0a74 : String := "java/util/RandomAccess"
abbrev RJxa66e6 : String := "java/util/SequencedCollection"
abbrev RJ8 : String := "jdk/internal/util/ArraysSupport"
abbrev cJ8_newLength_cabcc : ByteArray := prog_32_method_27_code
abbrev cJ8_hugeLength_7cf53 : ByteArray := prog_32_method_28_code
abbrev RJ3 : String := "jdk/internal/util/Preconditions"
abbrev cJ3_checkIndex_8e157 : ByteArray := prog_33_method_11_code
abbrev RL : String := "ContainerHostLaw"
abbrev cL_newImage : ByteArray := method_3_code
abbrev cL_write : ByteArray := method_4_code
abbrev cL_remove : ByteArray := method_5_code
abbrev cL_clear : ByteArray := method_6_code
abbrev cL_seal : ByteArray := method_7_code
abbrev cL_shown : ByteArray := method_8_code
abbrev cL_entries : ByteArray := method_9_code
abbrev cL_commit : ByteArray := method_10_code
abbrev cL_newGroup : ByteArray := method_11_code
abbrev cL_groupMemory : ByteArray := method_12_code
abbrev cL_groupProcesses : ByteArray := method_13_code
abbrev cL_run : ByteArray := method_14_code
abbrev cL_pause : ByteArray := method_15_code
abbrev cL_resume : ByteArray := method_16_code
abbrev cL_stop : ByteArray := method_17_code
abbrev cL_allocate : ByteArray := method_18_code
abbrev cL_free : ByteArray := method_19_code
abbrev cL_fork : ByteArray := method_20_code
abbrev cL_exit : ByteArray := method_21_code
abbrev cL_schedule : ByteArray := method_22_code
abbrev cL_writeFile : ByteArray := method_23_code
abbrev cL_removeFile : ByteArray := method_24_code
abbrev cL_fileOf : ByteArray := method_25_code
abbrev cL_plainFileOf : ByteArray := method_26_code
abbrev cL_raise : ByteArray := method_27_code
abbrev cL_lower : ByteArray := method_28_code
abbrev cL_drop : ByteArray := method_29_code
abbrev cL_kill : ByteArray := method_30_code
abbrev cL_attach : ByteArray := method_31_code
abbrev cL_detach : ByteArray := method_32_code
abbrev cL_listen : ByteArray := method_33_code
abbrev cL_publish : ByteArray := method_34_code
abbrev cL_connect : ByteArray := method_35_code
abbrev cL_connectHost : ByteArray := method_36_code
abbrev cL_save : ByteArray := method_37_code
abbrev cL_restore : ByteArray := method_38_code
abbrev cL_stateOf : ByteArray := method_39_code
abbrev cL_memoryOf : ByteArray := method_40_code
abbrev cL_timeOf : ByteArray := method_41_code
abbrev cL_capabilitiesOf : ByteArray := method_42_code
abbrev cL_addressOf : ByteArray := method_43_code
abbrev cL_law : ByteArray := code
abbrev vwCl : List vw_C := [(RJx4a65c, TJx4a65c, 3), (RX0, TX0, 7), (RX1, TX1, 13), (RX2, TX2, 7), (RX3, TX3, 2), (RX4, TX4, 4), (RX6, TX6, 7), (RX7, TX7, 28)]
end
section
/-! A JUDGEMENT OF ITS OWN over the kit's W: the heap as a function from addresses to known cells, ints as images of integers, what is left of the room as two numbers. -/
abbrev hp : Type := Nat → Option va_E
def hset (h : hp) (a : Nat) (e : va_E) : hp := fun q => if q = a then some e else h q
theorem hset_s (h : hp) (a : Nat) (e : va_E) : hset h a e a = some e := if_pos rfl
theorem hset_n (h : hp) {a q : Nat} (e : va_E) (hq : q ≠ a) : hset h a e q = h q := if_neg hq
def vw (h : hp) (ws : va_W) : Prop := ∀ a e, h a = some e → (a, e) ∈ ws
def iI (z : Int) : Int32 := Int32.ofInt z
def R32 (z : Int) : Prop := -2147483648 ≤ z ∧ z < 2147483648
theorem iI_toInt {z : Int} (h : R32 z) : (iI z).toInt = z := Int32.toInt_ofInt_of_le h.1 h.2
theorem iI_of (x : Int32) : ∃ z : Int, R32 z ∧ x = iI z := ⟨x.toInt, ⟨x.le_toInt, x.toInt_lt⟩, x.ofInt_toInt.symm⟩
theorem iI_inj {a b : Int} (ha : R32 a) (hb : R32 b) (h : iI a = iI b) : a = b := by
  have := congrArg Int32.toInt h
  rwa [iI_toInt ha, iI_toInt hb] at this
theorem iI_eq {a b : Int} (ha : R32 a) (hb : R32 b) : iI a = iI b ↔ a = b := ⟨iI_inj ha hb, fun h => by rw [h]⟩
theorem iI_le {a b : Int} (ha : R32 a) (hb : R32 b) : iI a ≤ iI b ↔ a ≤ b := by rw [Int32.le_iff_toInt_le, iI_toInt ha, iI_toInt hb]
theorem iI_lt {a b : Int} (ha : R32 a) (hb : R32 b) : iI a < iI b ↔ a < b := by rw [Int32.lt_iff_toInt_lt, iI_toInt ha, iI_toInt hb]
theorem R32_0 : R32 0 := ⟨by omega, by omega⟩
theorem iI_cl {z : Int} (h : R32 z) : (iI z).toNatClampNeg = z.toNat := Int32.toNatClampNeg_ofInt_of_le h.1 h.2
theorem iI_in {z : Int} {n : Nat} (hn : n < 2147483648) (h0 : 0 ≤ z) (h1 : z < n) : vp_in (iI z) n := by
  have hR : R32 z := ⟨by omega, by omega⟩
  rintro (h | h)
  · have := (iI_lt hR R32_0).mp h
    omega
  · rw [iI_cl hR] at h
    omega
-- the launch; the state at the law's entry; the script's address; classes and slots; array classes: int, boolean, long, Object, Container
abbrev xG : Type := Launch × State × Nat × va_G × (Nat → ClassId)
abbrev gA (g : xG) : Nat → Prop := fun q => g.2.1.heap.size ≤ q
abbrev gT (g : xG) : List (ClassId × FieldType) := [(g.2.2.2.2 0, .int), (g.2.2.2.2 1, .boolean), (g.2.2.2.2 2, .long), (g.2.2.2.2 3, .object "java/lang/Object"), (g.2.2.2.2 4, .object "ContainerHost$Container")]
def gWords (g : xG) : Prop := ∀ w ∈ lw_tbl, w.before #[Value.ref g.2.2.1] g.2.1 = true
def gOk (g : xG) : Prop := g.1.stackTraces = false ∧ gWords g ∧ va_K g.2.2.2.1 vwCl (gT g) g.2.1 ∧ vx_Zq Bundle.tN "UNASSIGNED_STACK" Bundle.steD (gA g) g.2.1 g.2.1.heap ∧ vx_Zq Bundle.tN "SUPPRESSED_SENTINEL" Bundle.listD (gA g) g.2.1 g.2.1.heap ∧ (∀ own k tx, Cond.stringRef own k tx ∈ lw_tbl → ∃ a, vk_R own k tx a g.2.1)
-- a method: its class, code, locals, return type, name, table of handlers, room
abbrev xMeth : Type := String × ByteArray × Nat × Option FieldType × String × List (Nat × Nat × Nat × Nat) × Room
def xC (g : xG) (M : xMeth) (p : Program) (s : State) (m : MethodId) (meth : Method) (c : Code) : Prop :=
  p.tables.exec = Jvm.exec ∧ c.code = M.2.1 ∧ c.maxLocals = M.2.2.1 ∧ meth.sig.returnType = M.2.2.2.1 ∧ meth.name = M.2.2.2.2.1 ∧ meth.locks = false ∧ c.exceptionTable.toList = tableOf M.2.2.2.2.2.1 ∧ s.vm.findClass M.1 = some m.cls ∧ g.2.1.WarmedH s.vm ∧ va_S (gA g) g.2.1.heap s.heap []
def xHp (g : xG) (h : hp) (H : Heap) (locs : List Loc) : Prop := ∃ ws : va_W, va_S (gA g) g.2.1.heap H locs ∧ va_P g.2.2.2.1 vwCl ws H ∧ va_D (gA g) ws ∧ vw h ws
def xL (lsA : Array Slot) (nL : Nat) (ls : List (Option Value)) : Prop := lsA.size = nL ∧ lv_wf lsA ∧ ∀ (i : Nat) (v : Value), ls[i]? = some (some v) → v.category = 1 ∧ lsA[i]? = some (Slot.val v)
abbrev qP : Type := Option Value → hp → Prop
abbrev qE : Type := String → hp → Prop
def qC (g : xG) (Q : qP) : Array Value → State → Outcome → State → Prop := fun _ _ oc t => ∃ v h', oc = .returned v ∧ Q v h' ∧ xHp g h' t.heap []
def qX (g : xG) (QX : qE) : String → State → State → Prop := fun E _ t => ∃ h', QX E h' ∧ xHp g h' t.heap []
def xW (g : xG) (M : xMeth) (Q : qP) (QX : qE) (rc rs : Nat) (h : hp) (pc : Nat) (ls : List (Option Value)) (st : List Value) : Prop :=
  gOk g → ∀ (p : Program) (e : Env) (s : State) (m : MethodId) (args : Array Value) (below : List Frame) (meth : Method) (c : Code) (H : Heap) (locs : List Loc) (lsA : Array Slot) (cells slots : Nat),
    xC g M p s m meth c → xHp g h H locs → xL lsA M.2.2.1 ls → cells + rc ≤ M.2.2.2.2.2.2.cells → slots + rs ≤ M.2.2.2.2.2.2.slots →
    W p g.1 e M.2.2.2.2.2.2 s m args below meth c H locs cells slots (vx_MQ below (qC g Q) (qX g QX) args s M.2.2.2.2.2.2.cells M.2.2.2.2.2.2.slots (gA g)) (F0 m pc lsA st)
def xPc (g : xG) (h : hp) : State → Prop := fun U => gOk g ∧ g.2.1.WarmedH U.vm ∧ xHp g h U.heap []
def xM (g : xG) (y : MethodName) (wc : Cond) (M : xMeth) (av : List Value) (h : hp) (Q : qP) (QX : qE) : Prop :=
  vx_Met g.1 y [wc] M.2.2.2.2.2.2 (va_Pc av (xPc g h)) (qC g Q) (qX g QX) M.2.2.2.2.2.2.cells M.2.2.2.2.2.2.slots (gA g)
section XB
variable {g : xG} {M : xMeth} {Q : qP} {QX : qE} {rc rs : Nat} {h : hp} {pc : Nat} {ls : List (Option Value)} {st : List Value}
theorem xW.mono {rc' rs' : Nat} (k : xW g M Q QX rc rs h pc ls st) (h1 : rc ≤ rc') (h2 : rs ≤ rs') : xW g M Q QX rc' rs' h pc ls st :=
  fun G p e s m args below meth c H locs lsA cells slots C hh hl a1 a2 => k G p e s m args below meth c H locs lsA cells slots C hh hl (by omega) (by omega)
theorem wd {w : Cond} {s : State} {args : Array Value} (G : gOk g) (hW : g.2.1.WarmedH s.vm) (hm : w ∈ lw_tbl) (hg : goodWord w = true) : w.before args s = true := word_at hW (good_of_word hg) (G.2.1 w hm)
theorem u_good (C : String) (T : u_T) (N : Nat) : ∀ w ∈ u_ws C T N, goodWord w = true := by
  intro w hw
  obtain ⟨k, -, rfl⟩ := List.mem_map.mp hw
  unfold u_lay
  split <;> rfl
theorem wds {s : State} {args : Array Value} {C : String} {T : u_T} {N : Nat} (G : gOk g) (hW : g.2.1.WarmedH s.vm) (hin : ∀ w ∈ u_ws C T N, w ∈ lw_tbl) : ∀ w ∈ u_ws C T N, w.before args s = true := fun w hw => wd G hW (hin w hw) (u_good C T N w hw)
theorem gK {s : State} (G : gOk g) (hW : g.2.1.WarmedH s.vm) : va_K g.2.2.2.1 vwCl (gT g) s := va_K.moved hW.alike G.2.2.1
theorem mt {i : Nat} {w : Cond} (h : tables_1[i]? = some w) : w ∈ lw_tbl := List.mem_append_right _ (List.mem_of_getElem? h)
theorem ms {i : Nat} {q : MethodName × Nat} (h : lw_privs[i]? = some q) : Cond.selects q.1.cls q.1 q.1 ∈ lw_tbl := List.mem_append_left _ (List.mem_map.mpr ⟨q, List.mem_of_getElem? h, rfl⟩)
-- locals
theorem xL.set {lsA : Array Slot} {nL : Nat} {i : Nat} {v : Value} (hl : xL lsA nL ls) (hi : i < nL) (hv : v.category = 1) : ∃ lsB, storeLocals lsA i v = some lsB ∧ xL lsB nL (ls.set i (some v)) := by
  obtain ⟨lsB, e1, h1⟩ := lv_store1 (l := []) (v := v) ⟨hl.1, hl.2.1, fun q hq => by cases hq⟩ hi hv
  refine ⟨lsB, e1, h1.1, h1.2.1, fun j w hj => ?_⟩
  by_cases hji : i = j
  · subst hji
    have hlt : i < ls.length := by
      have := (List.getElem?_eq_some_iff.mp hj).1
      simpa using this
    rw [List.getElem?_set_self hlt] at hj
    cases hj
    exact ⟨hv, h1.2.2 (i, v) List.mem_cons_self⟩
  · rw [List.getElem?_set_ne hji] at hj
    obtain ⟨c1, c2⟩ := hl.2.2 j w hj
    obtain ⟨lsC, e2, h2⟩ := lv_store1 (l := [(j, w)]) (v := v) ⟨hl.1, hl.2.1, fun q hq => by rw [List.mem_singleton.mp hq]; exact c2⟩ hi hv
    cases Option.some.inj (e1.symm.trans e2)
    refine ⟨c1, h2.2.2 (j, w) (List.mem_cons_of_mem _ (List.mem_filter.mpr ⟨List.mem_singleton.mpr rfl, ?_⟩))⟩
    have : ¬ j = i := fun q => hji q.symm
    simp [this, c1]
theorem xL.has {lsA : Array Slot} {nL : Nat} (hl : xL lsA nL ls) : lv_has lsA nL [] := ⟨hl.1, hl.2.1, fun q hq => by cases hq⟩
end XB
end
section
section XR
variable {g : xG} {M : xMeth} {Q : qP} {QX : qE} {rc rs : Nat} {h : hp} {pc : Nat} {ls : List (Option Value)} {st : List Value}
theorem x_iconst {n : Int} (d : decode M.2.1 pc = .ok (.iconst n, 1)) (k : xW g M Q QX rc rs h (pc + 1) ls (.int (iI n) :: st)) : xW g M Q QX rc rs h pc ls (st) := fun G p e s m args below meth c H locs lsA cells slots C hh hl a1 a2 => lv_iconst C.1 C.2.1 d rfl (k G p e s m args below meth c H locs lsA cells slots C hh hl a1 a2)
theorem x_bipush {n : Int} (d : decode M.2.1 pc = .ok (.bipush n, 2)) (hv : (Int8.ofInt n).toInt32 = iI n) (k : xW g M Q QX rc rs h (pc + 2) ls (.int (iI n) :: st)) : xW g M Q QX rc rs h pc ls (st) := fun G p e s m args below meth c H locs lsA cells slots C hh hl a1 a2 => lv_bipush C.1 C.2.1 d hv (k G p e s m args below meth c H locs lsA cells slots C hh hl a1 a2)
theorem x_sipush {n : Int} (d : decode M.2.1 pc = .ok (.sipush n, 3)) (hv : (Int16.ofInt n).toInt32 = iI n) (k : xW g M Q QX rc rs h (pc + 3) ls (.int (iI n) :: st)) : xW g M Q QX rc rs h pc ls (st) := fun G p e s m args below meth c H locs lsA cells slots C hh hl a1 a2 => lv_sipush C.1 C.2.1 d hv (k G p e s m args below meth c H locs lsA cells slots C hh hl a1 a2)
theorem x_null  (d : decode M.2.1 pc = .ok (.aconst_null, 1)) (k : xW g M Q QX rc rs h (pc + 1) ls (.null :: st)) : xW g M Q QX rc rs h pc ls (st) := fun G p e s m args below meth c H locs lsA cells slots C hh hl a1 a2 => lv_null C.1 C.2.1 d (k G p e s m args below meth c H locs lsA cells slots C hh hl a1 a2)
theorem x_iload_n {n : Fin 4} {x : Int32} (d : decode M.2.1 pc = .ok (.iload_n n, 1)) (hx : ls[(n : Nat)]? = some (some (.int x))) (k : xW g M Q QX rc rs h (pc + 1) ls (.int x :: st)) : xW g M Q QX rc rs h pc ls (st) := fun G p e s m args below meth c H locs lsA cells slots C hh hl a1 a2 => lv_iload_n C.1 C.2.1 d rfl (hl.2.2 _ _ hx).2 (k G p e s m args below meth c H locs lsA cells slots C hh hl a1 a2)
theorem x_iload {n : Nat} {x : Int32} (d : decode M.2.1 pc = .ok (.iload n, 2)) (hx : ls[n]? = some (some (.int x))) (k : xW g M Q QX rc rs h (pc + 2) ls (.int x :: st)) : xW g M Q QX rc rs h pc ls (st) := fun G p e s m args below meth c H locs lsA cells slots C hh hl a1 a2 => lv_iload C.1 C.2.1 d (hl.2.2 _ _ hx).2 (k G p e s m args below meth c H locs lsA cells slots C hh hl a1 a2)
theorem x_aload_n {n : Fin 4} {x : Nat} (d : decode M.2.1 pc = .ok (.aload_n n, 1)) (hx : ls[(n : Nat)]? = some (some (.ref x))) (k : xW g M Q QX rc rs h (pc + 1) ls (.ref x :: st)) : xW g M Q QX rc rs h pc ls (st) := fun G p e s m args below meth c H locs lsA cells slots C hh hl a1 a2 => lv_aload_n C.1 C.2.1 d rfl (hl.2.2 _ _ hx).2 (k G p e s m args below meth c H locs lsA cells slots C hh hl a1 a2)
theorem x_aload {n : Nat} {x : Nat} (d : decode M.2.1 pc = .ok (.aload n, 2)) (hx : ls[n]? = some (some (.ref x))) (k : xW g M Q QX rc rs h (pc + 2) ls (.ref x :: st)) : xW g M Q QX rc rs h pc ls (st) := fun G p e s m args below meth c H locs lsA cells slots C hh hl a1 a2 => lv_aload C.1 C.2.1 d (hl.2.2 _ _ hx).2 (k G p e s m args below meth c H locs lsA cells slots C hh hl a1 a2)
theorem x_aload_nN {n : Fin 4} (d : decode M.2.1 pc = .ok (.aload_n n, 1)) (hx : ls[(n : Nat)]? = some (some .null)) (k : xW g M Q QX rc rs h (pc + 1) ls (.null :: st)) : xW g M Q QX rc rs h pc ls (st) := fun G p e s m args below meth c H locs lsA cells slots C hh hl a1 a2 => lv_aload_nN C.1 C.2.1 d rfl (hl.2.2 _ _ hx).2 (k G p e s m args below meth c H locs lsA cells slots C hh hl a1 a2)
theorem x_aloadN {n : Nat} (d : decode M.2.1 pc = .ok (.aload n, 2)) (hx : ls[n]? = some (some .null)) (k : xW g M Q QX rc rs h (pc + 2) ls (.null :: st)) : xW g M Q QX rc rs h pc ls (st) := fun G p e s m args below meth c H locs lsA cells slots C hh hl a1 a2 => lv_aloadN C.1 C.2.1 d (hl.2.2 _ _ hx).2 (k G p e s m args below meth c H locs lsA cells slots C hh hl a1 a2)
theorem x_iadd {a b : Int} (d : decode M.2.1 pc = .ok (.iadd, 1)) (k : xW g M Q QX rc rs h (pc + 1) ls (.int (iI (a + b)) :: st)) : xW g M Q QX rc rs h pc ls (.int (iI b) :: .int (iI a) :: st) := fun G p e s m args below meth c H locs lsA cells slots C hh hl a1 a2 => lv_iadd C.1 C.2.1 d (by have e9 := (k G p e s m args below meth c H locs lsA cells slots C hh hl a1 a2); rw [show iI (a + b) = iI a + iI b from Int32.ofInt_add a b] at e9; exact e9)
theorem x_isub {a b : Int} (d : decode M.2.1 pc = .ok (.isub, 1)) (k : xW g M Q QX rc rs h (pc + 1) ls (.int (iI (a - b)) :: st)) : xW g M Q QX rc rs h pc ls (.int (iI b) :: .int (iI a) :: st) := fun G p e s m args below meth c H locs lsA cells slots C hh hl a1 a2 => lv_isub C.1 C.2.1 d (by have e9 := (k G p e s m args below meth c H locs lsA cells slots C hh hl a1 a2); rw [show iI (a - b) = iI a - iI b from Int32.ofInt_sub a b] at e9; exact e9)
theorem x_imul {a b : Int} (d : decode M.2.1 pc = .ok (.imul, 1)) (k : xW g M Q QX rc rs h (pc + 1) ls (.int (iI (a * b)) :: st)) : xW g M Q QX rc rs h pc ls (.int (iI b) :: .int (iI a) :: st) := fun G p e s m args below meth c H locs lsA cells slots C hh hl a1 a2 => lv_imul C.1 C.2.1 d (by have e9 := (k G p e s m args below meth c H locs lsA cells slots C hh hl a1 a2); rw [show iI (a * b) = iI a * iI b from Int32.ofInt_mul a b] at e9; exact e9)
theorem x_ineg {a : Int} (d : decode M.2.1 pc = .ok (.ineg, 1)) (k : xW g M Q QX rc rs h (pc + 1) ls (.int (iI (-a)) :: st)) : xW g M Q QX rc rs h pc ls (.int (iI a) :: st) := fun G p e s m args below meth c H locs lsA cells slots C hh hl a1 a2 => lv_ineg C.1 C.2.1 d (by have e9 := (k G p e s m args below meth c H locs lsA cells slots C hh hl a1 a2); rw [show iI (-a) = - iI a from Int32.ofInt_neg a] at e9; exact e9)
theorem x_iand {x y v : Int32} (d : decode M.2.1 pc = .ok (.iand, 1)) (hv : x &&& y = v) (k : xW g M Q QX rc rs h (pc + 1) ls (.int v :: st)) : xW g M Q QX rc rs h pc ls (.int y :: .int x :: st) := fun G p e s m args below meth c H locs lsA cells slots C hh hl a1 a2 => lv_iand C.1 C.2.1 d (by rw [hv]; exact (k G p e s m args below meth c H locs lsA cells slots C hh hl a1 a2))
theorem x_ior {x y v : Int32} (d : decode M.2.1 pc = .ok (.ior, 1)) (hv : x ||| y = v) (k : xW g M Q QX rc rs h (pc + 1) ls (.int v :: st)) : xW g M Q QX rc rs h pc ls (.int y :: .int x :: st) := fun G p e s m args below meth c H locs lsA cells slots C hh hl a1 a2 => lv_ior C.1 C.2.1 d (by rw [hv]; exact (k G p e s m args below meth c H locs lsA cells slots C hh hl a1 a2))
theorem x_ixor {x y v : Int32} (d : decode M.2.1 pc = .ok (.ixor, 1)) (hv : x ^^^ y = v) (k : xW g M Q QX rc rs h (pc + 1) ls (.int v :: st)) : xW g M Q QX rc rs h pc ls (.int y :: .int x :: st) := fun G p e s m args below meth c H locs lsA cells slots C hh hl a1 a2 => lv_ixor C.1 C.2.1 d (by rw [hv]; exact (k G p e s m args below meth c H locs lsA cells slots C hh hl a1 a2))
theorem x_ishl {x y v : Int32} (d : decode M.2.1 pc = .ok (.ishl, 1)) (hv : x <<< (y &&& 31) = v) (k : xW g M Q QX rc rs h (pc + 1) ls (.int v :: st)) : xW g M Q QX rc rs h pc ls (.int y :: .int x :: st) := fun G p e s m args below meth c H locs lsA cells slots C hh hl a1 a2 => lv_ishl C.1 C.2.1 d (by rw [hv]; exact (k G p e s m args below meth c H locs lsA cells slots C hh hl a1 a2))
theorem x_ishr {x y v : Int32} (d : decode M.2.1 pc = .ok (.ishr, 1)) (hv : x >>> (y &&& 31) = v) (k : xW g M Q QX rc rs h (pc + 1) ls (.int v :: st)) : xW g M Q QX rc rs h pc ls (.int y :: .int x :: st) := fun G p e s m args below meth c H locs lsA cells slots C hh hl a1 a2 => lv_ishr C.1 C.2.1 d (by rw [hv]; exact (k G p e s m args below meth c H locs lsA cells slots C hh hl a1 a2))
theorem x_iushr {x y v : Int32} (d : decode M.2.1 pc = .ok (.iushr, 1)) (hv : (x.toUInt32 >>> (y.toUInt32 &&& Int32.toUInt32 31)).toInt32 = v) (k : xW g M Q QX rc rs h (pc + 1) ls (.int v :: st)) : xW g M Q QX rc rs h pc ls (.int y :: .int x :: st) := fun G p e s m args below meth c H locs lsA cells slots C hh hl a1 a2 => lv_iushr C.1 C.2.1 d hv (k G p e s m args below meth c H locs lsA cells slots C hh hl a1 a2)
theorem x_idiv {x y v : Int32} (d : decode M.2.1 pc = .ok (.idiv, 1)) (hy : ¬ y = 0) (hv : x / y = v) (k : xW g M Q QX rc rs h (pc + 1) ls (.int v :: st)) : xW g M Q QX rc rs h pc ls (.int y :: .int x :: st) := fun G p e s m args below meth c H locs lsA cells slots C hh hl a1 a2 => lv_idiv C.1 C.2.1 d hy (by rw [hv]; exact (k G p e s m args below meth c H locs lsA cells slots C hh hl a1 a2))
theorem x_irem {x y v : Int32} (d : decode M.2.1 pc = .ok (.irem, 1)) (hy : ¬ y = 0) (hv : x - x / y * y = v) (k : xW g M Q QX rc rs h (pc + 1) ls (.int v :: st)) : xW g M Q QX rc rs h pc ls (.int y :: .int x :: st) := fun G p e s m args below meth c H locs lsA cells slots C hh hl a1 a2 => lv_irem C.1 C.2.1 d hy (by rw [hv]; exact (k G p e s m args below meth c H locs lsA cells slots C hh hl a1 a2))
theorem x_i2l {x : Int32} (d : decode M.2.1 pc = .ok (.i2l, 1)) (k : xW g M Q QX rc rs h (pc + 1) ls (.long x.toInt64 :: st)) : xW g M Q QX rc rs h pc ls (.int x :: st) := fun G p e s m args below meth c H locs lsA cells slots C hh hl a1 a2 => lv_i2l C.1 C.2.1 d rfl (k G p e s m args below meth c H locs lsA cells slots C hh hl a1 a2)
theorem x_lcmp {x y : Int64} (d : decode M.2.1 pc = .ok (.lcmp, 1)) (k : xW g M Q QX rc rs h (pc + 1) ls (.int (lg_cmp x y) :: st)) : xW g M Q QX rc rs h pc ls (.long y :: .long x :: st) := fun G p e s m args below meth c H locs lsA cells slots C hh hl a1 a2 => W.lcmp C.1 C.2.1 d (k G p e s m args below meth c H locs lsA cells slots C hh hl a1 a2)
theorem x_dup {v : Value} (d : decode M.2.1 pc = .ok (.dup, 1)) (hv : v.category = 1) (k : xW g M Q QX rc rs h (pc + 1) ls (v :: v :: st)) : xW g M Q QX rc rs h pc ls (v :: st) := fun G p e s m args below meth c H locs lsA cells slots C hh hl a1 a2 => lv_dup C.1 C.2.1 d hv (k G p e s m args below meth c H locs lsA cells slots C hh hl a1 a2)
theorem x_pop {v : Value} (d : decode M.2.1 pc = .ok (.pop, 1)) (hv : v.category = 1) (k : xW g M Q QX rc rs h (pc + 1) ls st) : xW g M Q QX rc rs h pc ls (v :: st) := fun G p e s m args below meth c H locs lsA cells slots C hh hl a1 a2 => lv_pop C.1 C.2.1 d hv (k G p e s m args below meth c H locs lsA cells slots C hh hl a1 a2)
theorem x_dup_x1 {v w : Value} (d : decode M.2.1 pc = .ok (.dup_x1, 1)) (hv : v.category = 1) (hw : w.category = 1) (k : xW g M Q QX rc rs h (pc + 1) ls (v :: w :: v :: st)) : xW g M Q QX rc rs h pc ls (v :: w :: st) := fun G p e s m args below meth c H locs lsA cells slots C hh hl a1 a2 => lv_dup_x1 C.1 C.2.1 d hv hw (k G p e s m args below meth c H locs lsA cells slots C hh hl a1 a2)
theorem x_dup2 {v w : Value} (d : decode M.2.1 pc = .ok (.dup2, 1)) (hv : v.category = 1) (hw : w.category = 1) (k : xW g M Q QX rc rs h (pc + 1) ls (v :: w :: v :: w :: st)) : xW g M Q QX rc rs h pc ls (v :: w :: st) := fun G p e s m args below meth c H locs lsA cells slots C hh hl a1 a2 => lv_dup2_11 C.1 C.2.1 d hv hw (k G p e s m args below meth c H locs lsA cells slots C hh hl a1 a2)
theorem x_icmp_eq {a b : Int} {off : Int} {tgt : Nat} (d : decode M.2.1 pc = .ok (.if_icmp .eq off, 3)) (ht : (pc : Int) + off = (tgt : Int)) (ha : R32 a) (hb : R32 b) (kt : a = b → xW g M Q QX rc rs h tgt ls st) (kf : ¬ a = b → xW g M Q QX rc rs h (pc + 3) ls st) : xW g M Q QX rc rs h pc ls (.int (iI b) :: .int (iI a) :: st) := fun G p e s m args below meth c H locs lsA cells slots C hh hl a1 a2 => lv_icmp_eq C.1 C.2.1 d ht (fun z => (kt ((iI_eq ha hb).mp z) G p e s m args below meth c H locs lsA cells slots C hh hl a1 a2)) (fun z => (kf (fun y => z ((iI_eq ha hb).mpr y)) G p e s m args below meth c H locs lsA cells slots C hh hl a1 a2))
theorem x_if_eq {a : Int} {off : Int} {tgt : Nat} (d : decode M.2.1 pc = .ok (.ifCond .eq off, 3)) (ht : (pc : Int) + off = (tgt : Int)) (ha : R32 a) (kt : a = 0 → xW g M Q QX rc rs h tgt ls st) (kf : ¬ a = 0 → xW g M Q QX rc rs h (pc + 3) ls st) : xW g M Q QX rc rs h pc ls (.int (iI a) :: st) := fun G p e s m args below meth c H locs lsA cells slots C hh hl a1 a2 => lv_if_eq C.1 C.2.1 d ht (fun z => (kt ((iI_eq ha R32_0).mp z) G p e s m args below meth c H locs lsA cells slots C hh hl a1 a2)) (fun z => (kf (fun y => z ((iI_eq ha R32_0).mpr y)) G p e s m args below meth c H locs lsA cells slots C hh hl a1 a2))
theorem x_icmp_ne {a b : Int} {off : Int} {tgt : Nat} (d : decode M.2.1 pc = .ok (.if_icmp .ne off, 3)) (ht : (pc : Int) + off = (tgt : Int)) (ha : R32 a) (hb : R32 b) (kt : ¬ a = b → xW g M Q QX rc rs h tgt ls st) (kf : a = b → xW g M Q QX rc rs h (pc + 3) ls st) : xW g M Q QX rc rs h pc ls (.int (iI b) :: .int (iI a) :: st) := fun G p e s m args below meth c H locs lsA cells slots C hh hl a1 a2 => lv_icmp_ne C.1 C.2.1 d ht (fun z => (kt ((not_congr (iI_eq ha hb)).mp z) G p e s m args below meth c H locs lsA cells slots C hh hl a1 a2)) (fun z => (kf ((iI_eq ha hb).mp z) G p e s m args below meth c H locs lsA cells slots C hh hl a1 a2))
theorem x_if_ne {a : Int} {off : Int} {tgt : Nat} (d : decode M.2.1 pc = .ok (.ifCond .ne off, 3)) (ht : (pc : Int) + off = (tgt : Int)) (ha : R32 a) (kt : ¬ a = 0 → xW g M Q QX rc rs h tgt ls st) (kf : a = 0 → xW g M Q QX rc rs h (pc + 3) ls st) : xW g M Q QX rc rs h pc ls (.int (iI a) :: st) := fun G p e s m args below meth c H locs lsA cells slots C hh hl a1 a2 => lv_if_ne C.1 C.2.1 d ht (fun z => (kt ((not_congr (iI_eq ha R32_0)).mp z) G p e s m args below meth c H locs lsA cells slots C hh hl a1 a2)) (fun z => (kf ((iI_eq ha R32_0).mp z) G p e s m args below meth c H locs lsA cells slots C hh hl a1 a2))
theorem x_icmp_lt {a b : Int} {off : Int} {tgt : Nat} (d : decode M.2.1 pc = .ok (.if_icmp .lt off, 3)) (ht : (pc : Int) + off = (tgt : Int)) (ha : R32 a) (hb : R32 b) (kt : a < b → xW g M Q QX rc rs h tgt ls st) (kf : ¬ a < b → xW g M Q QX rc rs h (pc + 3) ls st) : xW g M Q QX rc rs h pc ls (.int (iI b) :: .int (iI a) :: st) := fun G p e s m args below meth c H locs lsA cells slots C hh hl a1 a2 => lv_icmp_lt C.1 C.2.1 d ht (fun z => (kt ((iI_lt ha hb).mp z) G p e s m args below meth c H locs lsA cells slots C hh hl a1 a2)) (fun z => (kf (fun y => z ((iI_lt ha hb).mpr y)) G p e s m args below meth c H locs lsA cells slots C hh hl a1 a2))
theorem x_if_lt {a : Int} {off : Int} {tgt : Nat} (d : decode M.2.1 pc = .ok (.ifCond .lt off, 3)) (ht : (pc : Int) + off = (tgt : Int)) (ha : R32 a) (kt : a < 0 → xW g M Q QX rc rs h tgt ls st) (kf : ¬ a < 0 → xW g M Q QX rc rs h (pc + 3) ls st) : xW g M Q QX rc rs h pc ls (.int (iI a) :: st) := fun G p e s m args below meth c H locs lsA cells slots C hh hl a1 a2 => lv_if_lt C.1 C.2.1 d ht (fun z => (kt ((iI_lt ha R32_0).mp z) G p e s m args below meth c H locs lsA cells slots C hh hl a1 a2)) (fun z => (kf (fun y => z ((iI_lt ha R32_0).mpr y)) G p e s m args below meth c H locs lsA cells slots C hh hl a1 a2))
theorem x_icmp_ge {a b : Int} {off : Int} {tgt : Nat} (d : decode M.2.1 pc = .ok (.if_icmp .ge off, 3)) (ht : (pc : Int) + off = (tgt : Int)) (ha : R32 a) (hb : R32 b) (kt : b ≤ a → xW g M Q QX rc rs h tgt ls st) (kf : ¬ b ≤ a → xW g M Q QX rc rs h (pc + 3) ls st) : xW g M Q QX rc rs h pc ls (.int (iI b) :: .int (iI a) :: st) := fun G p e s m args below meth c H locs lsA cells slots C hh hl a1 a2 => lv_icmp_ge C.1 C.2.1 d ht (fun z => (kt ((iI_le hb ha).mp z) G p e s m args below meth c H locs lsA cells slots C hh hl a1 a2)) (fun z => (kf (fun y => z ((iI_le hb ha).mpr y)) G p e s m args below meth c H locs lsA cells slots C hh hl a1 a2))
theorem x_if_ge {a : Int} {off : Int} {tgt : Nat} (d : decode M.2.1 pc = .ok (.ifCond .ge off, 3)) (ht : (pc : Int) + off = (tgt : Int)) (ha : R32 a) (kt : 0 ≤ a → xW g M Q QX rc rs h tgt ls st) (kf : ¬ 0 ≤ a → xW g M Q QX rc rs h (pc + 3) ls st) : xW g M Q QX rc rs h pc ls (.int (iI a) :: st) := fun G p e s m args below meth c H locs lsA cells slots C hh hl a1 a2 => lv_if_ge C.1 C.2.1 d ht (fun z => (kt ((iI_le R32_0 ha).mp z) G p e s m args below meth c H locs lsA cells slots C hh hl a1 a2)) (fun z => (kf (fun y => z ((iI_le R32_0 ha).mpr y)) G p e s m args below meth c H locs lsA cells slots C hh hl a1 a2))
theorem x_icmp_gt {a b : Int} {off : Int} {tgt : Nat} (d : decode M.2.1 pc = .ok (.if_icmp .gt off, 3)) (ht : (pc : Int) + off = (tgt : Int)) (ha : R32 a) (hb : R32 b) (kt : b < a → xW g M Q QX rc rs h tgt ls st) (kf : ¬ b < a → xW g M Q QX rc rs h (pc + 3) ls st) : xW g M Q QX rc rs h pc ls (.int (iI b) :: .int (iI a) :: st) := fun G p e s m args below meth c H locs lsA cells slots C hh hl a1 a2 => lv_icmp_gt C.1 C.2.1 d ht (fun z => (kt ((iI_lt hb ha).mp z) G p e s m args below meth c H locs lsA cells slots C hh hl a1 a2)) (fun z => (kf (fun y => z ((iI_lt hb ha).mpr y)) G p e s m args below meth c H locs lsA cells slots C hh hl a1 a2))
theorem x_if_gt {a : Int} {off : Int} {tgt : Nat} (d : decode M.2.1 pc = .ok (.ifCond .gt off, 3)) (ht : (pc : Int) + off = (tgt : Int)) (ha : R32 a) (kt : 0 < a → xW g M Q QX rc rs h tgt ls st) (kf : ¬ 0 < a → xW g M Q QX rc rs h (pc + 3) ls st) : xW g M Q QX rc rs h pc ls (.int (iI a) :: st) := fun G p e s m args below meth c H locs lsA cells slots C hh hl a1 a2 => lv_if_gt C.1 C.2.1 d ht (fun z => (kt ((iI_lt R32_0 ha).mp z) G p e s m args below meth c H locs lsA cells slots C hh hl a1 a2)) (fun z => (kf (fun y => z ((iI_lt R32_0 ha).mpr y)) G p e s m args below meth c H locs lsA cells slots C hh hl a1 a2))
theorem x_icmp_le {a b : Int} {off : Int} {tgt : Nat} (d : decode M.2.1 pc = .ok (.if_icmp .le off, 3)) (ht : (pc : Int) + off = (tgt : Int)) (ha : R32 a) (hb : R32 b) (kt : a ≤ b → xW g M Q QX rc rs h tgt ls st) (kf : ¬ a ≤ b → xW g M Q QX rc rs h (pc + 3) ls st) : xW g M Q QX rc rs h pc ls (.int (iI b) :: .int (iI a) :: st) := fun G p e s m args below meth c H locs lsA cells slots C hh hl a1 a2 => lv_icmp_le C.1 C.2.1 d ht (fun z => (kt ((iI_le ha hb).mp z) G p e s m args below meth c H locs lsA cells slots C hh hl a1 a2)) (fun z => (kf (fun y => z ((iI_le ha hb).mpr y)) G p e s m args below meth c H locs lsA cells slots C hh hl a1 a2))
theorem x_if_le {a : Int} {off : Int} {tgt : Nat} (d : decode M.2.1 pc = .ok (.ifCond .le off, 3)) (ht : (pc : Int) + off = (tgt : Int)) (ha : R32 a) (kt : a ≤ 0 → xW g M Q QX rc rs h tgt ls st) (kf : ¬ a ≤ 0 → xW g M Q QX rc rs h (pc + 3) ls st) : xW g M Q QX rc rs h pc ls (.int (iI a) :: st) := fun G p e s m args below meth c H locs lsA cells slots C hh hl a1 a2 => lv_if_le C.1 C.2.1 d ht (fun z => (kt ((iI_le ha R32_0).mp z) G p e s m args below meth c H locs lsA cells slots C hh hl a1 a2)) (fun z => (kf (fun y => z ((iI_le ha R32_0).mpr y)) G p e s m args below meth c H locs lsA cells slots C hh hl a1 a2))
theorem x_goto {off : Int} {tgt : Nat} (d : decode M.2.1 pc = .ok (.goto off, 3)) (ht : (pc : Int) + off = (tgt : Int)) (k : xW g M Q QX rc rs h tgt ls st) : xW g M Q QX rc rs h pc ls st := fun G p e s m args below meth c H locs lsA cells slots C hh hl a1 a2 => lv_goto C.1 C.2.1 d ht (k G p e s m args below meth c H locs lsA cells slots C hh hl a1 a2)
theorem x_ifnull {x : Nat} {off : Int} (d : decode M.2.1 pc = .ok (.ifnull off, 3)) (k : xW g M Q QX rc rs h (pc + 3) ls st) : xW g M Q QX rc rs h pc ls (.ref x :: st) := fun G p e s m args below meth c H locs lsA cells slots C hh hl a1 a2 => lv_ifnull C.1 C.2.1 d (k G p e s m args below meth c H locs lsA cells slots C hh hl a1 a2)
theorem x_ifnullN {off : Int} {tgt : Nat} (d : decode M.2.1 pc = .ok (.ifnull off, 3)) (ht : (pc : Int) + off = (tgt : Int)) (k : xW g M Q QX rc rs h tgt ls st) : xW g M Q QX rc rs h pc ls (.null :: st) := fun G p e s m args below meth c H locs lsA cells slots C hh hl a1 a2 => lv_ifnullN C.1 C.2.1 d ht (k G p e s m args below meth c H locs lsA cells slots C hh hl a1 a2)
theorem x_ifnonnull {x : Nat} {off : Int} {tgt : Nat} (d : decode M.2.1 pc = .ok (.ifnonnull off, 3)) (ht : (pc : Int) + off = (tgt : Int)) (k : xW g M Q QX rc rs h tgt ls st) : xW g M Q QX rc rs h pc ls (.ref x :: st) := fun G p e s m args below meth c H locs lsA cells slots C hh hl a1 a2 => lv_ifnonnull C.1 C.2.1 d ht (k G p e s m args below meth c H locs lsA cells slots C hh hl a1 a2)
theorem x_ifnonnullN {off : Int} (d : decode M.2.1 pc = .ok (.ifnonnull off, 3)) (k : xW g M Q QX rc rs h (pc + 3) ls st) : xW g M Q QX rc rs h pc ls (.null :: st) := fun G p e s m args below meth c H locs lsA cells slots C hh hl a1 a2 => lv_ifnonnullN C.1 C.2.1 d (k G p e s m args below meth c H locs lsA cells slots C hh hl a1 a2)
theorem x_acmp_eq {rx ry : Option Nat} {vx vy : Value} {off : Int} {tgt : Nat} (d : decode M.2.1 pc = .ok (.if_acmp .eq off, 3)) (ht : (pc : Int) + off = (tgt : Int)) (ex : vx = va_rf rx) (ey : vy = va_rf ry) (kt : rx = ry → xW g M Q QX rc rs h tgt ls st) (kf : ¬ rx = ry → xW g M Q QX rc rs h (pc + 3) ls st) : xW g M Q QX rc rs h pc ls (vy :: vx :: st) := fun G p e s m args below meth c H locs lsA cells slots C hh hl a1 a2 => by subst ex; subst ey; exact lv_acmp_eq C.1 C.2.1 d ht (fun z => (kt z G p e s m args below meth c H locs lsA cells slots C hh hl a1 a2)) (fun z => (kf z G p e s m args below meth c H locs lsA cells slots C hh hl a1 a2))
theorem x_acmp_ne {rx ry : Option Nat} {vx vy : Value} {off : Int} {tgt : Nat} (d : decode M.2.1 pc = .ok (.if_acmp .ne off, 3)) (ht : (pc : Int) + off = (tgt : Int)) (ex : vx = va_rf rx) (ey : vy = va_rf ry) (kt : ¬ rx = ry → xW g M Q QX rc rs h tgt ls st) (kf : rx = ry → xW g M Q QX rc rs h (pc + 3) ls st) : xW g M Q QX rc rs h pc ls (vy :: vx :: st) := fun G p e s m args below meth c H locs lsA cells slots C hh hl a1 a2 => by subst ex; subst ey; exact lv_acmp_ne C.1 C.2.1 d ht (fun z => (kt z G p e s m args below meth c H locs lsA cells slots C hh hl a1 a2)) (fun z => (kf z G p e s m args below meth c H locs lsA cells slots C hh hl a1 a2))
theorem x_istore_n {n : Fin 4} {x : Int32} (d : decode M.2.1 pc = .ok (.istore_n n, 1)) (hn : (n : Nat) < M.2.2.1) (k : xW g M Q QX rc rs h (pc + 1) (ls.set (n : Nat) (some (.int x))) st) : xW g M Q QX rc rs h pc ls (.int x :: st) := by
  intro G p e s m args below meth c H locs lsA cells slots C hh hl a1 a2
  obtain ⟨lsB, e9, hl9⟩ := hl.set (v := .int x) hn rfl
  intro T hT X
  obtain ⟨t, a, b⟩ := k G p e s m args below meth c H locs lsB cells slots C hh hl9 a1 a2 T hT X
  refine ⟨t, ?_, b⟩
  have hexec := C.1
  have hb := C.2.1
  jvm_step X.here [X.here.top, ↓top_set X.here.top, hexec, hb, d, e9]
  exact a
theorem x_istore {n : Nat} {x : Int32} (d : decode M.2.1 pc = .ok (.istore n, 2)) (hn : n < M.2.2.1) (k : xW g M Q QX rc rs h (pc + 2) (ls.set n (some (.int x))) st) : xW g M Q QX rc rs h pc ls (.int x :: st) := by
  intro G p e s m args below meth c H locs lsA cells slots C hh hl a1 a2
  obtain ⟨lsB, e9, hl9⟩ := hl.set (v := .int x) hn rfl
  intro T hT X
  obtain ⟨t, a, b⟩ := k G p e s m args below meth c H locs lsB cells slots C hh hl9 a1 a2 T hT X
  refine ⟨t, ?_, b⟩
  have hexec := C.1
  have hb := C.2.1
  jvm_step X.here [X.here.top, ↓top_set X.here.top, hexec, hb, d, e9]
  exact a
theorem x_astore_n {n : Fin 4} {x : Nat} (d : decode M.2.1 pc = .ok (.astore_n n, 1)) (hn : (n : Nat) < M.2.2.1) (k : xW g M Q QX rc rs h (pc + 1) (ls.set (n : Nat) (some (.ref x))) st) : xW g M Q QX rc rs h pc ls (.ref x :: st) := by
  intro G p e s m args below meth c H locs lsA cells slots C hh hl a1 a2
  obtain ⟨lsB, e9, hl9⟩ := hl.set (v := .ref x) hn rfl
  intro T hT X
  obtain ⟨t, a, b⟩ := k G p e s m args below meth c H locs lsB cells slots C hh hl9 a1 a2 T hT X
  refine ⟨t, ?_, b⟩
  have hexec := C.1
  have hb := C.2.1
  jvm_step X.here [X.here.top, ↓top_set X.here.top, hexec, hb, d, e9, Value.isRef]
  exact a
theorem x_astore_nN {n : Fin 4} (d : decode M.2.1 pc = .ok (.astore_n n, 1)) (hn : (n : Nat) < M.2.2.1) (k : xW g M Q QX rc rs h (pc + 1) (ls.set (n : Nat) (some .null)) st) : xW g M Q QX rc rs h pc ls (.null :: st) := by
  intro G p e s m args below meth c H locs lsA cells slots C hh hl a1 a2
  obtain ⟨lsB, e9, hl9⟩ := hl.set (v := .null) hn rfl
  intro T hT X
  obtain ⟨t, a, b⟩ := k G p e s m args below meth c H locs lsB cells slots C hh hl9 a1 a2 T hT X
  refine ⟨t, ?_, b⟩
  have hexec := C.1
  have hb := C.2.1
  jvm_step X.here [X.here.top, ↓top_set X.here.top, hexec, hb, d, e9, Value.isRef]
  exact a
theorem x_astore {n : Nat} {x : Nat} (d : decode M.2.1 pc = .ok (.astore n, 2)) (hn : n < M.2.2.1) (k : xW g M Q QX rc rs h (pc + 2) (ls.set n (some (.ref x))) st) : xW g M Q QX rc rs h pc ls (.ref x :: st) := by
  intro G p e s m args below meth c H locs lsA cells slots C hh hl a1 a2
  obtain ⟨lsB, e9, hl9⟩ := hl.set (v := .ref x) hn rfl
  intro T hT X
  obtain ⟨t, a, b⟩ := k G p e s m args below meth c H locs lsB cells slots C hh hl9 a1 a2 T hT X
  refine ⟨t, ?_, b⟩
  have hexec := C.1
  have hb := C.2.1
  jvm_step X.here [X.here.top, ↓top_set X.here.top, hexec, hb, d, e9, Value.isRef]
  exact a
theorem x_astoreN {n : Nat} (d : decode M.2.1 pc = .ok (.astore n, 2)) (hn : n < M.2.2.1) (k : xW g M Q QX rc rs h (pc + 2) (ls.set n (some .null)) st) : xW g M Q QX rc rs h pc ls (.null :: st) := by
  intro G p e s m args below meth c H locs lsA cells slots C hh hl a1 a2
  obtain ⟨lsB, e9, hl9⟩ := hl.set (v := .null) hn rfl
  intro T hT X
  obtain ⟨t, a, b⟩ := k G p e s m args below meth c H locs lsB cells slots C hh hl9 a1 a2 T hT X
  refine ⟨t, ?_, b⟩
  have hexec := C.1
  have hb := C.2.1
  jvm_step X.here [X.here.top, ↓top_set X.here.top, hexec, hb, d, e9, Value.isRef]
  exact a
theorem x_iinc {n : Nat} {q : Int} {a : Int} (d : decode M.2.1 pc = .ok (.iinc n q, 3)) (hx : ls[n]? = some (some (.int (iI a)))) (hn : n < M.2.2.1) (k : xW g M Q QX rc rs h (pc + 3) (ls.set n (some (.int (iI (a + q))))) st) : xW g M Q QX rc rs h pc ls st := by
  intro G p e s m args below meth c H locs lsA cells slots C hh hl a1 a2
  obtain ⟨lsB, e9, hl9⟩ := hl.set (v := .int (iI a + Int32.ofInt q)) hn rfl
  rw [show iI a + Int32.ofInt q = iI (a + q) from (Int32.ofInt_add a q).symm] at hl9
  intro T hT X
  obtain ⟨t, a3, b⟩ := k G p e s m args below meth c H locs lsB cells slots C hh hl9 a1 a2 T hT X
  refine ⟨t, ?_, b⟩
  have hexec := C.1
  have hb := C.2.1
  have hg := (hl.2.2 _ _ hx).2
  jvm_step X.here [X.here.top, ↓top_set X.here.top, hexec, hb, d, hg, e9]
  exact a3
end XR
end
section
/-! the rules that touch the heap: fields, arrays, makings; entry and ends of a method; calls; throws -/
theorem vw_set {h : hp} {ws : va_W} {q0 a : Nat} {e e' : va_E} (hV : vw h ws) (he : ws[q0]? = some (a, e)) : vw (hset h a e') (ws.set q0 (a, e')) := by
  have hlt : q0 < ws.length := (List.getElem?_eq_some_iff.mp he).1
  intro b x hb
  by_cases hba : b = a
  · subst hba
    rw [hset_s] at hb
    cases hb
    exact List.mem_of_getElem? (i := q0) (by rw [List.getElem?_set_self hlt])
  · rw [hset_n h e' hba] at hb
    obtain ⟨i, hi⟩ := List.getElem?_of_mem (hV b x hb)
    have hne : q0 ≠ i := by
      rintro rfl
      rw [he] at hi
      cases hi
      exact hba rfl
    exact List.mem_of_getElem? (i := i) (by rw [List.getElem?_set_ne hne]; exact hi)
theorem vw_push {h : hp} {ws : va_W} {q : Nat} {e : va_E} (hV : vw h ws) : vw (hset h q e) (ws ++ [(q, e)]) := by
  intro b x hb
  by_cases hba : b = q
  · subst hba
    rw [hset_s] at hb
    cases hb
    exact List.mem_append_right _ (List.mem_singleton.mpr rfl)
  · rw [hset_n h e hba] at hb
    exact List.mem_append_left _ (hV b x hb)
theorem vw_fresh {A : Nat → Prop} {h : hp} {ws : va_W} {q : Nat} {e : va_E} (hV : vw h ws) (hD : va_D A (ws ++ [(q, e)])) : h q = none := by
  cases hq : h q with
  | none => rfl
  | some x =>
    obtain ⟨i, hi⟩ := List.getElem?_of_mem (hV q x hq)
    have hlt : i < ws.length := (List.getElem?_eq_some_iff.mp hi).1
    have h1 : (ws ++ [(q, e)])[i]? = some (q, x) := by rw [List.getElem?_append_left hlt]; exact hi
    have h2 : (ws ++ [(q, e)])[ws.length]? = some (q, e) := by rw [List.getElem?_append_right (Nat.le_refl _), Nat.sub_self]; rfl
    have := hD.1 i ws.length (q, x) (q, e) h1 h2 rfl
    omega
-- an array of ints (booleans) as a function of integers
abbrev iarr (g : xG) (n : Nat) (f : Int → Int) : va_E := .inl (g.2.2.2.2 0, n, .inl (fun j => iI (f (j : Int))))
abbrev zarr (g : xG) (n : Nat) (f : Int → Int) : va_E := .inl (g.2.2.2.2 1, n, .inl (fun j => iI (f (j : Int))))
abbrev larr (g : xG) (n : Nat) (f : Nat → Int64) : va_E := .inl (g.2.2.2.2 2, n, .inr (.inl f))
abbrev oarr (g : xG) (n : Nat) (f : Nat → Option Nat) : va_E := .inl (g.2.2.2.2 3, n, .inr (.inr (.inr (.inr f))))
abbrev carr (g : xG) (n : Nat) (f : Nat → Option Nat) : va_E := .inl (g.2.2.2.2 4, n, .inr (.inr (.inr (.inr f))))
def fset (f : Int → Int) (i v : Int) : Int → Int := fun j => if j = i then v else f j
theorem fset_fun (f : Int → Int) {i : Int} (v : Int) (hi : 0 ≤ i) : upd (fun j : Nat => iI (f (j : Int))) i.toNat (iI v) = fun j : Nat => iI (fset f i v (j : Int)) := by
  funext j
  unfold upd fset
  by_cases hj : j = i.toNat
  · rw [if_pos hj, if_pos (by omega)]
  · rw [if_neg hj, if_neg (by omega)]
section XH
variable {g : xG} {M : xMeth} {Q : qP} {QX : qE} {rc rs : Nat} {h : hp} {pc : Nat} {ls : List (Option Value)} {st : List Value}
theorem xsame {own ref dcl nm ds : String} {s : State} {args : Array Value} (G : gOk g) (hW : g.2.1.WarmedH s.vm) (hsm : ref = dcl ∨ Cond.sameField ref dcl nm ds ∈ lw_tbl) : ∀ x, s.fieldFound? dcl nm ds = some x → s.fieldFound? ref nm ds = some x := by
  intro x hx
  rcases hsm with e | e
  · rw [e]; exact hx
  · exact u_same (args := args) (wd G hW e rfl) x hx
theorem x_get {C ref : String} {T : u_T} {N ci index a k : Nat} {fs : List Value} {v : Value} (d : decode M.2.1 pc = .ok (.getfield index, 3)) (hin : ∀ w ∈ u_ws C T N, w ∈ lw_tbl) (hc : vwCl[ci]? = some (C, T, N)) (hk : k < N) (hl : Cond.fieldLink M.1 index ref (T k).2.1 (T k).2.2.1 ∈ lw_tbl) (hsm : ref = (T k).1 ∨ Cond.sameField ref (T k).1 (T k).2.1 (T k).2.2.1 ∈ lw_tbl)
    (ha : h a = some (.inr (ci, fs))) (hv : fs[k]? = some v) (kk : xW g M Q QX rc rs h (pc + 3) ls (v :: st)) : xW g M Q QX rc rs h pc ls (.ref a :: st) := by
  intro G p e s m args below meth c H locs lsA cells slots C0 hh hl' a1 a2
  obtain ⟨ws, hS, hP, hD, hV⟩ := id hh
  obtain ⟨hx, hb, hml, hr, hn, hlk, ht, hown, hW, hS0⟩ := id C0
  obtain ⟨q0, he⟩ := List.getElem?_of_mem (hV a _ ha)
  exact va_get (Ts := u_ws C T N) hx hb (wds G hW hin) (fun w h => h) hown (gK G hW) hP q0 he hc k hk (wd G hW hl rfl) (xsame (own := M.1) (args := args) G hW hsm) hv d (kk G p e s m args below meth c H locs lsA cells slots C0 hh hl' a1 a2)
theorem x_put {C ref : String} {T : u_T} {ty0 : Nat → FieldType} {N ci index a k : Nat} {fs : List Value} {v : Value} (d : decode M.2.1 pc = .ok (.putfield index, 3)) (hin : ∀ w ∈ u_ws C T N, w ∈ lw_tbl) (hty : ∀ k, k < N → parseFieldDescriptor (T k).2.2.1 = some (ty0 k)) (hnm : ∀ a, a < N → ∀ b, b < N → a ≠ b → (T a).2.1 ≠ (T b).2.1) (hc : vwCl[ci]? = some (C, T, N)) (hk : k < N) (hl : Cond.fieldLink M.1 index ref (T k).2.1 (T k).2.2.1 ∈ lw_tbl) (hsm : ref = (T k).1 ∨ Cond.sameField ref (T k).1 (T k).2.1 (T k).2.2.1 ∈ lw_tbl)
    (hfin : (T k).2.2.2 = false) (hn : narrow (ty0 k) v = v) (hfit : fits (ty0 k) v = true) (ha : h a = some (.inr (ci, fs))) (hlen : k < fs.length) (kk : xW g M Q QX rc rs (hset h a (.inr (ci, fs.set k v))) (pc + 3) ls st) : xW g M Q QX rc rs h pc ls (v :: .ref a :: st) := by
  intro G p e s m args below meth c H locs lsA cells slots C0 hh hl' a1 a2
  obtain ⟨ws, hS, hP, hD, hV⟩ := id hh
  obtain ⟨hx, hb, hml, hr, hn', hlk, ht, hown, hW, hS0⟩ := id C0
  obtain ⟨q0, he⟩ := List.getElem?_of_mem (hV a _ ha)
  exact va_put (Ts := u_ws C T N) hx hb (wds G hW hin) (fun w h => h) ty0 hty hnm hown (gK G hW) hP hD hS q0 he hc k hk (wd G hW hl rfl) (xsame (own := M.1) (args := args) G hW hsm) hfin (hty k hk) hn hfit hlen d
    (fun H1 locs1 hP1 hD1 hS1 => kk G p e s m args below meth c H1 locs1 lsA cells slots C0 ⟨_, hS1, hP1, hD1, vw_set hV he⟩ hl' a1 a2)
theorem x_putF {C ref : String} {T : u_T} {ty0 : Nat → FieldType} {N ci index a k : Nat} {fs : List Value} {v : Value} (d : decode M.2.1 pc = .ok (.putfield index, 3)) (hin : ∀ w ∈ u_ws C T N, w ∈ lw_tbl) (hty : ∀ k, k < N → parseFieldDescriptor (T k).2.2.1 = some (ty0 k)) (hnm : ∀ a, a < N → ∀ b, b < N → a ≠ b → (T a).2.1 ≠ (T b).2.1) (hc : vwCl[ci]? = some (C, T, N)) (hk : k < N) (hl : Cond.fieldLink M.1 index ref (T k).2.1 (T k).2.2.1 ∈ lw_tbl) (hsm : ref = (T k).1 ∨ Cond.sameField ref (T k).1 (T k).2.1 (T k).2.2.1 ∈ lw_tbl)
    (hfin : (T k).2.2.2 = true) (hini : M.2.2.2.2.1 = "<init>") (hdecl : (T k).1 = M.1) (hn : narrow (ty0 k) v = v) (hfit : fits (ty0 k) v = true) (ha : h a = some (.inr (ci, fs))) (hlen : k < fs.length) (kk : xW g M Q QX rc rs (hset h a (.inr (ci, fs.set k v))) (pc + 3) ls st) : xW g M Q QX rc rs h pc ls (v :: .ref a :: st) := by
  intro G p e s m args below meth c H locs lsA cells slots C0 hh hl' a1 a2
  obtain ⟨ws, hS, hP, hD, hV⟩ := id hh
  obtain ⟨hx, hb, hml, hr, hn', hlk, ht, hown, hW, hS0⟩ := id C0
  obtain ⟨q0, he⟩ := List.getElem?_of_mem (hV a _ ha)
  exact va_putF (Ts := u_ws C T N) hx hb (wds G hW hin) (fun w h => h) ty0 hty hnm hown (gK G hW) hP hD hS q0 he hc k hk (wd G hW hl rfl) (xsame (own := M.1) (args := args) G hW hsm) hfin (hn'.trans hini) hdecl (hty k hk) hn hfit hlen d
    (fun H1 locs1 hP1 hD1 hS1 => kk G p e s m args below meth c H1 locs1 lsA cells slots C0 ⟨_, hS1, hP1, hD1, vw_set hV he⟩ hl' a1 a2)
theorem x_iald {a n : Nat} {f : Int → Int} {i : Int} (d : decode M.2.1 pc = .ok (.iaload, 1)) (ha : h a = some (iarr g n f)) (hn : n < 2147483648) (h0 : 0 ≤ i) (h1 : i < n) (kk : xW g M Q QX rc rs h (pc + 1) ls (.int (iI (f i)) :: st)) : xW g M Q QX rc rs h pc ls (.int (iI i) :: .ref a :: st) := by
  intro G p e s m args below meth c H locs lsA cells slots C0 hh hl' a1 a2
  obtain ⟨ws, hS, hP, hD, hV⟩ := id hh
  obtain ⟨q0, he⟩ := List.getElem?_of_mem (hV a _ ha)
  refine va_iald C0.1 C0.2.1 (gK G C0.2.2.2.2.2.2.2.2.1) hP q0 0 he rfl (iI_in hn h0 h1) d ?_
  rw [iI_cl ⟨by omega, by omega⟩, Int.toNat_of_nonneg h0]
  exact kk G p e s m args below meth c H locs lsA cells slots C0 hh hl' a1 a2
theorem x_zald {a n : Nat} {f : Int → Int} {i : Int} (d : decode M.2.1 pc = .ok (.baload, 1)) (ha : h a = some (zarr g n f)) (hn : n < 2147483648) (h0 : 0 ≤ i) (h1 : i < n) (kk : xW g M Q QX rc rs h (pc + 1) ls (.int (iI (f i)) :: st)) : xW g M Q QX rc rs h pc ls (.int (iI i) :: .ref a :: st) := by
  intro G p e s m args below meth c H locs lsA cells slots C0 hh hl' a1 a2
  obtain ⟨ws, hS, hP, hD, hV⟩ := id hh
  obtain ⟨q0, he⟩ := List.getElem?_of_mem (hV a _ ha)
  refine va_zald C0.1 C0.2.1 (gK G C0.2.2.2.2.2.2.2.2.1) hP q0 1 he rfl (iI_in hn h0 h1) d ?_
  rw [iI_cl ⟨by omega, by omega⟩, Int.toNat_of_nonneg h0]
  exact kk G p e s m args below meth c H locs lsA cells slots C0 hh hl' a1 a2
theorem x_iast {a n : Nat} {f : Int → Int} {i v : Int} (d : decode M.2.1 pc = .ok (.iastore, 1)) (ha : h a = some (iarr g n f)) (hn : n < 2147483648) (h0 : 0 ≤ i) (h1 : i < n) (kk : xW g M Q QX rc rs (hset h a (iarr g n (fset f i v))) (pc + 1) ls st) : xW g M Q QX rc rs h pc ls (.int (iI v) :: .int (iI i) :: .ref a :: st) := by
  intro G p e s m args below meth c H locs lsA cells slots C0 hh hl' a1 a2
  obtain ⟨ws, hS, hP, hD, hV⟩ := id hh
  obtain ⟨q0, he⟩ := List.getElem?_of_mem (hV a _ ha)
  refine va_iast C0.1 C0.2.1 (gK G C0.2.2.2.2.2.2.2.2.1) hP hD hS q0 0 he rfl (iI_in hn h0 h1) d ?_
  rw [iI_cl ⟨by omega, by omega⟩, fset_fun f v h0]
  exact fun H1 locs1 hP1 hD1 hS1 => kk G p e s m args below meth c H1 locs1 lsA cells slots C0 ⟨_, hS1, hP1, hD1, vw_set hV he⟩ hl' a1 a2
theorem x_zast {a n : Nat} {f : Int → Int} {i v : Int} (d : decode M.2.1 pc = .ok (.bastore, 1)) (ha : h a = some (zarr g n f)) (hn : n < 2147483648) (h0 : 0 ≤ i) (h1 : i < n) (hv : v = 0 ∨ v = 1) (kk : xW g M Q QX rc rs (hset h a (zarr g n (fset f i v))) (pc + 1) ls st) : xW g M Q QX rc rs h pc ls (.int (iI v) :: .int (iI i) :: .ref a :: st) := by
  intro G p e s m args below meth c H locs lsA cells slots C0 hh hl' a1 a2
  obtain ⟨ws, hS, hP, hD, hV⟩ := id hh
  obtain ⟨q0, he⟩ := List.getElem?_of_mem (hV a _ ha)
  refine va_zast C0.1 C0.2.1 (gK G C0.2.2.2.2.2.2.2.2.1) hP hD hS q0 1 he rfl (iI_in hn h0 h1) d ?_
  rw [iI_cl ⟨by omega, by omega⟩, show vp_nar .boolean (iI v) = iI v from by rcases hv with rfl | rfl <;> rfl, fset_fun f v h0]
  exact fun H1 locs1 hP1 hD1 hS1 => kk G p e s m args below meth c H1 locs1 lsA cells slots C0 ⟨_, hS1, hP1, hD1, vw_set hV he⟩ hl' a1 a2
theorem x_lald {a n : Nat} {f : Nat → Int64} {i : Int} (d : decode M.2.1 pc = .ok (.laload, 1)) (ha : h a = some (larr g n f)) (hn : n < 2147483648) (h0 : 0 ≤ i) (h1 : i < n) (kk : xW g M Q QX rc rs h (pc + 1) ls (.long (f i.toNat) :: st)) : xW g M Q QX rc rs h pc ls (.int (iI i) :: .ref a :: st) := by
  intro G p e s m args below meth c H locs lsA cells slots C0 hh hl' a1 a2
  obtain ⟨ws, hS, hP, hD, hV⟩ := id hh
  obtain ⟨q0, he⟩ := List.getElem?_of_mem (hV a _ ha)
  refine va_lald C0.1 C0.2.1 (gK G C0.2.2.2.2.2.2.2.2.1) hP q0 2 he rfl (iI_in hn h0 h1) d ?_
  rw [iI_cl ⟨by omega, by omega⟩]
  exact kk G p e s m args below meth c H locs lsA cells slots C0 hh hl' a1 a2
theorem x_last {a n : Nat} {f : Nat → Int64} {i : Int} {v : Int64} (d : decode M.2.1 pc = .ok (.lastore, 1)) (ha : h a = some (larr g n f)) (hn : n < 2147483648) (h0 : 0 ≤ i) (h1 : i < n) (kk : xW g M Q QX rc rs (hset h a (larr g n (vp_updL f i.toNat v))) (pc + 1) ls st) : xW g M Q QX rc rs h pc ls (.long v :: .int (iI i) :: .ref a :: st) := by
  intro G p e s m args below meth c H locs lsA cells slots C0 hh hl' a1 a2
  obtain ⟨ws, hS, hP, hD, hV⟩ := id hh
  obtain ⟨q0, he⟩ := List.getElem?_of_mem (hV a _ ha)
  refine va_last C0.1 C0.2.1 (gK G C0.2.2.2.2.2.2.2.2.1) hP hD hS q0 2 he rfl (iI_in hn h0 h1) d ?_
  rw [iI_cl ⟨by omega, by omega⟩]
  exact fun H1 locs1 hP1 hD1 hS1 => kk G p e s m args below meth c H1 locs1 lsA cells slots C0 ⟨_, hS1, hP1, hD1, vw_set hV he⟩ hl' a1 a2
-- rows of references: t is the kind: 3 for Object, 4 for Container
theorem x_aald {a n t : Nat} {C : String} {f : Nat → Option Nat} {i : Int} (ht : (gT g)[t]? = some (g.2.2.2.2 t, .object C)) (d : decode M.2.1 pc = .ok (.aaload, 1)) (ha : h a = some (.inl (g.2.2.2.2 t, n, .inr (.inr (.inr (.inr f)))))) (hn : n < 2147483648) (h0 : 0 ≤ i) (h1 : i < n) (kk : xW g M Q QX rc rs h (pc + 1) ls (va_rf (f i.toNat) :: st)) : xW g M Q QX rc rs h pc ls (.int (iI i) :: .ref a :: st) := by
  intro G p e s m args below meth c H locs lsA cells slots C0 hh hl' a1 a2
  obtain ⟨ws, hS, hP, hD, hV⟩ := id hh
  obtain ⟨q0, he⟩ := List.getElem?_of_mem (hV a _ ha)
  refine va_aldq C0.1 C0.2.1 (gK G C0.2.2.2.2.2.2.2.2.1) hP q0 t he ht (iI_in hn h0 h1) d ?_
  rw [iI_cl ⟨by omega, by omega⟩]
  exact kk G p e s m args below meth c H locs lsA cells slots C0 hh hl' a1 a2
theorem x_aastN {a n t : Nat} {C : String} {f : Nat → Option Nat} {i : Int} (ht : (gT g)[t]? = some (g.2.2.2.2 t, .object C)) (d : decode M.2.1 pc = .ok (.aastore, 1)) (ha : h a = some (.inl (g.2.2.2.2 t, n, .inr (.inr (.inr (.inr f)))))) (hn : n < 2147483648) (h0 : 0 ≤ i) (h1 : i < n) (kk : xW g M Q QX rc rs (hset h a (.inl (g.2.2.2.2 t, n, .inr (.inr (.inr (.inr (va_up f i.toNat none))))))) (pc + 1) ls st) : xW g M Q QX rc rs h pc ls (.null :: .int (iI i) :: .ref a :: st) := by
  intro G p e s m args below meth c H locs lsA cells slots C0 hh hl' a1 a2
  obtain ⟨ws, hS, hP, hD, hV⟩ := id hh
  obtain ⟨q0, he⟩ := List.getElem?_of_mem (hV a _ ha)
  refine va_astqN C0.1 C0.2.1 (gK G C0.2.2.2.2.2.2.2.2.1) hP hD hS q0 t he ht (iI_in hn h0 h1) d ?_
  rw [iI_cl ⟨by omega, by omega⟩]
  exact fun H1 locs1 hP1 hD1 hS1 => kk G p e s m args below meth c H1 locs1 lsA cells slots C0 ⟨_, hS1, hP1, hD1, vw_set hV he⟩ hl' a1 a2
theorem castW {C E : String} {s : State} (G : gOk g) (hW : g.2.1.WarmedH s.vm) (hm : Cond.castable C E ∈ lw_tbl) : va_Nw (.castable C E) s := va_Nw.warmC hW (va_Nw.of rfl (G.2.1 _ hm))
-- a container into a row of containers
theorem x_aast {a n v ci : Nat} {r : vw_C} {fs : List Value} {f : Nat → Option Nat} {i : Int} (hr : r.1 = "ContainerHost$Container") (hc : vwCl[ci]? = some r) (d : decode M.2.1 pc = .ok (.aastore, 1)) (ha : h a = some (carr g n f)) (hv : h v = some (.inr (ci, fs))) (hn : n < 2147483648) (h0 : 0 ≤ i) (h1 : i < n) (kk : xW g M Q QX rc rs (hset h a (carr g n (va_up f i.toNat (some v)))) (pc + 1) ls st) : xW g M Q QX rc rs h pc ls (.ref v :: .int (iI i) :: .ref a :: st) := by
  intro G p e s m args below meth c H locs lsA cells slots C0 hh hl' a1 a2
  obtain ⟨ws, hS, hP, hD, hV⟩ := id hh
  obtain ⟨q0, he⟩ := List.getElem?_of_mem (hV a _ ha)
  obtain ⟨q1, he1⟩ := List.getElem?_of_mem (hV v _ hv)
  refine va_astq (r := r) C0.1 C0.2.1 (gK G C0.2.2.2.2.2.2.2.2.1) hP hD hS q0 4 q1 ci he (by rw [hr]; rfl) he1 hc (iI_in hn h0 h1) d ?_
  rw [iI_cl ⟨by omega, by omega⟩]
  exact fun H1 locs1 hP1 hD1 hS1 => kk G p e s m args below meth c H1 locs1 lsA cells slots C0 ⟨_, hS1, hP1, hD1, vw_set hV he⟩ hl' a1 a2
-- anything into a row of Objects
theorem x_aastO {a n v ci : Nat} {r : vw_C} {fs : List Value} {f : Nat → Option Nat} {i : Int} (hca : Cond.castable r.1 "java/lang/Object" ∈ lw_tbl) (hc : vwCl[ci]? = some r) (d : decode M.2.1 pc = .ok (.aastore, 1)) (ha : h a = some (oarr g n f)) (hv : h v = some (.inr (ci, fs))) (hn : n < 2147483648) (h0 : 0 ≤ i) (h1 : i < n) (kk : xW g M Q QX rc rs (hset h a (oarr g n (va_up f i.toNat (some v)))) (pc + 1) ls st) : xW g M Q QX rc rs h pc ls (.ref v :: .int (iI i) :: .ref a :: st) := by
  intro G p e s m args below meth c H locs lsA cells slots C0 hh hl' a1 a2
  obtain ⟨ws, hS, hP, hD, hV⟩ := id hh
  obtain ⟨q0, he⟩ := List.getElem?_of_mem (hV a _ ha)
  obtain ⟨q1, he1⟩ := List.getElem?_of_mem (hV v _ hv)
  refine va_astqO (r := r) C0.1 C0.2.1 (gK G C0.2.2.2.2.2.2.2.2.1) hP hD hS q0 3 q1 ci he rfl (castW G C0.2.2.2.2.2.2.2.2.1 hca) he1 hc (iI_in hn h0 h1) d ?_
  rw [iI_cl ⟨by omega, by omega⟩]
  exact fun H1 locs1 hP1 hD1 hS1 => kk G p e s m args below meth c H1 locs1 lsA cells slots C0 ⟨_, hS1, hP1, hD1, vw_set hV he⟩ hl' a1 a2
theorem x_alen {a t : Nat} {ty : FieldType} {x : vp_A} (ht : (gT g)[t]? = some (g.2.2.2.2 t, ty)) (d : decode M.2.1 pc = .ok (.arraylength, 1)) (ha : h a = some (.inl (g.2.2.2.2 t, x))) (kk : xW g M Q QX rc rs h (pc + 1) ls (.int (iI x.1) :: st)) : xW g M Q QX rc rs h pc ls (.ref a :: st) := by
  intro G p e s m args below meth c H locs lsA cells slots C0 hh hl' a1 a2
  obtain ⟨ws, hS, hP, hD, hV⟩ := id hh
  obtain ⟨q0, he⟩ := List.getElem?_of_mem (hV a _ ha)
  exact va_alen C0.1 C0.2.1 (gK G C0.2.2.2.2.2.2.2.2.1) hP q0 t he ht (Int32.ofInt_eq_ofNat (n := x.1)).symm d (kk G p e s m args below meth c H locs lsA cells slots C0 hh hl' a1 a2)
theorem x_new {C : String} {T : u_T} {ty0 : Nat → FieldType} {N ci index rc' rs' : Nat} {fs : List Value} (d : decode M.2.1 pc = .ok (.new index, 3)) (hin : ∀ w ∈ u_ws C T N, w ∈ lw_tbl) (hty : ∀ k, k < N → parseFieldDescriptor (T k).2.2.1 = some (ty0 k)) (hc : vwCl[ci]? = some (C, T, N)) (hcl : Cond.classLink M.1 index C ∈ lw_tbl) (hinst : Cond.instantiable C N ∈ lw_tbl) (hini : Cond.initialized C ∈ lw_tbl) (hfs : ∀ j, j < N → defaultValue (ty0 j) = vp_V fs j) (e1 : rc = rc' + 1) (e2 : rs = rs' + N)
    (kk : ∀ q, h q = none → xW g M Q QX rc' rs' (hset h q (.inr (ci, fs))) (pc + 3) ls (.ref q :: st)) : xW g M Q QX rc rs h pc ls st := by
  intro G p e s m args below meth c H locs lsA cells slots C0 hh hl' a1 a2
  obtain ⟨ws, hS, hP, hD, hV⟩ := id hh
  have hW := C0.2.2.2.2.2.2.2.2.1
  exact va_new (Ts := u_ws C T N) C0.1 C0.2.1 (wds G hW hin) (fun w h => h) ty0 hty C0.2.2.2.2.2.2.2.1 (wd G hW hcl rfl) (wd G hW hinst rfl) (wd G hW hini rfl) (gK G hW) hP hD hS (fun q h => h) hc hfs (by omega) (by omega) d
    (fun q H1 hP1 hD1 hS1 => kk q (vw_fresh hV hD1) G p e s m args below meth c H1 locs lsA (cells + 1) (slots + N) C0 ⟨_, hS1, hP1, hD1, vw_push hV⟩ hl' (by omega) (by omega))
theorem x_newarr {at0 : ArrayType} {ty : FieldType} {t N' rc' rs' : Nat} {n : Int} (ht : (gT g)[t]? = some (g.2.2.2.2 t, ty)) (hty : newarray.typeOf at0 = ty) (hobj : ∀ C, ty ≠ .object C) (hw : Cond.arrayClass ty ∈ lw_tbl) {a0 : vp_A} (h0a : ∀ cA : ClassId, vp_cell cA a0 = arrV cA N' (fun _ => defaultValue ty)) (hN : n = (N' : Int)) (hb : N' * componentBytes ty ≤ 536870912) (hb2 : N' < 2147483648) (e1 : rc = rc' + 1) (e2 : rs = rs' + N') (d : decode M.2.1 pc = .ok (.newarray at0, 2))
    (kk : ∀ q, h q = none → xW g M Q QX rc' rs' (hset h q (.inl (g.2.2.2.2 t, a0))) (pc + 2) ls (.ref q :: st)) : xW g M Q QX rc rs h pc ls (.int (iI n) :: st) := by
  intro G p e s m args below meth c H locs lsA cells slots C0 hh hl' a1 a2
  obtain ⟨ws, hS, hP, hD, hV⟩ := id hh
  have hW := C0.2.2.2.2.2.2.2.2.1
  have hK := gK (s := s) G hW
  subst hN
  refine va_newa (N' := N') (a0 := a0) C0.1 C0.2.1 (by rw [hty]; exact wd G hW hw rfl) hty hK hP hD hS (fun q h => h) h0a (fun z => by have := (iI_lt ⟨by omega, by omega⟩ R32_0).mp z; omega) (by rw [iI_cl ⟨by omega, by omega⟩]; omega) hb (by omega) (by omega) d ?_
  intro q cA H1 hK1 hP1 hD1 hS1
  have hA : cA = g.2.2.2.2 t := by
    have h1 := (hK1.2 5 _ rfl).2
    have h2 := (hK.2 t _ ht).2
    cases ty with
    | object C => exact absurd rfl (hobj C)
    | _ => exact Option.some.inj (Eq.trans (Eq.symm h1) h2)
  subst hA
  exact kk q (vw_fresh hV hD1) G p e s m args below meth c H1 locs lsA (cells + 1) (slots + N') C0 ⟨_, hS1, hP1, hD1, vw_push hV⟩ hl' (by omega) (by omega)
theorem x_anew {C : String} {index t N' rc' rs' : Nat} {n : Int} (ht : (gT g)[t]? = some (g.2.2.2.2 t, .object C)) (hcl : Cond.classLink M.1 index C ∈ lw_tbl) (hov : Cond.arrayOver (.object C) ∈ lw_tbl) (hN : n = (N' : Int)) (hb2 : N' < 65536) (e1 : rc = rc' + 1) (e2 : rs = rs' + N') (d : decode M.2.1 pc = .ok (.anewarray index, 3))
    (kk : ∀ q, h q = none → xW g M Q QX rc' rs' (hset h q (.inl (g.2.2.2.2 t, N', .inr (.inr (.inr (.inr (fun _ => none))))))) (pc + 3) ls (.ref q :: st)) : xW g M Q QX rc rs h pc ls (.int (iI n) :: st) := by
  intro G p e s m args below meth c H locs lsA cells slots C0 hh hl' a1 a2
  obtain ⟨ws, hS, hP, hD, hV⟩ := id hh
  have hW := C0.2.2.2.2.2.2.2.2.1
  have hK := gK (s := s) G hW
  subst hN
  refine va_newq (N' := N') C0.1 C0.2.1 C0.2.2.2.2.2.2.2.1 (wd G hW hcl rfl) (va_AO.moved hW.alike (va_AO.of (G.2.1 _ hov))) hK hP hD hS (fun q h => h) (fun z => by have := (iI_lt ⟨by omega, by omega⟩ R32_0).mp z; omega) (by rw [iI_cl ⟨by omega, by omega⟩]; omega) (by omega) (by omega) (by omega) d ?_
  intro q cA H1 hK1 hP1 hD1 hS1
  have hA : cA = g.2.2.2.2 t := by
    obtain ⟨_, _, _, _, _, h1⟩ := (hK1.2 5 _ rfl).2
    obtain ⟨_, _, _, _, _, h2⟩ := (hK.2 t _ ht).2
    exact Option.some.inj (h1.symm.trans h2)
  subst hA
  exact kk q (vw_fresh hV hD1) G p e s m args below meth c H1 locs lsA (cells + 1) (slots + N') C0 ⟨_, hS1, hP1, hD1, vw_push hV⟩ hl' (by omega) (by omega)
theorem recv {a ci : Nat} {fs : List Value} {r : vw_C} {H : Heap} {locs : List Loc} {s : State} (G : gOk g) (hW : g.2.1.WarmedH s.vm) (hh : xHp g h H locs) (ha : h a = some (.inr (ci, fs))) (hc : vwCl[ci]? = some r) : ∃ cell : Cell, H[a]? = some cell ∧ cell.vm.isStatics = false ∧ s.vm.findClass r.1 = some cell.cls := by
  obtain ⟨ws, hS, hP, hD, hV⟩ := hh
  obtain ⟨q0, he⟩ := List.getElem?_of_mem (hV a _ ha)
  exact va_recv (gK G hW) hP hc he
theorem x_castS {a ci index : Nat} {fs : List Value} {C : String} {T : u_T} {N : Nat} (d : decode M.2.1 pc = .ok (.checkcast index, 3)) (hc : vwCl[ci]? = some (C, T, N)) (hcl : Cond.classLink M.1 index C ∈ lw_tbl) (ha : h a = some (.inr (ci, fs))) (kk : xW g M Q QX rc rs h (pc + 3) ls (.ref a :: st)) : xW g M Q QX rc rs h pc ls (.ref a :: st) := by
  intro G p e s m args below meth c H locs lsA cells slots C0 hh hl' a1 a2
  have hW := C0.2.2.2.2.2.2.2.2.1
  exact va_castS C0.1 C0.2.1 C0.2.2.2.2.2.2.2.1 (wd G hW hcl rfl) ((gK (s := s) G hW).1 ci _ hc).2 (recv G hW hh ha hc) d (kk G p e s m args below meth c H locs lsA cells slots C0 hh hl' a1 a2)
theorem x_castY {a ci index : Nat} {fs : List Value} {C nm : String} {T : u_T} {N : Nat} (d : decode M.2.1 pc = .ok (.checkcast index, 3)) (hc : vwCl[ci]? = some (C, T, N)) (hcl : Cond.classLink M.1 index nm ∈ lw_tbl) (hca : Cond.castable C nm ∈ lw_tbl) (ha : h a = some (.inr (ci, fs))) (kk : xW g M Q QX rc rs h (pc + 3) ls (.ref a :: st)) : xW g M Q QX rc rs h pc ls (.ref a :: st) := by
  intro G p e s m args below meth c H locs lsA cells slots C0 hh hl' a1 a2
  have hW := C0.2.2.2.2.2.2.2.2.1
  exact va_castY C0.1 C0.2.1 C0.2.2.2.2.2.2.2.1 (wd G hW hcl rfl) (castW G hW hca) (recv G hW hh ha hc) d (kk G p e s m args below meth c H locs lsA cells slots C0 hh hl' a1 a2)
theorem x_castN {index : Nat} (d : decode M.2.1 pc = .ok (.checkcast index, 3)) (kk : xW g M Q QX rc rs h (pc + 3) ls (.null :: st)) : xW g M Q QX rc rs h pc ls (.null :: st) := fun G p e s m args below meth c H locs lsA cells slots C hh hl a1 a2 => lv_castN C.1 C.2.1 d (kk G p e s m args below meth c H locs lsA cells slots C hh hl a1 a2)
theorem x_objInit {a index : Nat} (d : decode M.2.1 pc = .ok (.invokespecial index, 3)) (hl : Cond.methodLink M.1 index Lib.objectInit ∈ lw_tbl) (hi : Cond.instanceMethod Lib.objectInit ∈ lw_tbl) (hcd : Cond.code Lib.objectInit ⟨#[0xb1]⟩ 1 none ∈ lw_tbl) (hf : 1 ≤ M.2.2.2.2.2.2.frames) (hlo : 20 ≤ M.2.2.2.2.2.2.locals) (hst : (st.map fun v => v.category).sum ≤ 8) (kk : xW g M Q QX rc rs h (pc + 3) ls st) : xW g M Q QX rc rs h pc ls (.ref a :: st) := by
  intro G p e s m args below meth c H locs lsA cells slots C0 hh hl' a1 a2
  have hW := C0.2.2.2.2.2.2.2.2.1
  refine W.objInit C0.1 C0.2.1 C0.2.2.2.2.2.2.2.1 (wd G hW hl rfl) (wd G hW hi rfl) (wd G hW hcd rfl) rfl (by rw [C0.2.2.1]; exact hl'.1) rfl d hf (by have := lv_room (m := m) (pc := pc) (ls := lsA) (rest := .ref a :: st) hst; omega) ?_
  exact kk G p e s m args below meth c H locs lsA cells slots C0 hh hl' a1 a2
-- ends
theorem xend {H : Heap} {locs : List Loc} {t : State} (hh : xHp g h H locs) (ht : t.heap = H) : xHp g h t.heap [] := by
  obtain ⟨ws, hS, r⟩ := hh
  rw [ht]
  exact ⟨ws, ⟨hS.1, hS.2.1, fun l hl => by cases hl⟩, r⟩
theorem xlocs {H : Heap} {locs : List Loc} (hh : xHp g h H locs) : ∀ z ∈ locs, gA g z.base := by
  obtain ⟨ws, hS, -⟩ := hh
  exact hS.2.2
theorem x_iret {v : Int32} (hr : M.2.2.2.1 = some .int) (d : decode M.2.1 pc = .ok (.ireturn, 1)) (hq : Q (some (.int v)) h) : xW g M Q QX rc rs h pc ls [.int v] := by
  intro G p e s m args below meth c H locs lsA cells slots C0 hh hl' a1 a2
  refine vx_ret (W.widen (k := M.2.2.2.2.2.2.cells) (n := M.2.2.2.2.2.2.slots) (by omega) (by omega) (W.iret C0.1 C0.2.1 (C0.2.2.2.1.trans hr) (fun t ht _ => ⟨_, h, rfl, hq, xend hh ht⟩) (xlocs hh) d C0.2.2.2.2.2.1))
theorem x_zret {b : Int} (hr : M.2.2.2.1 = some .boolean) (hb : b = 0 ∨ b = 1) (d : decode M.2.1 pc = .ok (.ireturn, 1)) (hq : Q (some (.int (iI b))) h) : xW g M Q QX rc rs h pc ls [.int (iI b)] := by
  intro G p e s m args below meth c H locs lsA cells slots C0 hh hl' a1 a2
  refine vx_ret (W.widen (k := M.2.2.2.2.2.2.cells) (n := M.2.2.2.2.2.2.slots) (by omega) (by omega) (W.zret C0.1 C0.2.1 (C0.2.2.2.1.trans hr) (by rcases hb with rfl | rfl <;> rfl) (fun t ht _ => ⟨_, h, rfl, hq, xend hh ht⟩) (xlocs hh) d C0.2.2.2.2.2.1))
theorem x_vret (hr : M.2.2.2.1 = none) (d : decode M.2.1 pc = .ok (.return_, 1)) (hq : Q none h) : xW g M Q QX rc rs h pc ls [] := by
  intro G p e s m args below meth c H locs lsA cells slots C0 hh hl' a1 a2
  refine vx_ret (W.widen (k := M.2.2.2.2.2.2.cells) (n := M.2.2.2.2.2.2.slots) (by omega) (by omega) (W.vret C0.1 C0.2.1 (C0.2.2.2.1.trans hr) (fun t ht _ => ⟨_, h, rfl, hq, xend hh ht⟩) (xlocs hh) d C0.2.2.2.2.2.1))
theorem x_aret {v : Value} {rt : FieldType} (hr : M.2.2.2.1 = some rt) (hrt : (∃ n, rt = .object n) ∨ ∃ t, rt = .array t) (hv : v = .null ∨ ∃ a, v = .ref a) (d : decode M.2.1 pc = .ok (.areturn, 1)) (hq : Q (some v) h) : xW g M Q QX rc rs h pc ls [v] := by
  intro G p e s m args below meth c H locs lsA cells slots C0 hh hl' a1 a2
  refine vx_ret (W.widen (k := M.2.2.2.2.2.2.cells) (n := M.2.2.2.2.2.2.slots) (by omega) (by omega) (W.aret C0.1 C0.2.1 (C0.2.2.2.1.trans hr) hrt hv (fun t ht _ => ⟨_, h, rfl, hq, xend hh ht⟩) (xlocs hh) d C0.2.2.2.2.2.1))
end XH
end
section
/-! a method's contract out of its body; calls; throws -/
section XD
variable {g : xG} {M N : xMeth} {Q Q' : qP} {QX QX' : qE} {rc rs : Nat} {h : hp} {pc : Nat} {ls : List (Option Value)} {st : List Value}
theorem lg_sl1 : ∀ (vs : List Value), (∀ v ∈ vs, v.category = 1) → lg_sl vs = vs.map Slot.val := by
  intro vs
  induction vs with
  | nil => intro _; rfl
  | cons v t ih =>
    intro hv
    have h1 : v.category = 1 := hv v List.mem_cons_self
    have h2 : ¬ v.category = 2 := by omega
    have h3 := ih (fun w hw => hv w (List.mem_cons_of_mem _ hw))
    unfold lg_sl at h3 ⊢
    rw [List.flatMap_cons, h3, if_neg h2]
    rfl
theorem xL.entry {vs : List Value} {nL : Nat} (hv : ∀ v ∈ vs, v.category = 1) (hn : vs.length ≤ nL) : xL ((lg_sl vs ++ List.replicate (nL - (lg_sl vs).length) Slot.unset).toArray) nL (vs.map some ++ List.replicate (nL - vs.length) none) := by
  have e := lg_sl1 vs hv
  obtain ⟨h1, h2, -⟩ := lv_entry vs (n := nL) (by rw [e, List.length_map]; exact hn)
  refine ⟨h1, h2, fun i v hi => ?_⟩
  have hlt : i < vs.length := by
    rcases Nat.lt_or_ge i vs.length with q | q
    · exact q
    · rw [List.getElem?_append_right (by rw [List.length_map]; exact q)] at hi
      have := List.mem_of_getElem? hi
      rw [List.mem_replicate] at this
      cases this.2
  rw [List.getElem?_append_left (by rw [List.length_map]; exact hlt), List.getElem?_map] at hi
  cases hvi : vs[i]? with
  | none => rw [hvi] at hi; cases hi
  | some w =>
    rw [hvi] at hi
    cases hi
    refine ⟨hv _ (List.mem_of_getElem? hvi), ?_⟩
    rw [e, List.getElem?_toArray, List.getElem?_append_left (by rw [List.length_map]; exact hlt), List.getElem?_map, hvi]
    rfl
theorem xM.of {y : MethodName} {wc : Cond} {av : List Value} (hwc : wc = Cond.code y M.2.1 M.2.2.1 M.2.2.2.1) (hy : plainName y.cls = true) (hcl : y.cls = M.1) (hnm : y.name = M.2.2.2.2.1) (hh : M.2.2.2.2.2.1 = []) (hv : ∀ v ∈ av, v.category = 1) (hn : av.length ≤ M.2.2.1) (hls : av.map some ++ List.replicate (M.2.2.1 - av.length) none = ls)
    (body : xW g M Q QX M.2.2.2.2.2.2.cells M.2.2.2.2.2.2.slots h 0 ls []) : xM g y wc M av h Q QX := by
  refine vx_ofW (cc := M.2.1) (maxL := M.2.2.1) (ret := M.2.2.2.1) (ws' := []) hy (by rw [hwc]) ?_
  intro p e s m args below meth c s₁ B hml ht hv0
  obtain ⟨rfl, G, hW, hhp⟩ := hv0
  have hS : va_S (gA g) g.2.1.heap s.heap [] := by
    obtain ⟨ws, hS, -⟩ := hhp
    exact hS
  rw [lg_entry_eq]
  subst hls
  refine body G p e s m _ below meth c s.heap [] _ 0 0 ⟨B.exec, B.bytes, hml, B.returns, ?_, B.notSynchronized, ?_, ?_, hW, hS⟩ hhp (xL.entry hv hn) (by omega) (by omega)
  · exact ((name_of_methodNamed B.named B.method).1).trans hnm
  · rw [hh]
    cases hx : c.exceptionTable.toList with
    | nil => rfl
    | cons z r => exact absurd (ht z (by rw [hx]; exact List.mem_cons_self)) (fun q => q)
  · rw [← hcl]; exact findClass_of_methodNamed B.named
-- the words of a call
def callOk (M N : xMeth) (y : MethodName) (wc : Cond) (index n : Nat) : Prop := wc = Cond.code y N.2.1 N.2.2.1 N.2.2.2.1 ∧ wc ∈ lw_tbl ∧ Cond.methodLink M.1 index y ∈ lw_tbl ∧ Cond.initialized y.cls ∈ lw_tbl ∧ (y.cls ≠ "java/lang/invoke/MethodHandle" ∧ y.cls ≠ "java/lang/invoke/VarHandle") ∧ (parseMethodDescriptor y.desc).map (fun d => d.parameters.length) = some n ∧ N.2.2.2.2.2.2.frames + 1 ≤ M.2.2.2.2.2.2.frames ∧ 8 + (N.2.2.1 + 11) + N.2.2.2.2.2.2.locals ≤ M.2.2.2.2.2.2.locals
theorem callB {y : MethodName} {wc : Cond} {index n : Nat} {s : State} {args : Array Value} (G : gOk g) (hW : g.2.1.WarmedH s.vm) (hc : callOk M N y wc index n) : CallB M.2.2.2.2.2.2 s args M.1 index y N.2.1 N.2.2.1 N.2.2.2.1 [wc] N.2.2.2.2.2.2 N.2.2.2.2.2.2.cells N.2.2.2.2.2.2.slots n := by
  obtain ⟨e1, h1, h2, h3, h4, h5, h6, h7⟩ := hc
  have hg : goodWord wc = true := by rw [e1]; rfl
  refine ⟨rfl, rfl, h6, h7, fun w hw a' U hU => ?_, by rw [e1]; exact List.mem_cons_self, by rw [← e1]; exact wd G hW h1 hg, wd G hW h3 rfl, h4, fun sig h => ?_, wd G hW h2 rfl⟩
  · rw [List.mem_singleton.mp hw]
    exact word_at hU (good_of_word hg) (wd (args := args) G hW h1 hg)
  · rw [h] at h5
    exact (Option.some.inj h5).symm
theorem blind (av : List Value) : FrameBlind (va_Pc av (xPc g h)) := fun a U gf mk q => q
theorem pcAt {av : List Value} {H : Heap} {locs : List Loc} {s : State} (G : gOk g) (hW : g.2.1.WarmedH s.vm) (hh : xHp g h H locs) : ∀ U : State, U.heap = H → s.WarmedH U.vm → va_Pc av (xPc g h) av.toArray U :=
  fun U hU hWU => ⟨rfl, G, State.WarmedH.trans hW hWU, xend hh hU⟩
-- behind a call
theorem xback {H : Heap} {locs L : List Loc} {t T' : State} {h' : hp} (hl : ∀ z ∈ locs, gA g z.base) (hL : ∀ z ∈ L, gA g z.base) (hh : xHp g h' t.heap []) (e : T'.heap = t.heap) : xHp g h' T'.heap (locs ++ L) := by
  obtain ⟨ws, hS, r⟩ := hh
  rw [e]
  exact ⟨ws, ⟨hS.1, hS.2.1, fun z hz => (List.mem_append.mp hz).elim (hl z) (hL z)⟩, r⟩
theorem x_run {index n rc' rs' : Nat} {av : List Value} {stk : List Value}
    (hr : ∀ (p : Program) (e : Env) (s : State) (m : MethodId) (args : Array Value) (below : List Frame) (meth : Method) (c : Code) (H : Heap) (locs : List Loc) (lsA : Array Slot) (cells slots : Nat), gOk g → xC g M p s m meth c → xHp g h H locs → xL lsA M.2.2.1 ls → cells + rc ≤ M.2.2.2.2.2.2.cells → slots + rs ≤ M.2.2.2.2.2.2.slots →
      vx_Run p g.1 e M.2.2.2.2.2.2 s m args below meth c H locs cells slots N.2.2.2.2.2.2.cells N.2.2.2.2.2.2.slots (F0 m pc lsA stk) st (qC g Q' av.toArray) (qX g QX') (gA g))
    (hh0 : M.2.2.2.2.2.1 = []) (e1 : rc = rc' + N.2.2.2.2.2.2.cells) (e2 : rs = rs' + N.2.2.2.2.2.2.slots)
    (kr : ∀ v h', Q' v h' → xW g M Q QX rc' rs' h' (pc + 3) ls (v.toList ++ st)) (kx : ∀ E h', QX' E h' → QX E h') : xW g M Q QX rc rs h pc ls stk := by
  intro G p e s m args below meth c H locs lsA cells slots C0 hh hl' a1 a2
  intro T hT X
  rcases hr p e s m args below meth c H locs lsA cells slots G C0 hh hl' a1 a2 T hT X with ⟨v, st₀, t, T', L, h0, X', hL, q1, q2, ⟨v', h', hv, hq, hhp⟩, stp⟩ | ⟨q, st₀, t, T', L, E, ce, h0, X', hL, q1, q2, ⟨h', hq, hhp⟩, hce, hcv, hcl, stp⟩
  · cases hv
    obtain ⟨t2, b1, b2⟩ := kr v h' hq G p e s m args below meth c T'.heap (locs ++ L) lsA _ _ C0 (xback (H := H) (xlocs hh) hL hhp q1) hl' (by omega) (by omega) T' rfl X'
    exact ⟨t2, stp t2 b1, b2⟩
  · obtain ⟨t2, b1, b2⟩ := vx_out (Qc := qC g Q) (XC := qX g QX) (free := gA g) (mc := M.2.2.2.2.2.2.cells) (ms := M.2.2.2.2.2.2.slots) (pc := pc) (E := E) (H := T'.heap) (ls := lsA) (rest := st) (fun x hx => by rw [C0.2.2.2.2.2.2.1, hh0] at hx; cases hx) C0.2.2.2.2.2.1 (by rw [q1]; exact hce) hcv hcl
      (fun t9 e9 _ => ⟨h', kx E h' hq, xend (xback (H := H) (T' := T') (locs := locs) (L := L) (xlocs hh) hL hhp q1) e9⟩) (fun z hz => (List.mem_append.mp hz).elim (xlocs hh z) (hL z)) (by omega) (by omega) T' rfl X'
    exact ⟨t2, stp.trans b1, b2⟩
theorem x_callV {y : MethodName} {wc : Cond} {index n rc' rs' b ci : Nat} {As stk : List Value} {fs : List Value} {r : vw_C} (d : decode M.2.1 pc = .ok (.invokevirtual index, 3)) (hc : callOk M N y wc index n) (hi : Cond.instanceMethod y ∈ lw_tbl) (hs : Cond.selects y.cls y y ∈ lw_tbl) (hM : xM g y wc N (.ref b :: As) h Q' QX') (hb : h b = some (.inr (ci, fs))) (hci : vwCl[ci]? = some r) (hr : r.1 = y.cls) (hn : As.length = n) (hstk : stk = As.reverse ++ .ref b :: st) (hcat : (st.map fun v => v.category).sum ≤ 8)
    (hh0 : M.2.2.2.2.2.1 = []) (e1 : rc = rc' + N.2.2.2.2.2.2.cells) (e2 : rs = rs' + N.2.2.2.2.2.2.slots) (kx : ∀ E h', QX' E h' → QX E h') (kr : ∀ v h', Q' v h' → xW g M Q QX rc' rs' h' (pc + 3) ls (v.toList ++ st)) : xW g M Q QX rc rs h pc ls stk := by
  refine x_run (N := N) (av := .ref b :: As) (index := index) (n := n) (fun p e s m args below meth c H locs lsA cells slots G C0 hh hl' a1 a2 => ?_) hh0 e1 e2 kr kx
  have hW := C0.2.2.2.2.2.2.2.2.1
  exact vx_runV (C := y.cls) (bytes := N.2.1) (maxL := N.2.2.1) (ret := N.2.2.2.1) (ws := [wc]) (rm := N.2.2.2.2.2.2) (Ts := []) (own := M.1) (n := n) ⟨C0.1, C0.2.1, C0.2.2.1, C0.2.2.2.2.2.2.2.1, fun w hw => by cases hw⟩ hM ⟨callB G hW hc, wd G hW hi rfl, wd G hW hs rfl⟩ ⟨blind _, by rw [← hr]; exact recv G hW hh hb hci, pcAt G hW hh⟩ rfl hn (by rw [← C0.2.2.1]; exact hl'.1.trans C0.2.2.1.symm) hstk (lv_room (m := m) (pc := pc) (ls := lsA) (rest := stk) hcat) d ⟨by omega, by omega⟩
theorem x_callS {y : MethodName} {wc : Cond} {index n rc' rs' : Nat} {As stk : List Value} (d : decode M.2.1 pc = .ok (.invokestatic index, 3)) (hc : callOk M N y wc index n) (hs : Cond.static y ∈ lw_tbl) (hM : xM g y wc N As h Q' QX') (hn : As.length = n) (hstk : stk = As.reverse ++ st) (hcat : (st.map fun v => v.category).sum ≤ 8)
    (hh0 : M.2.2.2.2.2.1 = []) (e1 : rc = rc' + N.2.2.2.2.2.2.cells) (e2 : rs = rs' + N.2.2.2.2.2.2.slots) (kx : ∀ E h', QX' E h' → QX E h') (kr : ∀ v h', Q' v h' → xW g M Q QX rc' rs' h' (pc + 3) ls (v.toList ++ st)) : xW g M Q QX rc rs h pc ls stk := by
  refine x_run (N := N) (av := As) (index := index) (n := n) (fun p e s m args below meth c H locs lsA cells slots G C0 hh hl' a1 a2 => ?_) hh0 e1 e2 kr kx
  have hW := C0.2.2.2.2.2.2.2.2.1
  exact vx_runS (bytes := N.2.1) (maxL := N.2.2.1) (ret := N.2.2.2.1) (ws := [wc]) (rm := N.2.2.2.2.2.2) (Ts := []) (own := M.1) (n := n) ⟨C0.1, C0.2.1, C0.2.2.1, C0.2.2.2.2.2.2.2.1, fun w hw => by cases hw⟩ hM ⟨callB G hW hc, wd G hW hs rfl⟩ ⟨blind _, pcAt G hW hh⟩ rfl hn (by rw [← C0.2.2.1]; exact hl'.1.trans C0.2.2.1.symm) hstk (lv_room (m := m) (pc := pc) (ls := lsA) (rest := stk) hcat) d ⟨by omega, by omega⟩
theorem x_callI {y : MethodName} {wc : Cond} {index n rc' rs' b : Nat} {As stk : List Value} (d : decode M.2.1 pc = .ok (.invokespecial index, 3)) (hret : N.2.2.2.1 = none) (hc : callOk M N y wc index n) (hi : Cond.instanceMethod y ∈ lw_tbl) (hy : y.name = "<init>") (hM : xM g y wc N (.ref b :: As) h Q' QX') (hn : As.length = n) (hstk : stk = As.reverse ++ .ref b :: st) (hcat : (st.map fun v => v.category).sum ≤ 8)
    (hh0 : M.2.2.2.2.2.1 = []) (e1 : rc = rc' + N.2.2.2.2.2.2.cells) (e2 : rs = rs' + N.2.2.2.2.2.2.slots) (kx : ∀ E h', QX' E h' → QX E h') (kr : ∀ v h', Q' v h' → xW g M Q QX rc' rs' h' (pc + 3) ls (v.toList ++ st)) : xW g M Q QX rc rs h pc ls stk := by
  refine x_run (N := N) (av := .ref b :: As) (index := index) (n := n) (fun p e s m args below meth c H locs lsA cells slots G C0 hh hl' a1 a2 => ?_) hh0 e1 e2 kr kx
  have hW := C0.2.2.2.2.2.2.2.2.1
  have hB := callB (args := args) G hW hc
  rw [hret] at hB
  exact vx_runI (bytes := N.2.1) (maxL := N.2.2.1) (ws := [wc]) (rm := N.2.2.2.2.2.2) (Ts := []) (own := M.1) (n := n) ⟨C0.1, C0.2.1, C0.2.2.1, C0.2.2.2.2.2.2.2.1, fun w hw => by cases hw⟩ hM ⟨hB, hy, wd G hW hi rfl⟩ ⟨blind _, pcAt G hW hh⟩ rfl hn (by rw [← C0.2.2.1]; exact hl'.1.trans C0.2.2.1.symm) hstk (lv_room (m := m) (pc := pc) (ls := lsA) (rest := stk) hcat) d ⟨by omega, by omega⟩
-- throws
def wOk (w : Cond) : Bool := match w with
  | .castable _ _ => true
  | .declares _ => true
  | w => goodWord w
theorem wdO {w : Cond} {s : State} {args : Array Value} (G : gOk g) (hW : g.2.1.WarmedH s.vm) (hm : w ∈ lw_tbl) (hg : wOk w = true) : w.before args s = true := by
  cases w with
  | castable a b => exact va_Nw.use rfl (castW G hW hm)
  | declares a => exact va_Nw.use rfl (va_Nw.warmD hW (va_Nw.of rfl (G.2.1 _ hm)))
  | _ => exact wd G hW hm hg
theorem vS_at {s : State} {H : Heap} {locs : List Loc} (h1 : va_S (gA g) g.2.1.heap s.heap []) (h2 : va_S (gA g) g.2.1.heap H locs) (hz : s.heap.size ≤ H.size) : va_S (gA g) s.heap H locs := by
  refine ⟨hz, fun q hq hA => ?_, h2.2.2⟩
  have hlt : q < g.2.1.heap.size := Nat.not_le.mp hA
  rw [h2.2.1 q hlt hA, h1.2.1 q hlt hA]
theorem xkept {H : Heap} {locs : List Loc} {t : State} (hh : xHp g h H locs) (hz : H.size ≤ t.heap.size) (hk : ∀ q : Nat, q < H.size → t.heap[q]? = H[q]?) : xHp g h t.heap [] := by
  obtain ⟨ws, hS, hP, hD, hV⟩ := hh
  exact ⟨ws, ⟨Nat.le_trans hS.1 hz, fun q h1 h2 => (hk q (Nat.lt_of_lt_of_le h1 hS.1)).trans (hS.2.1 q h1 h2), fun l hl => by cases hl⟩, hP.kept (fun k x hx => hk x.1 ((hP k x hx).lt)), hD, hV⟩
def excNames : List String := ["java/lang/RuntimeException", "java/lang/Exception"]
theorem excFit : ∀ n ∈ excNames, Bundle.fit n = true := by decide +kernel
theorem x_throw {cls text : String} {ik is ic : Nat} (hcls : Bundle.fit cls = true) (hk : Cond.classLink M.1 ik cls ∈ lw_tbl) (hini : Cond.initialized cls ∈ lw_tbl) (hstr : Cond.stringRef M.1 is text ∈ lw_tbl) (hat : ∀ w ∈ vx_atS M.1 ic cls excNames, w ∈ lw_tbl ∧ wOk w = true) (hgood : ∀ w ∈ Cond.classLink M.1 ik cls :: Cond.initialized cls :: vx_atS M.1 ic cls excNames, vx_ot w = true)
    (d0 : decode M.2.1 pc = .ok (.new ik, 3)) (d3 : decode M.2.1 (pc + 3) = .ok (.dup, 1)) (d4 : decode M.2.1 (pc + 4) = .ok (.ldc is, 2)) (d6 : decode M.2.1 (pc + 6) = .ok (.invokespecial ic, 3)) (d9 : decode M.2.1 (pc + 9) = .ok (.athrow, 1))
    (hh0 : M.2.2.2.2.2.1 = []) (hf : 5 < M.2.2.2.2.2.2.frames) (hlo : (st.map fun v => v.category).sum + 82 ≤ M.2.2.2.2.2.2.locals) (h1 : 1 ≤ rc) (h2 : 6 ≤ rs) (hq : QX cls h) : xW g M Q QX rc rs h pc ls st := by
  intro G p e s m args below meth c H locs lsA cells slots C0 hh hl' a1 a2
  have hW := C0.2.2.2.2.2.2.2.2.1
  have hS0 := C0.2.2.2.2.2.2.2.2.2
  obtain ⟨sa, hsa⟩ := G.2.2.2.2.2 M.1 is text hstr
  intro T hT X
  have hz : s.heap.size ≤ H.size := by
    have := (vx_frame (U := T) X.same).1
    rw [hT] at this
    exact this
  have hS : va_S (gA g) g.2.1.heap H locs := by
    obtain ⟨ws, hS, -⟩ := hh
    exact hS
  exact vx_throwS (text := text) C0.1 C0.2.1 G.1 C0.2.2.2.2.2.2.2.1 hcls excFit (wd G hW hk rfl) (wd G hW hini rfl) (vk_R.warm hW hsa) (fun w hw => wdO G hW (hat w hw).1 (hat w hw).2) hgood
    ((G.2.2.2.1.moved hW.alike).kept (fun a b1 b2 => hS0.2.1 a b1 b2)) ((G.2.2.2.2.1.moved hW.alike).kept (fun a b1 b2 => hS0.2.1 a b1 b2)) (vS_at hS0 hS hz) (by rw [C0.2.2.1]; exact hl'.1) d0 d3 d4 d6 d9 (fun x hx => by rw [C0.2.2.2.2.2.2.1, hh0] at hx; cases hx) hf hlo (by omega) (by omega) C0.2.2.2.2.2.1
    (fun t _ z1 z2 => ⟨h, hq, xkept hh z1 z2⟩) (xlocs hh) (by omega) (by omega) T hT X
theorem x_throwW {cls text : String} {ik is ic : Nat} (hcls : Bundle.fit cls = true) (hk : Cond.classLink M.1 ik cls ∈ lw_tbl) (hini : Cond.initialized cls ∈ lw_tbl) (hstr : Cond.stringRef M.1 is text ∈ lw_tbl) (hat : ∀ w ∈ vx_atS M.1 ic cls excNames, w ∈ lw_tbl ∧ wOk w = true) (hgood : ∀ w ∈ Cond.classLink M.1 ik cls :: Cond.initialized cls :: vx_atS M.1 ic cls excNames, vx_ot w = true)
    (d0 : decode M.2.1 pc = .ok (.new ik, 3)) (d3 : decode M.2.1 (pc + 3) = .ok (.dup, 1)) (d4 : decode M.2.1 (pc + 4) = .ok (.ldc_w is, 3)) (d7 : decode M.2.1 (pc + 7) = .ok (.invokespecial ic, 3)) (d10 : decode M.2.1 (pc + 10) = .ok (.athrow, 1))
    (hh0 : M.2.2.2.2.2.1 = []) (hf : 5 < M.2.2.2.2.2.2.frames) (hlo : (st.map fun v => v.category).sum + 82 ≤ M.2.2.2.2.2.2.locals) (h1 : 1 ≤ rc) (h2 : 6 ≤ rs) (hq : QX cls h) : xW g M Q QX rc rs h pc ls st := by
  intro G p e s m args below meth c H locs lsA cells slots C0 hh hl' a1 a2
  have hW := C0.2.2.2.2.2.2.2.2.1
  have hS0 := C0.2.2.2.2.2.2.2.2.2
  obtain ⟨sa, hsa⟩ := G.2.2.2.2.2 M.1 is text hstr
  intro T hT X
  have hz : s.heap.size ≤ H.size := by
    have := (vx_frame (U := T) X.same).1
    rw [hT] at this
    exact this
  have hS : va_S (gA g) g.2.1.heap H locs := by
    obtain ⟨ws, hS, -⟩ := hh
    exact hS
  exact vx_throwSW (text := text) C0.1 C0.2.1 G.1 C0.2.2.2.2.2.2.2.1 hcls excFit (wd G hW hk rfl) (wd G hW hini rfl) (vk_R.warm hW hsa) (fun w hw => wdO G hW (hat w hw).1 (hat w hw).2) hgood
    ((G.2.2.2.1.moved hW.alike).kept (fun a b1 b2 => hS0.2.1 a b1 b2)) ((G.2.2.2.2.1.moved hW.alike).kept (fun a b1 b2 => hS0.2.1 a b1 b2)) (vS_at hS0 hS hz) (by rw [C0.2.2.1]; exact hl'.1) d0 d3 d4 d7 d10 (fun x hx => by rw [C0.2.2.2.2.2.2.1, hh0] at hx; cases hx) hf hlo (by omega) (by omega) C0.2.2.2.2.2.1
    (fun t _ z1 z2 => ⟨h, hq, xkept hh z1 z2⟩) (xlocs hh) (by omega) (by omega) T hT X
end XD
end
section
/-! ints that are images of integers: division, shifts, bits -/
theorem nI_iI (n : Nat) : nI n = iI (n : Int) := Int32.ofInt_eq_ofNat.symm
theorem iI_nat {z : Int} (h : 0 ≤ z) : iI z = nI z.toNat := by rw [nI_iI, Int.toNat_of_nonneg h]
def bit (a k : Int) : Int := a / 2 ^ k.toNat % 2
theorem bit_01 (a k : Int) : bit a k = 0 ∨ bit a k = 1 := by unfold bit; omega
theorem bit_lt {a k : Int} (ha : 0 ≤ a) (h : a < 2 ^ k.toNat) : bit a k = 0 := by
  unfold bit
  rw [Int.ediv_eq_zero_of_lt ha h]
  rfl
theorem and_1 {a : Int} (ha : 0 ≤ a) : iI a &&& iI 1 = iI (a % 2) := by
  rw [iI_nat ha, show iI 1 = nI 1 from rfl, iI_nat (by omega : (0 : Int) ≤ a % 2)]
  have e : nI a.toNat &&& nI 1 = nI (a.toNat &&& 1) := by
    apply Int32.toBitVec.inj
    show BitVec.ofNat 32 _ &&& BitVec.ofNat 32 _ = BitVec.ofNat 32 _
    rw [BitVec.ofNat_and]
  rw [e, Nat.and_one_is_mod]
  congr 1
  omega
theorem shr_k {a k : Int} (ha : 0 ≤ a) (h2 : a < 2147483648) (hk : 0 ≤ k) (hk2 : k < 32) : iI a >>> (iI k &&& 31) = iI (a / 2 ^ k.toNat) := by
  have hq : 0 ≤ a / 2 ^ k.toNat := Int.ediv_nonneg ha (by exact Int.le_of_lt (Int.pow_pos (by omega)))
  rw [iI_nat ha, iI_nat hk, iI_nat hq]
  have hs : (((nI k.toNat) &&& 31).toBitVec.smod 32).toNat = k.toNat := by
    have : ∀ n, n < 32 → ((nI n &&& 31).toBitVec.smod 32).toNat = n := by decide
    exact this _ (by omega)
  rw [pk_shrN (n := a.toNat) (by omega) _ k.toNat hs]
  congr 1
  have : a = (a.toNat : Int) := (Int.toNat_of_nonneg ha).symm
  conv => rhs; rw [this]
  rw [show ((2 : Int) ^ k.toNat) = ((2 ^ k.toNat : Nat) : Int) from by simp, ← Int.natCast_ediv, Int.toNat_natCast]
theorem shl_1 {k : Int} (hk : 0 ≤ k) (hk2 : k < 31) : iI 1 <<< (iI k &&& 31) = iI (2 ^ k.toNat) := by
  have : ∀ n, n < 31 → iI 1 <<< (iI ((n : Nat) : Int) &&& 31) = iI (2 ^ n) := by decide
  have h := this k.toNat (by omega)
  rw [Int.toNat_of_nonneg hk] at h
  exact h
theorem not_x (a : Int) : iI a ^^^ iI (-1) = iI (-1 - a) := by
  apply Int32.toBitVec.inj
  show (iI a).toBitVec ^^^ BitVec.ofInt 32 (-1) = (iI (-1 - a)).toBitVec
  have h1 : BitVec.ofInt 32 (-1) = BitVec.allOnes 32 := by decide
  rw [h1, BitVec.xor_allOnes]
  show ~~~ (BitVec.ofInt 32 a) = BitVec.ofInt 32 (-1 - a)
  rw [← BitVec.allOnes_sub_eq_not]
  show BitVec.allOnes 32 - (Int32.ofInt a).toBitVec = (Int32.ofInt (-1 - a)).toBitVec
  rw [Int32.ofInt_sub, ← h1]
  rfl
-- a bit of a number that isn't negative: set, cleared, asked for
theorem bvSplit (x b : BitVec 32) : (x &&& ~~~ b) + (x &&& b) = x := by
  rw [BitVec.add_eq_or_of_and_eq_zero]
  · ext i hi
    simp only [BitVec.getElem_or, BitVec.getElem_and, BitVec.getElem_not]
    cases x[i] <;> cases b[i] <;> rfl
  · ext i hi
    simp only [BitVec.getElem_and, BitVec.getElem_not, BitVec.getElem_zero]
    cases x[i] <;> cases b[i] <;> rfl
theorem bvOr (x b : BitVec 32) : x ||| b = (x &&& ~~~ b) + b := by
  rw [BitVec.add_eq_or_of_and_eq_zero]
  · ext i hi
    simp only [BitVec.getElem_or, BitVec.getElem_and, BitVec.getElem_not]
    cases x[i] <;> cases b[i] <;> rfl
  · ext i hi
    simp only [BitVec.getElem_and, BitVec.getElem_not, BitVec.getElem_zero]
    cases x[i] <;> cases b[i] <;> rfl
theorem andP (n k : Nat) : n &&& 2 ^ k = (if n / 2 ^ k % 2 = 1 then 2 ^ k else 0) := by
  apply Nat.eq_of_testBit_eq
  intro i
  have hb : n.testBit k = decide (n / 2 ^ k % 2 = 1) := Nat.testBit_eq_decide_div_mod_eq
  rw [Nat.testBit_and, Nat.testBit_two_pow]
  by_cases hi : k = i
  · subst hi
    rw [hb]
    by_cases hq : n / 2 ^ k % 2 = 1
    · rw [if_pos hq, Nat.testBit_two_pow]; simp [hq]
    · rw [if_neg hq]; simp [hq]
  · split
    · rw [Nat.testBit_two_pow]; simp [hi]
    · simp [hi]
theorem and_k {a k : Int} (ha : 0 ≤ a) : iI a &&& iI (2 ^ k.toNat) = iI (bit a k * 2 ^ k.toNat) := by
  have hq : 0 ≤ a / 2 ^ k.toNat := Int.ediv_nonneg ha (by exact Int.le_of_lt (Int.pow_pos (by omega)))
  have e2 : ((2 : Int) ^ k.toNat) = ((2 ^ k.toNat : Nat) : Int) := by simp
  have ea : a = (a.toNat : Int) := (Int.toNat_of_nonneg ha).symm
  unfold bit
  rw [e2, ← nI_iI, iI_nat ha]
  have e : nI a.toNat &&& nI (2 ^ k.toNat) = nI (a.toNat &&& 2 ^ k.toNat) := by
    apply Int32.toBitVec.inj
    show BitVec.ofNat 32 _ &&& BitVec.ofNat 32 _ = BitVec.ofNat 32 _
    rw [BitVec.ofNat_and]
  rw [e, andP, nI_iI]
  congr 1
  have e3 : a / ((2 ^ k.toNat : Nat) : Int) % 2 = ((a.toNat / 2 ^ k.toNat % 2 : Nat) : Int) := by
    conv => lhs; rw [ea]
    simp
  rw [e3]
  have h2 : a.toNat / 2 ^ k.toNat % 2 < 2 := Nat.mod_lt _ (by omega)
  rcases (by omega : a.toNat / 2 ^ k.toNat % 2 = 0 ∨ a.toNat / 2 ^ k.toNat % 2 = 1) with q | q
  · rw [q]; simp
  · rw [q]; simp
def bset (a k : Int) : Int := a - bit a k * 2 ^ k.toNat + 2 ^ k.toNat
def bclr (a k : Int) : Int := a - bit a k * 2 ^ k.toNat
theorem clr_k {a k : Int} (ha : 0 ≤ a) : iI a &&& iI (-1 - 2 ^ k.toNat) = iI (bclr a k) := by
  have h1 : iI (-1 - 2 ^ k.toNat) = ~~~ iI (2 ^ k.toNat) := by
    rw [← not_x]
    apply Int32.toBitVec.inj
    show _ ^^^ BitVec.ofInt 32 (-1) = ~~~ _
    rw [show BitVec.ofInt 32 (-1) = BitVec.allOnes 32 from by decide, BitVec.xor_allOnes]
  have h2 := bvSplit (iI a).toBitVec (iI (2 ^ k.toNat)).toBitVec
  have h3 : iI a &&& ~~~ iI (2 ^ k.toNat) = iI a - (iI a &&& iI (2 ^ k.toNat)) := by
    apply Int32.toBitVec.inj
    show (iI a).toBitVec &&& ~~~ (iI (2 ^ k.toNat)).toBitVec = (iI a).toBitVec - ((iI a).toBitVec &&& (iI (2 ^ k.toNat)).toBitVec)
    exact (BitVec.eq_sub_iff_add_eq).mpr h2
  rw [h1, h3, and_k ha]
  exact (Int32.ofInt_sub _ _).symm
theorem set_k {a k : Int} (ha : 0 ≤ a) : iI a ||| iI (2 ^ k.toNat) = iI (bset a k) := by
  have h2 := bvOr (iI a).toBitVec (iI (2 ^ k.toNat)).toBitVec
  have h1 : iI (-1 - 2 ^ k.toNat) = ~~~ iI (2 ^ k.toNat) := by
    rw [← not_x]
    apply Int32.toBitVec.inj
    show _ ^^^ BitVec.ofInt 32 (-1) = ~~~ _
    rw [show BitVec.ofInt 32 (-1) = BitVec.allOnes 32 from by decide, BitVec.xor_allOnes]
  have h3 : iI a ||| iI (2 ^ k.toNat) = (iI a &&& iI (-1 - 2 ^ k.toNat)) + iI (2 ^ k.toNat) := by
    rw [h1]
    exact Int32.toBitVec.inj h2
  rw [h3, clr_k ha]
  exact (Int32.ofInt_add _ _).symm
theorem div_k {a b : Int} (ha : 0 ≤ a) (h2 : R32 a) (hb : 0 < b) (hb2 : R32 b) : iI a / iI b = iI (a / b) := by
  have h := Int32.ofInt_tdiv (a := a) (b := b) h2.1 (by have := h2.2; show a ≤ 2147483647; omega) hb2.1 (by have := hb2.2; show b ≤ 2147483647; omega)
  rw [Int.tdiv_eq_ediv_of_nonneg ha] at h
  exact h.symm
theorem rem_k {a b : Int} (ha : 0 ≤ a) (h2 : R32 a) (hb : 0 < b) (hb2 : R32 b) : iI a - iI a / iI b * iI b = iI (a % b) := by
  rw [div_k ha h2 hb hb2]
  show Int32.ofInt a - Int32.ofInt (a / b) * Int32.ofInt b = Int32.ofInt (a % b)
  rw [← Int32.ofInt_mul, ← Int32.ofInt_sub]
  congr 1
  have := Int.emod_add_mul_ediv a b
  rw [Int.mul_comm] at this
  omega
theorem iI_ne0 {b : Int} (hb : 0 < b) (hb2 : R32 b) : ¬ iI b = 0 := fun e => by have := iI_inj hb2 R32_0 e; omega
section XI
variable {g : xG} {M : xMeth} {Q : qP} {QX : qE} {rc rs : Nat} {h : hp} {pc : Nat} {ls : List (Option Value)} {st : List Value}
theorem x_idivI {a b : Int} (d : decode M.2.1 pc = .ok (.idiv, 1)) (ha : 0 ≤ a) (ha2 : R32 a) (hb : 0 < b) (hb2 : R32 b) (k : xW g M Q QX rc rs h (pc + 1) ls (.int (iI (a / b)) :: st)) : xW g M Q QX rc rs h pc ls (.int (iI b) :: .int (iI a) :: st) := x_idiv d (iI_ne0 hb hb2) (div_k ha ha2 hb hb2) k
theorem x_iremI {a b : Int} (d : decode M.2.1 pc = .ok (.irem, 1)) (ha : 0 ≤ a) (ha2 : R32 a) (hb : 0 < b) (hb2 : R32 b) (k : xW g M Q QX rc rs h (pc + 1) ls (.int (iI (a % b)) :: st)) : xW g M Q QX rc rs h pc ls (.int (iI b) :: .int (iI a) :: st) := x_irem d (iI_ne0 hb hb2) (rem_k ha ha2 hb hb2) k
theorem x_ishrI {a b : Int} (d : decode M.2.1 pc = .ok (.ishr, 1)) (ha : 0 ≤ a) (ha2 : a < 2147483648) (hb : 0 ≤ b) (hb2 : b < 32) (k : xW g M Q QX rc rs h (pc + 1) ls (.int (iI (a / 2 ^ b.toNat)) :: st)) : xW g M Q QX rc rs h pc ls (.int (iI b) :: .int (iI a) :: st) := x_ishr d (shr_k ha ha2 hb hb2) k
theorem x_ishl1 {b : Int} (d : decode M.2.1 pc = .ok (.ishl, 1)) (hb : 0 ≤ b) (hb2 : b < 31) (k : xW g M Q QX rc rs h (pc + 1) ls (.int (iI (2 ^ b.toNat)) :: st)) : xW g M Q QX rc rs h pc ls (.int (iI b) :: .int (iI 1) :: st) := x_ishl d (shl_1 hb hb2) k
theorem x_iand1 {a : Int} (d : decode M.2.1 pc = .ok (.iand, 1)) (ha : 0 ≤ a) (k : xW g M Q QX rc rs h (pc + 1) ls (.int (iI (a % 2)) :: st)) : xW g M Q QX rc rs h pc ls (.int (iI 1) :: .int (iI a) :: st) := x_iand d (and_1 ha) k
theorem x_inot {a : Int} (d : decode M.2.1 pc = .ok (.ixor, 1)) (k : xW g M Q QX rc rs h (pc + 1) ls (.int (iI (-1 - a)) :: st)) : xW g M Q QX rc rs h pc ls (.int (iI (-1)) :: .int (iI a) :: st) := x_ixor d (not_x a) k
theorem x_iandk {a b : Int} (d : decode M.2.1 pc = .ok (.iand, 1)) (ha : 0 ≤ a) (k : xW g M Q QX rc rs h (pc + 1) ls (.int (iI (bit a b * 2 ^ b.toNat)) :: st)) : xW g M Q QX rc rs h pc ls (.int (iI (2 ^ b.toNat)) :: .int (iI a) :: st) := x_iand d (and_k ha) k
theorem x_iandc {a b : Int} (d : decode M.2.1 pc = .ok (.iand, 1)) (ha : 0 ≤ a) (k : xW g M Q QX rc rs h (pc + 1) ls (.int (iI (bclr a b)) :: st)) : xW g M Q QX rc rs h pc ls (.int (iI (-1 - 2 ^ b.toNat)) :: .int (iI a) :: st) := x_iand d (clr_k ha) k
theorem x_iork {a b : Int} (d : decode M.2.1 pc = .ok (.ior, 1)) (ha : 0 ≤ a) (k : xW g M Q QX rc rs h (pc + 1) ls (.int (iI (bset a b)) :: st)) : xW g M Q QX rc rs h pc ls (.int (iI (2 ^ b.toNat)) :: .int (iI a) :: st) := x_ior d (set_k ha) k
end XI
end
section
/-! the reference: its cells as a grid S of integers: S k j is what its field k holds (a row's place j; 0 of a number) -/
abbrev gS : Type := Nat → Int → Int
def sset (S : gS) (k : Nat) (i v : Int) : gS := fun a j => if a = k ∧ j = i then v else S a j
theorem sset_n (S : gS) {k a : Nat} (i v : Int) (h : a ≠ k) : sset S k i v a = S a := by
  funext j
  unfold sset
  rw [if_neg (fun q => h q.1)]
theorem sset_s (S : gS) (k : Nat) (i v : Int) : sset S k i v k = fset (S k) i v := by
  funext j
  unfold sset fset
  by_cases q : j = i
  · rw [if_pos ⟨rfl, q⟩, if_pos q]
  · rw [if_neg (fun z => q z.2), if_neg q]
theorem sset_e (S : gS) (k : Nat) (i v : Int) : sset S k i v k i = v := by unfold sset; rw [if_pos ⟨rfl, rfl⟩]
def mlen (k : Nat) : Nat := if k = 1 then 1120 else if k = 2 then 35 else if k ≤ 5 then 10 else if k ≤ 10 then 8 else if k ≤ 18 then 25 else if k ≤ 22 then 20 else if k ≤ 25 then 32 else if k = 26 then 8 else 28
theorem mlen_lt (k : Nat) : mlen k < 2147483648 := by unfold mlen; (repeat' split) <;> omega
def misA (k : Nat) : Bool := decide (k < 28) && !(k == 0 || k == 3 || k == 6 || k == 11 || k == 23)
def marr (g : xG) (k : Nat) (f : Int → Int) : va_E := if k = 5 then zarr g 10 f else iarr g (mlen k) f
def mobj (tt : Int) (S : gS) (ad : Nat → Nat) : List Value := [.int (iI tt), .ref (ad 1), .ref (ad 2), .int (iI (S 3 0)), .ref (ad 4), .ref (ad 5), .int (iI (S 6 0)), .ref (ad 7), .ref (ad 8), .ref (ad 9), .ref (ad 10), .int (iI (S 11 0)), .ref (ad 12), .ref (ad 13), .ref (ad 14), .ref (ad 15), .ref (ad 16), .ref (ad 17), .ref (ad 18), .ref (ad 19), .ref (ad 20), .ref (ad 21), .ref (ad 22), .int (iI (S 23 0)), .ref (ad 24), .ref (ad 25), .ref (ad 26), .ref (ad 27)]
def mdl (g : xG) (x : Nat) (ad : Nat → Nat) (tt : Int) (S : gS) (h : hp) : Prop := h x = some (.inr (7, mobj tt S ad)) ∧ (∀ k, misA k = true → h (ad k) = some (marr g k (S k))) ∧ ∀ i j, misA i = true → misA j = true → ad i = ad j → i = j
def mfr (x : Nat) (ad : Nat → Nat) (h h' : hp) : Prop := ∀ a, a ≠ x → (∀ k, misA k = true → a ≠ ad k) → h' a = h a
theorem mfr.rfl {x : Nat} {ad : Nat → Nat} {h : hp} : mfr x ad h h := fun _ _ _ => Eq.refl _
theorem mfr.trans {x : Nat} {ad : Nat → Nat} {h h1 h2 : hp} (a : mfr x ad h h1) (b : mfr x ad h1 h2) : mfr x ad h h2 := fun q h3 h4 => (b q h3 h4).trans (a q h3 h4)
abbrev qS : Type := Option Value → Int → gS → Prop
def mQ (g : xG) (x : Nat) (ad : Nat → Nat) (h0 : hp) (Qm : qS) : qP := fun v h' => ∃ t' S', Qm v t' S' ∧ mdl g x ad t' S' h' ∧ mfr x ad h0 h'
abbrev mN : qE := fun _ _ => False
def mW (g : xG) (M : xMeth) (x : Nat) (ad : Nat → Nat) (h0 : hp) (Qm : qS) (tt : Int) (S : gS) (pc : Nat) (ls : List (Option Value)) (st : List Value) : Prop := ∀ h, mdl g x ad tt S h → mfr x ad h0 h → xW g M (mQ g x ad h0 Qm) mN 0 0 h pc ls st
def mM (g : xG) (y : MethodName) (wc : Cond) (N : xMeth) (x : Nat) (ad : Nat → Nat) (av : List Value) (tt : Int) (S : gS) (Qm : qS) : Prop := ∀ h, mdl g x ad tt S h → xM g y wc N (.ref x :: av) h (mQ g x ad h Qm) mN
def sM (g : xG) (y : MethodName) (wc : Cond) (N : xMeth) (av : List Value) (Qs : Option Value → Prop) : Prop := ∀ h, xM g y wc N av h (fun v h' => Qs v ∧ h' = h) mN
section XMD
variable {g : xG} {M N : xMeth} {x0 : Nat} {ad : Nat → Nat} {h0 : hp} {Qm Qm' : qS} {tt : Int} {S : gS} {pc : Nat} {ls : List (Option Value)} {st : List Value}
theorem mdl.ne {h : hp} (hm : mdl g x0 ad tt S h) {k : Nat} (hk : misA k = true) : x0 ≠ ad k := by
  intro e
  have h1 := hm.1
  rw [e, hm.2.1 k hk] at h1
  unfold marr at h1
  split at h1 <;> cases h1
theorem mdl.set {h : hp} (hm : mdl g x0 ad tt S h) {k : Nat} (hk : misA k = true) (i v : Int) : mdl g x0 ad tt (sset S k i v) (hset h (ad k) (marr g k (fset (S k) i v))) := by
  refine ⟨?_, fun j hj => ?_, hm.2.2⟩
  · rw [hset_n _ _ (hm.ne hk), hm.1]
    have hs : ∀ q, q ≠ k → sset S k i v q = S q := fun q hq => sset_n S i v hq
    have h5 : ∀ q, misA q = false → q ≠ k := fun q hq e => by rw [e, hk] at hq; cases hq
    unfold mobj
    rw [hs 3 (h5 3 rfl), hs 6 (h5 6 rfl), hs 11 (h5 11 rfl), hs 23 (h5 23 rfl)]
  · by_cases hjk : j = k
    · subst hjk
      rw [hset_s, sset_s]
    · rw [hset_n _ _ (fun e => hjk (hm.2.2 j k hj hk e)), hm.2.1 j hj, sset_n S i v hjk]
theorem mfr.set {h : hp} (hf : mfr x0 ad h0 h) {k : Nat} (hk : misA k = true) (e : va_E) : mfr x0 ad h0 (hset h (ad k) e) := fun q h1 h2 => (hset_n h e (h2 k hk)).trans (hf q h1 h2)
theorem m_ald {k : Nat} {i : Int} (n : Nat) (hk : misA k = true) (h5 : k ≠ 5) (hlen : mlen k = n) (d : decode M.2.1 pc = .ok (.iaload, 1)) (hi0 : 0 ≤ i) (hi1 : i < n) (kk : mW g M x0 ad h0 Qm tt S (pc + 1) ls (.int (iI (S k i)) :: st)) : mW g M x0 ad h0 Qm tt S pc ls (.int (iI i) :: .ref (ad k) :: st) := fun h hm hf => x_iald (n := mlen k) (f := S k) d (by rw [hm.2.1 k hk]; unfold marr; rw [if_neg h5]) (mlen_lt k) hi0 (by rw [hlen]; exact hi1) (kk h hm hf)
theorem m_aldv {k : Nat} {i : Int} (n : Nat) (hk : misA k = true) (h5 : k ≠ 5) (hlen : mlen k = n) (v : Int) (hv : S k i = v) (d : decode M.2.1 pc = .ok (.iaload, 1)) (hi0 : 0 ≤ i) (hi1 : i < n) (kk : mW g M x0 ad h0 Qm tt S (pc + 1) ls (.int (iI v) :: st)) : mW g M x0 ad h0 Qm tt S pc ls (.int (iI i) :: .ref (ad k) :: st) := m_ald n hk h5 hlen d hi0 hi1 (by rw [hv]; exact kk)
theorem m_zld {i : Int} (d : decode M.2.1 pc = .ok (.baload, 1)) (hi0 : 0 ≤ i) (hi1 : i < 10) (kk : mW g M x0 ad h0 Qm tt S (pc + 1) ls (.int (iI (S 5 i)) :: st)) : mW g M x0 ad h0 Qm tt S pc ls (.int (iI i) :: .ref (ad 5) :: st) := fun h hm hf => x_zald (n := 10) (f := S 5) d (by rw [hm.2.1 5 rfl]; rfl) (by omega) hi0 hi1 (kk h hm hf)
theorem m_ast {k : Nat} {i v : Int} (n : Nat) (hk : misA k = true) (h5 : k ≠ 5) (hlen : mlen k = n) (d : decode M.2.1 pc = .ok (.iastore, 1)) (hi0 : 0 ≤ i) (hi1 : i < n) (kk : mW g M x0 ad h0 Qm tt (sset S k i v) (pc + 1) ls st) : mW g M x0 ad h0 Qm tt S pc ls (.int (iI v) :: .int (iI i) :: .ref (ad k) :: st) := fun h hm hf => x_iast (n := mlen k) (f := S k) d (by rw [hm.2.1 k hk]; unfold marr; rw [if_neg h5]) (mlen_lt k) hi0 (by rw [hlen]; exact hi1) (by
  have e : marr g k (fset (S k) i v) = iarr g (mlen k) (fset (S k) i v) := by unfold marr; rw [if_neg h5]
  rw [← e]
  exact kk _ (hm.set hk i v) (hf.set hk _))
theorem m_zst {i v : Int} (d : decode M.2.1 pc = .ok (.bastore, 1)) (hi0 : 0 ≤ i) (hi1 : i < 10) (hv : v = 0 ∨ v = 1) (kk : mW g M x0 ad h0 Qm tt (sset S 5 i v) (pc + 1) ls st) : mW g M x0 ad h0 Qm tt S pc ls (.int (iI v) :: .int (iI i) :: .ref (ad 5) :: st) := fun h hm hf => x_zast (n := 10) (f := S 5) d (by rw [hm.2.1 5 rfl]; rfl) (by omega) hi0 hi1 hv (kk _ (hm.set (k := 5) rfl i v) (hf.set (k := 5) rfl _))
theorem m_getf {index k : Nat} {v : Value} (d : decode M.2.1 pc = .ok (.getfield index, 3)) (hM : M.1 = "ContainerHostModel") (hin : ∀ w ∈ u_ws RX7 TX7 28, w ∈ lw_tbl) (hk : k < 28) (hl : Cond.fieldLink "ContainerHostModel" index "ContainerHostModel" (TX7 k).2.1 (TX7 k).2.2.1 ∈ lw_tbl) (hd : (TX7 k).1 = "ContainerHostModel") (hv : (mobj tt S ad)[k]? = some v) (kk : mW g M x0 ad h0 Qm tt S (pc + 3) ls (v :: st)) : mW g M x0 ad h0 Qm tt S pc ls (.ref x0 :: st) :=
  fun h hm hf => x_get (ci := 7) (ref := "ContainerHostModel") d hin rfl hk (by rw [hM]; exact hl) (Or.inl hd.symm) hm.1 hv (kk h hm hf)
theorem m_putf {index k : Nat} {v : Int} (d : decode M.2.1 pc = .ok (.putfield index, 3)) (hM : M.1 = "ContainerHostModel") (hin : ∀ w ∈ u_ws RX7 TX7 28, w ∈ lw_tbl) (hk : k < 28) (hl : Cond.fieldLink "ContainerHostModel" index "ContainerHostModel" (TX7 k).2.1 (TX7 k).2.2.1 ∈ lw_tbl) (hd : (TX7 k).1 = "ContainerHostModel") (hA : misA k = false) (hfin : (TX7 k).2.2.2 = false) (hty : tyX7 k = .int) (hset : (mobj tt S ad).set k (.int (iI v)) = mobj tt (sset S k 0 v) ad) (kk : mW g M x0 ad h0 Qm tt (sset S k 0 v) (pc + 3) ls st) : mW g M x0 ad h0 Qm tt S pc ls (.int (iI v) :: .ref x0 :: st) := by
  intro h hm hf
  refine x_put (ci := 7) (ref := "ContainerHostModel") d hin tyX7_ok nmX7 rfl hk (by rw [hM]; exact hl) (Or.inl hd.symm) hfin (by rw [hty]; rfl) (by rw [hty]; rfl) hm.1 hk ?_
  rw [hset]
  refine kk _ ⟨hset_s _ _ _, fun j hj => ?_, hm.2.2⟩ (fun q h1 h2 => (hset_n h _ h1).trans (hf q h1 h2))
  rw [hset_n _ _ (fun e => hm.ne hj e.symm), hm.2.1 j hj, sset_n S 0 v (fun e => by rw [e, hA] at hj; cases hj)]
theorem m_put0 {index : Nat} {v : Int} (d : decode M.2.1 pc = .ok (.putfield index, 3)) (hM : M.1 = "ContainerHostModel") (hin : ∀ w ∈ u_ws RX7 TX7 28, w ∈ lw_tbl) (hl : Cond.fieldLink "ContainerHostModel" index "ContainerHostModel" "thrown" "I" ∈ lw_tbl) (kk : mW g M x0 ad h0 Qm v S (pc + 3) ls st) : mW g M x0 ad h0 Qm tt S pc ls (.int (iI v) :: .ref x0 :: st) := by
  intro h hm hf
  refine x_put (ci := 7) (ref := "ContainerHostModel") (k := 0) d hin tyX7_ok nmX7 rfl (by decide) (by rw [hM]; exact hl) (Or.inl rfl) rfl rfl rfl hm.1 (Nat.le_of_ble_eq_true rfl) ?_
  refine kk _ ⟨hset_s _ _ _, fun j hj => ?_, hm.2.2⟩ (fun q h1 h2 => (hset_n h _ h1).trans (hf q h1 h2))
  rw [hset_n _ _ (fun e => hm.ne hj e.symm), hm.2.1 j hj]
theorem m_callV {y : MethodName} {wc : Cond} {index n : Nat} {As stk : List Value} (d : decode M.2.1 pc = .ok (.invokevirtual index, 3)) (hc : callOk M N y wc index n) (hi : Cond.instanceMethod y ∈ lw_tbl) (hs : Cond.selects y.cls y y ∈ lw_tbl) (hy : y.cls = "ContainerHostModel") (hM : mM g y wc N x0 ad As tt S Qm') (hn : As.length = n) (hstk : stk = As.reverse ++ .ref x0 :: st) (hcat : (st.map fun v => v.category).sum ≤ 8) (hh0 : M.2.2.2.2.2.1 = []) (e1 : N.2.2.2.2.2.2.cells = 0) (e2 : N.2.2.2.2.2.2.slots = 0)
    (kr : ∀ v t' S', Qm' v t' S' → mW g M x0 ad h0 Qm t' S' (pc + 3) ls (v.toList ++ st)) : mW g M x0 ad h0 Qm tt S pc ls stk :=
  fun h hm hf => x_callV (rc' := 0) (rs' := 0) (ci := 7) (r := (RX7, TX7, 28)) d hc hi hs (hM h hm) hm.1 rfl hy.symm hn hstk hcat hh0 (by omega) (by omega) (fun _ _ z => z.elim) (fun v h' ⟨t', S', q1, q2, q3⟩ => kr v t' S' q1 h' q2 (hf.trans q3))
theorem m_callS {y : MethodName} {wc : Cond} {index n : Nat} {As stk : List Value} {Qs : Option Value → Prop} (d : decode M.2.1 pc = .ok (.invokestatic index, 3)) (hc : callOk M N y wc index n) (hs : Cond.static y ∈ lw_tbl) (hM : sM g y wc N As Qs) (hn : As.length = n) (hstk : stk = As.reverse ++ st) (hcat : (st.map fun v => v.category).sum ≤ 8) (hh0 : M.2.2.2.2.2.1 = []) (e1 : N.2.2.2.2.2.2.cells = 0) (e2 : N.2.2.2.2.2.2.slots = 0)
    (kr : ∀ v, Qs v → mW g M x0 ad h0 Qm tt S (pc + 3) ls (v.toList ++ st)) : mW g M x0 ad h0 Qm tt S pc ls stk :=
  fun h hm hf => x_callS (rc' := 0) (rs' := 0) d hc hs (hM h) hn hstk hcat hh0 (by omega) (by omega) (fun _ _ z => z.elim) (fun v h' ⟨q1, q2⟩ => by rw [q2]; exact kr v q1 h hm hf)
theorem m_iret {v : Int32} (hr : M.2.2.2.1 = some .int) (d : decode M.2.1 pc = .ok (.ireturn, 1)) (hq : Qm (some (.int v)) tt S) : mW g M x0 ad h0 Qm tt S pc ls [.int v] := fun h hm hf => x_iret hr d ⟨tt, S, hq, hm, hf⟩
theorem m_zret {b : Int} (hr : M.2.2.2.1 = some .boolean) (d : decode M.2.1 pc = .ok (.ireturn, 1)) (hb : b = 0 ∨ b = 1) (hq : Qm (some (.int (iI b))) tt S) : mW g M x0 ad h0 Qm tt S pc ls [.int (iI b)] := fun h hm hf => x_zret hr hb d ⟨tt, S, hq, hm, hf⟩
theorem m_vret (hr : M.2.2.2.1 = none) (d : decode M.2.1 pc = .ok (.return_, 1)) (hq : Qm none tt S) : mW g M x0 ad h0 Qm tt S pc ls [] := fun h hm hf => x_vret hr d ⟨tt, S, hq, hm, hf⟩
theorem mM.of {y : MethodName} {wc : Cond} {av : List Value} (hwc : wc = Cond.code y M.2.1 M.2.2.1 M.2.2.2.1) (hy : plainName y.cls = true) (hcl : y.cls = M.1) (hnm : y.name = M.2.2.2.2.1) (hh : M.2.2.2.2.2.1 = []) (hv : ∀ v ∈ av, v.category = 1) (hn : av.length + 1 ≤ M.2.2.1) (hls : some (Value.ref x0) :: (av.map some ++ List.replicate (M.2.2.1 - (av.length + 1)) none) = ls) (body : ∀ h0, mW g M x0 ad h0 Qm tt S 0 ls []) : mM g y wc M x0 ad av tt S Qm := by
  intro h hm
  refine xM.of hwc hy hcl hnm hh (fun v hv' => ?_) hn hls ((body h h hm mfr.rfl).mono (Nat.zero_le _) (Nat.zero_le _))
  rcases List.mem_cons.mp hv' with rfl | q
  · rfl
  · exact hv v q
theorem sM.of {y : MethodName} {wc : Cond} {av : List Value} {Qs : Option Value → Prop} (hwc : wc = Cond.code y M.2.1 M.2.2.1 M.2.2.2.1) (hy : plainName y.cls = true) (hcl : y.cls = M.1) (hnm : y.name = M.2.2.2.2.1) (hh : M.2.2.2.2.2.1 = []) (hv : ∀ v ∈ av, v.category = 1) (hn : av.length ≤ M.2.2.1) (hls : av.map some ++ List.replicate (M.2.2.1 - av.length) none = ls) (body : ∀ h, xW g M (fun v h' => Qs v ∧ h' = h) mN 0 0 h 0 ls []) : sM g y wc M av Qs := fun h => xM.of hwc hy hcl hnm hh hv hn hls ((body h).mono (Nat.zero_le _) (Nat.zero_le _))
theorem m_iconst {n : Int} (d : decode M.2.1 pc = .ok (.iconst n, 1)) (k : mW g M x0 ad h0 Qm tt S (pc + 1) ls (.int (iI n) :: st)) : mW g M x0 ad h0 Qm tt S pc ls (st) := fun h hm hf => x_iconst d (k h hm hf)
theorem m_bipush {n : Int} (d : decode M.2.1 pc = .ok (.bipush n, 2)) (hv : (Int8.ofInt n).toInt32 = iI n) (k : mW g M x0 ad h0 Qm tt S (pc + 2) ls (.int (iI n) :: st)) : mW g M x0 ad h0 Qm tt S pc ls (st) := fun h hm hf => x_bipush d hv (k h hm hf)
theorem m_sipush {n : Int} (d : decode M.2.1 pc = .ok (.sipush n, 3)) (hv : (Int16.ofInt n).toInt32 = iI n) (k : mW g M x0 ad h0 Qm tt S (pc + 3) ls (.int (iI n) :: st)) : mW g M x0 ad h0 Qm tt S pc ls (st) := fun h hm hf => x_sipush d hv (k h hm hf)
theorem m_null (d : decode M.2.1 pc = .ok (.aconst_null, 1)) (k : mW g M x0 ad h0 Qm tt S (pc + 1) ls (.null :: st)) : mW g M x0 ad h0 Qm tt S pc ls (st) := fun h hm hf => x_null d (k h hm hf)
theorem m_iload_n {n : Fin 4} {x : Int32} (d : decode M.2.1 pc = .ok (.iload_n n, 1)) (hx : ls[(n : Nat)]? = some (some (.int x))) (k : mW g M x0 ad h0 Qm tt S (pc + 1) ls (.int x :: st)) : mW g M x0 ad h0 Qm tt S pc ls (st) := fun h hm hf => x_iload_n d hx (k h hm hf)
theorem m_iload {n : Nat} {x : Int32} (d : decode M.2.1 pc = .ok (.iload n, 2)) (hx : ls[n]? = some (some (.int x))) (k : mW g M x0 ad h0 Qm tt S (pc + 2) ls (.int x :: st)) : mW g M x0 ad h0 Qm tt S pc ls (st) := fun h hm hf => x_iload d hx (k h hm hf)
theorem m_aload_n {n : Fin 4} {x : Nat} (d : decode M.2.1 pc = .ok (.aload_n n, 1)) (hx : ls[(n : Nat)]? = some (some (.ref x))) (k : mW g M x0 ad h0 Qm tt S (pc + 1) ls (.ref x :: st)) : mW g M x0 ad h0 Qm tt S pc ls (st) := fun h hm hf => x_aload_n d hx (k h hm hf)
theorem m_aload {n : Nat} {x : Nat} (d : decode M.2.1 pc = .ok (.aload n, 2)) (hx : ls[n]? = some (some (.ref x))) (k : mW g M x0 ad h0 Qm tt S (pc + 2) ls (.ref x :: st)) : mW g M x0 ad h0 Qm tt S pc ls (st) := fun h hm hf => x_aload d hx (k h hm hf)
theorem m_aload_nN {n : Fin 4} (d : decode M.2.1 pc = .ok (.aload_n n, 1)) (hx : ls[(n : Nat)]? = some (some .null)) (k : mW g M x0 ad h0 Qm tt S (pc + 1) ls (.null :: st)) : mW g M x0 ad h0 Qm tt S pc ls (st) := fun h hm hf => x_aload_nN d hx (k h hm hf)
theorem m_aloadN {n : Nat} (d : decode M.2.1 pc = .ok (.aload n, 2)) (hx : ls[n]? = some (some .null)) (k : mW g M x0 ad h0 Qm tt S (pc + 2) ls (.null :: st)) : mW g M x0 ad h0 Qm tt S pc ls (st) := fun h hm hf => x_aloadN d hx (k h hm hf)
theorem m_iadd {a b : Int} (d : decode M.2.1 pc = .ok (.iadd, 1)) (k : mW g M x0 ad h0 Qm tt S (pc + 1) ls (.int (iI (a + b)) :: st)) : mW g M x0 ad h0 Qm tt S pc ls (.int (iI b) :: .int (iI a) :: st) := fun h hm hf => x_iadd d (k h hm hf)
theorem m_isub {a b : Int} (d : decode M.2.1 pc = .ok (.isub, 1)) (k : mW g M x0 ad h0 Qm tt S (pc + 1) ls (.int (iI (a - b)) :: st)) : mW g M x0 ad h0 Qm tt S pc ls (.int (iI b) :: .int (iI a) :: st) := fun h hm hf => x_isub d (k h hm hf)
theorem m_imul {a b : Int} (d : decode M.2.1 pc = .ok (.imul, 1)) (k : mW g M x0 ad h0 Qm tt S (pc + 1) ls (.int (iI (a * b)) :: st)) : mW g M x0 ad h0 Qm tt S pc ls (.int (iI b) :: .int (iI a) :: st) := fun h hm hf => x_imul d (k h hm hf)
theorem m_ineg {a : Int} (d : decode M.2.1 pc = .ok (.ineg, 1)) (k : mW g M x0 ad h0 Qm tt S (pc + 1) ls (.int (iI (-a)) :: st)) : mW g M x0 ad h0 Qm tt S pc ls (.int (iI a) :: st) := fun h hm hf => x_ineg d (k h hm hf)
theorem m_iand {x y v : Int32} (d : decode M.2.1 pc = .ok (.iand, 1)) (hv : x &&& y = v) (k : mW g M x0 ad h0 Qm tt S (pc + 1) ls (.int v :: st)) : mW g M x0 ad h0 Qm tt S pc ls (.int y :: .int x :: st) := fun h hm hf => x_iand d hv (k h hm hf)
theorem m_ior {x y v : Int32} (d : decode M.2.1 pc = .ok (.ior, 1)) (hv : x ||| y = v) (k : mW g M x0 ad h0 Qm tt S (pc + 1) ls (.int v :: st)) : mW g M x0 ad h0 Qm tt S pc ls (.int y :: .int x :: st) := fun h hm hf => x_ior d hv (k h hm hf)
theorem m_ixor {x y v : Int32} (d : decode M.2.1 pc = .ok (.ixor, 1)) (hv : x ^^^ y = v) (k : mW g M x0 ad h0 Qm tt S (pc + 1) ls (.int v :: st)) : mW g M x0 ad h0 Qm tt S pc ls (.int y :: .int x :: st) := fun h hm hf => x_ixor d hv (k h hm hf)
theorem m_ishl {x y v : Int32} (d : decode M.2.1 pc = .ok (.ishl, 1)) (hv : x <<< (y &&& 31) = v) (k : mW g M x0 ad h0 Qm tt S (pc + 1) ls (.int v :: st)) : mW g M x0 ad h0 Qm tt S pc ls (.int y :: .int x :: st) := fun h hm hf => x_ishl d hv (k h hm hf)
theorem m_ishr {x y v : Int32} (d : decode M.2.1 pc = .ok (.ishr, 1)) (hv : x >>> (y &&& 31) = v) (k : mW g M x0 ad h0 Qm tt S (pc + 1) ls (.int v :: st)) : mW g M x0 ad h0 Qm tt S pc ls (.int y :: .int x :: st) := fun h hm hf => x_ishr d hv (k h hm hf)
theorem m_iushr {x y v : Int32} (d : decode M.2.1 pc = .ok (.iushr, 1)) (hv : (x.toUInt32 >>> (y.toUInt32 &&& Int32.toUInt32 31)).toInt32 = v) (k : mW g M x0 ad h0 Qm tt S (pc + 1) ls (.int v :: st)) : mW g M x0 ad h0 Qm tt S pc ls (.int y :: .int x :: st) := fun h hm hf => x_iushr d hv (k h hm hf)
theorem m_idiv {x y v : Int32} (d : decode M.2.1 pc = .ok (.idiv, 1)) (hy : ¬ y = 0) (hv : x / y = v) (k : mW g M x0 ad h0 Qm tt S (pc + 1) ls (.int v :: st)) : mW g M x0 ad h0 Qm tt S pc ls (.int y :: .int x :: st) := fun h hm hf => x_idiv d hy hv (k h hm hf)
theorem m_irem {x y v : Int32} (d : decode M.2.1 pc = .ok (.irem, 1)) (hy : ¬ y = 0) (hv : x - x / y * y = v) (k : mW g M x0 ad h0 Qm tt S (pc + 1) ls (.int v :: st)) : mW g M x0 ad h0 Qm tt S pc ls (.int y :: .int x :: st) := fun h hm hf => x_irem d hy hv (k h hm hf)
theorem m_i2l {x : Int32} (d : decode M.2.1 pc = .ok (.i2l, 1)) (k : mW g M x0 ad h0 Qm tt S (pc + 1) ls (.long x.toInt64 :: st)) : mW g M x0 ad h0 Qm tt S pc ls (.int x :: st) := fun h hm hf => x_i2l d (k h hm hf)
theorem m_lcmp {x y : Int64} (d : decode M.2.1 pc = .ok (.lcmp, 1)) (k : mW g M x0 ad h0 Qm tt S (pc + 1) ls (.int (lg_cmp x y) :: st)) : mW g M x0 ad h0 Qm tt S pc ls (.long y :: .long x :: st) := fun h hm hf => x_lcmp d (k h hm hf)
theorem m_dup {v : Value} (d : decode M.2.1 pc = .ok (.dup, 1)) (hv : v.category = 1) (k : mW g M x0 ad h0 Qm tt S (pc + 1) ls (v :: v :: st)) : mW g M x0 ad h0 Qm tt S pc ls (v :: st) := fun h hm hf => x_dup d hv (k h hm hf)
theorem m_pop {v : Value} (d : decode M.2.1 pc = .ok (.pop, 1)) (hv : v.category = 1) (k : mW g M x0 ad h0 Qm tt S (pc + 1) ls st) : mW g M x0 ad h0 Qm tt S pc ls (v :: st) := fun h hm hf => x_pop d hv (k h hm hf)
theorem m_dup_x1 {v w : Value} (d : decode M.2.1 pc = .ok (.dup_x1, 1)) (hv : v.category = 1) (hw : w.category = 1) (k : mW g M x0 ad h0 Qm tt S (pc + 1) ls (v :: w :: v :: st)) : mW g M x0 ad h0 Qm tt S pc ls (v :: w :: st) := fun h hm hf => x_dup_x1 d hv hw (k h hm hf)
theorem m_dup2 {v w : Value} (d : decode M.2.1 pc = .ok (.dup2, 1)) (hv : v.category = 1) (hw : w.category = 1) (k : mW g M x0 ad h0 Qm tt S (pc + 1) ls (v :: w :: v :: w :: st)) : mW g M x0 ad h0 Qm tt S pc ls (v :: w :: st) := fun h hm hf => x_dup2 d hv hw (k h hm hf)
theorem m_icmp_eq {a b : Int} {off : Int} {tgt : Nat} (d : decode M.2.1 pc = .ok (.if_icmp .eq off, 3)) (ht : (pc : Int) + off = (tgt : Int)) (ha : R32 a) (hb : R32 b) (kt : a = b → mW g M x0 ad h0 Qm tt S tgt ls st) (kf : ¬ a = b → mW g M x0 ad h0 Qm tt S (pc + 3) ls st) : mW g M x0 ad h0 Qm tt S pc ls (.int (iI b) :: .int (iI a) :: st) := fun h hm hf => x_icmp_eq d ht ha hb (fun z => kt z h hm hf) (fun z => kf z h hm hf)
theorem m_if_eq {a : Int} {off : Int} {tgt : Nat} (d : decode M.2.1 pc = .ok (.ifCond .eq off, 3)) (ht : (pc : Int) + off = (tgt : Int)) (ha : R32 a) (kt : a = 0 → mW g M x0 ad h0 Qm tt S tgt ls st) (kf : ¬ a = 0 → mW g M x0 ad h0 Qm tt S (pc + 3) ls st) : mW g M x0 ad h0 Qm tt S pc ls (.int (iI a) :: st) := fun h hm hf => x_if_eq d ht ha (fun z => kt z h hm hf) (fun z => kf z h hm hf)
theorem m_icmp_ne {a b : Int} {off : Int} {tgt : Nat} (d : decode M.2.1 pc = .ok (.if_icmp .ne off, 3)) (ht : (pc : Int) + off = (tgt : Int)) (ha : R32 a) (hb : R32 b) (kt : ¬ a = b → mW g M x0 ad h0 Qm tt S tgt ls st) (kf : a = b → mW g M x0 ad h0 Qm tt S (pc + 3) ls st) : mW g M x0 ad h0 Qm tt S pc ls (.int (iI b) :: .int (iI a) :: st) := fun h hm hf => x_icmp_ne d ht ha hb (fun z => kt z h hm hf) (fun z => kf z h hm hf)
theorem m_if_ne {a : Int} {off : Int} {tgt : Nat} (d : decode M.2.1 pc = .ok (.ifCond .ne off, 3)) (ht : (pc : Int) + off = (tgt : Int)) (ha : R32 a) (kt : ¬ a = 0 → mW g M x0 ad h0 Qm tt S tgt ls st) (kf : a = 0 → mW g M x0 ad h0 Qm tt S (pc + 3) ls st) : mW g M x0 ad h0 Qm tt S pc ls (.int (iI a) :: st) := fun h hm hf => x_if_ne d ht ha (fun z => kt z h hm hf) (fun z => kf z h hm hf)
theorem m_icmp_lt {a b : Int} {off : Int} {tgt : Nat} (d : decode M.2.1 pc = .ok (.if_icmp .lt off, 3)) (ht : (pc : Int) + off = (tgt : Int)) (ha : R32 a) (hb : R32 b) (kt : a < b → mW g M x0 ad h0 Qm tt S tgt ls st) (kf : ¬ a < b → mW g M x0 ad h0 Qm tt S (pc + 3) ls st) : mW g M x0 ad h0 Qm tt S pc ls (.int (iI b) :: .int (iI a) :: st) := fun h hm hf => x_icmp_lt d ht ha hb (fun z => kt z h hm hf) (fun z => kf z h hm hf)
theorem m_if_lt {a : Int} {off : Int} {tgt : Nat} (d : decode M.2.1 pc = .ok (.ifCond .lt off, 3)) (ht : (pc : Int) + off = (tgt : Int)) (ha : R32 a) (kt : a < 0 → mW g M x0 ad h0 Qm tt S tgt ls st) (kf : ¬ a < 0 → mW g M x0 ad h0 Qm tt S (pc + 3) ls st) : mW g M x0 ad h0 Qm tt S pc ls (.int (iI a) :: st) := fun h hm hf => x_if_lt d ht ha (fun z => kt z h hm hf) (fun z => kf z h hm hf)
theorem m_icmp_ge {a b : Int} {off : Int} {tgt : Nat} (d : decode M.2.1 pc = .ok (.if_icmp .ge off, 3)) (ht : (pc : Int) + off = (tgt : Int)) (ha : R32 a) (hb : R32 b) (kt : b ≤ a → mW g M x0 ad h0 Qm tt S tgt ls st) (kf : ¬ b ≤ a → mW g M x0 ad h0 Qm tt S (pc + 3) ls st) : mW g M x0 ad h0 Qm tt S pc ls (.int (iI b) :: .int (iI a) :: st) := fun h hm hf => x_icmp_ge d ht ha hb (fun z => kt z h hm hf) (fun z => kf z h hm hf)
theorem m_if_ge {a : Int} {off : Int} {tgt : Nat} (d : decode M.2.1 pc = .ok (.ifCond .ge off, 3)) (ht : (pc : Int) + off = (tgt : Int)) (ha : R32 a) (kt : 0 ≤ a → mW g M x0 ad h0 Qm tt S tgt ls st) (kf : ¬ 0 ≤ a → mW g M x0 ad h0 Qm tt S (pc + 3) ls st) : mW g M x0 ad h0 Qm tt S pc ls (.int (iI a) :: st) := fun h hm hf => x_if_ge d ht ha (fun z => kt z h hm hf) (fun z => kf z h hm hf)
theorem m_icmp_gt {a b : Int} {off : Int} {tgt : Nat} (d : decode M.2.1 pc = .ok (.if_icmp .gt off, 3)) (ht : (pc : Int) + off = (tgt : Int)) (ha : R32 a) (hb : R32 b) (kt : b < a → mW g M x0 ad h0 Qm tt S tgt ls st) (kf : ¬ b < a → mW g M x0 ad h0 Qm tt S (pc + 3) ls st) : mW g M x0 ad h0 Qm tt S pc ls (.int (iI b) :: .int (iI a) :: st) := fun h hm hf => x_icmp_gt d ht ha hb (fun z => kt z h hm hf) (fun z => kf z h hm hf)
theorem m_if_gt {a : Int} {off : Int} {tgt : Nat} (d : decode M.2.1 pc = .ok (.ifCond .gt off, 3)) (ht : (pc : Int) + off = (tgt : Int)) (ha : R32 a) (kt : 0 < a → mW g M x0 ad h0 Qm tt S tgt ls st) (kf : ¬ 0 < a → mW g M x0 ad h0 Qm tt S (pc + 3) ls st) : mW g M x0 ad h0 Qm tt S pc ls (.int (iI a) :: st) := fun h hm hf => x_if_gt d ht ha (fun z => kt z h hm hf) (fun z => kf z h hm hf)
theorem m_icmp_le {a b : Int} {off : Int} {tgt : Nat} (d : decode M.2.1 pc = .ok (.if_icmp .le off, 3)) (ht : (pc : Int) + off = (tgt : Int)) (ha : R32 a) (hb : R32 b) (kt : a ≤ b → mW g M x0 ad h0 Qm tt S tgt ls st) (kf : ¬ a ≤ b → mW g M x0 ad h0 Qm tt S (pc + 3) ls st) : mW g M x0 ad h0 Qm tt S pc ls (.int (iI b) :: .int (iI a) :: st) := fun h hm hf => x_icmp_le d ht ha hb (fun z => kt z h hm hf) (fun z => kf z h hm hf)
theorem m_if_le {a : Int} {off : Int} {tgt : Nat} (d : decode M.2.1 pc = .ok (.ifCond .le off, 3)) (ht : (pc : Int) + off = (tgt : Int)) (ha : R32 a) (kt : a ≤ 0 → mW g M x0 ad h0 Qm tt S tgt ls st) (kf : ¬ a ≤ 0 → mW g M x0 ad h0 Qm tt S (pc + 3) ls st) : mW g M x0 ad h0 Qm tt S pc ls (.int (iI a) :: st) := fun h hm hf => x_if_le d ht ha (fun z => kt z h hm hf) (fun z => kf z h hm hf)
theorem m_goto {off : Int} {tgt : Nat} (d : decode M.2.1 pc = .ok (.goto off, 3)) (ht : (pc : Int) + off = (tgt : Int)) (k : mW g M x0 ad h0 Qm tt S tgt ls st) : mW g M x0 ad h0 Qm tt S pc ls st := fun h hm hf => x_goto d ht (k h hm hf)
theorem m_ifnull {x : Nat} {off : Int} (d : decode M.2.1 pc = .ok (.ifnull off, 3)) (k : mW g M x0 ad h0 Qm tt S (pc + 3) ls st) : mW g M x0 ad h0 Qm tt S pc ls (.ref x :: st) := fun h hm hf => x_ifnull d (k h hm hf)
theorem m_ifnullN {off : Int} {tgt : Nat} (d : decode M.2.1 pc = .ok (.ifnull off, 3)) (ht : (pc : Int) + off = (tgt : Int)) (k : mW g M x0 ad h0 Qm tt S tgt ls st) : mW g M x0 ad h0 Qm tt S pc ls (.null :: st) := fun h hm hf => x_ifnullN d ht (k h hm hf)
theorem m_ifnonnull {x : Nat} {off : Int} {tgt : Nat} (d : decode M.2.1 pc = .ok (.ifnonnull off, 3)) (ht : (pc : Int) + off = (tgt : Int)) (k : mW g M x0 ad h0 Qm tt S tgt ls st) : mW g M x0 ad h0 Qm tt S pc ls (.ref x :: st) := fun h hm hf => x_ifnonnull d ht (k h hm hf)
theorem m_ifnonnullN {off : Int} (d : decode M.2.1 pc = .ok (.ifnonnull off, 3)) (k : mW g M x0 ad h0 Qm tt S (pc + 3) ls st) : mW g M x0 ad h0 Qm tt S pc ls (.null :: st) := fun h hm hf => x_ifnonnullN d (k h hm hf)
theorem m_acmp_eq {rx ry : Option Nat} {vx vy : Value} {off : Int} {tgt : Nat} (d : decode M.2.1 pc = .ok (.if_acmp .eq off, 3)) (ht : (pc : Int) + off = (tgt : Int)) (ex : vx = va_rf rx) (ey : vy = va_rf ry) (kt : rx = ry → mW g M x0 ad h0 Qm tt S tgt ls st) (kf : ¬ rx = ry → mW g M x0 ad h0 Qm tt S (pc + 3) ls st) : mW g M x0 ad h0 Qm tt S pc ls (vy :: vx :: st) := fun h hm hf => x_acmp_eq d ht ex ey (fun z => kt z h hm hf) (fun z => kf z h hm hf)
theorem m_acmp_ne {rx ry : Option Nat} {vx vy : Value} {off : Int} {tgt : Nat} (d : decode M.2.1 pc = .ok (.if_acmp .ne off, 3)) (ht : (pc : Int) + off = (tgt : Int)) (ex : vx = va_rf rx) (ey : vy = va_rf ry) (kt : ¬ rx = ry → mW g M x0 ad h0 Qm tt S tgt ls st) (kf : rx = ry → mW g M x0 ad h0 Qm tt S (pc + 3) ls st) : mW g M x0 ad h0 Qm tt S pc ls (vy :: vx :: st) := fun h hm hf => x_acmp_ne d ht ex ey (fun z => kt z h hm hf) (fun z => kf z h hm hf)
theorem m_istore_n {n : Fin 4} {x : Int32} (d : decode M.2.1 pc = .ok (.istore_n n, 1)) (hn : (n : Nat) < M.2.2.1) (k : mW g M x0 ad h0 Qm tt S (pc + 1) (ls.set (n : Nat) (some (.int x))) st) : mW g M x0 ad h0 Qm tt S pc ls (.int x :: st) := fun h hm hf => x_istore_n d hn (k h hm hf)
theorem m_istore {n : Nat} {x : Int32} (d : decode M.2.1 pc = .ok (.istore n, 2)) (hn : n < M.2.2.1) (k : mW g M x0 ad h0 Qm tt S (pc + 2) (ls.set n (some (.int x))) st) : mW g M x0 ad h0 Qm tt S pc ls (.int x :: st) := fun h hm hf => x_istore d hn (k h hm hf)
theorem m_astore_n {n : Fin 4} {x : Nat} (d : decode M.2.1 pc = .ok (.astore_n n, 1)) (hn : (n : Nat) < M.2.2.1) (k : mW g M x0 ad h0 Qm tt S (pc + 1) (ls.set (n : Nat) (some (.ref x))) st) : mW g M x0 ad h0 Qm tt S pc ls (.ref x :: st) := fun h hm hf => x_astore_n d hn (k h hm hf)
theorem m_astore_nN {n : Fin 4} (d : decode M.2.1 pc = .ok (.astore_n n, 1)) (hn : (n : Nat) < M.2.2.1) (k : mW g M x0 ad h0 Qm tt S (pc + 1) (ls.set (n : Nat) (some .null)) st) : mW g M x0 ad h0 Qm tt S pc ls (.null :: st) := fun h hm hf => x_astore_nN d hn (k h hm hf)
theorem m_astore {n : Nat} {x : Nat} (d : decode M.2.1 pc = .ok (.astore n, 2)) (hn : n < M.2.2.1) (k : mW g M x0 ad h0 Qm tt S (pc + 2) (ls.set n (some (.ref x))) st) : mW g M x0 ad h0 Qm tt S pc ls (.ref x :: st) := fun h hm hf => x_astore d hn (k h hm hf)
theorem m_astoreN {n : Nat} (d : decode M.2.1 pc = .ok (.astore n, 2)) (hn : n < M.2.2.1) (k : mW g M x0 ad h0 Qm tt S (pc + 2) (ls.set n (some .null)) st) : mW g M x0 ad h0 Qm tt S pc ls (.null :: st) := fun h hm hf => x_astoreN d hn (k h hm hf)
theorem m_iinc {n : Nat} {q : Int} {a : Int} (d : decode M.2.1 pc = .ok (.iinc n q, 3)) (hx : ls[n]? = some (some (.int (iI a)))) (hn : n < M.2.2.1) (k : mW g M x0 ad h0 Qm tt S (pc + 3) (ls.set n (some (.int (iI (a + q))))) st) : mW g M x0 ad h0 Qm tt S pc ls st := fun h hm hf => x_iinc d hx hn (k h hm hf)
theorem m_idivI {a b : Int} (d : decode M.2.1 pc = .ok (.idiv, 1)) (ha : 0 ≤ a) (ha2 : R32 a) (hb : 0 < b) (hb2 : R32 b) (k : mW g M x0 ad h0 Qm tt S (pc + 1) ls (.int (iI (a / b)) :: st)) : mW g M x0 ad h0 Qm tt S pc ls (.int (iI b) :: .int (iI a) :: st) := fun h hm hf => x_idivI d ha ha2 hb hb2 (k h hm hf)
theorem m_iremI {a b : Int} (d : decode M.2.1 pc = .ok (.irem, 1)) (ha : 0 ≤ a) (ha2 : R32 a) (hb : 0 < b) (hb2 : R32 b) (k : mW g M x0 ad h0 Qm tt S (pc + 1) ls (.int (iI (a % b)) :: st)) : mW g M x0 ad h0 Qm tt S pc ls (.int (iI b) :: .int (iI a) :: st) := fun h hm hf => x_iremI d ha ha2 hb hb2 (k h hm hf)
theorem m_ishrI {a b : Int} (d : decode M.2.1 pc = .ok (.ishr, 1)) (ha : 0 ≤ a) (ha2 : a < 2147483648) (hb : 0 ≤ b) (hb2 : b < 32) (k : mW g M x0 ad h0 Qm tt S (pc + 1) ls (.int (iI (a / 2 ^ b.toNat)) :: st)) : mW g M x0 ad h0 Qm tt S pc ls (.int (iI b) :: .int (iI a) :: st) := fun h hm hf => x_ishrI d ha ha2 hb hb2 (k h hm hf)
theorem m_ishl1 {b : Int} (d : decode M.2.1 pc = .ok (.ishl, 1)) (hb : 0 ≤ b) (hb2 : b < 31) (k : mW g M x0 ad h0 Qm tt S (pc + 1) ls (.int (iI (2 ^ b.toNat)) :: st)) : mW g M x0 ad h0 Qm tt S pc ls (.int (iI b) :: .int (iI 1) :: st) := fun h hm hf => x_ishl1 d hb hb2 (k h hm hf)
theorem m_iand1 {a : Int} (d : decode M.2.1 pc = .ok (.iand, 1)) (ha : 0 ≤ a) (k : mW g M x0 ad h0 Qm tt S (pc + 1) ls (.int (iI (a % 2)) :: st)) : mW g M x0 ad h0 Qm tt S pc ls (.int (iI 1) :: .int (iI a) :: st) := fun h hm hf => x_iand1 d ha (k h hm hf)
theorem m_inot {a : Int} (d : decode M.2.1 pc = .ok (.ixor, 1)) (k : mW g M x0 ad h0 Qm tt S (pc + 1) ls (.int (iI (-1 - a)) :: st)) : mW g M x0 ad h0 Qm tt S pc ls (.int (iI (-1)) :: .int (iI a) :: st) := fun h hm hf => x_inot d (k h hm hf)
theorem m_iandk {a b : Int} (d : decode M.2.1 pc = .ok (.iand, 1)) (ha : 0 ≤ a) (k : mW g M x0 ad h0 Qm tt S (pc + 1) ls (.int (iI (bit a b * 2 ^ b.toNat)) :: st)) : mW g M x0 ad h0 Qm tt S pc ls (.int (iI (2 ^ b.toNat)) :: .int (iI a) :: st) := fun h hm hf => x_iandk d ha (k h hm hf)
theorem m_iandc {a b : Int} (d : decode M.2.1 pc = .ok (.iand, 1)) (ha : 0 ≤ a) (k : mW g M x0 ad h0 Qm tt S (pc + 1) ls (.int (iI (bclr a b)) :: st)) : mW g M x0 ad h0 Qm tt S pc ls (.int (iI (-1 - 2 ^ b.toNat)) :: .int (iI a) :: st) := fun h hm hf => x_iandc d ha (k h hm hf)
theorem m_iork {a b : Int} (d : decode M.2.1 pc = .ok (.ior, 1)) (ha : 0 ≤ a) (k : mW g M x0 ad h0 Qm tt S (pc + 1) ls (.int (iI (bset a b)) :: st)) : mW g M x0 ad h0 Qm tt S pc ls (.int (iI (2 ^ b.toNat)) :: .int (iI a) :: st) := fun h hm hf => x_iork d ha (k h hm hf)
end XMD
end
section
abbrev c_m_init : ByteArray := prog_9_method_1_code
abbrev y_m_init : MethodName := { cls := "ContainerHostModel", name := "<init>", desc := "()V" }
abbrev k_m_init : Cond := .code y_m_init c_m_init 2 (Option.none : Option FieldType)
abbrev M_m_init : xMeth := ("ContainerHostModel", c_m_init, 2, (Option.none : Option FieldType), "<init>", [], ({ frames := 1, cells := 23, slots := 2000, locals := 20 } : Room))
theorem e_m_init : k_m_init ∈ lw_tbl := mt (i := 971) (by decide +kernel)
abbrev c_m_thrown : ByteArray := prog_9_method_2_code
abbrev y_m_thrown : MethodName := { cls := "ContainerHostModel", name := "thrown", desc := "()I" }
abbrev k_m_thrown : Cond := .code y_m_thrown c_m_thrown 1 (Option.some FieldType.int)
abbrev M_m_thrown : xMeth := ("ContainerHostModel", c_m_thrown, 1, (Option.some FieldType.int), "thrown", [], ({ frames := 0, cells := 0, slots := 0, locals := 0 } : Room))
theorem e_m_thrown : k_m_thrown ∈ lw_tbl := mt (i := 1062) (by decide +kernel)
abbrev c_m_newImage : ByteArray := prog_9_method_14_code
abbrev y_m_newImage : MethodName := { cls := "ContainerHostModel", name := "newImage", desc := "(I)I" }
abbrev k_m_newImage : Cond := .code y_m_newImage c_m_newImage 4 (Option.some FieldType.int)
abbrev M_m_newImage : xMeth := ("ContainerHostModel", c_m_newImage, 4, (Option.some FieldType.int), "newImage", [], ({ frames := 2, cells := 0, slots := 0, locals := 42 } : Room))
theorem e_m_newImage : k_m_newImage ∈ lw_tbl := mt (i := 1066) (by decide +kernel)
abbrev c_m_isImage : ByteArray := prog_9_method_5_code
abbrev y_m_isImage : MethodName := { cls := "ContainerHostModel", name := "isImage", desc := "(I)Z" }
abbrev k_m_isImage : Cond := .code y_m_isImage c_m_isImage 2 (Option.some FieldType.boolean)
abbrev M_m_isImage : xMeth := ("ContainerHostModel", c_m_isImage, 2, (Option.some FieldType.boolean), "isImage", [], ({ frames := 1, cells := 0, slots := 0, locals := 21 } : Room))
theorem e_m_isImage : k_m_isImage ∈ lw_tbl := mt (i := 1070) (by decide +kernel)
abbrev c_m_isIn : ByteArray := prog_9_method_4_code
abbrev y_m_isIn : MethodName := { cls := "ContainerHostModel", name := "isIn", desc := "(II)Z" }
abbrev k_m_isIn : Cond := .code y_m_isIn c_m_isIn 2 (Option.some FieldType.boolean)
abbrev M_m_isIn : xMeth := ("ContainerHostModel", c_m_isIn, 2, (Option.some FieldType.boolean), "isIn", [], ({ frames := 0, cells := 0, slots := 0, locals := 0 } : Room))
theorem e_m_isIn : k_m_isIn ∈ lw_tbl := mt (i := 1073) (by decide +kernel)
abbrev c_m_layersOf : ByteArray := prog_9_method_8_code
abbrev y_m_layersOf : MethodName := { cls := "ContainerHostModel", name := "layersOf", desc := "(I)I" }
abbrev k_m_layersOf : Cond := .code y_m_layersOf c_m_layersOf 4 (Option.some FieldType.int)
abbrev M_m_layersOf : xMeth := ("ContainerHostModel", c_m_layersOf, 4, (Option.some FieldType.int), "layersOf", [], ({ frames := 0, cells := 0, slots := 0, locals := 0 } : Room))
theorem e_m_layersOf : k_m_layersOf ∈ lw_tbl := mt (i := 1077) (by decide +kernel)
abbrev c_m_holds : ByteArray := prog_9_method_3_code
abbrev y_m_holds : MethodName := { cls := "ContainerHostModel", name := "holds", desc := "(I)Z" }
abbrev k_m_holds : Cond := .code y_m_holds c_m_holds 2 (Option.some FieldType.boolean)
abbrev M_m_holds : xMeth := ("ContainerHostModel", c_m_holds, 2, (Option.some FieldType.boolean), "holds", [], ({ frames := 0, cells := 0, slots := 0, locals := 0 } : Room))
theorem e_m_holds : k_m_holds ∈ lw_tbl := mt (i := 1081) (by decide +kernel)
abbrev c_m_empties : ByteArray := prog_9_method_12_code
abbrev y_m_empties : MethodName := { cls := "ContainerHostModel", name := "empties", desc := "(I)V" }
abbrev k_m_empties : Cond := .code y_m_empties c_m_empties 3 (Option.none : Option FieldType)
abbrev M_m_empties : xMeth := ("ContainerHostModel", c_m_empties, 3, (Option.none : Option FieldType), "empties", [], ({ frames := 0, cells := 0, slots := 0, locals := 0 } : Room))
theorem e_m_empties : k_m_empties ∈ lw_tbl := mt (i := 1085) (by decide +kernel)
abbrev c_m_write : ByteArray := prog_9_method_16_code
abbrev y_m_write : MethodName := { cls := "ContainerHostModel", name := "write", desc := "(III)I" }
abbrev k_m_write : Cond := .code y_m_write c_m_write 6 (Option.some FieldType.int)
abbrev M_m_write : xMeth := ("ContainerHostModel", c_m_write, 6, (Option.some FieldType.int), "write", [], ({ frames := 2, cells := 0, slots := 0, locals := 48 } : Room))
theorem e_m_write : k_m_write ∈ lw_tbl := mt (i := 1089) (by decide +kernel)
abbrev c_m_isContent : ByteArray := prog_9_method_15_code
abbrev y_m_isContent : MethodName := { cls := "ContainerHostModel", name := "isContent", desc := "(I)Z" }
abbrev k_m_isContent : Cond := .code y_m_isContent c_m_isContent 1 (Option.some FieldType.boolean)
abbrev M_m_isContent : xMeth := ("ContainerHostModel", c_m_isContent, 1, (Option.some FieldType.boolean), "isContent", [], ({ frames := 0, cells := 0, slots := 0, locals := 0 } : Room))
theorem e_m_isContent : k_m_isContent ∈ lw_tbl := mt (i := 1092) (by decide +kernel)
abbrev c_m_imageShows : ByteArray := prog_9_method_10_code
abbrev y_m_imageShows : MethodName := { cls := "ContainerHostModel", name := "imageShows", desc := "(II)I" }
abbrev k_m_imageShows : Cond := .code y_m_imageShows c_m_imageShows 3 (Option.some FieldType.int)
abbrev M_m_imageShows : xMeth := ("ContainerHostModel", c_m_imageShows, 3, (Option.some FieldType.int), "imageShows", [], ({ frames := 1, cells := 0, slots := 0, locals := 26 } : Room))
theorem e_m_imageShows : k_m_imageShows ∈ lw_tbl := mt (i := 1096) (by decide +kernel)
abbrev c_m_shows : ByteArray := prog_9_method_9_code
abbrev y_m_shows : MethodName := { cls := "ContainerHostModel", name := "shows", desc := "(III)I" }
abbrev k_m_shows : Cond := .code y_m_shows c_m_shows 7 (Option.some FieldType.int)
abbrev M_m_shows : xMeth := ("ContainerHostModel", c_m_shows, 7, (Option.some FieldType.int), "shows", [], ({ frames := 0, cells := 0, slots := 0, locals := 0 } : Room))
theorem e_m_shows : k_m_shows ∈ lw_tbl := mt (i := 1100) (by decide +kernel)
abbrev c_m_remove : ByteArray := prog_9_method_17_code
abbrev y_m_remove : MethodName := { cls := "ContainerHostModel", name := "remove", desc := "(II)I" }
abbrev k_m_remove : Cond := .code y_m_remove c_m_remove 5 (Option.some FieldType.int)
abbrev M_m_remove : xMeth := ("ContainerHostModel", c_m_remove, 5, (Option.some FieldType.int), "remove", [], ({ frames := 2, cells := 0, slots := 0, locals := 48 } : Room))
theorem e_m_remove : k_m_remove ∈ lw_tbl := mt (i := 1104) (by decide +kernel)
abbrev c_m_clear : ByteArray := prog_9_method_18_code
abbrev y_m_clear : MethodName := { cls := "ContainerHostModel", name := "clear", desc := "(II)I" }
abbrev k_m_clear : Cond := .code y_m_clear c_m_clear 6 (Option.some FieldType.int)
abbrev M_m_clear : xMeth := ("ContainerHostModel", c_m_clear, 6, (Option.some FieldType.int), "clear", [], ({ frames := 2, cells := 0, slots := 0, locals := 48 } : Room))
theorem e_m_clear : k_m_clear ∈ lw_tbl := mt (i := 1108) (by decide +kernel)
abbrev c_m_seal : ByteArray := prog_9_method_19_code
abbrev y_m_seal : MethodName := { cls := "ContainerHostModel", name := "seal", desc := "(I)I" }
abbrev k_m_seal : Cond := .code y_m_seal c_m_seal 3 (Option.some FieldType.int)
abbrev M_m_seal : xMeth := ("ContainerHostModel", c_m_seal, 3, (Option.some FieldType.int), "seal", [], ({ frames := 2, cells := 0, slots := 0, locals := 42 } : Room))
theorem e_m_seal : k_m_seal ∈ lw_tbl := mt (i := 1112) (by decide +kernel)
abbrev c_m_shown : ByteArray := prog_9_method_20_code
abbrev y_m_shown : MethodName := { cls := "ContainerHostModel", name := "shown", desc := "(II)I" }
abbrev k_m_shown : Cond := .code y_m_shown c_m_shown 3 (Option.some FieldType.int)
abbrev M_m_shown : xMeth := ("ContainerHostModel", c_m_shown, 3, (Option.some FieldType.int), "shown", [], ({ frames := 2, cells := 0, slots := 0, locals := 48 } : Room))
theorem e_m_shown : k_m_shown ∈ lw_tbl := mt (i := 1116) (by decide +kernel)
abbrev c_m_entries : ByteArray := prog_9_method_21_code
abbrev y_m_entries : MethodName := { cls := "ContainerHostModel", name := "entries", desc := "(II)I" }
abbrev k_m_entries : Cond := .code y_m_entries c_m_entries 7 (Option.some FieldType.int)
abbrev M_m_entries : xMeth := ("ContainerHostModel", c_m_entries, 7, (Option.some FieldType.int), "entries", [], ({ frames := 2, cells := 0, slots := 0, locals := 42 } : Room))
theorem e_m_entries : k_m_entries ∈ lw_tbl := mt (i := 1120) (by decide +kernel)
abbrev c_m_commit : ByteArray := prog_9_method_22_code
abbrev y_m_commit : MethodName := { cls := "ContainerHostModel", name := "commit", desc := "(I)I" }
abbrev k_m_commit : Cond := .code y_m_commit c_m_commit 3 (Option.some FieldType.int)
abbrev M_m_commit : xMeth := ("ContainerHostModel", c_m_commit, 3, (Option.some FieldType.int), "commit", [], ({ frames := 2, cells := 0, slots := 0, locals := 42 } : Room))
theorem e_m_commit : k_m_commit ∈ lw_tbl := mt (i := 1124) (by decide +kernel)
abbrev c_m_isContainer : ByteArray := prog_9_method_6_code
abbrev y_m_isContainer : MethodName := { cls := "ContainerHostModel", name := "isContainer", desc := "(I)Z" }
abbrev k_m_isContainer : Cond := .code y_m_isContainer c_m_isContainer 2 (Option.some FieldType.boolean)
abbrev M_m_isContainer : xMeth := ("ContainerHostModel", c_m_isContainer, 2, (Option.some FieldType.boolean), "isContainer", [], ({ frames := 1, cells := 0, slots := 0, locals := 21 } : Room))
theorem e_m_isContainer : k_m_isContainer ∈ lw_tbl := mt (i := 1128) (by decide +kernel)
abbrev c_m_copies : ByteArray := prog_9_method_13_code
abbrev y_m_copies : MethodName := { cls := "ContainerHostModel", name := "copies", desc := "(II)V" }
abbrev k_m_copies : Cond := .code y_m_copies c_m_copies 4 (Option.none : Option FieldType)
abbrev M_m_copies : xMeth := ("ContainerHostModel", c_m_copies, 4, (Option.none : Option FieldType), "copies", [], ({ frames := 0, cells := 0, slots := 0, locals := 0 } : Room))
theorem e_m_copies : k_m_copies ∈ lw_tbl := mt (i := 1132) (by decide +kernel)
abbrev c_m_newGroup : ByteArray := prog_9_method_26_code
abbrev y_m_newGroup : MethodName := { cls := "ContainerHostModel", name := "newGroup", desc := "(IIII)I" }
abbrev k_m_newGroup : Cond := .code y_m_newGroup c_m_newGroup 6 (Option.some FieldType.int)
abbrev M_m_newGroup : xMeth := ("ContainerHostModel", c_m_newGroup, 6, (Option.some FieldType.int), "newGroup", [], ({ frames := 2, cells := 0, slots := 0, locals := 42 } : Room))
theorem e_m_newGroup : k_m_newGroup ∈ lw_tbl := mt (i := 1136) (by decide +kernel)
abbrev c_m_isGroup : ByteArray := prog_9_method_7_code
abbrev y_m_isGroup : MethodName := { cls := "ContainerHostModel", name := "isGroup", desc := "(I)Z" }
abbrev k_m_isGroup : Cond := .code y_m_isGroup c_m_isGroup 2 (Option.some FieldType.boolean)
abbrev M_m_isGroup : xMeth := ("ContainerHostModel", c_m_isGroup, 2, (Option.some FieldType.boolean), "isGroup", [], ({ frames := 1, cells := 0, slots := 0, locals := 21 } : Room))
theorem e_m_isGroup : k_m_isGroup ∈ lw_tbl := mt (i := 1140) (by decide +kernel)
abbrev c_m_groupMemory : ByteArray := prog_9_method_27_code
abbrev y_m_groupMemory : MethodName := { cls := "ContainerHostModel", name := "groupMemory", desc := "(I)I" }
abbrev k_m_groupMemory : Cond := .code y_m_groupMemory c_m_groupMemory 2 (Option.some FieldType.int)
abbrev M_m_groupMemory : xMeth := ("ContainerHostModel", c_m_groupMemory, 2, (Option.some FieldType.int), "groupMemory", [], ({ frames := 2, cells := 0, slots := 0, locals := 46 } : Room))
theorem e_m_groupMemory : k_m_groupMemory ∈ lw_tbl := mt (i := 1144) (by decide +kernel)
abbrev c_m_memoryIn : ByteArray := prog_9_method_24_code
abbrev y_m_memoryIn : MethodName := { cls := "ContainerHostModel", name := "memoryIn", desc := "(I)I" }
abbrev k_m_memoryIn : Cond := .code y_m_memoryIn c_m_memoryIn 4 (Option.some FieldType.int)
abbrev M_m_memoryIn : xMeth := ("ContainerHostModel", c_m_memoryIn, 4, (Option.some FieldType.int), "memoryIn", [], ({ frames := 1, cells := 0, slots := 0, locals := 23 } : Room))
theorem e_m_memoryIn : k_m_memoryIn ∈ lw_tbl := mt (i := 1148) (by decide +kernel)
abbrev c_m_isBelow : ByteArray := prog_9_method_23_code
abbrev y_m_isBelow : MethodName := { cls := "ContainerHostModel", name := "isBelow", desc := "(II)Z" }
abbrev k_m_isBelow : Cond := .code y_m_isBelow c_m_isBelow 4 (Option.some FieldType.boolean)
abbrev M_m_isBelow : xMeth := ("ContainerHostModel", c_m_isBelow, 4, (Option.some FieldType.boolean), "isBelow", [], ({ frames := 0, cells := 0, slots := 0, locals := 0 } : Room))
theorem e_m_isBelow : k_m_isBelow ∈ lw_tbl := mt (i := 1152) (by decide +kernel)
abbrev c_m_groupProcesses : ByteArray := prog_9_method_28_code
abbrev y_m_groupProcesses : MethodName := { cls := "ContainerHostModel", name := "groupProcesses", desc := "(I)I" }
abbrev k_m_groupProcesses : Cond := .code y_m_groupProcesses c_m_groupProcesses 2 (Option.some FieldType.int)
abbrev M_m_groupProcesses : xMeth := ("ContainerHostModel", c_m_groupProcesses, 2, (Option.some FieldType.int), "groupProcesses", [], ({ frames := 2, cells := 0, slots := 0, locals := 46 } : Room))
theorem e_m_groupProcesses : k_m_groupProcesses ∈ lw_tbl := mt (i := 1156) (by decide +kernel)
abbrev c_m_processesIn : ByteArray := prog_9_method_25_code
abbrev y_m_processesIn : MethodName := { cls := "ContainerHostModel", name := "processesIn", desc := "(I)I" }
abbrev k_m_processesIn : Cond := .code y_m_processesIn c_m_processesIn 4 (Option.some FieldType.int)
abbrev M_m_processesIn : xMeth := ("ContainerHostModel", c_m_processesIn, 4, (Option.some FieldType.int), "processesIn", [], ({ frames := 1, cells := 0, slots := 0, locals := 23 } : Room))
theorem e_m_processesIn : k_m_processesIn ∈ lw_tbl := mt (i := 1160) (by decide +kernel)
abbrev c_m_run : ByteArray := prog_9_method_31_code
abbrev y_m_run : MethodName := { cls := "ContainerHostModel", name := "run", desc := "(IIII)I" }
abbrev k_m_run : Cond := .code y_m_run c_m_run 7 (Option.some FieldType.int)
abbrev M_m_run : xMeth := ("ContainerHostModel", c_m_run, 7, (Option.some FieldType.int), "run", [], ({ frames := 3, cells := 0, slots := 0, locals := 70 } : Room))
theorem e_m_run : k_m_run ∈ lw_tbl := mt (i := 1164) (by decide +kernel)
abbrev c_m_tooMuch : ByteArray := prog_9_method_29_code
abbrev y_m_tooMuch : MethodName := { cls := "ContainerHostModel", name := "tooMuch", desc := "(III)I" }
abbrev k_m_tooMuch : Cond := .code y_m_tooMuch c_m_tooMuch 5 (Option.some FieldType.int)
abbrev M_m_tooMuch : xMeth := ("ContainerHostModel", c_m_tooMuch, 5, (Option.some FieldType.int), "tooMuch", [], ({ frames := 2, cells := 0, slots := 0, locals := 46 } : Room))
theorem e_m_tooMuch : k_m_tooMuch ∈ lw_tbl := mt (i := 1168) (by decide +kernel)
abbrev c_m_begins : ByteArray := prog_9_method_30_code
abbrev y_m_begins : MethodName := { cls := "ContainerHostModel", name := "begins", desc := "(IIII)V" }
abbrev k_m_begins : Cond := .code y_m_begins c_m_begins 5 (Option.none : Option FieldType)
abbrev M_m_begins : xMeth := ("ContainerHostModel", c_m_begins, 5, (Option.none : Option FieldType), "begins", [], ({ frames := 1, cells := 0, slots := 0, locals := 22 } : Room))
theorem e_m_begins : k_m_begins ∈ lw_tbl := mt (i := 1172) (by decide +kernel)
abbrev c_m_pause : ByteArray := prog_9_method_33_code
abbrev y_m_pause : MethodName := { cls := "ContainerHostModel", name := "pause", desc := "(I)V" }
abbrev k_m_pause : Cond := .code y_m_pause c_m_pause 2 (Option.none : Option FieldType)
abbrev M_m_pause : xMeth := ("ContainerHostModel", c_m_pause, 2, (Option.none : Option FieldType), "pause", [], ({ frames := 3, cells := 0, slots := 0, locals := 65 } : Room))
theorem e_m_pause : k_m_pause ∈ lw_tbl := mt (i := 1176) (by decide +kernel)
abbrev c_m_isThere : ByteArray := prog_9_method_32_code
abbrev y_m_isThere : MethodName := { cls := "ContainerHostModel", name := "isThere", desc := "(II)Z" }
abbrev k_m_isThere : Cond := .code y_m_isThere c_m_isThere 4 (Option.some FieldType.boolean)
abbrev M_m_isThere : xMeth := ("ContainerHostModel", c_m_isThere, 4, (Option.some FieldType.boolean), "isThere", [], ({ frames := 2, cells := 0, slots := 0, locals := 42 } : Room))
theorem e_m_isThere : k_m_isThere ∈ lw_tbl := mt (i := 1180) (by decide +kernel)
abbrev c_m_resume : ByteArray := prog_9_method_34_code
abbrev y_m_resume : MethodName := { cls := "ContainerHostModel", name := "resume", desc := "(I)V" }
abbrev k_m_resume : Cond := .code y_m_resume c_m_resume 2 (Option.none : Option FieldType)
abbrev M_m_resume : xMeth := ("ContainerHostModel", c_m_resume, 2, (Option.none : Option FieldType), "resume", [], ({ frames := 3, cells := 0, slots := 0, locals := 65 } : Room))
theorem e_m_resume : k_m_resume ∈ lw_tbl := mt (i := 1184) (by decide +kernel)
abbrev c_m_stop : ByteArray := prog_9_method_36_code
abbrev y_m_stop : MethodName := { cls := "ContainerHostModel", name := "stop", desc := "(I)I" }
abbrev k_m_stop : Cond := .code y_m_stop c_m_stop 3 (Option.some FieldType.int)
abbrev M_m_stop : xMeth := ("ContainerHostModel", c_m_stop, 3, (Option.some FieldType.int), "stop", [], ({ frames := 2, cells := 0, slots := 0, locals := 42 } : Room))
theorem e_m_stop : k_m_stop ∈ lw_tbl := mt (i := 1188) (by decide +kernel)
abbrev c_m_stops : ByteArray := prog_9_method_35_code
abbrev y_m_stops : MethodName := { cls := "ContainerHostModel", name := "stops", desc := "(I)I" }
abbrev k_m_stops : Cond := .code y_m_stops c_m_stops 4 (Option.some FieldType.int)
abbrev M_m_stops : xMeth := ("ContainerHostModel", c_m_stops, 4, (Option.some FieldType.int), "stops", [], ({ frames := 0, cells := 0, slots := 0, locals := 0 } : Room))
theorem e_m_stops : k_m_stops ∈ lw_tbl := mt (i := 1192) (by decide +kernel)
abbrev c_m_allocate : ByteArray := prog_9_method_39_code
abbrev y_m_allocate : MethodName := { cls := "ContainerHostModel", name := "allocate", desc := "(II)I" }
abbrev k_m_allocate : Cond := .code y_m_allocate c_m_allocate 6 (Option.some FieldType.int)
abbrev M_m_allocate : xMeth := ("ContainerHostModel", c_m_allocate, 6, (Option.some FieldType.int), "allocate", [], ({ frames := 3, cells := 0, slots := 0, locals := 70 } : Room))
theorem e_m_allocate : k_m_allocate ∈ lw_tbl := mt (i := 1196) (by decide +kernel)
abbrev c_m_areUnits : ByteArray := prog_9_method_38_code
abbrev y_m_areUnits : MethodName := { cls := "ContainerHostModel", name := "areUnits", desc := "(I)Z" }
abbrev k_m_areUnits : Cond := .code y_m_areUnits c_m_areUnits 1 (Option.some FieldType.boolean)
abbrev M_m_areUnits : xMeth := ("ContainerHostModel", c_m_areUnits, 1, (Option.some FieldType.boolean), "areUnits", [], ({ frames := 0, cells := 0, slots := 0, locals := 0 } : Room))
theorem e_m_areUnits : k_m_areUnits ∈ lw_tbl := mt (i := 1199) (by decide +kernel)
abbrev c_m_greatest : ByteArray := prog_9_method_37_code
abbrev y_m_greatest : MethodName := { cls := "ContainerHostModel", name := "greatest", desc := "(I)I" }
abbrev k_m_greatest : Cond := .code y_m_greatest c_m_greatest 5 (Option.some FieldType.int)
abbrev M_m_greatest : xMeth := ("ContainerHostModel", c_m_greatest, 5, (Option.some FieldType.int), "greatest", [], ({ frames := 1, cells := 0, slots := 0, locals := 23 } : Room))
theorem e_m_greatest : k_m_greatest ∈ lw_tbl := mt (i := 1203) (by decide +kernel)
abbrev c_m_free : ByteArray := prog_9_method_40_code
abbrev y_m_free : MethodName := { cls := "ContainerHostModel", name := "free", desc := "(II)I" }
abbrev k_m_free : Cond := .code y_m_free c_m_free 4 (Option.some FieldType.int)
abbrev M_m_free : xMeth := ("ContainerHostModel", c_m_free, 4, (Option.some FieldType.int), "free", [], ({ frames := 2, cells := 0, slots := 0, locals := 42 } : Room))
theorem e_m_free : k_m_free ∈ lw_tbl := mt (i := 1207) (by decide +kernel)
abbrev c_m_fork : ByteArray := prog_9_method_41_code
abbrev y_m_fork : MethodName := { cls := "ContainerHostModel", name := "fork", desc := "(I)I" }
abbrev k_m_fork : Cond := .code y_m_fork c_m_fork 3 (Option.some FieldType.int)
abbrev M_m_fork : xMeth := ("ContainerHostModel", c_m_fork, 3, (Option.some FieldType.int), "fork", [], ({ frames := 3, cells := 0, slots := 0, locals := 70 } : Room))
theorem e_m_fork : k_m_fork ∈ lw_tbl := mt (i := 1211) (by decide +kernel)
abbrev c_m_exit : ByteArray := prog_9_method_42_code
abbrev y_m_exit : MethodName := { cls := "ContainerHostModel", name := "exit", desc := "(I)I" }
abbrev k_m_exit : Cond := .code y_m_exit c_m_exit 3 (Option.some FieldType.int)
abbrev M_m_exit : xMeth := ("ContainerHostModel", c_m_exit, 3, (Option.some FieldType.int), "exit", [], ({ frames := 3, cells := 0, slots := 0, locals := 65 } : Room))
theorem e_m_exit : k_m_exit ∈ lw_tbl := mt (i := 1215) (by decide +kernel)
abbrev c_m_schedule : ByteArray := prog_9_method_47_code
abbrev y_m_schedule : MethodName := { cls := "ContainerHostModel", name := "schedule", desc := "(I)I" }
abbrev k_m_schedule : Cond := .code y_m_schedule c_m_schedule 4 (Option.some FieldType.int)
abbrev M_m_schedule : xMeth := ("ContainerHostModel", c_m_schedule, 4, (Option.some FieldType.int), "schedule", [], ({ frames := 3, cells := 0, slots := 0, locals := 73 } : Room))
theorem e_m_schedule : k_m_schedule ∈ lw_tbl := mt (i := 1219) (by decide +kernel)
abbrev c_m_sharesOut : ByteArray := prog_9_method_46_code
abbrev y_m_sharesOut : MethodName := { cls := "ContainerHostModel", name := "sharesOut", desc := "(I)I" }
abbrev k_m_sharesOut : Cond := .code y_m_sharesOut c_m_sharesOut 7 (Option.some FieldType.int)
abbrev M_m_sharesOut : xMeth := ("ContainerHostModel", c_m_sharesOut, 7, (Option.some FieldType.int), "sharesOut", [], ({ frames := 2, cells := 0, slots := 0, locals := 47 } : Room))
theorem e_m_sharesOut : k_m_sharesOut ∈ lw_tbl := mt (i := 1223) (by decide +kernel)
abbrev c_m_isPart : ByteArray := prog_9_method_43_code
abbrev y_m_isPart : MethodName := { cls := "ContainerHostModel", name := "isPart", desc := "(II)Z" }
abbrev k_m_isPart : Cond := .code y_m_isPart c_m_isPart 5 (Option.some FieldType.boolean)
abbrev M_m_isPart : xMeth := ("ContainerHostModel", c_m_isPart, 5, (Option.some FieldType.boolean), "isPart", [], ({ frames := 1, cells := 0, slots := 0, locals := 23 } : Room))
theorem e_m_isPart : k_m_isPart ∈ lw_tbl := mt (i := 1227) (by decide +kernel)
abbrev c_m_sharesOfPart : ByteArray := prog_9_method_44_code
abbrev y_m_sharesOfPart : MethodName := { cls := "ContainerHostModel", name := "sharesOfPart", desc := "(I)I" }
abbrev k_m_sharesOfPart : Cond := .code y_m_sharesOfPart c_m_sharesOfPart 2 (Option.some FieldType.int)
abbrev M_m_sharesOfPart : xMeth := ("ContainerHostModel", c_m_sharesOfPart, 2, (Option.some FieldType.int), "sharesOfPart", [], ({ frames := 0, cells := 0, slots := 0, locals := 0 } : Room))
theorem e_m_sharesOfPart : k_m_sharesOfPart ∈ lw_tbl := mt (i := 1231) (by decide +kernel)
abbrev c_m_gives : ByteArray := prog_9_method_45_code
abbrev y_m_gives : MethodName := { cls := "ContainerHostModel", name := "gives", desc := "(II)V" }
abbrev k_m_gives : Cond := .code y_m_gives c_m_gives 3 (Option.none : Option FieldType)
abbrev M_m_gives : xMeth := ("ContainerHostModel", c_m_gives, 3, (Option.none : Option FieldType), "gives", [], ({ frames := 0, cells := 0, slots := 0, locals := 0 } : Room))
theorem e_m_gives : k_m_gives ∈ lw_tbl := mt (i := 1235) (by decide +kernel)
abbrev c_m_writeFile : ByteArray := prog_9_method_50_code
abbrev y_m_writeFile : MethodName := { cls := "ContainerHostModel", name := "writeFile", desc := "(III)I" }
abbrev k_m_writeFile : Cond := .code y_m_writeFile c_m_writeFile 6 (Option.some FieldType.int)
abbrev M_m_writeFile : xMeth := ("ContainerHostModel", c_m_writeFile, 6, (Option.some FieldType.int), "writeFile", [], ({ frames := 2, cells := 0, slots := 0, locals := 48 } : Room))
theorem e_m_writeFile : k_m_writeFile ∈ lw_tbl := mt (i := 1239) (by decide +kernel)
abbrev c_m_mayChange : ByteArray := prog_9_method_49_code
abbrev y_m_mayChange : MethodName := { cls := "ContainerHostModel", name := "mayChange", desc := "(II)Z" }
abbrev k_m_mayChange : Cond := .code y_m_mayChange c_m_mayChange 3 (Option.some FieldType.boolean)
abbrev M_m_mayChange : xMeth := ("ContainerHostModel", c_m_mayChange, 3, (Option.some FieldType.boolean), "mayChange", [], ({ frames := 1, cells := 0, slots := 0, locals := 22 } : Room))
theorem e_m_mayChange : k_m_mayChange ∈ lw_tbl := mt (i := 1243) (by decide +kernel)
abbrev c_m_isEffective : ByteArray := prog_9_method_48_code
abbrev y_m_isEffective : MethodName := { cls := "ContainerHostModel", name := "isEffective", desc := "(II)Z" }
abbrev k_m_isEffective : Cond := .code y_m_isEffective c_m_isEffective 3 (Option.some FieldType.boolean)
abbrev M_m_isEffective : xMeth := ("ContainerHostModel", c_m_isEffective, 3, (Option.some FieldType.boolean), "isEffective", [], ({ frames := 0, cells := 0, slots := 0, locals := 0 } : Room))
theorem e_m_isEffective : k_m_isEffective ∈ lw_tbl := mt (i := 1247) (by decide +kernel)
abbrev c_m_containerSees : ByteArray := prog_9_method_11_code
abbrev y_m_containerSees : MethodName := { cls := "ContainerHostModel", name := "containerSees", desc := "(II)I" }
abbrev k_m_containerSees : Cond := .code y_m_containerSees c_m_containerSees 3 (Option.some FieldType.int)
abbrev M_m_containerSees : xMeth := ("ContainerHostModel", c_m_containerSees, 3, (Option.some FieldType.int), "containerSees", [], ({ frames := 1, cells := 0, slots := 0, locals := 26 } : Room))
theorem e_m_containerSees : k_m_containerSees ∈ lw_tbl := mt (i := 1251) (by decide +kernel)
abbrev c_m_removeFile : ByteArray := prog_9_method_51_code
abbrev y_m_removeFile : MethodName := { cls := "ContainerHostModel", name := "removeFile", desc := "(II)I" }
abbrev k_m_removeFile : Cond := .code y_m_removeFile c_m_removeFile 5 (Option.some FieldType.int)
abbrev M_m_removeFile : xMeth := ("ContainerHostModel", c_m_removeFile, 5, (Option.some FieldType.int), "removeFile", [], ({ frames := 2, cells := 0, slots := 0, locals := 48 } : Room))
theorem e_m_removeFile : k_m_removeFile ∈ lw_tbl := mt (i := 1255) (by decide +kernel)
abbrev c_m_fileOf : ByteArray := prog_9_method_52_code
abbrev y_m_fileOf : MethodName := { cls := "ContainerHostModel", name := "fileOf", desc := "(II)I" }
abbrev k_m_fileOf : Cond := .code y_m_fileOf c_m_fileOf 3 (Option.some FieldType.int)
abbrev M_m_fileOf : xMeth := ("ContainerHostModel", c_m_fileOf, 3, (Option.some FieldType.int), "fileOf", [], ({ frames := 2, cells := 0, slots := 0, locals := 48 } : Room))
theorem e_m_fileOf : k_m_fileOf ∈ lw_tbl := mt (i := 1259) (by decide +kernel)
abbrev c_m_plainFileOf : ByteArray := prog_9_method_54_code
abbrev y_m_plainFileOf : MethodName := { cls := "ContainerHostModel", name := "plainFileOf", desc := "(II)I" }
abbrev k_m_plainFileOf : Cond := .code y_m_plainFileOf c_m_plainFileOf 7 (Option.some FieldType.int)
abbrev M_m_plainFileOf : xMeth := ("ContainerHostModel", c_m_plainFileOf, 7, (Option.some FieldType.int), "plainFileOf", [], ({ frames := 2, cells := 0, slots := 0, locals := 48 } : Room))
theorem e_m_plainFileOf : k_m_plainFileOf ∈ lw_tbl := mt (i := 1263) (by decide +kernel)
abbrev c_m_layerAt : ByteArray := prog_9_method_53_code
abbrev y_m_layerAt : MethodName := { cls := "ContainerHostModel", name := "layerAt", desc := "(II)I" }
abbrev k_m_layerAt : Cond := .code y_m_layerAt c_m_layerAt 6 (Option.some FieldType.int)
abbrev M_m_layerAt : xMeth := ("ContainerHostModel", c_m_layerAt, 6, (Option.some FieldType.int), "layerAt", [], ({ frames := 1, cells := 0, slots := 0, locals := 23 } : Room))
theorem e_m_layerAt : k_m_layerAt ∈ lw_tbl := mt (i := 1267) (by decide +kernel)
abbrev c_m_raise : ByteArray := prog_9_method_56_code
abbrev y_m_raise : MethodName := { cls := "ContainerHostModel", name := "raise", desc := "(II)I" }
abbrev k_m_raise : Cond := .code y_m_raise c_m_raise 3 (Option.some FieldType.int)
abbrev M_m_raise : xMeth := ("ContainerHostModel", c_m_raise, 3, (Option.some FieldType.int), "raise", [], ({ frames := 3, cells := 0, slots := 0, locals := 66 } : Room))
theorem e_m_raise : k_m_raise ∈ lw_tbl := mt (i := 1271) (by decide +kernel)
abbrev c_m_isCapability : ByteArray := prog_9_method_55_code
abbrev y_m_isCapability : MethodName := { cls := "ContainerHostModel", name := "isCapability", desc := "(IIZ)Z" }
abbrev k_m_isCapability : Cond := .code y_m_isCapability c_m_isCapability 5 (Option.some FieldType.boolean)
abbrev M_m_isCapability : xMeth := ("ContainerHostModel", c_m_isCapability, 5, (Option.some FieldType.boolean), "isCapability", [], ({ frames := 2, cells := 0, slots := 0, locals := 42 } : Room))
theorem e_m_isCapability : k_m_isCapability ∈ lw_tbl := mt (i := 1275) (by decide +kernel)
abbrev c_m_lower : ByteArray := prog_9_method_57_code
abbrev y_m_lower : MethodName := { cls := "ContainerHostModel", name := "lower", desc := "(II)I" }
abbrev k_m_lower : Cond := .code y_m_lower c_m_lower 3 (Option.some FieldType.int)
abbrev M_m_lower : xMeth := ("ContainerHostModel", c_m_lower, 3, (Option.some FieldType.int), "lower", [], ({ frames := 3, cells := 0, slots := 0, locals := 66 } : Room))
theorem e_m_lower : k_m_lower ∈ lw_tbl := mt (i := 1279) (by decide +kernel)
abbrev c_m_drop : ByteArray := prog_9_method_58_code
abbrev y_m_drop : MethodName := { cls := "ContainerHostModel", name := "drop", desc := "(II)I" }
abbrev k_m_drop : Cond := .code y_m_drop c_m_drop 3 (Option.some FieldType.int)
abbrev M_m_drop : xMeth := ("ContainerHostModel", c_m_drop, 3, (Option.some FieldType.int), "drop", [], ({ frames := 3, cells := 0, slots := 0, locals := 66 } : Room))
theorem e_m_drop : k_m_drop ∈ lw_tbl := mt (i := 1283) (by decide +kernel)
abbrev c_m_kill : ByteArray := prog_9_method_59_code
abbrev y_m_kill : MethodName := { cls := "ContainerHostModel", name := "kill", desc := "(II)I" }
abbrev k_m_kill : Cond := .code y_m_kill c_m_kill 5 (Option.some FieldType.int)
abbrev M_m_kill : xMeth := ("ContainerHostModel", c_m_kill, 5, (Option.some FieldType.int), "kill", [], ({ frames := 2, cells := 0, slots := 0, locals := 42 } : Room))
theorem e_m_kill : k_m_kill ∈ lw_tbl := mt (i := 1287) (by decide +kernel)
abbrev c_m_attach : ByteArray := prog_9_method_62_code
abbrev y_m_attach : MethodName := { cls := "ContainerHostModel", name := "attach", desc := "(II)I" }
abbrev k_m_attach : Cond := .code y_m_attach c_m_attach 6 (Option.some FieldType.int)
abbrev M_m_attach : xMeth := ("ContainerHostModel", c_m_attach, 6, (Option.some FieldType.int), "attach", [], ({ frames := 2, cells := 0, slots := 0, locals := 46 } : Room))
theorem e_m_attach : k_m_attach ∈ lw_tbl := mt (i := 1291) (by decide +kernel)
abbrev c_m_freeAddress : ByteArray := prog_9_method_61_code
abbrev y_m_freeAddress : MethodName := { cls := "ContainerHostModel", name := "freeAddress", desc := "(I)I" }
abbrev k_m_freeAddress : Cond := .code y_m_freeAddress c_m_freeAddress 3 (Option.some FieldType.int)
abbrev M_m_freeAddress : xMeth := ("ContainerHostModel", c_m_freeAddress, 3, (Option.some FieldType.int), "freeAddress", [], ({ frames := 1, cells := 0, slots := 0, locals := 24 } : Room))
theorem e_m_freeAddress : k_m_freeAddress ∈ lw_tbl := mt (i := 1295) (by decide +kernel)
abbrev c_m_atAddress : ByteArray := prog_9_method_60_code
abbrev y_m_atAddress : MethodName := { cls := "ContainerHostModel", name := "atAddress", desc := "(II)I" }
abbrev k_m_atAddress : Cond := .code y_m_atAddress c_m_atAddress 5 (Option.some FieldType.int)
abbrev M_m_atAddress : xMeth := ("ContainerHostModel", c_m_atAddress, 5, (Option.some FieldType.int), "atAddress", [], ({ frames := 0, cells := 0, slots := 0, locals := 0 } : Room))
theorem e_m_atAddress : k_m_atAddress ∈ lw_tbl := mt (i := 1299) (by decide +kernel)
abbrev c_m_detach : ByteArray := prog_9_method_63_code
abbrev y_m_detach : MethodName := { cls := "ContainerHostModel", name := "detach", desc := "(I)I" }
abbrev k_m_detach : Cond := .code y_m_detach c_m_detach 4 (Option.some FieldType.int)
abbrev M_m_detach : xMeth := ("ContainerHostModel", c_m_detach, 4, (Option.some FieldType.int), "detach", [], ({ frames := 2, cells := 0, slots := 0, locals := 42 } : Room))
theorem e_m_detach : k_m_detach ∈ lw_tbl := mt (i := 1303) (by decide +kernel)
abbrev c_m_listen : ByteArray := prog_9_method_65_code
abbrev y_m_listen : MethodName := { cls := "ContainerHostModel", name := "listen", desc := "(II)I" }
abbrev k_m_listen : Cond := .code y_m_listen c_m_listen 7 (Option.some FieldType.int)
abbrev M_m_listen : xMeth := ("ContainerHostModel", c_m_listen, 7, (Option.some FieldType.int), "listen", [], ({ frames := 2, cells := 0, slots := 0, locals := 42 } : Room))
theorem e_m_listen : k_m_listen ∈ lw_tbl := mt (i := 1307) (by decide +kernel)
abbrev c_m_isListening : ByteArray := prog_9_method_64_code
abbrev y_m_isListening : MethodName := { cls := "ContainerHostModel", name := "isListening", desc := "(II)Z" }
abbrev k_m_isListening : Cond := .code y_m_isListening c_m_isListening 3 (Option.some FieldType.boolean)
abbrev M_m_isListening : xMeth := ("ContainerHostModel", c_m_isListening, 3, (Option.some FieldType.boolean), "isListening", [], ({ frames := 0, cells := 0, slots := 0, locals := 0 } : Room))
theorem e_m_isListening : k_m_isListening ∈ lw_tbl := mt (i := 1311) (by decide +kernel)
abbrev c_m_publish : ByteArray := prog_9_method_66_code
abbrev y_m_publish : MethodName := { cls := "ContainerHostModel", name := "publish", desc := "(III)I" }
abbrev k_m_publish : Cond := .code y_m_publish c_m_publish 7 (Option.some FieldType.int)
abbrev M_m_publish : xMeth := ("ContainerHostModel", c_m_publish, 7, (Option.some FieldType.int), "publish", [], ({ frames := 2, cells := 0, slots := 0, locals := 42 } : Room))
theorem e_m_publish : k_m_publish ∈ lw_tbl := mt (i := 1315) (by decide +kernel)
abbrev c_m_connect : ByteArray := prog_9_method_67_code
abbrev y_m_connect : MethodName := { cls := "ContainerHostModel", name := "connect", desc := "(III)I" }
abbrev k_m_connect : Cond := .code y_m_connect c_m_connect 6 (Option.some FieldType.int)
abbrev M_m_connect : xMeth := ("ContainerHostModel", c_m_connect, 6, (Option.some FieldType.int), "connect", [], ({ frames := 2, cells := 0, slots := 0, locals := 42 } : Room))
theorem e_m_connect : k_m_connect ∈ lw_tbl := mt (i := 1319) (by decide +kernel)
abbrev c_m_connectHost : ByteArray := prog_9_method_68_code
abbrev y_m_connectHost : MethodName := { cls := "ContainerHostModel", name := "connectHost", desc := "(I)I" }
abbrev k_m_connectHost : Cond := .code y_m_connectHost c_m_connectHost 3 (Option.some FieldType.int)
abbrev M_m_connectHost : xMeth := ("ContainerHostModel", c_m_connectHost, 3, (Option.some FieldType.int), "connectHost", [], ({ frames := 1, cells := 0, slots := 0, locals := 21 } : Room))
theorem e_m_connectHost : k_m_connectHost ∈ lw_tbl := mt (i := 1323) (by decide +kernel)
abbrev c_m_save : ByteArray := prog_9_method_70_code
abbrev y_m_save : MethodName := { cls := "ContainerHostModel", name := "save", desc := "(I)I" }
abbrev k_m_save : Cond := .code y_m_save c_m_save 3 (Option.some FieldType.int)
abbrev M_m_save : xMeth := ("ContainerHostModel", c_m_save, 3, (Option.some FieldType.int), "save", [], ({ frames := 2, cells := 0, slots := 0, locals := 45 } : Room))
theorem e_m_save : k_m_save ∈ lw_tbl := mt (i := 1327) (by decide +kernel)
abbrev c_m_keeps : ByteArray := prog_9_method_69_code
abbrev y_m_keeps : MethodName := { cls := "ContainerHostModel", name := "keeps", desc := "(II)V" }
abbrev k_m_keeps : Cond := .code y_m_keeps c_m_keeps 3 (Option.none : Option FieldType)
abbrev M_m_keeps : xMeth := ("ContainerHostModel", c_m_keeps, 3, (Option.none : Option FieldType), "keeps", [], ({ frames := 1, cells := 0, slots := 0, locals := 23 } : Room))
theorem e_m_keeps : k_m_keeps ∈ lw_tbl := mt (i := 1331) (by decide +kernel)
abbrev c_m_restore : ByteArray := prog_9_method_71_code
abbrev y_m_restore : MethodName := { cls := "ContainerHostModel", name := "restore", desc := "(II)I" }
abbrev k_m_restore : Cond := .code y_m_restore c_m_restore 5 (Option.some FieldType.int)
abbrev M_m_restore : xMeth := ("ContainerHostModel", c_m_restore, 5, (Option.some FieldType.int), "restore", [], ({ frames := 3, cells := 0, slots := 0, locals := 70 } : Room))
theorem e_m_restore : k_m_restore ∈ lw_tbl := mt (i := 1335) (by decide +kernel)
abbrev c_m_containers : ByteArray := prog_9_method_72_code
abbrev y_m_containers : MethodName := { cls := "ContainerHostModel", name := "containers", desc := "()I" }
abbrev k_m_containers : Cond := .code y_m_containers c_m_containers 1 (Option.some FieldType.int)
abbrev M_m_containers : xMeth := ("ContainerHostModel", c_m_containers, 1, (Option.some FieldType.int), "containers", [], ({ frames := 0, cells := 0, slots := 0, locals := 0 } : Room))
theorem e_m_containers : k_m_containers ∈ lw_tbl := mt (i := 1339) (by decide +kernel)
abbrev c_m_stateOf : ByteArray := prog_9_method_74_code
abbrev y_m_stateOf : MethodName := { cls := "ContainerHostModel", name := "stateOf", desc := "(I)I" }
abbrev k_m_stateOf : Cond := .code y_m_stateOf c_m_stateOf 2 (Option.some FieldType.int)
abbrev M_m_stateOf : xMeth := ("ContainerHostModel", c_m_stateOf, 2, (Option.some FieldType.int), "stateOf", [], ({ frames := 3, cells := 0, slots := 0, locals := 63 } : Room))
theorem e_m_stateOf : k_m_stateOf ∈ lw_tbl := mt (i := 1343) (by decide +kernel)
abbrev c_m_isAsked : ByteArray := prog_9_method_73_code
abbrev y_m_isAsked : MethodName := { cls := "ContainerHostModel", name := "isAsked", desc := "(I)Z" }
abbrev k_m_isAsked : Cond := .code y_m_isAsked c_m_isAsked 2 (Option.some FieldType.boolean)
abbrev M_m_isAsked : xMeth := ("ContainerHostModel", c_m_isAsked, 2, (Option.some FieldType.boolean), "isAsked", [], ({ frames := 2, cells := 0, slots := 0, locals := 42 } : Room))
theorem e_m_isAsked : k_m_isAsked ∈ lw_tbl := mt (i := 1347) (by decide +kernel)
abbrev c_m_memoryOf : ByteArray := prog_9_method_75_code
abbrev y_m_memoryOf : MethodName := { cls := "ContainerHostModel", name := "memoryOf", desc := "(I)I" }
abbrev k_m_memoryOf : Cond := .code y_m_memoryOf c_m_memoryOf 2 (Option.some FieldType.int)
abbrev M_m_memoryOf : xMeth := ("ContainerHostModel", c_m_memoryOf, 2, (Option.some FieldType.int), "memoryOf", [], ({ frames := 3, cells := 0, slots := 0, locals := 63 } : Room))
theorem e_m_memoryOf : k_m_memoryOf ∈ lw_tbl := mt (i := 1351) (by decide +kernel)
abbrev c_m_timeOf : ByteArray := prog_9_method_76_code
abbrev y_m_timeOf : MethodName := { cls := "ContainerHostModel", name := "timeOf", desc := "(I)I" }
abbrev k_m_timeOf : Cond := .code y_m_timeOf c_m_timeOf 2 (Option.some FieldType.int)
abbrev M_m_timeOf : xMeth := ("ContainerHostModel", c_m_timeOf, 2, (Option.some FieldType.int), "timeOf", [], ({ frames := 3, cells := 0, slots := 0, locals := 63 } : Room))
theorem e_m_timeOf : k_m_timeOf ∈ lw_tbl := mt (i := 1355) (by decide +kernel)
abbrev c_m_capabilitiesOf : ByteArray := prog_9_method_77_code
abbrev y_m_capabilitiesOf : MethodName := { cls := "ContainerHostModel", name := "capabilitiesOf", desc := "(I)I" }
abbrev k_m_capabilitiesOf : Cond := .code y_m_capabilitiesOf c_m_capabilitiesOf 2 (Option.some FieldType.int)
abbrev M_m_capabilitiesOf : xMeth := ("ContainerHostModel", c_m_capabilitiesOf, 2, (Option.some FieldType.int), "capabilitiesOf", [], ({ frames := 3, cells := 0, slots := 0, locals := 63 } : Room))
theorem e_m_capabilitiesOf : k_m_capabilitiesOf ∈ lw_tbl := mt (i := 1359) (by decide +kernel)
abbrev c_m_addressOf : ByteArray := prog_9_method_78_code
abbrev y_m_addressOf : MethodName := { cls := "ContainerHostModel", name := "addressOf", desc := "(I)I" }
abbrev k_m_addressOf : Cond := .code y_m_addressOf c_m_addressOf 2 (Option.some FieldType.int)
abbrev M_m_addressOf : xMeth := ("ContainerHostModel", c_m_addressOf, 2, (Option.some FieldType.int), "addressOf", [], ({ frames := 3, cells := 0, slots := 0, locals := 63 } : Room))
theorem e_m_addressOf : k_m_addressOf ∈ lw_tbl := mt (i := 1363) (by decide +kernel)
theorem w11 : Cond.initialized "ContainerHostModel" ∈ lw_tbl := mt (i := 11) (by decide +kernel)
theorem w970 : Cond.instanceMethod ({ cls := "ContainerHostModel", name := "<init>", desc := "()V" } : MethodName) ∈ lw_tbl := mt (i := 970) (by decide +kernel)
theorem w973 : Cond.fieldLink "ContainerHostModel" (84 : Nat) "ContainerHostModel" "thrown" "I" ∈ lw_tbl := mt (i := 973) (by decide +kernel)
theorem w974 : Cond.fieldLink "ContainerHostModel" (7 : Nat) "ContainerHostModel" "contents" "[I" ∈ lw_tbl := mt (i := 974) (by decide +kernel)
theorem w975 : Cond.fieldLink "ContainerHostModel" (13 : Nat) "ContainerHostModel" "opaque" "[I" ∈ lw_tbl := mt (i := 975) (by decide +kernel)
theorem w976 : Cond.fieldLink "ContainerHostModel" (87 : Nat) "ContainerHostModel" "images" "I" ∈ lw_tbl := mt (i := 976) (by decide +kernel)
theorem w977 : Cond.fieldLink "ContainerHostModel" (16 : Nat) "ContainerHostModel" "bases" "[I" ∈ lw_tbl := mt (i := 977) (by decide +kernel)
theorem w978 : Cond.fieldLink "ContainerHostModel" (19 : Nat) "ContainerHostModel" "isSealed" "[Z" ∈ lw_tbl := mt (i := 978) (by decide +kernel)
theorem w979 : Cond.fieldLink "ContainerHostModel" (23 : Nat) "ContainerHostModel" "groups" "I" ∈ lw_tbl := mt (i := 979) (by decide +kernel)
theorem w980 : Cond.fieldLink "ContainerHostModel" (27 : Nat) "ContainerHostModel" "parents" "[I" ∈ lw_tbl := mt (i := 980) (by decide +kernel)
theorem w981 : Cond.fieldLink "ContainerHostModel" (30 : Nat) "ContainerHostModel" "memoryLimits" "[I" ∈ lw_tbl := mt (i := 981) (by decide +kernel)
theorem w982 : Cond.fieldLink "ContainerHostModel" (33 : Nat) "ContainerHostModel" "processLimits" "[I" ∈ lw_tbl := mt (i := 982) (by decide +kernel)
theorem w983 : Cond.fieldLink "ContainerHostModel" (36 : Nat) "ContainerHostModel" "groupShares" "[I" ∈ lw_tbl := mt (i := 983) (by decide +kernel)
theorem w984 : Cond.fieldLink "ContainerHostModel" (94 : Nat) "ContainerHostModel" "containers" "I" ∈ lw_tbl := mt (i := 984) (by decide +kernel)
theorem w985 : Cond.fieldLink "ContainerHostModel" (39 : Nat) "ContainerHostModel" "imageOf" "[I" ∈ lw_tbl := mt (i := 985) (by decide +kernel)
theorem w986 : Cond.fieldLink "ContainerHostModel" (42 : Nat) "ContainerHostModel" "sharesOf" "[I" ∈ lw_tbl := mt (i := 986) (by decide +kernel)
theorem w987 : Cond.fieldLink "ContainerHostModel" (45 : Nat) "ContainerHostModel" "memory" "[I" ∈ lw_tbl := mt (i := 987) (by decide +kernel)
theorem w988 : Cond.fieldLink "ContainerHostModel" (48 : Nat) "ContainerHostModel" "processes" "[I" ∈ lw_tbl := mt (i := 988) (by decide +kernel)
theorem w989 : Cond.fieldLink "ContainerHostModel" (51 : Nat) "ContainerHostModel" "permitted" "[I" ∈ lw_tbl := mt (i := 989) (by decide +kernel)
theorem w990 : Cond.fieldLink "ContainerHostModel" (54 : Nat) "ContainerHostModel" "effective" "[I" ∈ lw_tbl := mt (i := 990) (by decide +kernel)
theorem w991 : Cond.fieldLink "ContainerHostModel" (57 : Nat) "ContainerHostModel" "listens" "[I" ∈ lw_tbl := mt (i := 991) (by decide +kernel)
theorem w992 : Cond.fieldLink "ContainerHostModel" (60 : Nat) "ContainerHostModel" "states" "[I" ∈ lw_tbl := mt (i := 992) (by decide +kernel)
theorem w993 : Cond.fieldLink "ContainerHostModel" (63 : Nat) "ContainerHostModel" "groupOf" "[I" ∈ lw_tbl := mt (i := 993) (by decide +kernel)
theorem w994 : Cond.fieldLink "ContainerHostModel" (66 : Nat) "ContainerHostModel" "addresses" "[I" ∈ lw_tbl := mt (i := 994) (by decide +kernel)
theorem w995 : Cond.fieldLink "ContainerHostModel" (69 : Nat) "ContainerHostModel" "times" "[I" ∈ lw_tbl := mt (i := 995) (by decide +kernel)
theorem w996 : Cond.fieldLink "ContainerHostModel" (198 : Nat) "ContainerHostModel" "checkpoints" "I" ∈ lw_tbl := mt (i := 996) (by decide +kernel)
theorem w997 : Cond.fieldLink "ContainerHostModel" (72 : Nat) "ContainerHostModel" "published" "[I" ∈ lw_tbl := mt (i := 997) (by decide +kernel)
theorem w998 : Cond.fieldLink "ContainerHostModel" (75 : Nat) "ContainerHostModel" "publishedPort" "[I" ∈ lw_tbl := mt (i := 998) (by decide +kernel)
theorem w999 : Cond.fieldLink "ContainerHostModel" (78 : Nat) "ContainerHostModel" "gets" "[I" ∈ lw_tbl := mt (i := 999) (by decide +kernel)
theorem w1000 : Cond.fieldLink "ContainerHostModel" (81 : Nat) "ContainerHostModel" "remainders" "[I" ∈ lw_tbl := mt (i := 1000) (by decide +kernel)
theorem w1060 : Cond.instanceMethod ({ cls := "ContainerHostModel", name := "thrown", desc := "()I" } : MethodName) ∈ lw_tbl := mt (i := 1060) (by decide +kernel)
theorem w1061 : Cond.selects "ContainerHostModel" ({ cls := "ContainerHostModel", name := "thrown", desc := "()I" } : MethodName) ({ cls := "ContainerHostModel", name := "thrown", desc := "()I" } : MethodName) ∈ lw_tbl := mt (i := 1061) (by decide +kernel)
theorem w1064 : Cond.instanceMethod ({ cls := "ContainerHostModel", name := "newImage", desc := "(I)I" } : MethodName) ∈ lw_tbl := mt (i := 1064) (by decide +kernel)
theorem w1065 : Cond.selects "ContainerHostModel" ({ cls := "ContainerHostModel", name := "newImage", desc := "(I)I" } : MethodName) ({ cls := "ContainerHostModel", name := "newImage", desc := "(I)I" } : MethodName) ∈ lw_tbl := mt (i := 1065) (by decide +kernel)
theorem w1067 : Cond.methodLink "ContainerHostModel" (101 : Nat) ({ cls := "ContainerHostModel", name := "isImage", desc := "(I)Z" } : MethodName) ∈ lw_tbl := mt (i := 1067) (by decide +kernel)
theorem w1069 : Cond.instanceMethod ({ cls := "ContainerHostModel", name := "isImage", desc := "(I)Z" } : MethodName) ∈ lw_tbl := mt (i := 1069) (by decide +kernel)
theorem w1071 : Cond.methodLink "ContainerHostModel" (90 : Nat) ({ cls := "ContainerHostModel", name := "isIn", desc := "(II)Z" } : MethodName) ∈ lw_tbl := mt (i := 1071) (by decide +kernel)
theorem w1072 : Cond.static ({ cls := "ContainerHostModel", name := "isIn", desc := "(II)Z" } : MethodName) ∈ lw_tbl := mt (i := 1072) (by decide +kernel)
theorem w1074 : Cond.methodLink "ContainerHostModel" (105 : Nat) ({ cls := "ContainerHostModel", name := "layersOf", desc := "(I)I" } : MethodName) ∈ lw_tbl := mt (i := 1074) (by decide +kernel)
theorem w1076 : Cond.instanceMethod ({ cls := "ContainerHostModel", name := "layersOf", desc := "(I)I" } : MethodName) ∈ lw_tbl := mt (i := 1076) (by decide +kernel)
theorem w1078 : Cond.methodLink "ContainerHostModel" (109 : Nat) ({ cls := "ContainerHostModel", name := "holds", desc := "(I)Z" } : MethodName) ∈ lw_tbl := mt (i := 1078) (by decide +kernel)
theorem w1080 : Cond.instanceMethod ({ cls := "ContainerHostModel", name := "holds", desc := "(I)Z" } : MethodName) ∈ lw_tbl := mt (i := 1080) (by decide +kernel)
theorem w1082 : Cond.methodLink "ContainerHostModel" (112 : Nat) ({ cls := "ContainerHostModel", name := "empties", desc := "(I)V" } : MethodName) ∈ lw_tbl := mt (i := 1082) (by decide +kernel)
theorem w1084 : Cond.instanceMethod ({ cls := "ContainerHostModel", name := "empties", desc := "(I)V" } : MethodName) ∈ lw_tbl := mt (i := 1084) (by decide +kernel)
theorem w1087 : Cond.instanceMethod ({ cls := "ContainerHostModel", name := "write", desc := "(III)I" } : MethodName) ∈ lw_tbl := mt (i := 1087) (by decide +kernel)
theorem w1088 : Cond.selects "ContainerHostModel" ({ cls := "ContainerHostModel", name := "write", desc := "(III)I" } : MethodName) ({ cls := "ContainerHostModel", name := "write", desc := "(III)I" } : MethodName) ∈ lw_tbl := mt (i := 1088) (by decide +kernel)
theorem w1090 : Cond.methodLink "ContainerHostModel" (116 : Nat) ({ cls := "ContainerHostModel", name := "isContent", desc := "(I)Z" } : MethodName) ∈ lw_tbl := mt (i := 1090) (by decide +kernel)
theorem w1091 : Cond.static ({ cls := "ContainerHostModel", name := "isContent", desc := "(I)Z" } : MethodName) ∈ lw_tbl := mt (i := 1091) (by decide +kernel)
theorem w1093 : Cond.methodLink "ContainerHostModel" (119 : Nat) ({ cls := "ContainerHostModel", name := "imageShows", desc := "(II)I" } : MethodName) ∈ lw_tbl := mt (i := 1093) (by decide +kernel)
theorem w1095 : Cond.instanceMethod ({ cls := "ContainerHostModel", name := "imageShows", desc := "(II)I" } : MethodName) ∈ lw_tbl := mt (i := 1095) (by decide +kernel)
theorem w1097 : Cond.methodLink "ContainerHostModel" (97 : Nat) ({ cls := "ContainerHostModel", name := "shows", desc := "(III)I" } : MethodName) ∈ lw_tbl := mt (i := 1097) (by decide +kernel)
theorem w1099 : Cond.instanceMethod ({ cls := "ContainerHostModel", name := "shows", desc := "(III)I" } : MethodName) ∈ lw_tbl := mt (i := 1099) (by decide +kernel)
theorem w1102 : Cond.instanceMethod ({ cls := "ContainerHostModel", name := "remove", desc := "(II)I" } : MethodName) ∈ lw_tbl := mt (i := 1102) (by decide +kernel)
theorem w1103 : Cond.selects "ContainerHostModel" ({ cls := "ContainerHostModel", name := "remove", desc := "(II)I" } : MethodName) ({ cls := "ContainerHostModel", name := "remove", desc := "(II)I" } : MethodName) ∈ lw_tbl := mt (i := 1103) (by decide +kernel)
theorem w1106 : Cond.instanceMethod ({ cls := "ContainerHostModel", name := "clear", desc := "(II)I" } : MethodName) ∈ lw_tbl := mt (i := 1106) (by decide +kernel)
theorem w1107 : Cond.selects "ContainerHostModel" ({ cls := "ContainerHostModel", name := "clear", desc := "(II)I" } : MethodName) ({ cls := "ContainerHostModel", name := "clear", desc := "(II)I" } : MethodName) ∈ lw_tbl := mt (i := 1107) (by decide +kernel)
theorem w1110 : Cond.instanceMethod ({ cls := "ContainerHostModel", name := "seal", desc := "(I)I" } : MethodName) ∈ lw_tbl := mt (i := 1110) (by decide +kernel)
theorem w1111 : Cond.selects "ContainerHostModel" ({ cls := "ContainerHostModel", name := "seal", desc := "(I)I" } : MethodName) ({ cls := "ContainerHostModel", name := "seal", desc := "(I)I" } : MethodName) ∈ lw_tbl := mt (i := 1111) (by decide +kernel)
theorem w1114 : Cond.instanceMethod ({ cls := "ContainerHostModel", name := "shown", desc := "(II)I" } : MethodName) ∈ lw_tbl := mt (i := 1114) (by decide +kernel)
theorem w1115 : Cond.selects "ContainerHostModel" ({ cls := "ContainerHostModel", name := "shown", desc := "(II)I" } : MethodName) ({ cls := "ContainerHostModel", name := "shown", desc := "(II)I" } : MethodName) ∈ lw_tbl := mt (i := 1115) (by decide +kernel)
theorem w1118 : Cond.instanceMethod ({ cls := "ContainerHostModel", name := "entries", desc := "(II)I" } : MethodName) ∈ lw_tbl := mt (i := 1118) (by decide +kernel)
theorem w1119 : Cond.selects "ContainerHostModel" ({ cls := "ContainerHostModel", name := "entries", desc := "(II)I" } : MethodName) ({ cls := "ContainerHostModel", name := "entries", desc := "(II)I" } : MethodName) ∈ lw_tbl := mt (i := 1119) (by decide +kernel)
theorem w1122 : Cond.instanceMethod ({ cls := "ContainerHostModel", name := "commit", desc := "(I)I" } : MethodName) ∈ lw_tbl := mt (i := 1122) (by decide +kernel)
theorem w1123 : Cond.selects "ContainerHostModel" ({ cls := "ContainerHostModel", name := "commit", desc := "(I)I" } : MethodName) ({ cls := "ContainerHostModel", name := "commit", desc := "(I)I" } : MethodName) ∈ lw_tbl := mt (i := 1123) (by decide +kernel)
theorem w1125 : Cond.methodLink "ContainerHostModel" (123 : Nat) ({ cls := "ContainerHostModel", name := "isContainer", desc := "(I)Z" } : MethodName) ∈ lw_tbl := mt (i := 1125) (by decide +kernel)
theorem w1127 : Cond.instanceMethod ({ cls := "ContainerHostModel", name := "isContainer", desc := "(I)Z" } : MethodName) ∈ lw_tbl := mt (i := 1127) (by decide +kernel)
theorem w1129 : Cond.methodLink "ContainerHostModel" (126 : Nat) ({ cls := "ContainerHostModel", name := "copies", desc := "(II)V" } : MethodName) ∈ lw_tbl := mt (i := 1129) (by decide +kernel)
theorem w1131 : Cond.instanceMethod ({ cls := "ContainerHostModel", name := "copies", desc := "(II)V" } : MethodName) ∈ lw_tbl := mt (i := 1131) (by decide +kernel)
theorem w1134 : Cond.instanceMethod ({ cls := "ContainerHostModel", name := "newGroup", desc := "(IIII)I" } : MethodName) ∈ lw_tbl := mt (i := 1134) (by decide +kernel)
theorem w1135 : Cond.selects "ContainerHostModel" ({ cls := "ContainerHostModel", name := "newGroup", desc := "(IIII)I" } : MethodName) ({ cls := "ContainerHostModel", name := "newGroup", desc := "(IIII)I" } : MethodName) ∈ lw_tbl := mt (i := 1135) (by decide +kernel)
theorem w1137 : Cond.methodLink "ContainerHostModel" (133 : Nat) ({ cls := "ContainerHostModel", name := "isGroup", desc := "(I)Z" } : MethodName) ∈ lw_tbl := mt (i := 1137) (by decide +kernel)
theorem w1139 : Cond.instanceMethod ({ cls := "ContainerHostModel", name := "isGroup", desc := "(I)Z" } : MethodName) ∈ lw_tbl := mt (i := 1139) (by decide +kernel)
theorem w1142 : Cond.instanceMethod ({ cls := "ContainerHostModel", name := "groupMemory", desc := "(I)I" } : MethodName) ∈ lw_tbl := mt (i := 1142) (by decide +kernel)
theorem w1143 : Cond.selects "ContainerHostModel" ({ cls := "ContainerHostModel", name := "groupMemory", desc := "(I)I" } : MethodName) ({ cls := "ContainerHostModel", name := "groupMemory", desc := "(I)I" } : MethodName) ∈ lw_tbl := mt (i := 1143) (by decide +kernel)
theorem w1145 : Cond.methodLink "ContainerHostModel" (136 : Nat) ({ cls := "ContainerHostModel", name := "memoryIn", desc := "(I)I" } : MethodName) ∈ lw_tbl := mt (i := 1145) (by decide +kernel)
theorem w1147 : Cond.instanceMethod ({ cls := "ContainerHostModel", name := "memoryIn", desc := "(I)I" } : MethodName) ∈ lw_tbl := mt (i := 1147) (by decide +kernel)
theorem w1149 : Cond.methodLink "ContainerHostModel" (130 : Nat) ({ cls := "ContainerHostModel", name := "isBelow", desc := "(II)Z" } : MethodName) ∈ lw_tbl := mt (i := 1149) (by decide +kernel)
theorem w1151 : Cond.instanceMethod ({ cls := "ContainerHostModel", name := "isBelow", desc := "(II)Z" } : MethodName) ∈ lw_tbl := mt (i := 1151) (by decide +kernel)
theorem w1154 : Cond.instanceMethod ({ cls := "ContainerHostModel", name := "groupProcesses", desc := "(I)I" } : MethodName) ∈ lw_tbl := mt (i := 1154) (by decide +kernel)
theorem w1155 : Cond.selects "ContainerHostModel" ({ cls := "ContainerHostModel", name := "groupProcesses", desc := "(I)I" } : MethodName) ({ cls := "ContainerHostModel", name := "groupProcesses", desc := "(I)I" } : MethodName) ∈ lw_tbl := mt (i := 1155) (by decide +kernel)
theorem w1157 : Cond.methodLink "ContainerHostModel" (139 : Nat) ({ cls := "ContainerHostModel", name := "processesIn", desc := "(I)I" } : MethodName) ∈ lw_tbl := mt (i := 1157) (by decide +kernel)
theorem w1159 : Cond.instanceMethod ({ cls := "ContainerHostModel", name := "processesIn", desc := "(I)I" } : MethodName) ∈ lw_tbl := mt (i := 1159) (by decide +kernel)
theorem w1162 : Cond.instanceMethod ({ cls := "ContainerHostModel", name := "run", desc := "(IIII)I" } : MethodName) ∈ lw_tbl := mt (i := 1162) (by decide +kernel)
theorem w1163 : Cond.selects "ContainerHostModel" ({ cls := "ContainerHostModel", name := "run", desc := "(IIII)I" } : MethodName) ({ cls := "ContainerHostModel", name := "run", desc := "(IIII)I" } : MethodName) ∈ lw_tbl := mt (i := 1163) (by decide +kernel)
theorem w1165 : Cond.methodLink "ContainerHostModel" (142 : Nat) ({ cls := "ContainerHostModel", name := "tooMuch", desc := "(III)I" } : MethodName) ∈ lw_tbl := mt (i := 1165) (by decide +kernel)
theorem w1167 : Cond.instanceMethod ({ cls := "ContainerHostModel", name := "tooMuch", desc := "(III)I" } : MethodName) ∈ lw_tbl := mt (i := 1167) (by decide +kernel)
theorem w1169 : Cond.methodLink "ContainerHostModel" (145 : Nat) ({ cls := "ContainerHostModel", name := "begins", desc := "(IIII)V" } : MethodName) ∈ lw_tbl := mt (i := 1169) (by decide +kernel)
theorem w1171 : Cond.instanceMethod ({ cls := "ContainerHostModel", name := "begins", desc := "(IIII)V" } : MethodName) ∈ lw_tbl := mt (i := 1171) (by decide +kernel)
theorem w1174 : Cond.instanceMethod ({ cls := "ContainerHostModel", name := "pause", desc := "(I)V" } : MethodName) ∈ lw_tbl := mt (i := 1174) (by decide +kernel)
theorem w1175 : Cond.selects "ContainerHostModel" ({ cls := "ContainerHostModel", name := "pause", desc := "(I)V" } : MethodName) ({ cls := "ContainerHostModel", name := "pause", desc := "(I)V" } : MethodName) ∈ lw_tbl := mt (i := 1175) (by decide +kernel)
theorem w1177 : Cond.methodLink "ContainerHostModel" (149 : Nat) ({ cls := "ContainerHostModel", name := "isThere", desc := "(II)Z" } : MethodName) ∈ lw_tbl := mt (i := 1177) (by decide +kernel)
theorem w1179 : Cond.instanceMethod ({ cls := "ContainerHostModel", name := "isThere", desc := "(II)Z" } : MethodName) ∈ lw_tbl := mt (i := 1179) (by decide +kernel)
theorem w1182 : Cond.instanceMethod ({ cls := "ContainerHostModel", name := "resume", desc := "(I)V" } : MethodName) ∈ lw_tbl := mt (i := 1182) (by decide +kernel)
theorem w1183 : Cond.selects "ContainerHostModel" ({ cls := "ContainerHostModel", name := "resume", desc := "(I)V" } : MethodName) ({ cls := "ContainerHostModel", name := "resume", desc := "(I)V" } : MethodName) ∈ lw_tbl := mt (i := 1183) (by decide +kernel)
theorem w1186 : Cond.instanceMethod ({ cls := "ContainerHostModel", name := "stop", desc := "(I)I" } : MethodName) ∈ lw_tbl := mt (i := 1186) (by decide +kernel)
theorem w1187 : Cond.selects "ContainerHostModel" ({ cls := "ContainerHostModel", name := "stop", desc := "(I)I" } : MethodName) ({ cls := "ContainerHostModel", name := "stop", desc := "(I)I" } : MethodName) ∈ lw_tbl := mt (i := 1187) (by decide +kernel)
theorem w1189 : Cond.methodLink "ContainerHostModel" (152 : Nat) ({ cls := "ContainerHostModel", name := "stops", desc := "(I)I" } : MethodName) ∈ lw_tbl := mt (i := 1189) (by decide +kernel)
theorem w1191 : Cond.instanceMethod ({ cls := "ContainerHostModel", name := "stops", desc := "(I)I" } : MethodName) ∈ lw_tbl := mt (i := 1191) (by decide +kernel)
theorem w1194 : Cond.instanceMethod ({ cls := "ContainerHostModel", name := "allocate", desc := "(II)I" } : MethodName) ∈ lw_tbl := mt (i := 1194) (by decide +kernel)
theorem w1195 : Cond.selects "ContainerHostModel" ({ cls := "ContainerHostModel", name := "allocate", desc := "(II)I" } : MethodName) ({ cls := "ContainerHostModel", name := "allocate", desc := "(II)I" } : MethodName) ∈ lw_tbl := mt (i := 1195) (by decide +kernel)
theorem w1197 : Cond.methodLink "ContainerHostModel" (155 : Nat) ({ cls := "ContainerHostModel", name := "areUnits", desc := "(I)Z" } : MethodName) ∈ lw_tbl := mt (i := 1197) (by decide +kernel)
theorem w1198 : Cond.static ({ cls := "ContainerHostModel", name := "areUnits", desc := "(I)Z" } : MethodName) ∈ lw_tbl := mt (i := 1198) (by decide +kernel)
theorem w1200 : Cond.methodLink "ContainerHostModel" (158 : Nat) ({ cls := "ContainerHostModel", name := "greatest", desc := "(I)I" } : MethodName) ∈ lw_tbl := mt (i := 1200) (by decide +kernel)
theorem w1202 : Cond.instanceMethod ({ cls := "ContainerHostModel", name := "greatest", desc := "(I)I" } : MethodName) ∈ lw_tbl := mt (i := 1202) (by decide +kernel)
theorem w1205 : Cond.instanceMethod ({ cls := "ContainerHostModel", name := "free", desc := "(II)I" } : MethodName) ∈ lw_tbl := mt (i := 1205) (by decide +kernel)
theorem w1206 : Cond.selects "ContainerHostModel" ({ cls := "ContainerHostModel", name := "free", desc := "(II)I" } : MethodName) ({ cls := "ContainerHostModel", name := "free", desc := "(II)I" } : MethodName) ∈ lw_tbl := mt (i := 1206) (by decide +kernel)
theorem w1209 : Cond.instanceMethod ({ cls := "ContainerHostModel", name := "fork", desc := "(I)I" } : MethodName) ∈ lw_tbl := mt (i := 1209) (by decide +kernel)
theorem w1210 : Cond.selects "ContainerHostModel" ({ cls := "ContainerHostModel", name := "fork", desc := "(I)I" } : MethodName) ({ cls := "ContainerHostModel", name := "fork", desc := "(I)I" } : MethodName) ∈ lw_tbl := mt (i := 1210) (by decide +kernel)
theorem w1213 : Cond.instanceMethod ({ cls := "ContainerHostModel", name := "exit", desc := "(I)I" } : MethodName) ∈ lw_tbl := mt (i := 1213) (by decide +kernel)
theorem w1214 : Cond.selects "ContainerHostModel" ({ cls := "ContainerHostModel", name := "exit", desc := "(I)I" } : MethodName) ({ cls := "ContainerHostModel", name := "exit", desc := "(I)I" } : MethodName) ∈ lw_tbl := mt (i := 1214) (by decide +kernel)
theorem w1217 : Cond.instanceMethod ({ cls := "ContainerHostModel", name := "schedule", desc := "(I)I" } : MethodName) ∈ lw_tbl := mt (i := 1217) (by decide +kernel)
theorem w1218 : Cond.selects "ContainerHostModel" ({ cls := "ContainerHostModel", name := "schedule", desc := "(I)I" } : MethodName) ({ cls := "ContainerHostModel", name := "schedule", desc := "(I)I" } : MethodName) ∈ lw_tbl := mt (i := 1218) (by decide +kernel)
theorem w1220 : Cond.methodLink "ContainerHostModel" (170 : Nat) ({ cls := "ContainerHostModel", name := "sharesOut", desc := "(I)I" } : MethodName) ∈ lw_tbl := mt (i := 1220) (by decide +kernel)
theorem w1222 : Cond.instanceMethod ({ cls := "ContainerHostModel", name := "sharesOut", desc := "(I)I" } : MethodName) ∈ lw_tbl := mt (i := 1222) (by decide +kernel)
theorem w1224 : Cond.methodLink "ContainerHostModel" (161 : Nat) ({ cls := "ContainerHostModel", name := "isPart", desc := "(II)Z" } : MethodName) ∈ lw_tbl := mt (i := 1224) (by decide +kernel)
theorem w1226 : Cond.instanceMethod ({ cls := "ContainerHostModel", name := "isPart", desc := "(II)Z" } : MethodName) ∈ lw_tbl := mt (i := 1226) (by decide +kernel)
theorem w1228 : Cond.methodLink "ContainerHostModel" (164 : Nat) ({ cls := "ContainerHostModel", name := "sharesOfPart", desc := "(I)I" } : MethodName) ∈ lw_tbl := mt (i := 1228) (by decide +kernel)
theorem w1230 : Cond.instanceMethod ({ cls := "ContainerHostModel", name := "sharesOfPart", desc := "(I)I" } : MethodName) ∈ lw_tbl := mt (i := 1230) (by decide +kernel)
theorem w1232 : Cond.methodLink "ContainerHostModel" (167 : Nat) ({ cls := "ContainerHostModel", name := "gives", desc := "(II)V" } : MethodName) ∈ lw_tbl := mt (i := 1232) (by decide +kernel)
theorem w1234 : Cond.instanceMethod ({ cls := "ContainerHostModel", name := "gives", desc := "(II)V" } : MethodName) ∈ lw_tbl := mt (i := 1234) (by decide +kernel)
theorem w1237 : Cond.instanceMethod ({ cls := "ContainerHostModel", name := "writeFile", desc := "(III)I" } : MethodName) ∈ lw_tbl := mt (i := 1237) (by decide +kernel)
theorem w1238 : Cond.selects "ContainerHostModel" ({ cls := "ContainerHostModel", name := "writeFile", desc := "(III)I" } : MethodName) ({ cls := "ContainerHostModel", name := "writeFile", desc := "(III)I" } : MethodName) ∈ lw_tbl := mt (i := 1238) (by decide +kernel)
theorem w1240 : Cond.methodLink "ContainerHostModel" (176 : Nat) ({ cls := "ContainerHostModel", name := "mayChange", desc := "(II)Z" } : MethodName) ∈ lw_tbl := mt (i := 1240) (by decide +kernel)
theorem w1242 : Cond.instanceMethod ({ cls := "ContainerHostModel", name := "mayChange", desc := "(II)Z" } : MethodName) ∈ lw_tbl := mt (i := 1242) (by decide +kernel)
theorem w1244 : Cond.methodLink "ContainerHostModel" (173 : Nat) ({ cls := "ContainerHostModel", name := "isEffective", desc := "(II)Z" } : MethodName) ∈ lw_tbl := mt (i := 1244) (by decide +kernel)
theorem w1246 : Cond.instanceMethod ({ cls := "ContainerHostModel", name := "isEffective", desc := "(II)Z" } : MethodName) ∈ lw_tbl := mt (i := 1246) (by decide +kernel)
theorem w1248 : Cond.methodLink "ContainerHostModel" (179 : Nat) ({ cls := "ContainerHostModel", name := "containerSees", desc := "(II)I" } : MethodName) ∈ lw_tbl := mt (i := 1248) (by decide +kernel)
theorem w1250 : Cond.instanceMethod ({ cls := "ContainerHostModel", name := "containerSees", desc := "(II)I" } : MethodName) ∈ lw_tbl := mt (i := 1250) (by decide +kernel)
theorem w1253 : Cond.instanceMethod ({ cls := "ContainerHostModel", name := "removeFile", desc := "(II)I" } : MethodName) ∈ lw_tbl := mt (i := 1253) (by decide +kernel)
theorem w1254 : Cond.selects "ContainerHostModel" ({ cls := "ContainerHostModel", name := "removeFile", desc := "(II)I" } : MethodName) ({ cls := "ContainerHostModel", name := "removeFile", desc := "(II)I" } : MethodName) ∈ lw_tbl := mt (i := 1254) (by decide +kernel)
theorem w1257 : Cond.instanceMethod ({ cls := "ContainerHostModel", name := "fileOf", desc := "(II)I" } : MethodName) ∈ lw_tbl := mt (i := 1257) (by decide +kernel)
theorem w1258 : Cond.selects "ContainerHostModel" ({ cls := "ContainerHostModel", name := "fileOf", desc := "(II)I" } : MethodName) ({ cls := "ContainerHostModel", name := "fileOf", desc := "(II)I" } : MethodName) ∈ lw_tbl := mt (i := 1258) (by decide +kernel)
theorem w1261 : Cond.instanceMethod ({ cls := "ContainerHostModel", name := "plainFileOf", desc := "(II)I" } : MethodName) ∈ lw_tbl := mt (i := 1261) (by decide +kernel)
theorem w1262 : Cond.selects "ContainerHostModel" ({ cls := "ContainerHostModel", name := "plainFileOf", desc := "(II)I" } : MethodName) ({ cls := "ContainerHostModel", name := "plainFileOf", desc := "(II)I" } : MethodName) ∈ lw_tbl := mt (i := 1262) (by decide +kernel)
theorem w1264 : Cond.methodLink "ContainerHostModel" (182 : Nat) ({ cls := "ContainerHostModel", name := "layerAt", desc := "(II)I" } : MethodName) ∈ lw_tbl := mt (i := 1264) (by decide +kernel)
theorem w1266 : Cond.instanceMethod ({ cls := "ContainerHostModel", name := "layerAt", desc := "(II)I" } : MethodName) ∈ lw_tbl := mt (i := 1266) (by decide +kernel)
theorem w1269 : Cond.instanceMethod ({ cls := "ContainerHostModel", name := "raise", desc := "(II)I" } : MethodName) ∈ lw_tbl := mt (i := 1269) (by decide +kernel)
theorem w1270 : Cond.selects "ContainerHostModel" ({ cls := "ContainerHostModel", name := "raise", desc := "(II)I" } : MethodName) ({ cls := "ContainerHostModel", name := "raise", desc := "(II)I" } : MethodName) ∈ lw_tbl := mt (i := 1270) (by decide +kernel)
theorem w1272 : Cond.methodLink "ContainerHostModel" (185 : Nat) ({ cls := "ContainerHostModel", name := "isCapability", desc := "(IIZ)Z" } : MethodName) ∈ lw_tbl := mt (i := 1272) (by decide +kernel)
theorem w1274 : Cond.instanceMethod ({ cls := "ContainerHostModel", name := "isCapability", desc := "(IIZ)Z" } : MethodName) ∈ lw_tbl := mt (i := 1274) (by decide +kernel)
theorem w1277 : Cond.instanceMethod ({ cls := "ContainerHostModel", name := "lower", desc := "(II)I" } : MethodName) ∈ lw_tbl := mt (i := 1277) (by decide +kernel)
theorem w1278 : Cond.selects "ContainerHostModel" ({ cls := "ContainerHostModel", name := "lower", desc := "(II)I" } : MethodName) ({ cls := "ContainerHostModel", name := "lower", desc := "(II)I" } : MethodName) ∈ lw_tbl := mt (i := 1278) (by decide +kernel)
theorem w1281 : Cond.instanceMethod ({ cls := "ContainerHostModel", name := "drop", desc := "(II)I" } : MethodName) ∈ lw_tbl := mt (i := 1281) (by decide +kernel)
theorem w1282 : Cond.selects "ContainerHostModel" ({ cls := "ContainerHostModel", name := "drop", desc := "(II)I" } : MethodName) ({ cls := "ContainerHostModel", name := "drop", desc := "(II)I" } : MethodName) ∈ lw_tbl := mt (i := 1282) (by decide +kernel)
theorem w1285 : Cond.instanceMethod ({ cls := "ContainerHostModel", name := "kill", desc := "(II)I" } : MethodName) ∈ lw_tbl := mt (i := 1285) (by decide +kernel)
theorem w1286 : Cond.selects "ContainerHostModel" ({ cls := "ContainerHostModel", name := "kill", desc := "(II)I" } : MethodName) ({ cls := "ContainerHostModel", name := "kill", desc := "(II)I" } : MethodName) ∈ lw_tbl := mt (i := 1286) (by decide +kernel)
theorem w1289 : Cond.instanceMethod ({ cls := "ContainerHostModel", name := "attach", desc := "(II)I" } : MethodName) ∈ lw_tbl := mt (i := 1289) (by decide +kernel)
theorem w1290 : Cond.selects "ContainerHostModel" ({ cls := "ContainerHostModel", name := "attach", desc := "(II)I" } : MethodName) ({ cls := "ContainerHostModel", name := "attach", desc := "(II)I" } : MethodName) ∈ lw_tbl := mt (i := 1290) (by decide +kernel)
theorem w1292 : Cond.methodLink "ContainerHostModel" (192 : Nat) ({ cls := "ContainerHostModel", name := "freeAddress", desc := "(I)I" } : MethodName) ∈ lw_tbl := mt (i := 1292) (by decide +kernel)
theorem w1294 : Cond.instanceMethod ({ cls := "ContainerHostModel", name := "freeAddress", desc := "(I)I" } : MethodName) ∈ lw_tbl := mt (i := 1294) (by decide +kernel)
theorem w1296 : Cond.methodLink "ContainerHostModel" (189 : Nat) ({ cls := "ContainerHostModel", name := "atAddress", desc := "(II)I" } : MethodName) ∈ lw_tbl := mt (i := 1296) (by decide +kernel)
theorem w1298 : Cond.instanceMethod ({ cls := "ContainerHostModel", name := "atAddress", desc := "(II)I" } : MethodName) ∈ lw_tbl := mt (i := 1298) (by decide +kernel)
theorem w1301 : Cond.instanceMethod ({ cls := "ContainerHostModel", name := "detach", desc := "(I)I" } : MethodName) ∈ lw_tbl := mt (i := 1301) (by decide +kernel)
theorem w1302 : Cond.selects "ContainerHostModel" ({ cls := "ContainerHostModel", name := "detach", desc := "(I)I" } : MethodName) ({ cls := "ContainerHostModel", name := "detach", desc := "(I)I" } : MethodName) ∈ lw_tbl := mt (i := 1302) (by decide +kernel)
theorem w1305 : Cond.instanceMethod ({ cls := "ContainerHostModel", name := "listen", desc := "(II)I" } : MethodName) ∈ lw_tbl := mt (i := 1305) (by decide +kernel)
theorem w1306 : Cond.selects "ContainerHostModel" ({ cls := "ContainerHostModel", name := "listen", desc := "(II)I" } : MethodName) ({ cls := "ContainerHostModel", name := "listen", desc := "(II)I" } : MethodName) ∈ lw_tbl := mt (i := 1306) (by decide +kernel)
theorem w1308 : Cond.methodLink "ContainerHostModel" (195 : Nat) ({ cls := "ContainerHostModel", name := "isListening", desc := "(II)Z" } : MethodName) ∈ lw_tbl := mt (i := 1308) (by decide +kernel)
theorem w1310 : Cond.instanceMethod ({ cls := "ContainerHostModel", name := "isListening", desc := "(II)Z" } : MethodName) ∈ lw_tbl := mt (i := 1310) (by decide +kernel)
theorem w1313 : Cond.instanceMethod ({ cls := "ContainerHostModel", name := "publish", desc := "(III)I" } : MethodName) ∈ lw_tbl := mt (i := 1313) (by decide +kernel)
theorem w1314 : Cond.selects "ContainerHostModel" ({ cls := "ContainerHostModel", name := "publish", desc := "(III)I" } : MethodName) ({ cls := "ContainerHostModel", name := "publish", desc := "(III)I" } : MethodName) ∈ lw_tbl := mt (i := 1314) (by decide +kernel)
theorem w1317 : Cond.instanceMethod ({ cls := "ContainerHostModel", name := "connect", desc := "(III)I" } : MethodName) ∈ lw_tbl := mt (i := 1317) (by decide +kernel)
theorem w1318 : Cond.selects "ContainerHostModel" ({ cls := "ContainerHostModel", name := "connect", desc := "(III)I" } : MethodName) ({ cls := "ContainerHostModel", name := "connect", desc := "(III)I" } : MethodName) ∈ lw_tbl := mt (i := 1318) (by decide +kernel)
theorem w1321 : Cond.instanceMethod ({ cls := "ContainerHostModel", name := "connectHost", desc := "(I)I" } : MethodName) ∈ lw_tbl := mt (i := 1321) (by decide +kernel)
theorem w1322 : Cond.selects "ContainerHostModel" ({ cls := "ContainerHostModel", name := "connectHost", desc := "(I)I" } : MethodName) ({ cls := "ContainerHostModel", name := "connectHost", desc := "(I)I" } : MethodName) ∈ lw_tbl := mt (i := 1322) (by decide +kernel)
theorem w1325 : Cond.instanceMethod ({ cls := "ContainerHostModel", name := "save", desc := "(I)I" } : MethodName) ∈ lw_tbl := mt (i := 1325) (by decide +kernel)
theorem w1326 : Cond.selects "ContainerHostModel" ({ cls := "ContainerHostModel", name := "save", desc := "(I)I" } : MethodName) ({ cls := "ContainerHostModel", name := "save", desc := "(I)I" } : MethodName) ∈ lw_tbl := mt (i := 1326) (by decide +kernel)
theorem w1328 : Cond.methodLink "ContainerHostModel" (201 : Nat) ({ cls := "ContainerHostModel", name := "keeps", desc := "(II)V" } : MethodName) ∈ lw_tbl := mt (i := 1328) (by decide +kernel)
theorem w1330 : Cond.instanceMethod ({ cls := "ContainerHostModel", name := "keeps", desc := "(II)V" } : MethodName) ∈ lw_tbl := mt (i := 1330) (by decide +kernel)
theorem w1333 : Cond.instanceMethod ({ cls := "ContainerHostModel", name := "restore", desc := "(II)I" } : MethodName) ∈ lw_tbl := mt (i := 1333) (by decide +kernel)
theorem w1334 : Cond.selects "ContainerHostModel" ({ cls := "ContainerHostModel", name := "restore", desc := "(II)I" } : MethodName) ({ cls := "ContainerHostModel", name := "restore", desc := "(II)I" } : MethodName) ∈ lw_tbl := mt (i := 1334) (by decide +kernel)
theorem w1337 : Cond.instanceMethod ({ cls := "ContainerHostModel", name := "containers", desc := "()I" } : MethodName) ∈ lw_tbl := mt (i := 1337) (by decide +kernel)
theorem w1338 : Cond.selects "ContainerHostModel" ({ cls := "ContainerHostModel", name := "containers", desc := "()I" } : MethodName) ({ cls := "ContainerHostModel", name := "containers", desc := "()I" } : MethodName) ∈ lw_tbl := mt (i := 1338) (by decide +kernel)
theorem w1341 : Cond.instanceMethod ({ cls := "ContainerHostModel", name := "stateOf", desc := "(I)I" } : MethodName) ∈ lw_tbl := mt (i := 1341) (by decide +kernel)
theorem w1342 : Cond.selects "ContainerHostModel" ({ cls := "ContainerHostModel", name := "stateOf", desc := "(I)I" } : MethodName) ({ cls := "ContainerHostModel", name := "stateOf", desc := "(I)I" } : MethodName) ∈ lw_tbl := mt (i := 1342) (by decide +kernel)
theorem w1344 : Cond.methodLink "ContainerHostModel" (204 : Nat) ({ cls := "ContainerHostModel", name := "isAsked", desc := "(I)Z" } : MethodName) ∈ lw_tbl := mt (i := 1344) (by decide +kernel)
theorem w1346 : Cond.instanceMethod ({ cls := "ContainerHostModel", name := "isAsked", desc := "(I)Z" } : MethodName) ∈ lw_tbl := mt (i := 1346) (by decide +kernel)
theorem w1349 : Cond.instanceMethod ({ cls := "ContainerHostModel", name := "memoryOf", desc := "(I)I" } : MethodName) ∈ lw_tbl := mt (i := 1349) (by decide +kernel)
theorem w1350 : Cond.selects "ContainerHostModel" ({ cls := "ContainerHostModel", name := "memoryOf", desc := "(I)I" } : MethodName) ({ cls := "ContainerHostModel", name := "memoryOf", desc := "(I)I" } : MethodName) ∈ lw_tbl := mt (i := 1350) (by decide +kernel)
theorem w1353 : Cond.instanceMethod ({ cls := "ContainerHostModel", name := "timeOf", desc := "(I)I" } : MethodName) ∈ lw_tbl := mt (i := 1353) (by decide +kernel)
theorem w1354 : Cond.selects "ContainerHostModel" ({ cls := "ContainerHostModel", name := "timeOf", desc := "(I)I" } : MethodName) ({ cls := "ContainerHostModel", name := "timeOf", desc := "(I)I" } : MethodName) ∈ lw_tbl := mt (i := 1354) (by decide +kernel)
theorem w1357 : Cond.instanceMethod ({ cls := "ContainerHostModel", name := "capabilitiesOf", desc := "(I)I" } : MethodName) ∈ lw_tbl := mt (i := 1357) (by decide +kernel)
theorem w1358 : Cond.selects "ContainerHostModel" ({ cls := "ContainerHostModel", name := "capabilitiesOf", desc := "(I)I" } : MethodName) ({ cls := "ContainerHostModel", name := "capabilitiesOf", desc := "(I)I" } : MethodName) ∈ lw_tbl := mt (i := 1358) (by decide +kernel)
theorem w1361 : Cond.instanceMethod ({ cls := "ContainerHostModel", name := "addressOf", desc := "(I)I" } : MethodName) ∈ lw_tbl := mt (i := 1361) (by decide +kernel)
theorem w1362 : Cond.selects "ContainerHostModel" ({ cls := "ContainerHostModel", name := "addressOf", desc := "(I)I" } : MethodName) ({ cls := "ContainerHostModel", name := "addressOf", desc := "(I)I" } : MethodName) ∈ lw_tbl := mt (i := 1362) (by decide +kernel)
theorem s_m_init : Cond.instanceMethod y_m_init ∈ lw_tbl := w970
theorem s_m_thrown : Cond.instanceMethod y_m_thrown ∈ lw_tbl := w1060
theorem v_m_thrown : Cond.selects y_m_thrown.cls y_m_thrown y_m_thrown ∈ lw_tbl := w1061
theorem s_m_newImage : Cond.instanceMethod y_m_newImage ∈ lw_tbl := w1064
theorem v_m_newImage : Cond.selects y_m_newImage.cls y_m_newImage y_m_newImage ∈ lw_tbl := w1065
theorem s_m_isImage : Cond.instanceMethod y_m_isImage ∈ lw_tbl := w1069
theorem v_m_isImage : Cond.selects y_m_isImage.cls y_m_isImage y_m_isImage ∈ lw_tbl := ms (i := 24) (q := (y_m_isImage, 28)) (by decide +kernel)
theorem s_m_isIn : Cond.static y_m_isIn ∈ lw_tbl := w1072
theorem s_m_layersOf : Cond.instanceMethod y_m_layersOf ∈ lw_tbl := w1076
theorem v_m_layersOf : Cond.selects y_m_layersOf.cls y_m_layersOf y_m_layersOf ∈ lw_tbl := ms (i := 25) (q := (y_m_layersOf, 28)) (by decide +kernel)
theorem s_m_holds : Cond.instanceMethod y_m_holds ∈ lw_tbl := w1080
theorem v_m_holds : Cond.selects y_m_holds.cls y_m_holds y_m_holds ∈ lw_tbl := ms (i := 26) (q := (y_m_holds, 28)) (by decide +kernel)
theorem s_m_empties : Cond.instanceMethod y_m_empties ∈ lw_tbl := w1084
theorem v_m_empties : Cond.selects y_m_empties.cls y_m_empties y_m_empties ∈ lw_tbl := ms (i := 27) (q := (y_m_empties, 28)) (by decide +kernel)
theorem s_m_write : Cond.instanceMethod y_m_write ∈ lw_tbl := w1087
theorem v_m_write : Cond.selects y_m_write.cls y_m_write y_m_write ∈ lw_tbl := w1088
theorem s_m_isContent : Cond.static y_m_isContent ∈ lw_tbl := w1091
theorem s_m_imageShows : Cond.instanceMethod y_m_imageShows ∈ lw_tbl := w1095
theorem v_m_imageShows : Cond.selects y_m_imageShows.cls y_m_imageShows y_m_imageShows ∈ lw_tbl := ms (i := 28) (q := (y_m_imageShows, 28)) (by decide +kernel)
theorem s_m_shows : Cond.instanceMethod y_m_shows ∈ lw_tbl := w1099
theorem v_m_shows : Cond.selects y_m_shows.cls y_m_shows y_m_shows ∈ lw_tbl := ms (i := 29) (q := (y_m_shows, 28)) (by decide +kernel)
theorem s_m_remove : Cond.instanceMethod y_m_remove ∈ lw_tbl := w1102
theorem v_m_remove : Cond.selects y_m_remove.cls y_m_remove y_m_remove ∈ lw_tbl := w1103
theorem s_m_clear : Cond.instanceMethod y_m_clear ∈ lw_tbl := w1106
theorem v_m_clear : Cond.selects y_m_clear.cls y_m_clear y_m_clear ∈ lw_tbl := w1107
theorem s_m_seal : Cond.instanceMethod y_m_seal ∈ lw_tbl := w1110
theorem v_m_seal : Cond.selects y_m_seal.cls y_m_seal y_m_seal ∈ lw_tbl := w1111
theorem s_m_shown : Cond.instanceMethod y_m_shown ∈ lw_tbl := w1114
theorem v_m_shown : Cond.selects y_m_shown.cls y_m_shown y_m_shown ∈ lw_tbl := w1115
theorem s_m_entries : Cond.instanceMethod y_m_entries ∈ lw_tbl := w1118
theorem v_m_entries : Cond.selects y_m_entries.cls y_m_entries y_m_entries ∈ lw_tbl := w1119
theorem s_m_commit : Cond.instanceMethod y_m_commit ∈ lw_tbl := w1122
theorem v_m_commit : Cond.selects y_m_commit.cls y_m_commit y_m_commit ∈ lw_tbl := w1123
theorem s_m_isContainer : Cond.instanceMethod y_m_isContainer ∈ lw_tbl := w1127
theorem v_m_isContainer : Cond.selects y_m_isContainer.cls y_m_isContainer y_m_isContainer ∈ lw_tbl := ms (i := 30) (q := (y_m_isContainer, 28)) (by decide +kernel)
theorem s_m_copies : Cond.instanceMethod y_m_copies ∈ lw_tbl := w1131
theorem v_m_copies : Cond.selects y_m_copies.cls y_m_copies y_m_copies ∈ lw_tbl := ms (i := 31) (q := (y_m_copies, 28)) (by decide +kernel)
theorem s_m_newGroup : Cond.instanceMethod y_m_newGroup ∈ lw_tbl := w1134
theorem v_m_newGroup : Cond.selects y_m_newGroup.cls y_m_newGroup y_m_newGroup ∈ lw_tbl := w1135
theorem s_m_isGroup : Cond.instanceMethod y_m_isGroup ∈ lw_tbl := w1139
theorem v_m_isGroup : Cond.selects y_m_isGroup.cls y_m_isGroup y_m_isGroup ∈ lw_tbl := ms (i := 32) (q := (y_m_isGroup, 28)) (by decide +kernel)
theorem s_m_groupMemory : Cond.instanceMethod y_m_groupMemory ∈ lw_tbl := w1142
theorem v_m_groupMemory : Cond.selects y_m_groupMemory.cls y_m_groupMemory y_m_groupMemory ∈ lw_tbl := w1143
theorem s_m_memoryIn : Cond.instanceMethod y_m_memoryIn ∈ lw_tbl := w1147
theorem v_m_memoryIn : Cond.selects y_m_memoryIn.cls y_m_memoryIn y_m_memoryIn ∈ lw_tbl := ms (i := 33) (q := (y_m_memoryIn, 28)) (by decide +kernel)
theorem s_m_isBelow : Cond.instanceMethod y_m_isBelow ∈ lw_tbl := w1151
theorem v_m_isBelow : Cond.selects y_m_isBelow.cls y_m_isBelow y_m_isBelow ∈ lw_tbl := ms (i := 34) (q := (y_m_isBelow, 28)) (by decide +kernel)
theorem s_m_groupProcesses : Cond.instanceMethod y_m_groupProcesses ∈ lw_tbl := w1154
theorem v_m_groupProcesses : Cond.selects y_m_groupProcesses.cls y_m_groupProcesses y_m_groupProcesses ∈ lw_tbl := w1155
theorem s_m_processesIn : Cond.instanceMethod y_m_processesIn ∈ lw_tbl := w1159
theorem v_m_processesIn : Cond.selects y_m_processesIn.cls y_m_processesIn y_m_processesIn ∈ lw_tbl := ms (i := 35) (q := (y_m_processesIn, 28)) (by decide +kernel)
theorem s_m_run : Cond.instanceMethod y_m_run ∈ lw_tbl := w1162
theorem v_m_run : Cond.selects y_m_run.cls y_m_run y_m_run ∈ lw_tbl := w1163
theorem s_m_tooMuch : Cond.instanceMethod y_m_tooMuch ∈ lw_tbl := w1167
theorem v_m_tooMuch : Cond.selects y_m_tooMuch.cls y_m_tooMuch y_m_tooMuch ∈ lw_tbl := ms (i := 36) (q := (y_m_tooMuch, 28)) (by decide +kernel)
theorem s_m_begins : Cond.instanceMethod y_m_begins ∈ lw_tbl := w1171
theorem v_m_begins : Cond.selects y_m_begins.cls y_m_begins y_m_begins ∈ lw_tbl := ms (i := 37) (q := (y_m_begins, 28)) (by decide +kernel)
theorem s_m_pause : Cond.instanceMethod y_m_pause ∈ lw_tbl := w1174
theorem v_m_pause : Cond.selects y_m_pause.cls y_m_pause y_m_pause ∈ lw_tbl := w1175
theorem s_m_isThere : Cond.instanceMethod y_m_isThere ∈ lw_tbl := w1179
theorem v_m_isThere : Cond.selects y_m_isThere.cls y_m_isThere y_m_isThere ∈ lw_tbl := ms (i := 38) (q := (y_m_isThere, 28)) (by decide +kernel)
theorem s_m_resume : Cond.instanceMethod y_m_resume ∈ lw_tbl := w1182
theorem v_m_resume : Cond.selects y_m_resume.cls y_m_resume y_m_resume ∈ lw_tbl := w1183
theorem s_m_stop : Cond.instanceMethod y_m_stop ∈ lw_tbl := w1186
theorem v_m_stop : Cond.selects y_m_stop.cls y_m_stop y_m_stop ∈ lw_tbl := w1187
theorem s_m_stops : Cond.instanceMethod y_m_stops ∈ lw_tbl := w1191
theorem v_m_stops : Cond.selects y_m_stops.cls y_m_stops y_m_stops ∈ lw_tbl := ms (i := 39) (q := (y_m_stops, 28)) (by decide +kernel)
theorem s_m_allocate : Cond.instanceMethod y_m_allocate ∈ lw_tbl := w1194
theorem v_m_allocate : Cond.selects y_m_allocate.cls y_m_allocate y_m_allocate ∈ lw_tbl := w1195
theorem s_m_areUnits : Cond.static y_m_areUnits ∈ lw_tbl := w1198
theorem s_m_greatest : Cond.instanceMethod y_m_greatest ∈ lw_tbl := w1202
theorem v_m_greatest : Cond.selects y_m_greatest.cls y_m_greatest y_m_greatest ∈ lw_tbl := ms (i := 40) (q := (y_m_greatest, 28)) (by decide +kernel)
theorem s_m_free : Cond.instanceMethod y_m_free ∈ lw_tbl := w1205
theorem v_m_free : Cond.selects y_m_free.cls y_m_free y_m_free ∈ lw_tbl := w1206
theorem s_m_fork : Cond.instanceMethod y_m_fork ∈ lw_tbl := w1209
theorem v_m_fork : Cond.selects y_m_fork.cls y_m_fork y_m_fork ∈ lw_tbl := w1210
theorem s_m_exit : Cond.instanceMethod y_m_exit ∈ lw_tbl := w1213
theorem v_m_exit : Cond.selects y_m_exit.cls y_m_exit y_m_exit ∈ lw_tbl := w1214
theorem s_m_schedule : Cond.instanceMethod y_m_schedule ∈ lw_tbl := w1217
theorem v_m_schedule : Cond.selects y_m_schedule.cls y_m_schedule y_m_schedule ∈ lw_tbl := w1218
theorem s_m_sharesOut : Cond.instanceMethod y_m_sharesOut ∈ lw_tbl := w1222
theorem v_m_sharesOut : Cond.selects y_m_sharesOut.cls y_m_sharesOut y_m_sharesOut ∈ lw_tbl := ms (i := 41) (q := (y_m_sharesOut, 28)) (by decide +kernel)
theorem s_m_isPart : Cond.instanceMethod y_m_isPart ∈ lw_tbl := w1226
theorem v_m_isPart : Cond.selects y_m_isPart.cls y_m_isPart y_m_isPart ∈ lw_tbl := ms (i := 42) (q := (y_m_isPart, 28)) (by decide +kernel)
theorem s_m_sharesOfPart : Cond.instanceMethod y_m_sharesOfPart ∈ lw_tbl := w1230
theorem v_m_sharesOfPart : Cond.selects y_m_sharesOfPart.cls y_m_sharesOfPart y_m_sharesOfPart ∈ lw_tbl := ms (i := 43) (q := (y_m_sharesOfPart, 28)) (by decide +kernel)
theorem s_m_gives : Cond.instanceMethod y_m_gives ∈ lw_tbl := w1234
theorem v_m_gives : Cond.selects y_m_gives.cls y_m_gives y_m_gives ∈ lw_tbl := ms (i := 44) (q := (y_m_gives, 28)) (by decide +kernel)
theorem s_m_writeFile : Cond.instanceMethod y_m_writeFile ∈ lw_tbl := w1237
theorem v_m_writeFile : Cond.selects y_m_writeFile.cls y_m_writeFile y_m_writeFile ∈ lw_tbl := w1238
theorem s_m_mayChange : Cond.instanceMethod y_m_mayChange ∈ lw_tbl := w1242
theorem v_m_mayChange : Cond.selects y_m_mayChange.cls y_m_mayChange y_m_mayChange ∈ lw_tbl := ms (i := 45) (q := (y_m_mayChange, 28)) (by decide +kernel)
theorem s_m_isEffective : Cond.instanceMethod y_m_isEffective ∈ lw_tbl := w1246
theorem v_m_isEffective : Cond.selects y_m_isEffective.cls y_m_isEffective y_m_isEffective ∈ lw_tbl := ms (i := 46) (q := (y_m_isEffective, 28)) (by decide +kernel)
theorem s_m_containerSees : Cond.instanceMethod y_m_containerSees ∈ lw_tbl := w1250
theorem v_m_containerSees : Cond.selects y_m_containerSees.cls y_m_containerSees y_m_containerSees ∈ lw_tbl := ms (i := 47) (q := (y_m_containerSees, 28)) (by decide +kernel)
theorem s_m_removeFile : Cond.instanceMethod y_m_removeFile ∈ lw_tbl := w1253
theorem v_m_removeFile : Cond.selects y_m_removeFile.cls y_m_removeFile y_m_removeFile ∈ lw_tbl := w1254
theorem s_m_fileOf : Cond.instanceMethod y_m_fileOf ∈ lw_tbl := w1257
theorem v_m_fileOf : Cond.selects y_m_fileOf.cls y_m_fileOf y_m_fileOf ∈ lw_tbl := w1258
theorem s_m_plainFileOf : Cond.instanceMethod y_m_plainFileOf ∈ lw_tbl := w1261
theorem v_m_plainFileOf : Cond.selects y_m_plainFileOf.cls y_m_plainFileOf y_m_plainFileOf ∈ lw_tbl := w1262
theorem s_m_layerAt : Cond.instanceMethod y_m_layerAt ∈ lw_tbl := w1266
theorem v_m_layerAt : Cond.selects y_m_layerAt.cls y_m_layerAt y_m_layerAt ∈ lw_tbl := ms (i := 48) (q := (y_m_layerAt, 28)) (by decide +kernel)
theorem s_m_raise : Cond.instanceMethod y_m_raise ∈ lw_tbl := w1269
theorem v_m_raise : Cond.selects y_m_raise.cls y_m_raise y_m_raise ∈ lw_tbl := w1270
theorem s_m_isCapability : Cond.instanceMethod y_m_isCapability ∈ lw_tbl := w1274
theorem v_m_isCapability : Cond.selects y_m_isCapability.cls y_m_isCapability y_m_isCapability ∈ lw_tbl := ms (i := 49) (q := (y_m_isCapability, 28)) (by decide +kernel)
theorem s_m_lower : Cond.instanceMethod y_m_lower ∈ lw_tbl := w1277
theorem v_m_lower : Cond.selects y_m_lower.cls y_m_lower y_m_lower ∈ lw_tbl := w1278
theorem s_m_drop : Cond.instanceMethod y_m_drop ∈ lw_tbl := w1281
theorem v_m_drop : Cond.selects y_m_drop.cls y_m_drop y_m_drop ∈ lw_tbl := w1282
theorem s_m_kill : Cond.instanceMethod y_m_kill ∈ lw_tbl := w1285
theorem v_m_kill : Cond.selects y_m_kill.cls y_m_kill y_m_kill ∈ lw_tbl := w1286
theorem s_m_attach : Cond.instanceMethod y_m_attach ∈ lw_tbl := w1289
theorem v_m_attach : Cond.selects y_m_attach.cls y_m_attach y_m_attach ∈ lw_tbl := w1290
theorem s_m_freeAddress : Cond.instanceMethod y_m_freeAddress ∈ lw_tbl := w1294
theorem v_m_freeAddress : Cond.selects y_m_freeAddress.cls y_m_freeAddress y_m_freeAddress ∈ lw_tbl := ms (i := 50) (q := (y_m_freeAddress, 28)) (by decide +kernel)
theorem s_m_atAddress : Cond.instanceMethod y_m_atAddress ∈ lw_tbl := w1298
theorem v_m_atAddress : Cond.selects y_m_atAddress.cls y_m_atAddress y_m_atAddress ∈ lw_tbl := ms (i := 51) (q := (y_m_atAddress, 28)) (by decide +kernel)
theorem s_m_detach : Cond.instanceMethod y_m_detach ∈ lw_tbl := w1301
theorem v_m_detach : Cond.selects y_m_detach.cls y_m_detach y_m_detach ∈ lw_tbl := w1302
theorem s_m_listen : Cond.instanceMethod y_m_listen ∈ lw_tbl := w1305
theorem v_m_listen : Cond.selects y_m_listen.cls y_m_listen y_m_listen ∈ lw_tbl := w1306
theorem s_m_isListening : Cond.instanceMethod y_m_isListening ∈ lw_tbl := w1310
theorem v_m_isListening : Cond.selects y_m_isListening.cls y_m_isListening y_m_isListening ∈ lw_tbl := ms (i := 52) (q := (y_m_isListening, 28)) (by decide +kernel)
theorem s_m_publish : Cond.instanceMethod y_m_publish ∈ lw_tbl := w1313
theorem v_m_publish : Cond.selects y_m_publish.cls y_m_publish y_m_publish ∈ lw_tbl := w1314
theorem s_m_connect : Cond.instanceMethod y_m_connect ∈ lw_tbl := w1317
theorem v_m_connect : Cond.selects y_m_connect.cls y_m_connect y_m_connect ∈ lw_tbl := w1318
theorem s_m_connectHost : Cond.instanceMethod y_m_connectHost ∈ lw_tbl := w1321
theorem v_m_connectHost : Cond.selects y_m_connectHost.cls y_m_connectHost y_m_connectHost ∈ lw_tbl := w1322
theorem s_m_save : Cond.instanceMethod y_m_save ∈ lw_tbl := w1325
theorem v_m_save : Cond.selects y_m_save.cls y_m_save y_m_save ∈ lw_tbl := w1326
theorem s_m_keeps : Cond.instanceMethod y_m_keeps ∈ lw_tbl := w1330
theorem v_m_keeps : Cond.selects y_m_keeps.cls y_m_keeps y_m_keeps ∈ lw_tbl := ms (i := 53) (q := (y_m_keeps, 28)) (by decide +kernel)
theorem s_m_restore : Cond.instanceMethod y_m_restore ∈ lw_tbl := w1333
theorem v_m_restore : Cond.selects y_m_restore.cls y_m_restore y_m_restore ∈ lw_tbl := w1334
theorem s_m_containers : Cond.instanceMethod y_m_containers ∈ lw_tbl := w1337
theorem v_m_containers : Cond.selects y_m_containers.cls y_m_containers y_m_containers ∈ lw_tbl := w1338
theorem s_m_stateOf : Cond.instanceMethod y_m_stateOf ∈ lw_tbl := w1341
theorem v_m_stateOf : Cond.selects y_m_stateOf.cls y_m_stateOf y_m_stateOf ∈ lw_tbl := w1342
theorem s_m_isAsked : Cond.instanceMethod y_m_isAsked ∈ lw_tbl := w1346
theorem v_m_isAsked : Cond.selects y_m_isAsked.cls y_m_isAsked y_m_isAsked ∈ lw_tbl := ms (i := 54) (q := (y_m_isAsked, 28)) (by decide +kernel)
theorem s_m_memoryOf : Cond.instanceMethod y_m_memoryOf ∈ lw_tbl := w1349
theorem v_m_memoryOf : Cond.selects y_m_memoryOf.cls y_m_memoryOf y_m_memoryOf ∈ lw_tbl := w1350
theorem s_m_timeOf : Cond.instanceMethod y_m_timeOf ∈ lw_tbl := w1353
theorem v_m_timeOf : Cond.selects y_m_timeOf.cls y_m_timeOf y_m_timeOf ∈ lw_tbl := w1354
theorem s_m_capabilitiesOf : Cond.instanceMethod y_m_capabilitiesOf ∈ lw_tbl := w1357
theorem v_m_capabilitiesOf : Cond.selects y_m_capabilitiesOf.cls y_m_capabilitiesOf y_m_capabilitiesOf ∈ lw_tbl := w1358
theorem s_m_addressOf : Cond.instanceMethod y_m_addressOf ∈ lw_tbl := w1361
theorem v_m_addressOf : Cond.selects y_m_addressOf.cls y_m_addressOf y_m_addressOf ∈ lw_tbl := w1362
theorem q_m_newImage_101 : callOk M_m_newImage M_m_isImage y_m_isImage k_m_isImage 101 1 := ⟨rfl, e_m_isImage, w1067, w11, by decide, by decide +kernel, by decide, by decide⟩
theorem q_m_newImage_105 : callOk M_m_newImage M_m_layersOf y_m_layersOf k_m_layersOf 105 1 := ⟨rfl, e_m_layersOf, w1074, w11, by decide, by decide +kernel, by decide, by decide⟩
theorem q_m_newImage_109 : callOk M_m_newImage M_m_holds y_m_holds k_m_holds 109 1 := ⟨rfl, e_m_holds, w1078, w11, by decide, by decide +kernel, by decide, by decide⟩
theorem q_m_newImage_112 : callOk M_m_newImage M_m_empties y_m_empties k_m_empties 112 1 := ⟨rfl, e_m_empties, w1082, w11, by decide, by decide +kernel, by decide, by decide⟩
theorem q_m_isImage_90 : callOk M_m_isImage M_m_isIn y_m_isIn k_m_isIn 90 2 := ⟨rfl, e_m_isIn, w1071, w11, by decide, by decide +kernel, by decide, by decide⟩
theorem q_m_write_101 : callOk M_m_write M_m_isImage y_m_isImage k_m_isImage 101 1 := ⟨rfl, e_m_isImage, w1067, w11, by decide, by decide +kernel, by decide, by decide⟩
theorem q_m_write_90 : callOk M_m_write M_m_isIn y_m_isIn k_m_isIn 90 2 := ⟨rfl, e_m_isIn, w1071, w11, by decide, by decide +kernel, by decide, by decide⟩
theorem q_m_write_116 : callOk M_m_write M_m_isContent y_m_isContent k_m_isContent 116 1 := ⟨rfl, e_m_isContent, w1090, w11, by decide, by decide +kernel, by decide, by decide⟩
theorem q_m_write_109 : callOk M_m_write M_m_holds y_m_holds k_m_holds 109 1 := ⟨rfl, e_m_holds, w1078, w11, by decide, by decide +kernel, by decide, by decide⟩
theorem q_m_write_119 : callOk M_m_write M_m_imageShows y_m_imageShows k_m_imageShows 119 2 := ⟨rfl, e_m_imageShows, w1093, w11, by decide, by decide +kernel, by decide, by decide⟩
theorem q_m_imageShows_97 : callOk M_m_imageShows M_m_shows y_m_shows k_m_shows 97 3 := ⟨rfl, e_m_shows, w1097, w11, by decide, by decide +kernel, by decide, by decide⟩
theorem q_m_remove_101 : callOk M_m_remove M_m_isImage y_m_isImage k_m_isImage 101 1 := ⟨rfl, e_m_isImage, w1067, w11, by decide, by decide +kernel, by decide, by decide⟩
theorem q_m_remove_90 : callOk M_m_remove M_m_isIn y_m_isIn k_m_isIn 90 2 := ⟨rfl, e_m_isIn, w1071, w11, by decide, by decide +kernel, by decide, by decide⟩
theorem q_m_remove_119 : callOk M_m_remove M_m_imageShows y_m_imageShows k_m_imageShows 119 2 := ⟨rfl, e_m_imageShows, w1093, w11, by decide, by decide +kernel, by decide, by decide⟩
theorem q_m_remove_109 : callOk M_m_remove M_m_holds y_m_holds k_m_holds 109 1 := ⟨rfl, e_m_holds, w1078, w11, by decide, by decide +kernel, by decide, by decide⟩
theorem q_m_clear_101 : callOk M_m_clear M_m_isImage y_m_isImage k_m_isImage 101 1 := ⟨rfl, e_m_isImage, w1067, w11, by decide, by decide +kernel, by decide, by decide⟩
theorem q_m_clear_90 : callOk M_m_clear M_m_isIn y_m_isIn k_m_isIn 90 2 := ⟨rfl, e_m_isIn, w1071, w11, by decide, by decide +kernel, by decide, by decide⟩
theorem q_m_clear_109 : callOk M_m_clear M_m_holds y_m_holds k_m_holds 109 1 := ⟨rfl, e_m_holds, w1078, w11, by decide, by decide +kernel, by decide, by decide⟩
theorem q_m_clear_119 : callOk M_m_clear M_m_imageShows y_m_imageShows k_m_imageShows 119 2 := ⟨rfl, e_m_imageShows, w1093, w11, by decide, by decide +kernel, by decide, by decide⟩
theorem q_m_seal_101 : callOk M_m_seal M_m_isImage y_m_isImage k_m_isImage 101 1 := ⟨rfl, e_m_isImage, w1067, w11, by decide, by decide +kernel, by decide, by decide⟩
theorem q_m_seal_109 : callOk M_m_seal M_m_holds y_m_holds k_m_holds 109 1 := ⟨rfl, e_m_holds, w1078, w11, by decide, by decide +kernel, by decide, by decide⟩
theorem q_m_seal_105 : callOk M_m_seal M_m_layersOf y_m_layersOf k_m_layersOf 105 1 := ⟨rfl, e_m_layersOf, w1074, w11, by decide, by decide +kernel, by decide, by decide⟩
theorem q_m_shown_101 : callOk M_m_shown M_m_isImage y_m_isImage k_m_isImage 101 1 := ⟨rfl, e_m_isImage, w1067, w11, by decide, by decide +kernel, by decide, by decide⟩
theorem q_m_shown_90 : callOk M_m_shown M_m_isIn y_m_isIn k_m_isIn 90 2 := ⟨rfl, e_m_isIn, w1071, w11, by decide, by decide +kernel, by decide, by decide⟩
theorem q_m_shown_109 : callOk M_m_shown M_m_holds y_m_holds k_m_holds 109 1 := ⟨rfl, e_m_holds, w1078, w11, by decide, by decide +kernel, by decide, by decide⟩
theorem q_m_shown_119 : callOk M_m_shown M_m_imageShows y_m_imageShows k_m_imageShows 119 2 := ⟨rfl, e_m_imageShows, w1093, w11, by decide, by decide +kernel, by decide, by decide⟩
theorem q_m_entries_101 : callOk M_m_entries M_m_isImage y_m_isImage k_m_isImage 101 1 := ⟨rfl, e_m_isImage, w1067, w11, by decide, by decide +kernel, by decide, by decide⟩
theorem q_m_entries_105 : callOk M_m_entries M_m_layersOf y_m_layersOf k_m_layersOf 105 1 := ⟨rfl, e_m_layersOf, w1074, w11, by decide, by decide +kernel, by decide, by decide⟩
theorem q_m_entries_90 : callOk M_m_entries M_m_isIn y_m_isIn k_m_isIn 90 2 := ⟨rfl, e_m_isIn, w1071, w11, by decide, by decide +kernel, by decide, by decide⟩
theorem q_m_entries_109 : callOk M_m_entries M_m_holds y_m_holds k_m_holds 109 1 := ⟨rfl, e_m_holds, w1078, w11, by decide, by decide +kernel, by decide, by decide⟩
theorem q_m_commit_123 : callOk M_m_commit M_m_isContainer y_m_isContainer k_m_isContainer 123 1 := ⟨rfl, e_m_isContainer, w1125, w11, by decide, by decide +kernel, by decide, by decide⟩
theorem q_m_commit_105 : callOk M_m_commit M_m_layersOf y_m_layersOf k_m_layersOf 105 1 := ⟨rfl, e_m_layersOf, w1074, w11, by decide, by decide +kernel, by decide, by decide⟩
theorem q_m_commit_109 : callOk M_m_commit M_m_holds y_m_holds k_m_holds 109 1 := ⟨rfl, e_m_holds, w1078, w11, by decide, by decide +kernel, by decide, by decide⟩
theorem q_m_commit_126 : callOk M_m_commit M_m_copies y_m_copies k_m_copies 126 2 := ⟨rfl, e_m_copies, w1129, w11, by decide, by decide +kernel, by decide, by decide⟩
theorem q_m_isContainer_90 : callOk M_m_isContainer M_m_isIn y_m_isIn k_m_isIn 90 2 := ⟨rfl, e_m_isIn, w1071, w11, by decide, by decide +kernel, by decide, by decide⟩
theorem q_m_newGroup_133 : callOk M_m_newGroup M_m_isGroup y_m_isGroup k_m_isGroup 133 1 := ⟨rfl, e_m_isGroup, w1137, w11, by decide, by decide +kernel, by decide, by decide⟩
theorem q_m_newGroup_109 : callOk M_m_newGroup M_m_holds y_m_holds k_m_holds 109 1 := ⟨rfl, e_m_holds, w1078, w11, by decide, by decide +kernel, by decide, by decide⟩
theorem q_m_isGroup_90 : callOk M_m_isGroup M_m_isIn y_m_isIn k_m_isIn 90 2 := ⟨rfl, e_m_isIn, w1071, w11, by decide, by decide +kernel, by decide, by decide⟩
theorem q_m_groupMemory_133 : callOk M_m_groupMemory M_m_isGroup y_m_isGroup k_m_isGroup 133 1 := ⟨rfl, e_m_isGroup, w1137, w11, by decide, by decide +kernel, by decide, by decide⟩
theorem q_m_groupMemory_109 : callOk M_m_groupMemory M_m_holds y_m_holds k_m_holds 109 1 := ⟨rfl, e_m_holds, w1078, w11, by decide, by decide +kernel, by decide, by decide⟩
theorem q_m_groupMemory_136 : callOk M_m_groupMemory M_m_memoryIn y_m_memoryIn k_m_memoryIn 136 1 := ⟨rfl, e_m_memoryIn, w1145, w11, by decide, by decide +kernel, by decide, by decide⟩
theorem q_m_memoryIn_130 : callOk M_m_memoryIn M_m_isBelow y_m_isBelow k_m_isBelow 130 2 := ⟨rfl, e_m_isBelow, w1149, w11, by decide, by decide +kernel, by decide, by decide⟩
theorem q_m_groupProcesses_133 : callOk M_m_groupProcesses M_m_isGroup y_m_isGroup k_m_isGroup 133 1 := ⟨rfl, e_m_isGroup, w1137, w11, by decide, by decide +kernel, by decide, by decide⟩
theorem q_m_groupProcesses_109 : callOk M_m_groupProcesses M_m_holds y_m_holds k_m_holds 109 1 := ⟨rfl, e_m_holds, w1078, w11, by decide, by decide +kernel, by decide, by decide⟩
theorem q_m_groupProcesses_139 : callOk M_m_groupProcesses M_m_processesIn y_m_processesIn k_m_processesIn 139 1 := ⟨rfl, e_m_processesIn, w1157, w11, by decide, by decide +kernel, by decide, by decide⟩
theorem q_m_processesIn_130 : callOk M_m_processesIn M_m_isBelow y_m_isBelow k_m_isBelow 130 2 := ⟨rfl, e_m_isBelow, w1149, w11, by decide, by decide +kernel, by decide, by decide⟩
theorem q_m_run_101 : callOk M_m_run M_m_isImage y_m_isImage k_m_isImage 101 1 := ⟨rfl, e_m_isImage, w1067, w11, by decide, by decide +kernel, by decide, by decide⟩
theorem q_m_run_133 : callOk M_m_run M_m_isGroup y_m_isGroup k_m_isGroup 133 1 := ⟨rfl, e_m_isGroup, w1137, w11, by decide, by decide +kernel, by decide, by decide⟩
theorem q_m_run_90 : callOk M_m_run M_m_isIn y_m_isIn k_m_isIn 90 2 := ⟨rfl, e_m_isIn, w1071, w11, by decide, by decide +kernel, by decide, by decide⟩
theorem q_m_run_142 : callOk M_m_run M_m_tooMuch y_m_tooMuch k_m_tooMuch 142 3 := ⟨rfl, e_m_tooMuch, w1165, w11, by decide, by decide +kernel, by decide, by decide⟩
theorem q_m_run_109 : callOk M_m_run M_m_holds y_m_holds k_m_holds 109 1 := ⟨rfl, e_m_holds, w1078, w11, by decide, by decide +kernel, by decide, by decide⟩
theorem q_m_run_145 : callOk M_m_run M_m_begins y_m_begins k_m_begins 145 4 := ⟨rfl, e_m_begins, w1169, w11, by decide, by decide +kernel, by decide, by decide⟩
theorem q_m_tooMuch_136 : callOk M_m_tooMuch M_m_memoryIn y_m_memoryIn k_m_memoryIn 136 1 := ⟨rfl, e_m_memoryIn, w1145, w11, by decide, by decide +kernel, by decide, by decide⟩
theorem q_m_tooMuch_139 : callOk M_m_tooMuch M_m_processesIn y_m_processesIn k_m_processesIn 139 1 := ⟨rfl, e_m_processesIn, w1157, w11, by decide, by decide +kernel, by decide, by decide⟩
theorem q_m_begins_112 : callOk M_m_begins M_m_empties y_m_empties k_m_empties 112 1 := ⟨rfl, e_m_empties, w1082, w11, by decide, by decide +kernel, by decide, by decide⟩
theorem q_m_pause_149 : callOk M_m_pause M_m_isThere y_m_isThere k_m_isThere 149 2 := ⟨rfl, e_m_isThere, w1177, w11, by decide, by decide +kernel, by decide, by decide⟩
theorem q_m_isThere_123 : callOk M_m_isThere M_m_isContainer y_m_isContainer k_m_isContainer 123 1 := ⟨rfl, e_m_isContainer, w1125, w11, by decide, by decide +kernel, by decide, by decide⟩
theorem q_m_isThere_109 : callOk M_m_isThere M_m_holds y_m_holds k_m_holds 109 1 := ⟨rfl, e_m_holds, w1078, w11, by decide, by decide +kernel, by decide, by decide⟩
theorem q_m_resume_149 : callOk M_m_resume M_m_isThere y_m_isThere k_m_isThere 149 2 := ⟨rfl, e_m_isThere, w1177, w11, by decide, by decide +kernel, by decide, by decide⟩
theorem q_m_stop_123 : callOk M_m_stop M_m_isContainer y_m_isContainer k_m_isContainer 123 1 := ⟨rfl, e_m_isContainer, w1125, w11, by decide, by decide +kernel, by decide, by decide⟩
theorem q_m_stop_109 : callOk M_m_stop M_m_holds y_m_holds k_m_holds 109 1 := ⟨rfl, e_m_holds, w1078, w11, by decide, by decide +kernel, by decide, by decide⟩
theorem q_m_stop_152 : callOk M_m_stop M_m_stops y_m_stops k_m_stops 152 1 := ⟨rfl, e_m_stops, w1189, w11, by decide, by decide +kernel, by decide, by decide⟩
theorem q_m_allocate_123 : callOk M_m_allocate M_m_isContainer y_m_isContainer k_m_isContainer 123 1 := ⟨rfl, e_m_isContainer, w1125, w11, by decide, by decide +kernel, by decide, by decide⟩
theorem q_m_allocate_155 : callOk M_m_allocate M_m_areUnits y_m_areUnits k_m_areUnits 155 1 := ⟨rfl, e_m_areUnits, w1197, w11, by decide, by decide +kernel, by decide, by decide⟩
theorem q_m_allocate_109 : callOk M_m_allocate M_m_holds y_m_holds k_m_holds 109 1 := ⟨rfl, e_m_holds, w1078, w11, by decide, by decide +kernel, by decide, by decide⟩
theorem q_m_allocate_142 : callOk M_m_allocate M_m_tooMuch y_m_tooMuch k_m_tooMuch 142 3 := ⟨rfl, e_m_tooMuch, w1165, w11, by decide, by decide +kernel, by decide, by decide⟩
theorem q_m_allocate_158 : callOk M_m_allocate M_m_greatest y_m_greatest k_m_greatest 158 1 := ⟨rfl, e_m_greatest, w1200, w11, by decide, by decide +kernel, by decide, by decide⟩
theorem q_m_allocate_152 : callOk M_m_allocate M_m_stops y_m_stops k_m_stops 152 1 := ⟨rfl, e_m_stops, w1189, w11, by decide, by decide +kernel, by decide, by decide⟩
theorem q_m_greatest_130 : callOk M_m_greatest M_m_isBelow y_m_isBelow k_m_isBelow 130 2 := ⟨rfl, e_m_isBelow, w1149, w11, by decide, by decide +kernel, by decide, by decide⟩
theorem q_m_free_123 : callOk M_m_free M_m_isContainer y_m_isContainer k_m_isContainer 123 1 := ⟨rfl, e_m_isContainer, w1125, w11, by decide, by decide +kernel, by decide, by decide⟩
theorem q_m_free_155 : callOk M_m_free M_m_areUnits y_m_areUnits k_m_areUnits 155 1 := ⟨rfl, e_m_areUnits, w1197, w11, by decide, by decide +kernel, by decide, by decide⟩
theorem q_m_free_109 : callOk M_m_free M_m_holds y_m_holds k_m_holds 109 1 := ⟨rfl, e_m_holds, w1078, w11, by decide, by decide +kernel, by decide, by decide⟩
theorem q_m_fork_123 : callOk M_m_fork M_m_isContainer y_m_isContainer k_m_isContainer 123 1 := ⟨rfl, e_m_isContainer, w1125, w11, by decide, by decide +kernel, by decide, by decide⟩
theorem q_m_fork_142 : callOk M_m_fork M_m_tooMuch y_m_tooMuch k_m_tooMuch 142 3 := ⟨rfl, e_m_tooMuch, w1165, w11, by decide, by decide +kernel, by decide, by decide⟩
theorem q_m_fork_109 : callOk M_m_fork M_m_holds y_m_holds k_m_holds 109 1 := ⟨rfl, e_m_holds, w1078, w11, by decide, by decide +kernel, by decide, by decide⟩
theorem q_m_exit_149 : callOk M_m_exit M_m_isThere y_m_isThere k_m_isThere 149 2 := ⟨rfl, e_m_isThere, w1177, w11, by decide, by decide +kernel, by decide, by decide⟩
theorem q_m_exit_152 : callOk M_m_exit M_m_stops y_m_stops k_m_stops 152 1 := ⟨rfl, e_m_stops, w1189, w11, by decide, by decide +kernel, by decide, by decide⟩
theorem q_m_schedule_109 : callOk M_m_schedule M_m_holds y_m_holds k_m_holds 109 1 := ⟨rfl, e_m_holds, w1078, w11, by decide, by decide +kernel, by decide, by decide⟩
theorem q_m_schedule_170 : callOk M_m_schedule M_m_sharesOut y_m_sharesOut k_m_sharesOut 170 1 := ⟨rfl, e_m_sharesOut, w1220, w11, by decide, by decide +kernel, by decide, by decide⟩
theorem q_m_sharesOut_161 : callOk M_m_sharesOut M_m_isPart y_m_isPart k_m_isPart 161 2 := ⟨rfl, e_m_isPart, w1224, w11, by decide, by decide +kernel, by decide, by decide⟩
theorem q_m_sharesOut_164 : callOk M_m_sharesOut M_m_sharesOfPart y_m_sharesOfPart k_m_sharesOfPart 164 1 := ⟨rfl, e_m_sharesOfPart, w1228, w11, by decide, by decide +kernel, by decide, by decide⟩
theorem q_m_sharesOut_167 : callOk M_m_sharesOut M_m_gives y_m_gives k_m_gives 167 2 := ⟨rfl, e_m_gives, w1232, w11, by decide, by decide +kernel, by decide, by decide⟩
theorem q_m_isPart_130 : callOk M_m_isPart M_m_isBelow y_m_isBelow k_m_isBelow 130 2 := ⟨rfl, e_m_isBelow, w1149, w11, by decide, by decide +kernel, by decide, by decide⟩
theorem q_m_writeFile_123 : callOk M_m_writeFile M_m_isContainer y_m_isContainer k_m_isContainer 123 1 := ⟨rfl, e_m_isContainer, w1125, w11, by decide, by decide +kernel, by decide, by decide⟩
theorem q_m_writeFile_90 : callOk M_m_writeFile M_m_isIn y_m_isIn k_m_isIn 90 2 := ⟨rfl, e_m_isIn, w1071, w11, by decide, by decide +kernel, by decide, by decide⟩
theorem q_m_writeFile_116 : callOk M_m_writeFile M_m_isContent y_m_isContent k_m_isContent 116 1 := ⟨rfl, e_m_isContent, w1090, w11, by decide, by decide +kernel, by decide, by decide⟩
theorem q_m_writeFile_176 : callOk M_m_writeFile M_m_mayChange y_m_mayChange k_m_mayChange 176 2 := ⟨rfl, e_m_mayChange, w1240, w11, by decide, by decide +kernel, by decide, by decide⟩
theorem q_m_writeFile_109 : callOk M_m_writeFile M_m_holds y_m_holds k_m_holds 109 1 := ⟨rfl, e_m_holds, w1078, w11, by decide, by decide +kernel, by decide, by decide⟩
theorem q_m_writeFile_179 : callOk M_m_writeFile M_m_containerSees y_m_containerSees k_m_containerSees 179 2 := ⟨rfl, e_m_containerSees, w1248, w11, by decide, by decide +kernel, by decide, by decide⟩
theorem q_m_mayChange_173 : callOk M_m_mayChange M_m_isEffective y_m_isEffective k_m_isEffective 173 2 := ⟨rfl, e_m_isEffective, w1244, w11, by decide, by decide +kernel, by decide, by decide⟩
theorem q_m_containerSees_97 : callOk M_m_containerSees M_m_shows y_m_shows k_m_shows 97 3 := ⟨rfl, e_m_shows, w1097, w11, by decide, by decide +kernel, by decide, by decide⟩
theorem q_m_removeFile_123 : callOk M_m_removeFile M_m_isContainer y_m_isContainer k_m_isContainer 123 1 := ⟨rfl, e_m_isContainer, w1125, w11, by decide, by decide +kernel, by decide, by decide⟩
theorem q_m_removeFile_90 : callOk M_m_removeFile M_m_isIn y_m_isIn k_m_isIn 90 2 := ⟨rfl, e_m_isIn, w1071, w11, by decide, by decide +kernel, by decide, by decide⟩
theorem q_m_removeFile_176 : callOk M_m_removeFile M_m_mayChange y_m_mayChange k_m_mayChange 176 2 := ⟨rfl, e_m_mayChange, w1240, w11, by decide, by decide +kernel, by decide, by decide⟩
theorem q_m_removeFile_179 : callOk M_m_removeFile M_m_containerSees y_m_containerSees k_m_containerSees 179 2 := ⟨rfl, e_m_containerSees, w1248, w11, by decide, by decide +kernel, by decide, by decide⟩
theorem q_m_removeFile_109 : callOk M_m_removeFile M_m_holds y_m_holds k_m_holds 109 1 := ⟨rfl, e_m_holds, w1078, w11, by decide, by decide +kernel, by decide, by decide⟩
theorem q_m_fileOf_123 : callOk M_m_fileOf M_m_isContainer y_m_isContainer k_m_isContainer 123 1 := ⟨rfl, e_m_isContainer, w1125, w11, by decide, by decide +kernel, by decide, by decide⟩
theorem q_m_fileOf_90 : callOk M_m_fileOf M_m_isIn y_m_isIn k_m_isIn 90 2 := ⟨rfl, e_m_isIn, w1071, w11, by decide, by decide +kernel, by decide, by decide⟩
theorem q_m_fileOf_109 : callOk M_m_fileOf M_m_holds y_m_holds k_m_holds 109 1 := ⟨rfl, e_m_holds, w1078, w11, by decide, by decide +kernel, by decide, by decide⟩
theorem q_m_fileOf_179 : callOk M_m_fileOf M_m_containerSees y_m_containerSees k_m_containerSees 179 2 := ⟨rfl, e_m_containerSees, w1248, w11, by decide, by decide +kernel, by decide, by decide⟩
theorem q_m_plainFileOf_123 : callOk M_m_plainFileOf M_m_isContainer y_m_isContainer k_m_isContainer 123 1 := ⟨rfl, e_m_isContainer, w1125, w11, by decide, by decide +kernel, by decide, by decide⟩
theorem q_m_plainFileOf_90 : callOk M_m_plainFileOf M_m_isIn y_m_isIn k_m_isIn 90 2 := ⟨rfl, e_m_isIn, w1071, w11, by decide, by decide +kernel, by decide, by decide⟩
theorem q_m_plainFileOf_109 : callOk M_m_plainFileOf M_m_holds y_m_holds k_m_holds 109 1 := ⟨rfl, e_m_holds, w1078, w11, by decide, by decide +kernel, by decide, by decide⟩
theorem q_m_plainFileOf_105 : callOk M_m_plainFileOf M_m_layersOf y_m_layersOf k_m_layersOf 105 1 := ⟨rfl, e_m_layersOf, w1074, w11, by decide, by decide +kernel, by decide, by decide⟩
theorem q_m_plainFileOf_182 : callOk M_m_plainFileOf M_m_layerAt y_m_layerAt k_m_layerAt 182 2 := ⟨rfl, e_m_layerAt, w1264, w11, by decide, by decide +kernel, by decide, by decide⟩
theorem q_m_layerAt_105 : callOk M_m_layerAt M_m_layersOf y_m_layersOf k_m_layersOf 105 1 := ⟨rfl, e_m_layersOf, w1074, w11, by decide, by decide +kernel, by decide, by decide⟩
theorem q_m_raise_185 : callOk M_m_raise M_m_isCapability y_m_isCapability k_m_isCapability 185 3 := ⟨rfl, e_m_isCapability, w1272, w11, by decide, by decide +kernel, by decide, by decide⟩
theorem q_m_isCapability_123 : callOk M_m_isCapability M_m_isContainer y_m_isContainer k_m_isContainer 123 1 := ⟨rfl, e_m_isContainer, w1125, w11, by decide, by decide +kernel, by decide, by decide⟩
theorem q_m_isCapability_90 : callOk M_m_isCapability M_m_isIn y_m_isIn k_m_isIn 90 2 := ⟨rfl, e_m_isIn, w1071, w11, by decide, by decide +kernel, by decide, by decide⟩
theorem q_m_isCapability_109 : callOk M_m_isCapability M_m_holds y_m_holds k_m_holds 109 1 := ⟨rfl, e_m_holds, w1078, w11, by decide, by decide +kernel, by decide, by decide⟩
theorem q_m_lower_185 : callOk M_m_lower M_m_isCapability y_m_isCapability k_m_isCapability 185 3 := ⟨rfl, e_m_isCapability, w1272, w11, by decide, by decide +kernel, by decide, by decide⟩
theorem q_m_drop_185 : callOk M_m_drop M_m_isCapability y_m_isCapability k_m_isCapability 185 3 := ⟨rfl, e_m_isCapability, w1272, w11, by decide, by decide +kernel, by decide, by decide⟩
theorem q_m_kill_123 : callOk M_m_kill M_m_isContainer y_m_isContainer k_m_isContainer 123 1 := ⟨rfl, e_m_isContainer, w1125, w11, by decide, by decide +kernel, by decide, by decide⟩
theorem q_m_kill_173 : callOk M_m_kill M_m_isEffective y_m_isEffective k_m_isEffective 173 2 := ⟨rfl, e_m_isEffective, w1244, w11, by decide, by decide +kernel, by decide, by decide⟩
theorem q_m_kill_130 : callOk M_m_kill M_m_isBelow y_m_isBelow k_m_isBelow 130 2 := ⟨rfl, e_m_isBelow, w1149, w11, by decide, by decide +kernel, by decide, by decide⟩
theorem q_m_kill_109 : callOk M_m_kill M_m_holds y_m_holds k_m_holds 109 1 := ⟨rfl, e_m_holds, w1078, w11, by decide, by decide +kernel, by decide, by decide⟩
theorem q_m_kill_152 : callOk M_m_kill M_m_stops y_m_stops k_m_stops 152 1 := ⟨rfl, e_m_stops, w1189, w11, by decide, by decide +kernel, by decide, by decide⟩
theorem q_m_attach_123 : callOk M_m_attach M_m_isContainer y_m_isContainer k_m_isContainer 123 1 := ⟨rfl, e_m_isContainer, w1125, w11, by decide, by decide +kernel, by decide, by decide⟩
theorem q_m_attach_90 : callOk M_m_attach M_m_isIn y_m_isIn k_m_isIn 90 2 := ⟨rfl, e_m_isIn, w1071, w11, by decide, by decide +kernel, by decide, by decide⟩
theorem q_m_attach_173 : callOk M_m_attach M_m_isEffective y_m_isEffective k_m_isEffective 173 2 := ⟨rfl, e_m_isEffective, w1244, w11, by decide, by decide +kernel, by decide, by decide⟩
theorem q_m_attach_192 : callOk M_m_attach M_m_freeAddress y_m_freeAddress k_m_freeAddress 192 1 := ⟨rfl, e_m_freeAddress, w1292, w11, by decide, by decide +kernel, by decide, by decide⟩
theorem q_m_attach_109 : callOk M_m_attach M_m_holds y_m_holds k_m_holds 109 1 := ⟨rfl, e_m_holds, w1078, w11, by decide, by decide +kernel, by decide, by decide⟩
theorem q_m_freeAddress_189 : callOk M_m_freeAddress M_m_atAddress y_m_atAddress k_m_atAddress 189 2 := ⟨rfl, e_m_atAddress, w1296, w11, by decide, by decide +kernel, by decide, by decide⟩
theorem q_m_detach_123 : callOk M_m_detach M_m_isContainer y_m_isContainer k_m_isContainer 123 1 := ⟨rfl, e_m_isContainer, w1125, w11, by decide, by decide +kernel, by decide, by decide⟩
theorem q_m_detach_109 : callOk M_m_detach M_m_holds y_m_holds k_m_holds 109 1 := ⟨rfl, e_m_holds, w1078, w11, by decide, by decide +kernel, by decide, by decide⟩
theorem q_m_listen_123 : callOk M_m_listen M_m_isContainer y_m_isContainer k_m_isContainer 123 1 := ⟨rfl, e_m_isContainer, w1125, w11, by decide, by decide +kernel, by decide, by decide⟩
theorem q_m_listen_90 : callOk M_m_listen M_m_isIn y_m_isIn k_m_isIn 90 2 := ⟨rfl, e_m_isIn, w1071, w11, by decide, by decide +kernel, by decide, by decide⟩
theorem q_m_listen_195 : callOk M_m_listen M_m_isListening y_m_isListening k_m_isListening 195 2 := ⟨rfl, e_m_isListening, w1308, w11, by decide, by decide +kernel, by decide, by decide⟩
theorem q_m_listen_173 : callOk M_m_listen M_m_isEffective y_m_isEffective k_m_isEffective 173 2 := ⟨rfl, e_m_isEffective, w1244, w11, by decide, by decide +kernel, by decide, by decide⟩
theorem q_m_listen_109 : callOk M_m_listen M_m_holds y_m_holds k_m_holds 109 1 := ⟨rfl, e_m_holds, w1078, w11, by decide, by decide +kernel, by decide, by decide⟩
theorem q_m_publish_123 : callOk M_m_publish M_m_isContainer y_m_isContainer k_m_isContainer 123 1 := ⟨rfl, e_m_isContainer, w1125, w11, by decide, by decide +kernel, by decide, by decide⟩
theorem q_m_publish_90 : callOk M_m_publish M_m_isIn y_m_isIn k_m_isIn 90 2 := ⟨rfl, e_m_isIn, w1071, w11, by decide, by decide +kernel, by decide, by decide⟩
theorem q_m_publish_195 : callOk M_m_publish M_m_isListening y_m_isListening k_m_isListening 195 2 := ⟨rfl, e_m_isListening, w1308, w11, by decide, by decide +kernel, by decide, by decide⟩
theorem q_m_publish_109 : callOk M_m_publish M_m_holds y_m_holds k_m_holds 109 1 := ⟨rfl, e_m_holds, w1078, w11, by decide, by decide +kernel, by decide, by decide⟩
theorem q_m_connect_123 : callOk M_m_connect M_m_isContainer y_m_isContainer k_m_isContainer 123 1 := ⟨rfl, e_m_isContainer, w1125, w11, by decide, by decide +kernel, by decide, by decide⟩
theorem q_m_connect_90 : callOk M_m_connect M_m_isIn y_m_isIn k_m_isIn 90 2 := ⟨rfl, e_m_isIn, w1071, w11, by decide, by decide +kernel, by decide, by decide⟩
theorem q_m_connect_109 : callOk M_m_connect M_m_holds y_m_holds k_m_holds 109 1 := ⟨rfl, e_m_holds, w1078, w11, by decide, by decide +kernel, by decide, by decide⟩
theorem q_m_connect_189 : callOk M_m_connect M_m_atAddress y_m_atAddress k_m_atAddress 189 2 := ⟨rfl, e_m_atAddress, w1296, w11, by decide, by decide +kernel, by decide, by decide⟩
theorem q_m_connect_195 : callOk M_m_connect M_m_isListening y_m_isListening k_m_isListening 195 2 := ⟨rfl, e_m_isListening, w1308, w11, by decide, by decide +kernel, by decide, by decide⟩
theorem q_m_connectHost_90 : callOk M_m_connectHost M_m_isIn y_m_isIn k_m_isIn 90 2 := ⟨rfl, e_m_isIn, w1071, w11, by decide, by decide +kernel, by decide, by decide⟩
theorem q_m_connectHost_109 : callOk M_m_connectHost M_m_holds y_m_holds k_m_holds 109 1 := ⟨rfl, e_m_holds, w1078, w11, by decide, by decide +kernel, by decide, by decide⟩
theorem q_m_save_123 : callOk M_m_save M_m_isContainer y_m_isContainer k_m_isContainer 123 1 := ⟨rfl, e_m_isContainer, w1125, w11, by decide, by decide +kernel, by decide, by decide⟩
theorem q_m_save_109 : callOk M_m_save M_m_holds y_m_holds k_m_holds 109 1 := ⟨rfl, e_m_holds, w1078, w11, by decide, by decide +kernel, by decide, by decide⟩
theorem q_m_save_201 : callOk M_m_save M_m_keeps y_m_keeps k_m_keeps 201 2 := ⟨rfl, e_m_keeps, w1328, w11, by decide, by decide +kernel, by decide, by decide⟩
theorem q_m_keeps_126 : callOk M_m_keeps M_m_copies y_m_copies k_m_copies 126 2 := ⟨rfl, e_m_copies, w1129, w11, by decide, by decide +kernel, by decide, by decide⟩
theorem q_m_restore_90 : callOk M_m_restore M_m_isIn y_m_isIn k_m_isIn 90 2 := ⟨rfl, e_m_isIn, w1071, w11, by decide, by decide +kernel, by decide, by decide⟩
theorem q_m_restore_133 : callOk M_m_restore M_m_isGroup y_m_isGroup k_m_isGroup 133 1 := ⟨rfl, e_m_isGroup, w1137, w11, by decide, by decide +kernel, by decide, by decide⟩
theorem q_m_restore_142 : callOk M_m_restore M_m_tooMuch y_m_tooMuch k_m_tooMuch 142 3 := ⟨rfl, e_m_tooMuch, w1165, w11, by decide, by decide +kernel, by decide, by decide⟩
theorem q_m_restore_109 : callOk M_m_restore M_m_holds y_m_holds k_m_holds 109 1 := ⟨rfl, e_m_holds, w1078, w11, by decide, by decide +kernel, by decide, by decide⟩
theorem q_m_restore_145 : callOk M_m_restore M_m_begins y_m_begins k_m_begins 145 4 := ⟨rfl, e_m_begins, w1169, w11, by decide, by decide +kernel, by decide, by decide⟩
theorem q_m_restore_201 : callOk M_m_restore M_m_keeps y_m_keeps k_m_keeps 201 2 := ⟨rfl, e_m_keeps, w1328, w11, by decide, by decide +kernel, by decide, by decide⟩
theorem q_m_stateOf_204 : callOk M_m_stateOf M_m_isAsked y_m_isAsked k_m_isAsked 204 1 := ⟨rfl, e_m_isAsked, w1344, w11, by decide, by decide +kernel, by decide, by decide⟩
theorem q_m_isAsked_123 : callOk M_m_isAsked M_m_isContainer y_m_isContainer k_m_isContainer 123 1 := ⟨rfl, e_m_isContainer, w1125, w11, by decide, by decide +kernel, by decide, by decide⟩
theorem q_m_isAsked_109 : callOk M_m_isAsked M_m_holds y_m_holds k_m_holds 109 1 := ⟨rfl, e_m_holds, w1078, w11, by decide, by decide +kernel, by decide, by decide⟩
theorem q_m_memoryOf_204 : callOk M_m_memoryOf M_m_isAsked y_m_isAsked k_m_isAsked 204 1 := ⟨rfl, e_m_isAsked, w1344, w11, by decide, by decide +kernel, by decide, by decide⟩
theorem q_m_timeOf_204 : callOk M_m_timeOf M_m_isAsked y_m_isAsked k_m_isAsked 204 1 := ⟨rfl, e_m_isAsked, w1344, w11, by decide, by decide +kernel, by decide, by decide⟩
theorem q_m_capabilitiesOf_204 : callOk M_m_capabilitiesOf M_m_isAsked y_m_isAsked k_m_isAsked 204 1 := ⟨rfl, e_m_isAsked, w1344, w11, by decide, by decide +kernel, by decide, by decide⟩
theorem q_m_addressOf_204 : callOk M_m_addressOf M_m_isAsked y_m_isAsked k_m_isAsked 204 1 := ⟨rfl, e_m_isAsked, w1344, w11, by decide, by decide +kernel, by decide, by decide⟩
theorem in7 : ∀ w ∈ u_ws RX7 TX7 28, w ∈ lw_tbl := by decide +kernel
theorem mg_84 {g : xG} {M : xMeth} {x0 : Nat} {ad : Nat → Nat} {h0 : hp} {Qm : qS} {tt : Int} {S : gS} {pc : Nat} {ls : List (Option Value)} {st : List Value} (d : decode M.2.1 pc = .ok (.getfield 84, 3)) (hM : M.1 = "ContainerHostModel") (kk : mW g M x0 ad h0 Qm tt S (pc + 3) ls (.int (iI tt) :: st)) : mW g M x0 ad h0 Qm tt S pc ls (.ref x0 :: st) := m_getf (k := 0) d hM in7 (by decide) w973 rfl rfl kk
theorem mp_84 {g : xG} {M : xMeth} {x0 : Nat} {ad : Nat → Nat} {h0 : hp} {Qm : qS} {tt : Int} {S : gS} {pc : Nat} {ls : List (Option Value)} {st : List Value} {v : Int} (d : decode M.2.1 pc = .ok (.putfield 84, 3)) (hM : M.1 = "ContainerHostModel") (kk : mW g M x0 ad h0 Qm v S (pc + 3) ls st) : mW g M x0 ad h0 Qm tt S pc ls (.int (iI v) :: .ref x0 :: st) := m_put0 d hM in7 w973 kk
theorem mg_7 {g : xG} {M : xMeth} {x0 : Nat} {ad : Nat → Nat} {h0 : hp} {Qm : qS} {tt : Int} {S : gS} {pc : Nat} {ls : List (Option Value)} {st : List Value} (d : decode M.2.1 pc = .ok (.getfield 7, 3)) (hM : M.1 = "ContainerHostModel") (kk : mW g M x0 ad h0 Qm tt S (pc + 3) ls (.ref (ad 1) :: st)) : mW g M x0 ad h0 Qm tt S pc ls (.ref x0 :: st) := m_getf (k := 1) d hM in7 (by decide) w974 rfl rfl kk
theorem mg_13 {g : xG} {M : xMeth} {x0 : Nat} {ad : Nat → Nat} {h0 : hp} {Qm : qS} {tt : Int} {S : gS} {pc : Nat} {ls : List (Option Value)} {st : List Value} (d : decode M.2.1 pc = .ok (.getfield 13, 3)) (hM : M.1 = "ContainerHostModel") (kk : mW g M x0 ad h0 Qm tt S (pc + 3) ls (.ref (ad 2) :: st)) : mW g M x0 ad h0 Qm tt S pc ls (.ref x0 :: st) := m_getf (k := 2) d hM in7 (by decide) w975 rfl rfl kk
theorem mg_87 {g : xG} {M : xMeth} {x0 : Nat} {ad : Nat → Nat} {h0 : hp} {Qm : qS} {tt : Int} {S : gS} {pc : Nat} {ls : List (Option Value)} {st : List Value} (d : decode M.2.1 pc = .ok (.getfield 87, 3)) (hM : M.1 = "ContainerHostModel") (kk : mW g M x0 ad h0 Qm tt S (pc + 3) ls (.int (iI (S 3 0)) :: st)) : mW g M x0 ad h0 Qm tt S pc ls (.ref x0 :: st) := m_getf (k := 3) d hM in7 (by decide) w976 rfl rfl kk
theorem mgv_87 {g : xG} {M : xMeth} {x0 : Nat} {ad : Nat → Nat} {h0 : hp} {Qm : qS} {tt : Int} {S : gS} {pc : Nat} {ls : List (Option Value)} {st : List Value} (v : Int) (hv : S 3 0 = v) (d : decode M.2.1 pc = .ok (.getfield 87, 3)) (hM : M.1 = "ContainerHostModel") (kk : mW g M x0 ad h0 Qm tt S (pc + 3) ls (.int (iI v) :: st)) : mW g M x0 ad h0 Qm tt S pc ls (.ref x0 :: st) := mg_87 d hM (by rw [hv]; exact kk)
theorem mp_87 {g : xG} {M : xMeth} {x0 : Nat} {ad : Nat → Nat} {h0 : hp} {Qm : qS} {tt : Int} {S : gS} {pc : Nat} {ls : List (Option Value)} {st : List Value} {v : Int} (d : decode M.2.1 pc = .ok (.putfield 87, 3)) (hM : M.1 = "ContainerHostModel") (kk : mW g M x0 ad h0 Qm tt (sset S 3 0 v) (pc + 3) ls st) : mW g M x0 ad h0 Qm tt S pc ls (.int (iI v) :: .ref x0 :: st) := m_putf (k := 3) d hM in7 (by decide) w976 rfl rfl rfl rfl rfl kk
theorem mg_16 {g : xG} {M : xMeth} {x0 : Nat} {ad : Nat → Nat} {h0 : hp} {Qm : qS} {tt : Int} {S : gS} {pc : Nat} {ls : List (Option Value)} {st : List Value} (d : decode M.2.1 pc = .ok (.getfield 16, 3)) (hM : M.1 = "ContainerHostModel") (kk : mW g M x0 ad h0 Qm tt S (pc + 3) ls (.ref (ad 4) :: st)) : mW g M x0 ad h0 Qm tt S pc ls (.ref x0 :: st) := m_getf (k := 4) d hM in7 (by decide) w977 rfl rfl kk
theorem mg_19 {g : xG} {M : xMeth} {x0 : Nat} {ad : Nat → Nat} {h0 : hp} {Qm : qS} {tt : Int} {S : gS} {pc : Nat} {ls : List (Option Value)} {st : List Value} (d : decode M.2.1 pc = .ok (.getfield 19, 3)) (hM : M.1 = "ContainerHostModel") (kk : mW g M x0 ad h0 Qm tt S (pc + 3) ls (.ref (ad 5) :: st)) : mW g M x0 ad h0 Qm tt S pc ls (.ref x0 :: st) := m_getf (k := 5) d hM in7 (by decide) w978 rfl rfl kk
theorem mg_23 {g : xG} {M : xMeth} {x0 : Nat} {ad : Nat → Nat} {h0 : hp} {Qm : qS} {tt : Int} {S : gS} {pc : Nat} {ls : List (Option Value)} {st : List Value} (d : decode M.2.1 pc = .ok (.getfield 23, 3)) (hM : M.1 = "ContainerHostModel") (kk : mW g M x0 ad h0 Qm tt S (pc + 3) ls (.int (iI (S 6 0)) :: st)) : mW g M x0 ad h0 Qm tt S pc ls (.ref x0 :: st) := m_getf (k := 6) d hM in7 (by decide) w979 rfl rfl kk
theorem mgv_23 {g : xG} {M : xMeth} {x0 : Nat} {ad : Nat → Nat} {h0 : hp} {Qm : qS} {tt : Int} {S : gS} {pc : Nat} {ls : List (Option Value)} {st : List Value} (v : Int) (hv : S 6 0 = v) (d : decode M.2.1 pc = .ok (.getfield 23, 3)) (hM : M.1 = "ContainerHostModel") (kk : mW g M x0 ad h0 Qm tt S (pc + 3) ls (.int (iI v) :: st)) : mW g M x0 ad h0 Qm tt S pc ls (.ref x0 :: st) := mg_23 d hM (by rw [hv]; exact kk)
theorem mp_23 {g : xG} {M : xMeth} {x0 : Nat} {ad : Nat → Nat} {h0 : hp} {Qm : qS} {tt : Int} {S : gS} {pc : Nat} {ls : List (Option Value)} {st : List Value} {v : Int} (d : decode M.2.1 pc = .ok (.putfield 23, 3)) (hM : M.1 = "ContainerHostModel") (kk : mW g M x0 ad h0 Qm tt (sset S 6 0 v) (pc + 3) ls st) : mW g M x0 ad h0 Qm tt S pc ls (.int (iI v) :: .ref x0 :: st) := m_putf (k := 6) d hM in7 (by decide) w979 rfl rfl rfl rfl rfl kk
theorem mg_27 {g : xG} {M : xMeth} {x0 : Nat} {ad : Nat → Nat} {h0 : hp} {Qm : qS} {tt : Int} {S : gS} {pc : Nat} {ls : List (Option Value)} {st : List Value} (d : decode M.2.1 pc = .ok (.getfield 27, 3)) (hM : M.1 = "ContainerHostModel") (kk : mW g M x0 ad h0 Qm tt S (pc + 3) ls (.ref (ad 7) :: st)) : mW g M x0 ad h0 Qm tt S pc ls (.ref x0 :: st) := m_getf (k := 7) d hM in7 (by decide) w980 rfl rfl kk
theorem mg_30 {g : xG} {M : xMeth} {x0 : Nat} {ad : Nat → Nat} {h0 : hp} {Qm : qS} {tt : Int} {S : gS} {pc : Nat} {ls : List (Option Value)} {st : List Value} (d : decode M.2.1 pc = .ok (.getfield 30, 3)) (hM : M.1 = "ContainerHostModel") (kk : mW g M x0 ad h0 Qm tt S (pc + 3) ls (.ref (ad 8) :: st)) : mW g M x0 ad h0 Qm tt S pc ls (.ref x0 :: st) := m_getf (k := 8) d hM in7 (by decide) w981 rfl rfl kk
theorem mg_33 {g : xG} {M : xMeth} {x0 : Nat} {ad : Nat → Nat} {h0 : hp} {Qm : qS} {tt : Int} {S : gS} {pc : Nat} {ls : List (Option Value)} {st : List Value} (d : decode M.2.1 pc = .ok (.getfield 33, 3)) (hM : M.1 = "ContainerHostModel") (kk : mW g M x0 ad h0 Qm tt S (pc + 3) ls (.ref (ad 9) :: st)) : mW g M x0 ad h0 Qm tt S pc ls (.ref x0 :: st) := m_getf (k := 9) d hM in7 (by decide) w982 rfl rfl kk
theorem mg_36 {g : xG} {M : xMeth} {x0 : Nat} {ad : Nat → Nat} {h0 : hp} {Qm : qS} {tt : Int} {S : gS} {pc : Nat} {ls : List (Option Value)} {st : List Value} (d : decode M.2.1 pc = .ok (.getfield 36, 3)) (hM : M.1 = "ContainerHostModel") (kk : mW g M x0 ad h0 Qm tt S (pc + 3) ls (.ref (ad 10) :: st)) : mW g M x0 ad h0 Qm tt S pc ls (.ref x0 :: st) := m_getf (k := 10) d hM in7 (by decide) w983 rfl rfl kk
theorem mg_94 {g : xG} {M : xMeth} {x0 : Nat} {ad : Nat → Nat} {h0 : hp} {Qm : qS} {tt : Int} {S : gS} {pc : Nat} {ls : List (Option Value)} {st : List Value} (d : decode M.2.1 pc = .ok (.getfield 94, 3)) (hM : M.1 = "ContainerHostModel") (kk : mW g M x0 ad h0 Qm tt S (pc + 3) ls (.int (iI (S 11 0)) :: st)) : mW g M x0 ad h0 Qm tt S pc ls (.ref x0 :: st) := m_getf (k := 11) d hM in7 (by decide) w984 rfl rfl kk
theorem mgv_94 {g : xG} {M : xMeth} {x0 : Nat} {ad : Nat → Nat} {h0 : hp} {Qm : qS} {tt : Int} {S : gS} {pc : Nat} {ls : List (Option Value)} {st : List Value} (v : Int) (hv : S 11 0 = v) (d : decode M.2.1 pc = .ok (.getfield 94, 3)) (hM : M.1 = "ContainerHostModel") (kk : mW g M x0 ad h0 Qm tt S (pc + 3) ls (.int (iI v) :: st)) : mW g M x0 ad h0 Qm tt S pc ls (.ref x0 :: st) := mg_94 d hM (by rw [hv]; exact kk)
theorem mp_94 {g : xG} {M : xMeth} {x0 : Nat} {ad : Nat → Nat} {h0 : hp} {Qm : qS} {tt : Int} {S : gS} {pc : Nat} {ls : List (Option Value)} {st : List Value} {v : Int} (d : decode M.2.1 pc = .ok (.putfield 94, 3)) (hM : M.1 = "ContainerHostModel") (kk : mW g M x0 ad h0 Qm tt (sset S 11 0 v) (pc + 3) ls st) : mW g M x0 ad h0 Qm tt S pc ls (.int (iI v) :: .ref x0 :: st) := m_putf (k := 11) d hM in7 (by decide) w984 rfl rfl rfl rfl rfl kk
theorem mg_39 {g : xG} {M : xMeth} {x0 : Nat} {ad : Nat → Nat} {h0 : hp} {Qm : qS} {tt : Int} {S : gS} {pc : Nat} {ls : List (Option Value)} {st : List Value} (d : decode M.2.1 pc = .ok (.getfield 39, 3)) (hM : M.1 = "ContainerHostModel") (kk : mW g M x0 ad h0 Qm tt S (pc + 3) ls (.ref (ad 12) :: st)) : mW g M x0 ad h0 Qm tt S pc ls (.ref x0 :: st) := m_getf (k := 12) d hM in7 (by decide) w985 rfl rfl kk
theorem mg_42 {g : xG} {M : xMeth} {x0 : Nat} {ad : Nat → Nat} {h0 : hp} {Qm : qS} {tt : Int} {S : gS} {pc : Nat} {ls : List (Option Value)} {st : List Value} (d : decode M.2.1 pc = .ok (.getfield 42, 3)) (hM : M.1 = "ContainerHostModel") (kk : mW g M x0 ad h0 Qm tt S (pc + 3) ls (.ref (ad 13) :: st)) : mW g M x0 ad h0 Qm tt S pc ls (.ref x0 :: st) := m_getf (k := 13) d hM in7 (by decide) w986 rfl rfl kk
theorem mg_45 {g : xG} {M : xMeth} {x0 : Nat} {ad : Nat → Nat} {h0 : hp} {Qm : qS} {tt : Int} {S : gS} {pc : Nat} {ls : List (Option Value)} {st : List Value} (d : decode M.2.1 pc = .ok (.getfield 45, 3)) (hM : M.1 = "ContainerHostModel") (kk : mW g M x0 ad h0 Qm tt S (pc + 3) ls (.ref (ad 14) :: st)) : mW g M x0 ad h0 Qm tt S pc ls (.ref x0 :: st) := m_getf (k := 14) d hM in7 (by decide) w987 rfl rfl kk
theorem mg_48 {g : xG} {M : xMeth} {x0 : Nat} {ad : Nat → Nat} {h0 : hp} {Qm : qS} {tt : Int} {S : gS} {pc : Nat} {ls : List (Option Value)} {st : List Value} (d : decode M.2.1 pc = .ok (.getfield 48, 3)) (hM : M.1 = "ContainerHostModel") (kk : mW g M x0 ad h0 Qm tt S (pc + 3) ls (.ref (ad 15) :: st)) : mW g M x0 ad h0 Qm tt S pc ls (.ref x0 :: st) := m_getf (k := 15) d hM in7 (by decide) w988 rfl rfl kk
theorem mg_51 {g : xG} {M : xMeth} {x0 : Nat} {ad : Nat → Nat} {h0 : hp} {Qm : qS} {tt : Int} {S : gS} {pc : Nat} {ls : List (Option Value)} {st : List Value} (d : decode M.2.1 pc = .ok (.getfield 51, 3)) (hM : M.1 = "ContainerHostModel") (kk : mW g M x0 ad h0 Qm tt S (pc + 3) ls (.ref (ad 16) :: st)) : mW g M x0 ad h0 Qm tt S pc ls (.ref x0 :: st) := m_getf (k := 16) d hM in7 (by decide) w989 rfl rfl kk
theorem mg_54 {g : xG} {M : xMeth} {x0 : Nat} {ad : Nat → Nat} {h0 : hp} {Qm : qS} {tt : Int} {S : gS} {pc : Nat} {ls : List (Option Value)} {st : List Value} (d : decode M.2.1 pc = .ok (.getfield 54, 3)) (hM : M.1 = "ContainerHostModel") (kk : mW g M x0 ad h0 Qm tt S (pc + 3) ls (.ref (ad 17) :: st)) : mW g M x0 ad h0 Qm tt S pc ls (.ref x0 :: st) := m_getf (k := 17) d hM in7 (by decide) w990 rfl rfl kk
theorem mg_57 {g : xG} {M : xMeth} {x0 : Nat} {ad : Nat → Nat} {h0 : hp} {Qm : qS} {tt : Int} {S : gS} {pc : Nat} {ls : List (Option Value)} {st : List Value} (d : decode M.2.1 pc = .ok (.getfield 57, 3)) (hM : M.1 = "ContainerHostModel") (kk : mW g M x0 ad h0 Qm tt S (pc + 3) ls (.ref (ad 18) :: st)) : mW g M x0 ad h0 Qm tt S pc ls (.ref x0 :: st) := m_getf (k := 18) d hM in7 (by decide) w991 rfl rfl kk
theorem mg_60 {g : xG} {M : xMeth} {x0 : Nat} {ad : Nat → Nat} {h0 : hp} {Qm : qS} {tt : Int} {S : gS} {pc : Nat} {ls : List (Option Value)} {st : List Value} (d : decode M.2.1 pc = .ok (.getfield 60, 3)) (hM : M.1 = "ContainerHostModel") (kk : mW g M x0 ad h0 Qm tt S (pc + 3) ls (.ref (ad 19) :: st)) : mW g M x0 ad h0 Qm tt S pc ls (.ref x0 :: st) := m_getf (k := 19) d hM in7 (by decide) w992 rfl rfl kk
theorem mg_63 {g : xG} {M : xMeth} {x0 : Nat} {ad : Nat → Nat} {h0 : hp} {Qm : qS} {tt : Int} {S : gS} {pc : Nat} {ls : List (Option Value)} {st : List Value} (d : decode M.2.1 pc = .ok (.getfield 63, 3)) (hM : M.1 = "ContainerHostModel") (kk : mW g M x0 ad h0 Qm tt S (pc + 3) ls (.ref (ad 20) :: st)) : mW g M x0 ad h0 Qm tt S pc ls (.ref x0 :: st) := m_getf (k := 20) d hM in7 (by decide) w993 rfl rfl kk
theorem mg_66 {g : xG} {M : xMeth} {x0 : Nat} {ad : Nat → Nat} {h0 : hp} {Qm : qS} {tt : Int} {S : gS} {pc : Nat} {ls : List (Option Value)} {st : List Value} (d : decode M.2.1 pc = .ok (.getfield 66, 3)) (hM : M.1 = "ContainerHostModel") (kk : mW g M x0 ad h0 Qm tt S (pc + 3) ls (.ref (ad 21) :: st)) : mW g M x0 ad h0 Qm tt S pc ls (.ref x0 :: st) := m_getf (k := 21) d hM in7 (by decide) w994 rfl rfl kk
theorem mg_69 {g : xG} {M : xMeth} {x0 : Nat} {ad : Nat → Nat} {h0 : hp} {Qm : qS} {tt : Int} {S : gS} {pc : Nat} {ls : List (Option Value)} {st : List Value} (d : decode M.2.1 pc = .ok (.getfield 69, 3)) (hM : M.1 = "ContainerHostModel") (kk : mW g M x0 ad h0 Qm tt S (pc + 3) ls (.ref (ad 22) :: st)) : mW g M x0 ad h0 Qm tt S pc ls (.ref x0 :: st) := m_getf (k := 22) d hM in7 (by decide) w995 rfl rfl kk
theorem mg_198 {g : xG} {M : xMeth} {x0 : Nat} {ad : Nat → Nat} {h0 : hp} {Qm : qS} {tt : Int} {S : gS} {pc : Nat} {ls : List (Option Value)} {st : List Value} (d : decode M.2.1 pc = .ok (.getfield 198, 3)) (hM : M.1 = "ContainerHostModel") (kk : mW g M x0 ad h0 Qm tt S (pc + 3) ls (.int (iI (S 23 0)) :: st)) : mW g M x0 ad h0 Qm tt S pc ls (.ref x0 :: st) := m_getf (k := 23) d hM in7 (by decide) w996 rfl rfl kk
theorem mgv_198 {g : xG} {M : xMeth} {x0 : Nat} {ad : Nat → Nat} {h0 : hp} {Qm : qS} {tt : Int} {S : gS} {pc : Nat} {ls : List (Option Value)} {st : List Value} (v : Int) (hv : S 23 0 = v) (d : decode M.2.1 pc = .ok (.getfield 198, 3)) (hM : M.1 = "ContainerHostModel") (kk : mW g M x0 ad h0 Qm tt S (pc + 3) ls (.int (iI v) :: st)) : mW g M x0 ad h0 Qm tt S pc ls (.ref x0 :: st) := mg_198 d hM (by rw [hv]; exact kk)
theorem mp_198 {g : xG} {M : xMeth} {x0 : Nat} {ad : Nat → Nat} {h0 : hp} {Qm : qS} {tt : Int} {S : gS} {pc : Nat} {ls : List (Option Value)} {st : List Value} {v : Int} (d : decode M.2.1 pc = .ok (.putfield 198, 3)) (hM : M.1 = "ContainerHostModel") (kk : mW g M x0 ad h0 Qm tt (sset S 23 0 v) (pc + 3) ls st) : mW g M x0 ad h0 Qm tt S pc ls (.int (iI v) :: .ref x0 :: st) := m_putf (k := 23) d hM in7 (by decide) w996 rfl rfl rfl rfl rfl kk
theorem mg_72 {g : xG} {M : xMeth} {x0 : Nat} {ad : Nat → Nat} {h0 : hp} {Qm : qS} {tt : Int} {S : gS} {pc : Nat} {ls : List (Option Value)} {st : List Value} (d : decode M.2.1 pc = .ok (.getfield 72, 3)) (hM : M.1 = "ContainerHostModel") (kk : mW g M x0 ad h0 Qm tt S (pc + 3) ls (.ref (ad 24) :: st)) : mW g M x0 ad h0 Qm tt S pc ls (.ref x0 :: st) := m_getf (k := 24) d hM in7 (by decide) w997 rfl rfl kk
theorem mg_75 {g : xG} {M : xMeth} {x0 : Nat} {ad : Nat → Nat} {h0 : hp} {Qm : qS} {tt : Int} {S : gS} {pc : Nat} {ls : List (Option Value)} {st : List Value} (d : decode M.2.1 pc = .ok (.getfield 75, 3)) (hM : M.1 = "ContainerHostModel") (kk : mW g M x0 ad h0 Qm tt S (pc + 3) ls (.ref (ad 25) :: st)) : mW g M x0 ad h0 Qm tt S pc ls (.ref x0 :: st) := m_getf (k := 25) d hM in7 (by decide) w998 rfl rfl kk
theorem mg_78 {g : xG} {M : xMeth} {x0 : Nat} {ad : Nat → Nat} {h0 : hp} {Qm : qS} {tt : Int} {S : gS} {pc : Nat} {ls : List (Option Value)} {st : List Value} (d : decode M.2.1 pc = .ok (.getfield 78, 3)) (hM : M.1 = "ContainerHostModel") (kk : mW g M x0 ad h0 Qm tt S (pc + 3) ls (.ref (ad 26) :: st)) : mW g M x0 ad h0 Qm tt S pc ls (.ref x0 :: st) := m_getf (k := 26) d hM in7 (by decide) w999 rfl rfl kk
theorem mg_81 {g : xG} {M : xMeth} {x0 : Nat} {ad : Nat → Nat} {h0 : hp} {Qm : qS} {tt : Int} {S : gS} {pc : Nat} {ls : List (Option Value)} {st : List Value} (d : decode M.2.1 pc = .ok (.getfield 81, 3)) (hM : M.1 = "ContainerHostModel") (kk : mW g M x0 ad h0 Qm tt S (pc + 3) ls (.ref (ad 27) :: st)) : mW g M x0 ad h0 Qm tt S pc ls (.ref x0 :: st) := m_getf (k := 27) d hM in7 (by decide) w1000 rfl rfl kk
end
section
theorem d_m_init_0 : decode c_m_init 0 = .ok (.aload_n 0, 1) := by decide +kernel
theorem d_m_init_1 : decode c_m_init 1 = .ok (.invokespecial 1, 3) := by decide +kernel
theorem d_m_init_4 : decode c_m_init 4 = .ok (.aload_n 0, 1) := by decide +kernel
theorem d_m_init_5 : decode c_m_init 5 = .ok (.sipush 1120, 3) := by decide +kernel
theorem d_m_init_8 : decode c_m_init 8 = .ok (.newarray .int, 2) := by decide +kernel
theorem d_m_init_10 : decode c_m_init 10 = .ok (.putfield 7, 3) := by decide +kernel
theorem d_m_init_13 : decode c_m_init 13 = .ok (.aload_n 0, 1) := by decide +kernel
theorem d_m_init_14 : decode c_m_init 14 = .ok (.bipush 35, 2) := by decide +kernel
theorem d_m_init_16 : decode c_m_init 16 = .ok (.newarray .int, 2) := by decide +kernel
theorem d_m_init_18 : decode c_m_init 18 = .ok (.putfield 13, 3) := by decide +kernel
theorem d_m_init_21 : decode c_m_init 21 = .ok (.aload_n 0, 1) := by decide +kernel
theorem d_m_init_22 : decode c_m_init 22 = .ok (.bipush 10, 2) := by decide +kernel
theorem d_m_init_24 : decode c_m_init 24 = .ok (.newarray .int, 2) := by decide +kernel
theorem d_m_init_26 : decode c_m_init 26 = .ok (.putfield 16, 3) := by decide +kernel
theorem d_m_init_29 : decode c_m_init 29 = .ok (.aload_n 0, 1) := by decide +kernel
theorem d_m_init_30 : decode c_m_init 30 = .ok (.bipush 10, 2) := by decide +kernel
theorem d_m_init_32 : decode c_m_init 32 = .ok (.newarray .boolean, 2) := by decide +kernel
theorem d_m_init_34 : decode c_m_init 34 = .ok (.putfield 19, 3) := by decide +kernel
theorem d_m_init_37 : decode c_m_init 37 = .ok (.aload_n 0, 1) := by decide +kernel
theorem d_m_init_38 : decode c_m_init 38 = .ok (.iconst 1, 1) := by decide +kernel
theorem d_m_init_39 : decode c_m_init 39 = .ok (.putfield 23, 3) := by decide +kernel
theorem d_m_init_42 : decode c_m_init 42 = .ok (.aload_n 0, 1) := by decide +kernel
theorem d_m_init_43 : decode c_m_init 43 = .ok (.bipush 8, 2) := by decide +kernel
theorem d_m_init_45 : decode c_m_init 45 = .ok (.newarray .int, 2) := by decide +kernel
theorem d_m_init_47 : decode c_m_init 47 = .ok (.putfield 27, 3) := by decide +kernel
theorem d_m_init_50 : decode c_m_init 50 = .ok (.aload_n 0, 1) := by decide +kernel
theorem d_m_init_51 : decode c_m_init 51 = .ok (.bipush 8, 2) := by decide +kernel
theorem d_m_init_53 : decode c_m_init 53 = .ok (.newarray .int, 2) := by decide +kernel
theorem d_m_init_55 : decode c_m_init 55 = .ok (.putfield 30, 3) := by decide +kernel
theorem d_m_init_58 : decode c_m_init 58 = .ok (.aload_n 0, 1) := by decide +kernel
theorem d_m_init_59 : decode c_m_init 59 = .ok (.bipush 8, 2) := by decide +kernel
theorem d_m_init_61 : decode c_m_init 61 = .ok (.newarray .int, 2) := by decide +kernel
theorem d_m_init_63 : decode c_m_init 63 = .ok (.putfield 33, 3) := by decide +kernel
theorem d_m_init_66 : decode c_m_init 66 = .ok (.aload_n 0, 1) := by decide +kernel
theorem d_m_init_67 : decode c_m_init 67 = .ok (.bipush 8, 2) := by decide +kernel
theorem d_m_init_69 : decode c_m_init 69 = .ok (.newarray .int, 2) := by decide +kernel
theorem d_m_init_71 : decode c_m_init 71 = .ok (.putfield 36, 3) := by decide +kernel
theorem d_m_init_74 : decode c_m_init 74 = .ok (.aload_n 0, 1) := by decide +kernel
theorem d_m_init_75 : decode c_m_init 75 = .ok (.bipush 25, 2) := by decide +kernel
theorem d_m_init_77 : decode c_m_init 77 = .ok (.newarray .int, 2) := by decide +kernel
theorem d_m_init_79 : decode c_m_init 79 = .ok (.putfield 39, 3) := by decide +kernel
theorem d_m_init_82 : decode c_m_init 82 = .ok (.aload_n 0, 1) := by decide +kernel
theorem d_m_init_83 : decode c_m_init 83 = .ok (.bipush 25, 2) := by decide +kernel
theorem d_m_init_85 : decode c_m_init 85 = .ok (.newarray .int, 2) := by decide +kernel
theorem d_m_init_87 : decode c_m_init 87 = .ok (.putfield 42, 3) := by decide +kernel
theorem d_m_init_90 : decode c_m_init 90 = .ok (.aload_n 0, 1) := by decide +kernel
theorem d_m_init_91 : decode c_m_init 91 = .ok (.bipush 25, 2) := by decide +kernel
theorem d_m_init_93 : decode c_m_init 93 = .ok (.newarray .int, 2) := by decide +kernel
theorem d_m_init_95 : decode c_m_init 95 = .ok (.putfield 45, 3) := by decide +kernel
theorem d_m_init_98 : decode c_m_init 98 = .ok (.aload_n 0, 1) := by decide +kernel
theorem d_m_init_99 : decode c_m_init 99 = .ok (.bipush 25, 2) := by decide +kernel
theorem d_m_init_101 : decode c_m_init 101 = .ok (.newarray .int, 2) := by decide +kernel
theorem d_m_init_103 : decode c_m_init 103 = .ok (.putfield 48, 3) := by decide +kernel
theorem d_m_init_106 : decode c_m_init 106 = .ok (.aload_n 0, 1) := by decide +kernel
theorem d_m_init_107 : decode c_m_init 107 = .ok (.bipush 25, 2) := by decide +kernel
theorem d_m_init_109 : decode c_m_init 109 = .ok (.newarray .int, 2) := by decide +kernel
theorem d_m_init_111 : decode c_m_init 111 = .ok (.putfield 51, 3) := by decide +kernel
theorem d_m_init_114 : decode c_m_init 114 = .ok (.aload_n 0, 1) := by decide +kernel
theorem d_m_init_115 : decode c_m_init 115 = .ok (.bipush 25, 2) := by decide +kernel
theorem d_m_init_117 : decode c_m_init 117 = .ok (.newarray .int, 2) := by decide +kernel
theorem d_m_init_119 : decode c_m_init 119 = .ok (.putfield 54, 3) := by decide +kernel
theorem d_m_init_122 : decode c_m_init 122 = .ok (.aload_n 0, 1) := by decide +kernel
theorem d_m_init_123 : decode c_m_init 123 = .ok (.bipush 25, 2) := by decide +kernel
theorem d_m_init_125 : decode c_m_init 125 = .ok (.newarray .int, 2) := by decide +kernel
theorem d_m_init_127 : decode c_m_init 127 = .ok (.putfield 57, 3) := by decide +kernel
theorem d_m_init_130 : decode c_m_init 130 = .ok (.aload_n 0, 1) := by decide +kernel
theorem d_m_init_131 : decode c_m_init 131 = .ok (.bipush 20, 2) := by decide +kernel
theorem d_m_init_133 : decode c_m_init 133 = .ok (.newarray .int, 2) := by decide +kernel
theorem d_m_init_135 : decode c_m_init 135 = .ok (.putfield 60, 3) := by decide +kernel
theorem d_m_init_138 : decode c_m_init 138 = .ok (.aload_n 0, 1) := by decide +kernel
theorem d_m_init_139 : decode c_m_init 139 = .ok (.bipush 20, 2) := by decide +kernel
theorem d_m_init_141 : decode c_m_init 141 = .ok (.newarray .int, 2) := by decide +kernel
theorem d_m_init_143 : decode c_m_init 143 = .ok (.putfield 63, 3) := by decide +kernel
theorem d_m_init_146 : decode c_m_init 146 = .ok (.aload_n 0, 1) := by decide +kernel
theorem d_m_init_147 : decode c_m_init 147 = .ok (.bipush 20, 2) := by decide +kernel
theorem d_m_init_149 : decode c_m_init 149 = .ok (.newarray .int, 2) := by decide +kernel
theorem d_m_init_151 : decode c_m_init 151 = .ok (.putfield 66, 3) := by decide +kernel
theorem d_m_init_154 : decode c_m_init 154 = .ok (.aload_n 0, 1) := by decide +kernel
theorem d_m_init_155 : decode c_m_init 155 = .ok (.bipush 20, 2) := by decide +kernel
theorem d_m_init_157 : decode c_m_init 157 = .ok (.newarray .int, 2) := by decide +kernel
theorem d_m_init_159 : decode c_m_init 159 = .ok (.putfield 69, 3) := by decide +kernel
theorem d_m_init_162 : decode c_m_init 162 = .ok (.aload_n 0, 1) := by decide +kernel
theorem d_m_init_163 : decode c_m_init 163 = .ok (.bipush 32, 2) := by decide +kernel
theorem d_m_init_165 : decode c_m_init 165 = .ok (.newarray .int, 2) := by decide +kernel
theorem d_m_init_167 : decode c_m_init 167 = .ok (.putfield 72, 3) := by decide +kernel
theorem d_m_init_170 : decode c_m_init 170 = .ok (.aload_n 0, 1) := by decide +kernel
theorem d_m_init_171 : decode c_m_init 171 = .ok (.bipush 32, 2) := by decide +kernel
theorem d_m_init_173 : decode c_m_init 173 = .ok (.newarray .int, 2) := by decide +kernel
theorem d_m_init_175 : decode c_m_init 175 = .ok (.putfield 75, 3) := by decide +kernel
theorem d_m_init_178 : decode c_m_init 178 = .ok (.aload_n 0, 1) := by decide +kernel
theorem d_m_init_179 : decode c_m_init 179 = .ok (.bipush 8, 2) := by decide +kernel
theorem d_m_init_181 : decode c_m_init 181 = .ok (.newarray .int, 2) := by decide +kernel
theorem d_m_init_183 : decode c_m_init 183 = .ok (.putfield 78, 3) := by decide +kernel
theorem d_m_init_186 : decode c_m_init 186 = .ok (.aload_n 0, 1) := by decide +kernel
theorem d_m_init_187 : decode c_m_init 187 = .ok (.bipush 28, 2) := by decide +kernel
theorem d_m_init_189 : decode c_m_init 189 = .ok (.newarray .int, 2) := by decide +kernel
theorem d_m_init_191 : decode c_m_init 191 = .ok (.putfield 81, 3) := by decide +kernel
theorem d_m_init_194 : decode c_m_init 194 = .ok (.aload_n 0, 1) := by decide +kernel
theorem d_m_init_195 : decode c_m_init 195 = .ok (.getfield 27, 3) := by decide +kernel
theorem d_m_init_198 : decode c_m_init 198 = .ok (.iconst 0, 1) := by decide +kernel
theorem d_m_init_199 : decode c_m_init 199 = .ok (.iconst (-1), 1) := by decide +kernel
theorem d_m_init_200 : decode c_m_init 200 = .ok (.iastore, 1) := by decide +kernel
theorem d_m_init_201 : decode c_m_init 201 = .ok (.aload_n 0, 1) := by decide +kernel
theorem d_m_init_202 : decode c_m_init 202 = .ok (.getfield 30, 3) := by decide +kernel
theorem d_m_init_205 : decode c_m_init 205 = .ok (.iconst 0, 1) := by decide +kernel
theorem d_m_init_206 : decode c_m_init 206 = .ok (.sipush 10000, 3) := by decide +kernel
theorem d_m_init_209 : decode c_m_init 209 = .ok (.iastore, 1) := by decide +kernel
theorem d_m_init_210 : decode c_m_init 210 = .ok (.aload_n 0, 1) := by decide +kernel
theorem d_m_init_211 : decode c_m_init 211 = .ok (.getfield 33, 3) := by decide +kernel
theorem d_m_init_214 : decode c_m_init 214 = .ok (.iconst 0, 1) := by decide +kernel
theorem d_m_init_215 : decode c_m_init 215 = .ok (.bipush 100, 2) := by decide +kernel
theorem d_m_init_217 : decode c_m_init 217 = .ok (.iastore, 1) := by decide +kernel
theorem d_m_init_218 : decode c_m_init 218 = .ok (.iconst 0, 1) := by decide +kernel
theorem d_m_init_219 : decode c_m_init 219 = .ok (.istore_n 1, 1) := by decide +kernel
theorem d_m_init_220 : decode c_m_init 220 = .ok (.iload_n 1, 1) := by decide +kernel
theorem d_m_init_221 : decode c_m_init 221 = .ok (.bipush 32, 2) := by decide +kernel
theorem d_m_init_223 : decode c_m_init 223 = .ok (.if_icmp .ge 16, 3) := by decide +kernel
theorem d_m_init_226 : decode c_m_init 226 = .ok (.aload_n 0, 1) := by decide +kernel
theorem d_m_init_227 : decode c_m_init 227 = .ok (.getfield 72, 3) := by decide +kernel
theorem d_m_init_230 : decode c_m_init 230 = .ok (.iload_n 1, 1) := by decide +kernel
theorem d_m_init_231 : decode c_m_init 231 = .ok (.iconst (-1), 1) := by decide +kernel
theorem d_m_init_232 : decode c_m_init 232 = .ok (.iastore, 1) := by decide +kernel
theorem d_m_init_233 : decode c_m_init 233 = .ok (.iinc 1 1, 3) := by decide +kernel
theorem d_m_init_236 : decode c_m_init 236 = .ok (.goto (-16), 3) := by decide +kernel
theorem d_m_init_239 : decode c_m_init 239 = .ok (.return_, 1) := by decide +kernel
theorem d_m_thrown_0 : decode c_m_thrown 0 = .ok (.aload_n 0, 1) := by decide +kernel
theorem d_m_thrown_1 : decode c_m_thrown 1 = .ok (.getfield 84, 3) := by decide +kernel
theorem d_m_thrown_4 : decode c_m_thrown 4 = .ok (.ireturn, 1) := by decide +kernel
theorem d_m_newImage_0 : decode c_m_newImage 0 = .ok (.iload_n 1, 1) := by decide +kernel
theorem d_m_newImage_1 : decode c_m_newImage 1 = .ok (.iconst (-1), 1) := by decide +kernel
theorem d_m_newImage_2 : decode c_m_newImage 2 = .ok (.if_icmp .eq 11, 3) := by decide +kernel
theorem d_m_newImage_5 : decode c_m_newImage 5 = .ok (.aload_n 0, 1) := by decide +kernel
theorem d_m_newImage_6 : decode c_m_newImage 6 = .ok (.iload_n 1, 1) := by decide +kernel
theorem d_m_newImage_7 : decode c_m_newImage 7 = .ok (.invokevirtual 101, 3) := by decide +kernel
theorem d_m_newImage_10 : decode c_m_newImage 10 = .ok (.ifCond .eq 7, 3) := by decide +kernel
theorem d_m_newImage_13 : decode c_m_newImage 13 = .ok (.iconst 1, 1) := by decide +kernel
theorem d_m_newImage_14 : decode c_m_newImage 14 = .ok (.goto 4, 3) := by decide +kernel
theorem d_m_newImage_17 : decode c_m_newImage 17 = .ok (.iconst 0, 1) := by decide +kernel
theorem d_m_newImage_18 : decode c_m_newImage 18 = .ok (.istore_n 2, 1) := by decide +kernel
theorem d_m_newImage_19 : decode c_m_newImage 19 = .ok (.iload_n 2, 1) := by decide +kernel
theorem d_m_newImage_20 : decode c_m_newImage 20 = .ok (.ifCond .eq 40, 3) := by decide +kernel
theorem d_m_newImage_23 : decode c_m_newImage 23 = .ok (.iload_n 1, 1) := by decide +kernel
theorem d_m_newImage_24 : decode c_m_newImage 24 = .ok (.iconst (-1), 1) := by decide +kernel
theorem d_m_newImage_25 : decode c_m_newImage 25 = .ok (.if_icmp .eq 22, 3) := by decide +kernel
theorem d_m_newImage_28 : decode c_m_newImage 28 = .ok (.aload_n 0, 1) := by decide +kernel
theorem d_m_newImage_29 : decode c_m_newImage 29 = .ok (.getfield 19, 3) := by decide +kernel
theorem d_m_newImage_32 : decode c_m_newImage 32 = .ok (.iload_n 1, 1) := by decide +kernel
theorem d_m_newImage_33 : decode c_m_newImage 33 = .ok (.baload, 1) := by decide +kernel
theorem d_m_newImage_34 : decode c_m_newImage 34 = .ok (.ifCond .eq 26, 3) := by decide +kernel
theorem d_m_newImage_37 : decode c_m_newImage 37 = .ok (.aload_n 0, 1) := by decide +kernel
theorem d_m_newImage_38 : decode c_m_newImage 38 = .ok (.iload_n 1, 1) := by decide +kernel
theorem d_m_newImage_39 : decode c_m_newImage 39 = .ok (.invokevirtual 105, 3) := by decide +kernel
theorem d_m_newImage_42 : decode c_m_newImage 42 = .ok (.bipush 8, 2) := by decide +kernel
theorem d_m_newImage_44 : decode c_m_newImage 44 = .ok (.if_icmp .ge 16, 3) := by decide +kernel
theorem d_m_newImage_47 : decode c_m_newImage 47 = .ok (.aload_n 0, 1) := by decide +kernel
theorem d_m_newImage_48 : decode c_m_newImage 48 = .ok (.getfield 87, 3) := by decide +kernel
theorem d_m_newImage_51 : decode c_m_newImage 51 = .ok (.bipush 10, 2) := by decide +kernel
theorem d_m_newImage_53 : decode c_m_newImage 53 = .ok (.if_icmp .ge 7, 3) := by decide +kernel
theorem d_m_newImage_56 : decode c_m_newImage 56 = .ok (.iconst 1, 1) := by decide +kernel
theorem d_m_newImage_57 : decode c_m_newImage 57 = .ok (.goto 4, 3) := by decide +kernel
theorem d_m_newImage_60 : decode c_m_newImage 60 = .ok (.iconst 0, 1) := by decide +kernel
theorem d_m_newImage_61 : decode c_m_newImage 61 = .ok (.istore_n 3, 1) := by decide +kernel
theorem d_m_newImage_62 : decode c_m_newImage 62 = .ok (.aload_n 0, 1) := by decide +kernel
theorem d_m_newImage_63 : decode c_m_newImage 63 = .ok (.iload_n 2, 1) := by decide +kernel
theorem d_m_newImage_64 : decode c_m_newImage 64 = .ok (.ifCond .ne 7, 3) := by decide +kernel
theorem d_m_newImage_67 : decode c_m_newImage 67 = .ok (.iconst 1, 1) := by decide +kernel
theorem d_m_newImage_68 : decode c_m_newImage 68 = .ok (.goto 12, 3) := by decide +kernel
theorem d_m_newImage_71 : decode c_m_newImage 71 = .ok (.iload_n 3, 1) := by decide +kernel
theorem d_m_newImage_72 : decode c_m_newImage 72 = .ok (.ifCond .eq 7, 3) := by decide +kernel
theorem d_m_newImage_75 : decode c_m_newImage 75 = .ok (.iconst 0, 1) := by decide +kernel
theorem d_m_newImage_76 : decode c_m_newImage 76 = .ok (.goto 4, 3) := by decide +kernel
theorem d_m_newImage_79 : decode c_m_newImage 79 = .ok (.iconst 2, 1) := by decide +kernel
theorem d_m_newImage_80 : decode c_m_newImage 80 = .ok (.invokevirtual 109, 3) := by decide +kernel
theorem d_m_newImage_83 : decode c_m_newImage 83 = .ok (.ifCond .ne 5, 3) := by decide +kernel
theorem d_m_newImage_86 : decode c_m_newImage 86 = .ok (.iconst 0, 1) := by decide +kernel
theorem d_m_newImage_87 : decode c_m_newImage 87 = .ok (.ireturn, 1) := by decide +kernel
theorem d_m_newImage_88 : decode c_m_newImage 88 = .ok (.aload_n 0, 1) := by decide +kernel
theorem d_m_newImage_89 : decode c_m_newImage 89 = .ok (.getfield 16, 3) := by decide +kernel
theorem d_m_newImage_92 : decode c_m_newImage 92 = .ok (.aload_n 0, 1) := by decide +kernel
theorem d_m_newImage_93 : decode c_m_newImage 93 = .ok (.getfield 87, 3) := by decide +kernel
theorem d_m_newImage_96 : decode c_m_newImage 96 = .ok (.iload_n 1, 1) := by decide +kernel
theorem d_m_newImage_97 : decode c_m_newImage 97 = .ok (.iastore, 1) := by decide +kernel
theorem d_m_newImage_98 : decode c_m_newImage 98 = .ok (.aload_n 0, 1) := by decide +kernel
theorem d_m_newImage_99 : decode c_m_newImage 99 = .ok (.getfield 19, 3) := by decide +kernel
theorem d_m_newImage_102 : decode c_m_newImage 102 = .ok (.aload_n 0, 1) := by decide +kernel
theorem d_m_newImage_103 : decode c_m_newImage 103 = .ok (.getfield 87, 3) := by decide +kernel
theorem d_m_newImage_106 : decode c_m_newImage 106 = .ok (.iconst 0, 1) := by decide +kernel
theorem d_m_newImage_107 : decode c_m_newImage 107 = .ok (.bastore, 1) := by decide +kernel
theorem d_m_newImage_108 : decode c_m_newImage 108 = .ok (.aload_n 0, 1) := by decide +kernel
theorem d_m_newImage_109 : decode c_m_newImage 109 = .ok (.aload_n 0, 1) := by decide +kernel
theorem d_m_newImage_110 : decode c_m_newImage 110 = .ok (.getfield 87, 3) := by decide +kernel
theorem d_m_newImage_113 : decode c_m_newImage 113 = .ok (.invokevirtual 112, 3) := by decide +kernel
theorem d_m_newImage_116 : decode c_m_newImage 116 = .ok (.aload_n 0, 1) := by decide +kernel
theorem d_m_newImage_117 : decode c_m_newImage 117 = .ok (.dup, 1) := by decide +kernel
theorem d_m_newImage_118 : decode c_m_newImage 118 = .ok (.getfield 87, 3) := by decide +kernel
theorem d_m_newImage_121 : decode c_m_newImage 121 = .ok (.iconst 1, 1) := by decide +kernel
theorem d_m_newImage_122 : decode c_m_newImage 122 = .ok (.iadd, 1) := by decide +kernel
theorem d_m_newImage_123 : decode c_m_newImage 123 = .ok (.putfield 87, 3) := by decide +kernel
theorem d_m_newImage_126 : decode c_m_newImage 126 = .ok (.aload_n 0, 1) := by decide +kernel
theorem d_m_newImage_127 : decode c_m_newImage 127 = .ok (.getfield 87, 3) := by decide +kernel
theorem d_m_newImage_130 : decode c_m_newImage 130 = .ok (.iconst 1, 1) := by decide +kernel
theorem d_m_newImage_131 : decode c_m_newImage 131 = .ok (.isub, 1) := by decide +kernel
theorem d_m_newImage_132 : decode c_m_newImage 132 = .ok (.ireturn, 1) := by decide +kernel
theorem d_m_isImage_0 : decode c_m_isImage 0 = .ok (.iload_n 1, 1) := by decide +kernel
theorem d_m_isImage_1 : decode c_m_isImage 1 = .ok (.aload_n 0, 1) := by decide +kernel
theorem d_m_isImage_2 : decode c_m_isImage 2 = .ok (.getfield 87, 3) := by decide +kernel
theorem d_m_isImage_5 : decode c_m_isImage 5 = .ok (.invokestatic 90, 3) := by decide +kernel
theorem d_m_isImage_8 : decode c_m_isImage 8 = .ok (.ireturn, 1) := by decide +kernel
theorem d_m_isIn_0 : decode c_m_isIn 0 = .ok (.iload_n 0, 1) := by decide +kernel
theorem d_m_isIn_1 : decode c_m_isIn 1 = .ok (.ifCond .lt 12, 3) := by decide +kernel
theorem d_m_isIn_4 : decode c_m_isIn 4 = .ok (.iload_n 0, 1) := by decide +kernel
theorem d_m_isIn_5 : decode c_m_isIn 5 = .ok (.iload_n 1, 1) := by decide +kernel
theorem d_m_isIn_6 : decode c_m_isIn 6 = .ok (.if_icmp .ge 7, 3) := by decide +kernel
theorem d_m_isIn_9 : decode c_m_isIn 9 = .ok (.iconst 1, 1) := by decide +kernel
theorem d_m_isIn_10 : decode c_m_isIn 10 = .ok (.goto 4, 3) := by decide +kernel
theorem d_m_isIn_13 : decode c_m_isIn 13 = .ok (.iconst 0, 1) := by decide +kernel
theorem d_m_isIn_14 : decode c_m_isIn 14 = .ok (.ireturn, 1) := by decide +kernel
theorem d_m_layersOf_0 : decode c_m_layersOf 0 = .ok (.iconst 0, 1) := by decide +kernel
theorem d_m_layersOf_1 : decode c_m_layersOf 1 = .ok (.istore_n 2, 1) := by decide +kernel
theorem d_m_layersOf_2 : decode c_m_layersOf 2 = .ok (.iload_n 1, 1) := by decide +kernel
theorem d_m_layersOf_3 : decode c_m_layersOf 3 = .ok (.istore_n 3, 1) := by decide +kernel
theorem d_m_layersOf_4 : decode c_m_layersOf 4 = .ok (.iload_n 3, 1) := by decide +kernel
theorem d_m_layersOf_5 : decode c_m_layersOf 5 = .ok (.iconst (-1), 1) := by decide +kernel
theorem d_m_layersOf_6 : decode c_m_layersOf 6 = .ok (.if_icmp .eq 16, 3) := by decide +kernel
theorem d_m_layersOf_9 : decode c_m_layersOf 9 = .ok (.iinc 2 1, 3) := by decide +kernel
theorem d_m_layersOf_12 : decode c_m_layersOf 12 = .ok (.aload_n 0, 1) := by decide +kernel
theorem d_m_layersOf_13 : decode c_m_layersOf 13 = .ok (.getfield 16, 3) := by decide +kernel
theorem d_m_layersOf_16 : decode c_m_layersOf 16 = .ok (.iload_n 3, 1) := by decide +kernel
theorem d_m_layersOf_17 : decode c_m_layersOf 17 = .ok (.iaload, 1) := by decide +kernel
theorem d_m_layersOf_18 : decode c_m_layersOf 18 = .ok (.istore_n 3, 1) := by decide +kernel
theorem d_m_layersOf_19 : decode c_m_layersOf 19 = .ok (.goto (-15), 3) := by decide +kernel
theorem d_m_layersOf_22 : decode c_m_layersOf 22 = .ok (.iload_n 2, 1) := by decide +kernel
theorem d_m_layersOf_23 : decode c_m_layersOf 23 = .ok (.ireturn, 1) := by decide +kernel
theorem d_m_holds_0 : decode c_m_holds 0 = .ok (.aload_n 0, 1) := by decide +kernel
theorem d_m_holds_1 : decode c_m_holds 1 = .ok (.iload_n 1, 1) := by decide +kernel
theorem d_m_holds_2 : decode c_m_holds 2 = .ok (.putfield 84, 3) := by decide +kernel
theorem d_m_holds_5 : decode c_m_holds 5 = .ok (.iload_n 1, 1) := by decide +kernel
theorem d_m_holds_6 : decode c_m_holds 6 = .ok (.ifCond .ne 7, 3) := by decide +kernel
theorem d_m_holds_9 : decode c_m_holds 9 = .ok (.iconst 1, 1) := by decide +kernel
theorem d_m_holds_10 : decode c_m_holds 10 = .ok (.goto 4, 3) := by decide +kernel
theorem d_m_holds_13 : decode c_m_holds 13 = .ok (.iconst 0, 1) := by decide +kernel
theorem d_m_holds_14 : decode c_m_holds 14 = .ok (.ireturn, 1) := by decide +kernel
theorem d_m_empties_0 : decode c_m_empties 0 = .ok (.aload_n 0, 1) := by decide +kernel
theorem d_m_empties_1 : decode c_m_empties 1 = .ok (.getfield 13, 3) := by decide +kernel
theorem d_m_empties_4 : decode c_m_empties 4 = .ok (.iload_n 1, 1) := by decide +kernel
theorem d_m_empties_5 : decode c_m_empties 5 = .ok (.iconst 0, 1) := by decide +kernel
theorem d_m_empties_6 : decode c_m_empties 6 = .ok (.iastore, 1) := by decide +kernel
theorem d_m_empties_7 : decode c_m_empties 7 = .ok (.iconst 0, 1) := by decide +kernel
theorem d_m_empties_8 : decode c_m_empties 8 = .ok (.istore_n 2, 1) := by decide +kernel
theorem d_m_empties_9 : decode c_m_empties 9 = .ok (.iload_n 2, 1) := by decide +kernel
theorem d_m_empties_10 : decode c_m_empties 10 = .ok (.bipush 32, 2) := by decide +kernel
theorem d_m_empties_12 : decode c_m_empties 12 = .ok (.if_icmp .ge 21, 3) := by decide +kernel
theorem d_m_empties_15 : decode c_m_empties 15 = .ok (.aload_n 0, 1) := by decide +kernel
theorem d_m_empties_16 : decode c_m_empties 16 = .ok (.getfield 7, 3) := by decide +kernel
theorem d_m_empties_19 : decode c_m_empties 19 = .ok (.bipush 32, 2) := by decide +kernel
theorem d_m_empties_21 : decode c_m_empties 21 = .ok (.iload_n 1, 1) := by decide +kernel
theorem d_m_empties_22 : decode c_m_empties 22 = .ok (.imul, 1) := by decide +kernel
theorem d_m_empties_23 : decode c_m_empties 23 = .ok (.iload_n 2, 1) := by decide +kernel
theorem d_m_empties_24 : decode c_m_empties 24 = .ok (.iadd, 1) := by decide +kernel
theorem d_m_empties_25 : decode c_m_empties 25 = .ok (.iconst 0, 1) := by decide +kernel
theorem d_m_empties_26 : decode c_m_empties 26 = .ok (.iastore, 1) := by decide +kernel
theorem d_m_empties_27 : decode c_m_empties 27 = .ok (.iinc 2 1, 3) := by decide +kernel
theorem d_m_empties_30 : decode c_m_empties 30 = .ok (.goto (-21), 3) := by decide +kernel
theorem d_m_empties_33 : decode c_m_empties 33 = .ok (.return_, 1) := by decide +kernel
theorem d_m_write_0 : decode c_m_write 0 = .ok (.aload_n 0, 1) := by decide +kernel
theorem d_m_write_1 : decode c_m_write 1 = .ok (.iload_n 1, 1) := by decide +kernel
theorem d_m_write_2 : decode c_m_write 2 = .ok (.invokevirtual 101, 3) := by decide +kernel
theorem d_m_write_5 : decode c_m_write 5 = .ok (.ifCond .eq 16, 3) := by decide +kernel
theorem d_m_write_8 : decode c_m_write 8 = .ok (.iload_n 2, 1) := by decide +kernel
theorem d_m_write_9 : decode c_m_write 9 = .ok (.bipush 32, 2) := by decide +kernel
theorem d_m_write_11 : decode c_m_write 11 = .ok (.invokestatic 90, 3) := by decide +kernel
theorem d_m_write_14 : decode c_m_write 14 = .ok (.ifCond .eq 7, 3) := by decide +kernel
theorem d_m_write_17 : decode c_m_write 17 = .ok (.iconst 1, 1) := by decide +kernel
theorem d_m_write_18 : decode c_m_write 18 = .ok (.goto 4, 3) := by decide +kernel
theorem d_m_write_21 : decode c_m_write 21 = .ok (.iconst 0, 1) := by decide +kernel
theorem d_m_write_22 : decode c_m_write 22 = .ok (.istore 4, 2) := by decide +kernel
theorem d_m_write_24 : decode c_m_write 24 = .ok (.aload_n 0, 1) := by decide +kernel
theorem d_m_write_25 : decode c_m_write 25 = .ok (.iload 4, 2) := by decide +kernel
theorem d_m_write_27 : decode c_m_write 27 = .ok (.ifCond .ne 7, 3) := by decide +kernel
theorem d_m_write_30 : decode c_m_write 30 = .ok (.iconst 1, 1) := by decide +kernel
theorem d_m_write_31 : decode c_m_write 31 = .ok (.goto 28, 3) := by decide +kernel
theorem d_m_write_34 : decode c_m_write 34 = .ok (.iload_n 3, 1) := by decide +kernel
theorem d_m_write_35 : decode c_m_write 35 = .ok (.invokestatic 116, 3) := by decide +kernel
theorem d_m_write_38 : decode c_m_write 38 = .ok (.ifCond .ne 7, 3) := by decide +kernel
theorem d_m_write_41 : decode c_m_write 41 = .ok (.iconst 2, 1) := by decide +kernel
theorem d_m_write_42 : decode c_m_write 42 = .ok (.goto 17, 3) := by decide +kernel
theorem d_m_write_45 : decode c_m_write 45 = .ok (.aload_n 0, 1) := by decide +kernel
theorem d_m_write_46 : decode c_m_write 46 = .ok (.getfield 19, 3) := by decide +kernel
theorem d_m_write_49 : decode c_m_write 49 = .ok (.iload_n 1, 1) := by decide +kernel
theorem d_m_write_50 : decode c_m_write 50 = .ok (.baload, 1) := by decide +kernel
theorem d_m_write_51 : decode c_m_write 51 = .ok (.ifCond .eq 7, 3) := by decide +kernel
theorem d_m_write_54 : decode c_m_write 54 = .ok (.iconst 3, 1) := by decide +kernel
theorem d_m_write_55 : decode c_m_write 55 = .ok (.goto 4, 3) := by decide +kernel
theorem d_m_write_58 : decode c_m_write 58 = .ok (.iconst 0, 1) := by decide +kernel
theorem d_m_write_59 : decode c_m_write 59 = .ok (.invokevirtual 109, 3) := by decide +kernel
theorem d_m_write_62 : decode c_m_write 62 = .ok (.ifCond .ne 5, 3) := by decide +kernel
theorem d_m_write_65 : decode c_m_write 65 = .ok (.iconst 0, 1) := by decide +kernel
theorem d_m_write_66 : decode c_m_write 66 = .ok (.ireturn, 1) := by decide +kernel
theorem d_m_write_67 : decode c_m_write 67 = .ok (.aload_n 0, 1) := by decide +kernel
theorem d_m_write_68 : decode c_m_write 68 = .ok (.iload_n 1, 1) := by decide +kernel
theorem d_m_write_69 : decode c_m_write 69 = .ok (.iload_n 2, 1) := by decide +kernel
theorem d_m_write_70 : decode c_m_write 70 = .ok (.invokevirtual 119, 3) := by decide +kernel
theorem d_m_write_73 : decode c_m_write 73 = .ok (.istore 5, 2) := by decide +kernel
theorem d_m_write_75 : decode c_m_write 75 = .ok (.aload_n 0, 1) := by decide +kernel
theorem d_m_write_76 : decode c_m_write 76 = .ok (.getfield 7, 3) := by decide +kernel
theorem d_m_write_79 : decode c_m_write 79 = .ok (.bipush 32, 2) := by decide +kernel
theorem d_m_write_81 : decode c_m_write 81 = .ok (.iload_n 1, 1) := by decide +kernel
theorem d_m_write_82 : decode c_m_write 82 = .ok (.imul, 1) := by decide +kernel
theorem d_m_write_83 : decode c_m_write 83 = .ok (.iload_n 2, 1) := by decide +kernel
theorem d_m_write_84 : decode c_m_write 84 = .ok (.iadd, 1) := by decide +kernel
theorem d_m_write_85 : decode c_m_write 85 = .ok (.iload_n 3, 1) := by decide +kernel
theorem d_m_write_86 : decode c_m_write 86 = .ok (.iastore, 1) := by decide +kernel
theorem d_m_write_87 : decode c_m_write 87 = .ok (.iload 5, 2) := by decide +kernel
theorem d_m_write_89 : decode c_m_write 89 = .ok (.ireturn, 1) := by decide +kernel
theorem d_m_isContent_0 : decode c_m_isContent 0 = .ok (.iload_n 0, 1) := by decide +kernel
theorem d_m_isContent_1 : decode c_m_isContent 1 = .ok (.iconst 1, 1) := by decide +kernel
theorem d_m_isContent_2 : decode c_m_isContent 2 = .ok (.if_icmp .lt 14, 3) := by decide +kernel
theorem d_m_isContent_5 : decode c_m_isContent 5 = .ok (.iload_n 0, 1) := by decide +kernel
theorem d_m_isContent_6 : decode c_m_isContent 6 = .ok (.sipush 999, 3) := by decide +kernel
theorem d_m_isContent_9 : decode c_m_isContent 9 = .ok (.if_icmp .gt 7, 3) := by decide +kernel
theorem d_m_isContent_12 : decode c_m_isContent 12 = .ok (.iconst 1, 1) := by decide +kernel
theorem d_m_isContent_13 : decode c_m_isContent 13 = .ok (.goto 4, 3) := by decide +kernel
theorem d_m_isContent_16 : decode c_m_isContent 16 = .ok (.iconst 0, 1) := by decide +kernel
theorem d_m_isContent_17 : decode c_m_isContent 17 = .ok (.ireturn, 1) := by decide +kernel
theorem d_m_imageShows_0 : decode c_m_imageShows 0 = .ok (.aload_n 0, 1) := by decide +kernel
theorem d_m_imageShows_1 : decode c_m_imageShows 1 = .ok (.iload_n 1, 1) := by decide +kernel
theorem d_m_imageShows_2 : decode c_m_imageShows 2 = .ok (.aload_n 0, 1) := by decide +kernel
theorem d_m_imageShows_3 : decode c_m_imageShows 3 = .ok (.getfield 16, 3) := by decide +kernel
theorem d_m_imageShows_6 : decode c_m_imageShows 6 = .ok (.iload_n 1, 1) := by decide +kernel
theorem d_m_imageShows_7 : decode c_m_imageShows 7 = .ok (.iaload, 1) := by decide +kernel
theorem d_m_imageShows_8 : decode c_m_imageShows 8 = .ok (.iload_n 2, 1) := by decide +kernel
theorem d_m_imageShows_9 : decode c_m_imageShows 9 = .ok (.invokevirtual 97, 3) := by decide +kernel
theorem d_m_imageShows_12 : decode c_m_imageShows 12 = .ok (.ireturn, 1) := by decide +kernel
theorem d_m_shows_0 : decode c_m_shows 0 = .ok (.iload_n 1, 1) := by decide +kernel
theorem d_m_shows_1 : decode c_m_shows 1 = .ok (.istore 4, 2) := by decide +kernel
theorem d_m_shows_3 : decode c_m_shows 3 = .ok (.iload_n 2, 1) := by decide +kernel
theorem d_m_shows_4 : decode c_m_shows 4 = .ok (.istore 5, 2) := by decide +kernel
theorem d_m_shows_6 : decode c_m_shows 6 = .ok (.iload 4, 2) := by decide +kernel
theorem d_m_shows_8 : decode c_m_shows 8 = .ok (.iconst (-1), 1) := by decide +kernel
theorem d_m_shows_9 : decode c_m_shows 9 = .ok (.if_icmp .eq 79, 3) := by decide +kernel
theorem d_m_shows_12 : decode c_m_shows 12 = .ok (.aload_n 0, 1) := by decide +kernel
theorem d_m_shows_13 : decode c_m_shows 13 = .ok (.getfield 7, 3) := by decide +kernel
theorem d_m_shows_16 : decode c_m_shows 16 = .ok (.bipush 32, 2) := by decide +kernel
theorem d_m_shows_18 : decode c_m_shows 18 = .ok (.iload 4, 2) := by decide +kernel
theorem d_m_shows_20 : decode c_m_shows 20 = .ok (.imul, 1) := by decide +kernel
theorem d_m_shows_21 : decode c_m_shows 21 = .ok (.iload_n 3, 1) := by decide +kernel
theorem d_m_shows_22 : decode c_m_shows 22 = .ok (.iadd, 1) := by decide +kernel
theorem d_m_shows_23 : decode c_m_shows 23 = .ok (.iaload, 1) := by decide +kernel
theorem d_m_shows_24 : decode c_m_shows 24 = .ok (.istore 6, 2) := by decide +kernel
theorem d_m_shows_26 : decode c_m_shows 26 = .ok (.iload 6, 2) := by decide +kernel
theorem d_m_shows_28 : decode c_m_shows 28 = .ok (.ifCond .eq 15, 3) := by decide +kernel
theorem d_m_shows_31 : decode c_m_shows 31 = .ok (.iload 6, 2) := by decide +kernel
theorem d_m_shows_33 : decode c_m_shows 33 = .ok (.ifCond .le 8, 3) := by decide +kernel
theorem d_m_shows_36 : decode c_m_shows 36 = .ok (.iload 6, 2) := by decide +kernel
theorem d_m_shows_38 : decode c_m_shows 38 = .ok (.goto 4, 3) := by decide +kernel
theorem d_m_shows_41 : decode c_m_shows 41 = .ok (.iconst 0, 1) := by decide +kernel
theorem d_m_shows_42 : decode c_m_shows 42 = .ok (.ireturn, 1) := by decide +kernel
theorem d_m_shows_43 : decode c_m_shows 43 = .ok (.aload_n 0, 1) := by decide +kernel
theorem d_m_shows_44 : decode c_m_shows 44 = .ok (.getfield 13, 3) := by decide +kernel
theorem d_m_shows_47 : decode c_m_shows 47 = .ok (.iload 4, 2) := by decide +kernel
theorem d_m_shows_49 : decode c_m_shows 49 = .ok (.iaload, 1) := by decide +kernel
theorem d_m_shows_50 : decode c_m_shows 50 = .ok (.iload_n 3, 1) := by decide +kernel
theorem d_m_shows_51 : decode c_m_shows 51 = .ok (.iconst 4, 1) := by decide +kernel
theorem d_m_shows_52 : decode c_m_shows 52 = .ok (.idiv, 1) := by decide +kernel
theorem d_m_shows_53 : decode c_m_shows 53 = .ok (.ishr, 1) := by decide +kernel
theorem d_m_shows_54 : decode c_m_shows 54 = .ok (.iconst 1, 1) := by decide +kernel
theorem d_m_shows_55 : decode c_m_shows 55 = .ok (.iand, 1) := by decide +kernel
theorem d_m_shows_56 : decode c_m_shows 56 = .ok (.iconst 1, 1) := by decide +kernel
theorem d_m_shows_57 : decode c_m_shows 57 = .ok (.if_icmp .ne 5, 3) := by decide +kernel
theorem d_m_shows_60 : decode c_m_shows 60 = .ok (.iconst 0, 1) := by decide +kernel
theorem d_m_shows_61 : decode c_m_shows 61 = .ok (.ireturn, 1) := by decide +kernel
theorem d_m_shows_62 : decode c_m_shows 62 = .ok (.iload 5, 2) := by decide +kernel
theorem d_m_shows_64 : decode c_m_shows 64 = .ok (.istore 4, 2) := by decide +kernel
theorem d_m_shows_66 : decode c_m_shows 66 = .ok (.iload 5, 2) := by decide +kernel
theorem d_m_shows_68 : decode c_m_shows 68 = .ok (.iconst (-1), 1) := by decide +kernel
theorem d_m_shows_69 : decode c_m_shows 69 = .ok (.if_icmp .ne 7, 3) := by decide +kernel
theorem d_m_shows_72 : decode c_m_shows 72 = .ok (.iconst (-1), 1) := by decide +kernel
theorem d_m_shows_73 : decode c_m_shows 73 = .ok (.goto 10, 3) := by decide +kernel
theorem d_m_shows_76 : decode c_m_shows 76 = .ok (.aload_n 0, 1) := by decide +kernel
theorem d_m_shows_77 : decode c_m_shows 77 = .ok (.getfield 16, 3) := by decide +kernel
theorem d_m_shows_80 : decode c_m_shows 80 = .ok (.iload 5, 2) := by decide +kernel
theorem d_m_shows_82 : decode c_m_shows 82 = .ok (.iaload, 1) := by decide +kernel
theorem d_m_shows_83 : decode c_m_shows 83 = .ok (.istore 5, 2) := by decide +kernel
theorem d_m_shows_85 : decode c_m_shows 85 = .ok (.goto (-79), 3) := by decide +kernel
theorem d_m_shows_88 : decode c_m_shows 88 = .ok (.iconst 0, 1) := by decide +kernel
theorem d_m_shows_89 : decode c_m_shows 89 = .ok (.ireturn, 1) := by decide +kernel
theorem d_m_remove_0 : decode c_m_remove 0 = .ok (.aload_n 0, 1) := by decide +kernel
theorem d_m_remove_1 : decode c_m_remove 1 = .ok (.iload_n 1, 1) := by decide +kernel
theorem d_m_remove_2 : decode c_m_remove 2 = .ok (.invokevirtual 101, 3) := by decide +kernel
theorem d_m_remove_5 : decode c_m_remove 5 = .ok (.ifCond .eq 16, 3) := by decide +kernel
theorem d_m_remove_8 : decode c_m_remove 8 = .ok (.iload_n 2, 1) := by decide +kernel
theorem d_m_remove_9 : decode c_m_remove 9 = .ok (.bipush 32, 2) := by decide +kernel
theorem d_m_remove_11 : decode c_m_remove 11 = .ok (.invokestatic 90, 3) := by decide +kernel
theorem d_m_remove_14 : decode c_m_remove 14 = .ok (.ifCond .eq 7, 3) := by decide +kernel
theorem d_m_remove_17 : decode c_m_remove 17 = .ok (.iconst 1, 1) := by decide +kernel
theorem d_m_remove_18 : decode c_m_remove 18 = .ok (.goto 4, 3) := by decide +kernel
theorem d_m_remove_21 : decode c_m_remove 21 = .ok (.iconst 0, 1) := by decide +kernel
theorem d_m_remove_22 : decode c_m_remove 22 = .ok (.istore_n 3, 1) := by decide +kernel
theorem d_m_remove_23 : decode c_m_remove 23 = .ok (.aload_n 0, 1) := by decide +kernel
theorem d_m_remove_24 : decode c_m_remove 24 = .ok (.iload_n 3, 1) := by decide +kernel
theorem d_m_remove_25 : decode c_m_remove 25 = .ok (.ifCond .ne 7, 3) := by decide +kernel
theorem d_m_remove_28 : decode c_m_remove 28 = .ok (.iconst 1, 1) := by decide +kernel
theorem d_m_remove_29 : decode c_m_remove 29 = .ok (.goto 26, 3) := by decide +kernel
theorem d_m_remove_32 : decode c_m_remove 32 = .ok (.aload_n 0, 1) := by decide +kernel
theorem d_m_remove_33 : decode c_m_remove 33 = .ok (.getfield 19, 3) := by decide +kernel
theorem d_m_remove_36 : decode c_m_remove 36 = .ok (.iload_n 1, 1) := by decide +kernel
theorem d_m_remove_37 : decode c_m_remove 37 = .ok (.baload, 1) := by decide +kernel
theorem d_m_remove_38 : decode c_m_remove 38 = .ok (.ifCond .ne 12, 3) := by decide +kernel
theorem d_m_remove_41 : decode c_m_remove 41 = .ok (.aload_n 0, 1) := by decide +kernel
theorem d_m_remove_42 : decode c_m_remove 42 = .ok (.iload_n 1, 1) := by decide +kernel
theorem d_m_remove_43 : decode c_m_remove 43 = .ok (.iload_n 2, 1) := by decide +kernel
theorem d_m_remove_44 : decode c_m_remove 44 = .ok (.invokevirtual 119, 3) := by decide +kernel
theorem d_m_remove_47 : decode c_m_remove 47 = .ok (.ifCond .ne 7, 3) := by decide +kernel
theorem d_m_remove_50 : decode c_m_remove 50 = .ok (.iconst 2, 1) := by decide +kernel
theorem d_m_remove_51 : decode c_m_remove 51 = .ok (.goto 4, 3) := by decide +kernel
theorem d_m_remove_54 : decode c_m_remove 54 = .ok (.iconst 0, 1) := by decide +kernel
theorem d_m_remove_55 : decode c_m_remove 55 = .ok (.invokevirtual 109, 3) := by decide +kernel
theorem d_m_remove_58 : decode c_m_remove 58 = .ok (.ifCond .ne 5, 3) := by decide +kernel
theorem d_m_remove_61 : decode c_m_remove 61 = .ok (.iconst 0, 1) := by decide +kernel
theorem d_m_remove_62 : decode c_m_remove 62 = .ok (.ireturn, 1) := by decide +kernel
theorem d_m_remove_63 : decode c_m_remove 63 = .ok (.aload_n 0, 1) := by decide +kernel
theorem d_m_remove_64 : decode c_m_remove 64 = .ok (.iload_n 1, 1) := by decide +kernel
theorem d_m_remove_65 : decode c_m_remove 65 = .ok (.iload_n 2, 1) := by decide +kernel
theorem d_m_remove_66 : decode c_m_remove 66 = .ok (.invokevirtual 119, 3) := by decide +kernel
theorem d_m_remove_69 : decode c_m_remove 69 = .ok (.istore 4, 2) := by decide +kernel
theorem d_m_remove_71 : decode c_m_remove 71 = .ok (.aload_n 0, 1) := by decide +kernel
theorem d_m_remove_72 : decode c_m_remove 72 = .ok (.getfield 7, 3) := by decide +kernel
theorem d_m_remove_75 : decode c_m_remove 75 = .ok (.bipush 32, 2) := by decide +kernel
theorem d_m_remove_77 : decode c_m_remove 77 = .ok (.iload_n 1, 1) := by decide +kernel
theorem d_m_remove_78 : decode c_m_remove 78 = .ok (.imul, 1) := by decide +kernel
theorem d_m_remove_79 : decode c_m_remove 79 = .ok (.iload_n 2, 1) := by decide +kernel
theorem d_m_remove_80 : decode c_m_remove 80 = .ok (.iadd, 1) := by decide +kernel
theorem d_m_remove_81 : decode c_m_remove 81 = .ok (.iconst (-1), 1) := by decide +kernel
theorem d_m_remove_82 : decode c_m_remove 82 = .ok (.iastore, 1) := by decide +kernel
theorem d_m_remove_83 : decode c_m_remove 83 = .ok (.iload 4, 2) := by decide +kernel
theorem d_m_remove_85 : decode c_m_remove 85 = .ok (.ireturn, 1) := by decide +kernel
theorem d_m_clear_0 : decode c_m_clear 0 = .ok (.aload_n 0, 1) := by decide +kernel
theorem d_m_clear_1 : decode c_m_clear 1 = .ok (.iload_n 1, 1) := by decide +kernel
theorem d_m_clear_2 : decode c_m_clear 2 = .ok (.invokevirtual 101, 3) := by decide +kernel
theorem d_m_clear_5 : decode c_m_clear 5 = .ok (.ifCond .eq 16, 3) := by decide +kernel
theorem d_m_clear_8 : decode c_m_clear 8 = .ok (.iload_n 2, 1) := by decide +kernel
theorem d_m_clear_9 : decode c_m_clear 9 = .ok (.bipush 8, 2) := by decide +kernel
theorem d_m_clear_11 : decode c_m_clear 11 = .ok (.invokestatic 90, 3) := by decide +kernel
theorem d_m_clear_14 : decode c_m_clear 14 = .ok (.ifCond .eq 7, 3) := by decide +kernel
theorem d_m_clear_17 : decode c_m_clear 17 = .ok (.iconst 1, 1) := by decide +kernel
theorem d_m_clear_18 : decode c_m_clear 18 = .ok (.goto 4, 3) := by decide +kernel
theorem d_m_clear_21 : decode c_m_clear 21 = .ok (.iconst 0, 1) := by decide +kernel
theorem d_m_clear_22 : decode c_m_clear 22 = .ok (.istore_n 3, 1) := by decide +kernel
theorem d_m_clear_23 : decode c_m_clear 23 = .ok (.aload_n 0, 1) := by decide +kernel
theorem d_m_clear_24 : decode c_m_clear 24 = .ok (.iload_n 3, 1) := by decide +kernel
theorem d_m_clear_25 : decode c_m_clear 25 = .ok (.ifCond .ne 7, 3) := by decide +kernel
theorem d_m_clear_28 : decode c_m_clear 28 = .ok (.iconst 1, 1) := by decide +kernel
theorem d_m_clear_29 : decode c_m_clear 29 = .ok (.goto 17, 3) := by decide +kernel
theorem d_m_clear_32 : decode c_m_clear 32 = .ok (.aload_n 0, 1) := by decide +kernel
theorem d_m_clear_33 : decode c_m_clear 33 = .ok (.getfield 19, 3) := by decide +kernel
theorem d_m_clear_36 : decode c_m_clear 36 = .ok (.iload_n 1, 1) := by decide +kernel
theorem d_m_clear_37 : decode c_m_clear 37 = .ok (.baload, 1) := by decide +kernel
theorem d_m_clear_38 : decode c_m_clear 38 = .ok (.ifCond .eq 7, 3) := by decide +kernel
theorem d_m_clear_41 : decode c_m_clear 41 = .ok (.iconst 2, 1) := by decide +kernel
theorem d_m_clear_42 : decode c_m_clear 42 = .ok (.goto 4, 3) := by decide +kernel
theorem d_m_clear_45 : decode c_m_clear 45 = .ok (.iconst 0, 1) := by decide +kernel
theorem d_m_clear_46 : decode c_m_clear 46 = .ok (.invokevirtual 109, 3) := by decide +kernel
theorem d_m_clear_49 : decode c_m_clear 49 = .ok (.ifCond .ne 5, 3) := by decide +kernel
theorem d_m_clear_52 : decode c_m_clear 52 = .ok (.iconst 0, 1) := by decide +kernel
theorem d_m_clear_53 : decode c_m_clear 53 = .ok (.ireturn, 1) := by decide +kernel
theorem d_m_clear_54 : decode c_m_clear 54 = .ok (.iconst 0, 1) := by decide +kernel
theorem d_m_clear_55 : decode c_m_clear 55 = .ok (.istore 4, 2) := by decide +kernel
theorem d_m_clear_57 : decode c_m_clear 57 = .ok (.iconst 4, 1) := by decide +kernel
theorem d_m_clear_58 : decode c_m_clear 58 = .ok (.iload_n 2, 1) := by decide +kernel
theorem d_m_clear_59 : decode c_m_clear 59 = .ok (.imul, 1) := by decide +kernel
theorem d_m_clear_60 : decode c_m_clear 60 = .ok (.istore 5, 2) := by decide +kernel
theorem d_m_clear_62 : decode c_m_clear 62 = .ok (.iload 5, 2) := by decide +kernel
theorem d_m_clear_64 : decode c_m_clear 64 = .ok (.iconst 4, 1) := by decide +kernel
theorem d_m_clear_65 : decode c_m_clear 65 = .ok (.iload_n 2, 1) := by decide +kernel
theorem d_m_clear_66 : decode c_m_clear 66 = .ok (.imul, 1) := by decide +kernel
theorem d_m_clear_67 : decode c_m_clear 67 = .ok (.iconst 4, 1) := by decide +kernel
theorem d_m_clear_68 : decode c_m_clear 68 = .ok (.iadd, 1) := by decide +kernel
theorem d_m_clear_69 : decode c_m_clear 69 = .ok (.if_icmp .ge 29, 3) := by decide +kernel
theorem d_m_clear_72 : decode c_m_clear 72 = .ok (.iload 4, 2) := by decide +kernel
theorem d_m_clear_74 : decode c_m_clear 74 = .ok (.aload_n 0, 1) := by decide +kernel
theorem d_m_clear_75 : decode c_m_clear 75 = .ok (.iload_n 1, 1) := by decide +kernel
theorem d_m_clear_76 : decode c_m_clear 76 = .ok (.iload 5, 2) := by decide +kernel
theorem d_m_clear_78 : decode c_m_clear 78 = .ok (.invokevirtual 119, 3) := by decide +kernel
theorem d_m_clear_81 : decode c_m_clear 81 = .ok (.ifCond .le 7, 3) := by decide +kernel
theorem d_m_clear_84 : decode c_m_clear 84 = .ok (.iconst 1, 1) := by decide +kernel
theorem d_m_clear_85 : decode c_m_clear 85 = .ok (.goto 4, 3) := by decide +kernel
theorem d_m_clear_88 : decode c_m_clear 88 = .ok (.iconst 0, 1) := by decide +kernel
theorem d_m_clear_89 : decode c_m_clear 89 = .ok (.iadd, 1) := by decide +kernel
theorem d_m_clear_90 : decode c_m_clear 90 = .ok (.istore 4, 2) := by decide +kernel
theorem d_m_clear_92 : decode c_m_clear 92 = .ok (.iinc 5 1, 3) := by decide +kernel
theorem d_m_clear_95 : decode c_m_clear 95 = .ok (.goto (-33), 3) := by decide +kernel
theorem d_m_clear_98 : decode c_m_clear 98 = .ok (.iconst 4, 1) := by decide +kernel
theorem d_m_clear_99 : decode c_m_clear 99 = .ok (.iload_n 2, 1) := by decide +kernel
theorem d_m_clear_100 : decode c_m_clear 100 = .ok (.imul, 1) := by decide +kernel
theorem d_m_clear_101 : decode c_m_clear 101 = .ok (.istore 5, 2) := by decide +kernel
theorem d_m_clear_103 : decode c_m_clear 103 = .ok (.iload 5, 2) := by decide +kernel
theorem d_m_clear_105 : decode c_m_clear 105 = .ok (.iconst 4, 1) := by decide +kernel
theorem d_m_clear_106 : decode c_m_clear 106 = .ok (.iload_n 2, 1) := by decide +kernel
theorem d_m_clear_107 : decode c_m_clear 107 = .ok (.imul, 1) := by decide +kernel
theorem d_m_clear_108 : decode c_m_clear 108 = .ok (.iconst 4, 1) := by decide +kernel
theorem d_m_clear_109 : decode c_m_clear 109 = .ok (.iadd, 1) := by decide +kernel
theorem d_m_clear_110 : decode c_m_clear 110 = .ok (.if_icmp .ge 22, 3) := by decide +kernel
theorem d_m_clear_113 : decode c_m_clear 113 = .ok (.aload_n 0, 1) := by decide +kernel
theorem d_m_clear_114 : decode c_m_clear 114 = .ok (.getfield 7, 3) := by decide +kernel
theorem d_m_clear_117 : decode c_m_clear 117 = .ok (.bipush 32, 2) := by decide +kernel
theorem d_m_clear_119 : decode c_m_clear 119 = .ok (.iload_n 1, 1) := by decide +kernel
theorem d_m_clear_120 : decode c_m_clear 120 = .ok (.imul, 1) := by decide +kernel
theorem d_m_clear_121 : decode c_m_clear 121 = .ok (.iload 5, 2) := by decide +kernel
theorem d_m_clear_123 : decode c_m_clear 123 = .ok (.iadd, 1) := by decide +kernel
theorem d_m_clear_124 : decode c_m_clear 124 = .ok (.iconst 0, 1) := by decide +kernel
theorem d_m_clear_125 : decode c_m_clear 125 = .ok (.iastore, 1) := by decide +kernel
theorem d_m_clear_126 : decode c_m_clear 126 = .ok (.iinc 5 1, 3) := by decide +kernel
theorem d_m_clear_129 : decode c_m_clear 129 = .ok (.goto (-26), 3) := by decide +kernel
theorem d_m_clear_132 : decode c_m_clear 132 = .ok (.aload_n 0, 1) := by decide +kernel
theorem d_m_clear_133 : decode c_m_clear 133 = .ok (.getfield 13, 3) := by decide +kernel
theorem d_m_clear_136 : decode c_m_clear 136 = .ok (.iload_n 1, 1) := by decide +kernel
theorem d_m_clear_137 : decode c_m_clear 137 = .ok (.dup2, 1) := by decide +kernel
theorem d_m_clear_138 : decode c_m_clear 138 = .ok (.iaload, 1) := by decide +kernel
theorem d_m_clear_139 : decode c_m_clear 139 = .ok (.iconst 1, 1) := by decide +kernel
theorem d_m_clear_140 : decode c_m_clear 140 = .ok (.iload_n 2, 1) := by decide +kernel
theorem d_m_clear_141 : decode c_m_clear 141 = .ok (.ishl, 1) := by decide +kernel
theorem d_m_clear_142 : decode c_m_clear 142 = .ok (.ior, 1) := by decide +kernel
theorem d_m_clear_143 : decode c_m_clear 143 = .ok (.iastore, 1) := by decide +kernel
theorem d_m_clear_144 : decode c_m_clear 144 = .ok (.iload 4, 2) := by decide +kernel
theorem d_m_clear_146 : decode c_m_clear 146 = .ok (.ireturn, 1) := by decide +kernel
theorem d_m_seal_0 : decode c_m_seal 0 = .ok (.aload_n 0, 1) := by decide +kernel
theorem d_m_seal_1 : decode c_m_seal 1 = .ok (.iload_n 1, 1) := by decide +kernel
theorem d_m_seal_2 : decode c_m_seal 2 = .ok (.invokevirtual 101, 3) := by decide +kernel
theorem d_m_seal_5 : decode c_m_seal 5 = .ok (.istore_n 2, 1) := by decide +kernel
theorem d_m_seal_6 : decode c_m_seal 6 = .ok (.aload_n 0, 1) := by decide +kernel
theorem d_m_seal_7 : decode c_m_seal 7 = .ok (.iload_n 2, 1) := by decide +kernel
theorem d_m_seal_8 : decode c_m_seal 8 = .ok (.ifCond .ne 7, 3) := by decide +kernel
theorem d_m_seal_11 : decode c_m_seal 11 = .ok (.iconst 1, 1) := by decide +kernel
theorem d_m_seal_12 : decode c_m_seal 12 = .ok (.goto 17, 3) := by decide +kernel
theorem d_m_seal_15 : decode c_m_seal 15 = .ok (.aload_n 0, 1) := by decide +kernel
theorem d_m_seal_16 : decode c_m_seal 16 = .ok (.getfield 19, 3) := by decide +kernel
theorem d_m_seal_19 : decode c_m_seal 19 = .ok (.iload_n 1, 1) := by decide +kernel
theorem d_m_seal_20 : decode c_m_seal 20 = .ok (.baload, 1) := by decide +kernel
theorem d_m_seal_21 : decode c_m_seal 21 = .ok (.ifCond .eq 7, 3) := by decide +kernel
theorem d_m_seal_24 : decode c_m_seal 24 = .ok (.iconst 2, 1) := by decide +kernel
theorem d_m_seal_25 : decode c_m_seal 25 = .ok (.goto 4, 3) := by decide +kernel
theorem d_m_seal_28 : decode c_m_seal 28 = .ok (.iconst 0, 1) := by decide +kernel
theorem d_m_seal_29 : decode c_m_seal 29 = .ok (.invokevirtual 109, 3) := by decide +kernel
theorem d_m_seal_32 : decode c_m_seal 32 = .ok (.ifCond .ne 5, 3) := by decide +kernel
theorem d_m_seal_35 : decode c_m_seal 35 = .ok (.iconst 0, 1) := by decide +kernel
theorem d_m_seal_36 : decode c_m_seal 36 = .ok (.ireturn, 1) := by decide +kernel
theorem d_m_seal_37 : decode c_m_seal 37 = .ok (.aload_n 0, 1) := by decide +kernel
theorem d_m_seal_38 : decode c_m_seal 38 = .ok (.getfield 19, 3) := by decide +kernel
theorem d_m_seal_41 : decode c_m_seal 41 = .ok (.iload_n 1, 1) := by decide +kernel
theorem d_m_seal_42 : decode c_m_seal 42 = .ok (.iconst 1, 1) := by decide +kernel
theorem d_m_seal_43 : decode c_m_seal 43 = .ok (.bastore, 1) := by decide +kernel
theorem d_m_seal_44 : decode c_m_seal 44 = .ok (.aload_n 0, 1) := by decide +kernel
theorem d_m_seal_45 : decode c_m_seal 45 = .ok (.iload_n 1, 1) := by decide +kernel
theorem d_m_seal_46 : decode c_m_seal 46 = .ok (.invokevirtual 105, 3) := by decide +kernel
theorem d_m_seal_49 : decode c_m_seal 49 = .ok (.ireturn, 1) := by decide +kernel
theorem d_m_shown_0 : decode c_m_shown 0 = .ok (.aload_n 0, 1) := by decide +kernel
theorem d_m_shown_1 : decode c_m_shown 1 = .ok (.aload_n 0, 1) := by decide +kernel
theorem d_m_shown_2 : decode c_m_shown 2 = .ok (.iload_n 1, 1) := by decide +kernel
theorem d_m_shown_3 : decode c_m_shown 3 = .ok (.invokevirtual 101, 3) := by decide +kernel
theorem d_m_shown_6 : decode c_m_shown 6 = .ok (.ifCond .eq 16, 3) := by decide +kernel
theorem d_m_shown_9 : decode c_m_shown 9 = .ok (.iload_n 2, 1) := by decide +kernel
theorem d_m_shown_10 : decode c_m_shown 10 = .ok (.bipush 32, 2) := by decide +kernel
theorem d_m_shown_12 : decode c_m_shown 12 = .ok (.invokestatic 90, 3) := by decide +kernel
theorem d_m_shown_15 : decode c_m_shown 15 = .ok (.ifCond .eq 7, 3) := by decide +kernel
theorem d_m_shown_18 : decode c_m_shown 18 = .ok (.iconst 0, 1) := by decide +kernel
theorem d_m_shown_19 : decode c_m_shown 19 = .ok (.goto 4, 3) := by decide +kernel
theorem d_m_shown_22 : decode c_m_shown 22 = .ok (.iconst 1, 1) := by decide +kernel
theorem d_m_shown_23 : decode c_m_shown 23 = .ok (.invokevirtual 109, 3) := by decide +kernel
theorem d_m_shown_26 : decode c_m_shown 26 = .ok (.ifCond .eq 12, 3) := by decide +kernel
theorem d_m_shown_29 : decode c_m_shown 29 = .ok (.aload_n 0, 1) := by decide +kernel
theorem d_m_shown_30 : decode c_m_shown 30 = .ok (.iload_n 1, 1) := by decide +kernel
theorem d_m_shown_31 : decode c_m_shown 31 = .ok (.iload_n 2, 1) := by decide +kernel
theorem d_m_shown_32 : decode c_m_shown 32 = .ok (.invokevirtual 119, 3) := by decide +kernel
theorem d_m_shown_35 : decode c_m_shown 35 = .ok (.goto 4, 3) := by decide +kernel
theorem d_m_shown_38 : decode c_m_shown 38 = .ok (.iconst 0, 1) := by decide +kernel
theorem d_m_shown_39 : decode c_m_shown 39 = .ok (.ireturn, 1) := by decide +kernel
theorem d_m_entries_0 : decode c_m_entries 0 = .ok (.aload_n 0, 1) := by decide +kernel
theorem d_m_entries_1 : decode c_m_entries 1 = .ok (.iload_n 1, 1) := by decide +kernel
theorem d_m_entries_2 : decode c_m_entries 2 = .ok (.invokevirtual 101, 3) := by decide +kernel
theorem d_m_entries_5 : decode c_m_entries 5 = .ok (.istore_n 3, 1) := by decide +kernel
theorem d_m_entries_6 : decode c_m_entries 6 = .ok (.aload_n 0, 1) := by decide +kernel
theorem d_m_entries_7 : decode c_m_entries 7 = .ok (.iload_n 3, 1) := by decide +kernel
theorem d_m_entries_8 : decode c_m_entries 8 = .ok (.ifCond .eq 19, 3) := by decide +kernel
theorem d_m_entries_11 : decode c_m_entries 11 = .ok (.iload_n 2, 1) := by decide +kernel
theorem d_m_entries_12 : decode c_m_entries 12 = .ok (.aload_n 0, 1) := by decide +kernel
theorem d_m_entries_13 : decode c_m_entries 13 = .ok (.iload_n 1, 1) := by decide +kernel
theorem d_m_entries_14 : decode c_m_entries 14 = .ok (.invokevirtual 105, 3) := by decide +kernel
theorem d_m_entries_17 : decode c_m_entries 17 = .ok (.invokestatic 90, 3) := by decide +kernel
theorem d_m_entries_20 : decode c_m_entries 20 = .ok (.ifCond .eq 7, 3) := by decide +kernel
theorem d_m_entries_23 : decode c_m_entries 23 = .ok (.iconst 0, 1) := by decide +kernel
theorem d_m_entries_24 : decode c_m_entries 24 = .ok (.goto 4, 3) := by decide +kernel
theorem d_m_entries_27 : decode c_m_entries 27 = .ok (.iconst 1, 1) := by decide +kernel
theorem d_m_entries_28 : decode c_m_entries 28 = .ok (.invokevirtual 109, 3) := by decide +kernel
theorem d_m_entries_31 : decode c_m_entries 31 = .ok (.ifCond .ne 5, 3) := by decide +kernel
theorem d_m_entries_34 : decode c_m_entries 34 = .ok (.iconst 0, 1) := by decide +kernel
theorem d_m_entries_35 : decode c_m_entries 35 = .ok (.ireturn, 1) := by decide +kernel
theorem d_m_entries_36 : decode c_m_entries 36 = .ok (.iload_n 1, 1) := by decide +kernel
theorem d_m_entries_37 : decode c_m_entries 37 = .ok (.istore 4, 2) := by decide +kernel
theorem d_m_entries_39 : decode c_m_entries 39 = .ok (.aload_n 0, 1) := by decide +kernel
theorem d_m_entries_40 : decode c_m_entries 40 = .ok (.iload_n 1, 1) := by decide +kernel
theorem d_m_entries_41 : decode c_m_entries 41 = .ok (.invokevirtual 105, 3) := by decide +kernel
theorem d_m_entries_44 : decode c_m_entries 44 = .ok (.iconst 1, 1) := by decide +kernel
theorem d_m_entries_45 : decode c_m_entries 45 = .ok (.isub, 1) := by decide +kernel
theorem d_m_entries_46 : decode c_m_entries 46 = .ok (.istore 5, 2) := by decide +kernel
theorem d_m_entries_48 : decode c_m_entries 48 = .ok (.iload 5, 2) := by decide +kernel
theorem d_m_entries_50 : decode c_m_entries 50 = .ok (.iload_n 2, 1) := by decide +kernel
theorem d_m_entries_51 : decode c_m_entries 51 = .ok (.if_icmp .le 18, 3) := by decide +kernel
theorem d_m_entries_54 : decode c_m_entries 54 = .ok (.aload_n 0, 1) := by decide +kernel
theorem d_m_entries_55 : decode c_m_entries 55 = .ok (.getfield 16, 3) := by decide +kernel
theorem d_m_entries_58 : decode c_m_entries 58 = .ok (.iload 4, 2) := by decide +kernel
theorem d_m_entries_60 : decode c_m_entries 60 = .ok (.iaload, 1) := by decide +kernel
theorem d_m_entries_61 : decode c_m_entries 61 = .ok (.istore 4, 2) := by decide +kernel
theorem d_m_entries_63 : decode c_m_entries 63 = .ok (.iinc 5 (-1), 3) := by decide +kernel
theorem d_m_entries_66 : decode c_m_entries 66 = .ok (.goto (-18), 3) := by decide +kernel
theorem d_m_entries_69 : decode c_m_entries 69 = .ok (.iconst 0, 1) := by decide +kernel
theorem d_m_entries_70 : decode c_m_entries 70 = .ok (.istore 5, 2) := by decide +kernel
theorem d_m_entries_72 : decode c_m_entries 72 = .ok (.iconst 0, 1) := by decide +kernel
theorem d_m_entries_73 : decode c_m_entries 73 = .ok (.istore 6, 2) := by decide +kernel
theorem d_m_entries_75 : decode c_m_entries 75 = .ok (.iload 6, 2) := by decide +kernel
theorem d_m_entries_77 : decode c_m_entries 77 = .ok (.bipush 32, 2) := by decide +kernel
theorem d_m_entries_79 : decode c_m_entries 79 = .ok (.if_icmp .ge 35, 3) := by decide +kernel
theorem d_m_entries_82 : decode c_m_entries 82 = .ok (.iload 5, 2) := by decide +kernel
theorem d_m_entries_84 : decode c_m_entries 84 = .ok (.aload_n 0, 1) := by decide +kernel
theorem d_m_entries_85 : decode c_m_entries 85 = .ok (.getfield 7, 3) := by decide +kernel
theorem d_m_entries_88 : decode c_m_entries 88 = .ok (.bipush 32, 2) := by decide +kernel
theorem d_m_entries_90 : decode c_m_entries 90 = .ok (.iload 4, 2) := by decide +kernel
theorem d_m_entries_92 : decode c_m_entries 92 = .ok (.imul, 1) := by decide +kernel
theorem d_m_entries_93 : decode c_m_entries 93 = .ok (.iload 6, 2) := by decide +kernel
theorem d_m_entries_95 : decode c_m_entries 95 = .ok (.iadd, 1) := by decide +kernel
theorem d_m_entries_96 : decode c_m_entries 96 = .ok (.iaload, 1) := by decide +kernel
theorem d_m_entries_97 : decode c_m_entries 97 = .ok (.ifCond .eq 7, 3) := by decide +kernel
theorem d_m_entries_100 : decode c_m_entries 100 = .ok (.iconst 1, 1) := by decide +kernel
theorem d_m_entries_101 : decode c_m_entries 101 = .ok (.goto 4, 3) := by decide +kernel
theorem d_m_entries_104 : decode c_m_entries 104 = .ok (.iconst 0, 1) := by decide +kernel
theorem d_m_entries_105 : decode c_m_entries 105 = .ok (.iadd, 1) := by decide +kernel
theorem d_m_entries_106 : decode c_m_entries 106 = .ok (.istore 5, 2) := by decide +kernel
theorem d_m_entries_108 : decode c_m_entries 108 = .ok (.iinc 6 1, 3) := by decide +kernel
theorem d_m_entries_111 : decode c_m_entries 111 = .ok (.goto (-36), 3) := by decide +kernel
theorem d_m_entries_114 : decode c_m_entries 114 = .ok (.iconst 0, 1) := by decide +kernel
theorem d_m_entries_115 : decode c_m_entries 115 = .ok (.istore 6, 2) := by decide +kernel
theorem d_m_entries_117 : decode c_m_entries 117 = .ok (.iload 6, 2) := by decide +kernel
theorem d_m_entries_119 : decode c_m_entries 119 = .ok (.bipush 8, 2) := by decide +kernel
theorem d_m_entries_121 : decode c_m_entries 121 = .ok (.if_icmp .ge 26, 3) := by decide +kernel
theorem d_m_entries_124 : decode c_m_entries 124 = .ok (.iload 5, 2) := by decide +kernel
theorem d_m_entries_126 : decode c_m_entries 126 = .ok (.aload_n 0, 1) := by decide +kernel
theorem d_m_entries_127 : decode c_m_entries 127 = .ok (.getfield 13, 3) := by decide +kernel
theorem d_m_entries_130 : decode c_m_entries 130 = .ok (.iload 4, 2) := by decide +kernel
theorem d_m_entries_132 : decode c_m_entries 132 = .ok (.iaload, 1) := by decide +kernel
theorem d_m_entries_133 : decode c_m_entries 133 = .ok (.iload 6, 2) := by decide +kernel
theorem d_m_entries_135 : decode c_m_entries 135 = .ok (.ishr, 1) := by decide +kernel
theorem d_m_entries_136 : decode c_m_entries 136 = .ok (.iconst 1, 1) := by decide +kernel
theorem d_m_entries_137 : decode c_m_entries 137 = .ok (.iand, 1) := by decide +kernel
theorem d_m_entries_138 : decode c_m_entries 138 = .ok (.iadd, 1) := by decide +kernel
theorem d_m_entries_139 : decode c_m_entries 139 = .ok (.istore 5, 2) := by decide +kernel
theorem d_m_entries_141 : decode c_m_entries 141 = .ok (.iinc 6 1, 3) := by decide +kernel
theorem d_m_entries_144 : decode c_m_entries 144 = .ok (.goto (-27), 3) := by decide +kernel
theorem d_m_entries_147 : decode c_m_entries 147 = .ok (.iload 5, 2) := by decide +kernel
theorem d_m_entries_149 : decode c_m_entries 149 = .ok (.ireturn, 1) := by decide +kernel
theorem d_m_commit_0 : decode c_m_commit 0 = .ok (.aload_n 0, 1) := by decide +kernel
theorem d_m_commit_1 : decode c_m_commit 1 = .ok (.iload_n 1, 1) := by decide +kernel
theorem d_m_commit_2 : decode c_m_commit 2 = .ok (.invokevirtual 123, 3) := by decide +kernel
theorem d_m_commit_5 : decode c_m_commit 5 = .ok (.istore_n 2, 1) := by decide +kernel
theorem d_m_commit_6 : decode c_m_commit 6 = .ok (.aload_n 0, 1) := by decide +kernel
theorem d_m_commit_7 : decode c_m_commit 7 = .ok (.iload_n 2, 1) := by decide +kernel
theorem d_m_commit_8 : decode c_m_commit 8 = .ok (.ifCond .ne 7, 3) := by decide +kernel
theorem d_m_commit_11 : decode c_m_commit 11 = .ok (.iconst 1, 1) := by decide +kernel
theorem d_m_commit_12 : decode c_m_commit 12 = .ok (.goto 32, 3) := by decide +kernel
theorem d_m_commit_15 : decode c_m_commit 15 = .ok (.aload_n 0, 1) := by decide +kernel
theorem d_m_commit_16 : decode c_m_commit 16 = .ok (.aload_n 0, 1) := by decide +kernel
theorem d_m_commit_17 : decode c_m_commit 17 = .ok (.getfield 39, 3) := by decide +kernel
theorem d_m_commit_20 : decode c_m_commit 20 = .ok (.iload_n 1, 1) := by decide +kernel
theorem d_m_commit_21 : decode c_m_commit 21 = .ok (.iaload, 1) := by decide +kernel
theorem d_m_commit_22 : decode c_m_commit 22 = .ok (.invokevirtual 105, 3) := by decide +kernel
theorem d_m_commit_25 : decode c_m_commit 25 = .ok (.bipush 8, 2) := by decide +kernel
theorem d_m_commit_27 : decode c_m_commit 27 = .ok (.if_icmp .eq 12, 3) := by decide +kernel
theorem d_m_commit_30 : decode c_m_commit 30 = .ok (.aload_n 0, 1) := by decide +kernel
theorem d_m_commit_31 : decode c_m_commit 31 = .ok (.getfield 87, 3) := by decide +kernel
theorem d_m_commit_34 : decode c_m_commit 34 = .ok (.bipush 10, 2) := by decide +kernel
theorem d_m_commit_36 : decode c_m_commit 36 = .ok (.if_icmp .ne 7, 3) := by decide +kernel
theorem d_m_commit_39 : decode c_m_commit 39 = .ok (.iconst 2, 1) := by decide +kernel
theorem d_m_commit_40 : decode c_m_commit 40 = .ok (.goto 4, 3) := by decide +kernel
theorem d_m_commit_43 : decode c_m_commit 43 = .ok (.iconst 0, 1) := by decide +kernel
theorem d_m_commit_44 : decode c_m_commit 44 = .ok (.invokevirtual 109, 3) := by decide +kernel
theorem d_m_commit_47 : decode c_m_commit 47 = .ok (.ifCond .ne 5, 3) := by decide +kernel
theorem d_m_commit_50 : decode c_m_commit 50 = .ok (.iconst 0, 1) := by decide +kernel
theorem d_m_commit_51 : decode c_m_commit 51 = .ok (.ireturn, 1) := by decide +kernel
theorem d_m_commit_52 : decode c_m_commit 52 = .ok (.aload_n 0, 1) := by decide +kernel
theorem d_m_commit_53 : decode c_m_commit 53 = .ok (.getfield 16, 3) := by decide +kernel
theorem d_m_commit_56 : decode c_m_commit 56 = .ok (.aload_n 0, 1) := by decide +kernel
theorem d_m_commit_57 : decode c_m_commit 57 = .ok (.getfield 87, 3) := by decide +kernel
theorem d_m_commit_60 : decode c_m_commit 60 = .ok (.aload_n 0, 1) := by decide +kernel
theorem d_m_commit_61 : decode c_m_commit 61 = .ok (.getfield 39, 3) := by decide +kernel
theorem d_m_commit_64 : decode c_m_commit 64 = .ok (.iload_n 1, 1) := by decide +kernel
theorem d_m_commit_65 : decode c_m_commit 65 = .ok (.iaload, 1) := by decide +kernel
theorem d_m_commit_66 : decode c_m_commit 66 = .ok (.iastore, 1) := by decide +kernel
theorem d_m_commit_67 : decode c_m_commit 67 = .ok (.aload_n 0, 1) := by decide +kernel
theorem d_m_commit_68 : decode c_m_commit 68 = .ok (.getfield 19, 3) := by decide +kernel
theorem d_m_commit_71 : decode c_m_commit 71 = .ok (.aload_n 0, 1) := by decide +kernel
theorem d_m_commit_72 : decode c_m_commit 72 = .ok (.getfield 87, 3) := by decide +kernel
theorem d_m_commit_75 : decode c_m_commit 75 = .ok (.iconst 1, 1) := by decide +kernel
theorem d_m_commit_76 : decode c_m_commit 76 = .ok (.bastore, 1) := by decide +kernel
theorem d_m_commit_77 : decode c_m_commit 77 = .ok (.aload_n 0, 1) := by decide +kernel
theorem d_m_commit_78 : decode c_m_commit 78 = .ok (.aload_n 0, 1) := by decide +kernel
theorem d_m_commit_79 : decode c_m_commit 79 = .ok (.getfield 87, 3) := by decide +kernel
theorem d_m_commit_82 : decode c_m_commit 82 = .ok (.bipush 10, 2) := by decide +kernel
theorem d_m_commit_84 : decode c_m_commit 84 = .ok (.iload_n 1, 1) := by decide +kernel
theorem d_m_commit_85 : decode c_m_commit 85 = .ok (.iadd, 1) := by decide +kernel
theorem d_m_commit_86 : decode c_m_commit 86 = .ok (.invokevirtual 126, 3) := by decide +kernel
theorem d_m_commit_89 : decode c_m_commit 89 = .ok (.aload_n 0, 1) := by decide +kernel
theorem d_m_commit_90 : decode c_m_commit 90 = .ok (.dup, 1) := by decide +kernel
theorem d_m_commit_91 : decode c_m_commit 91 = .ok (.getfield 87, 3) := by decide +kernel
theorem d_m_commit_94 : decode c_m_commit 94 = .ok (.iconst 1, 1) := by decide +kernel
theorem d_m_commit_95 : decode c_m_commit 95 = .ok (.iadd, 1) := by decide +kernel
theorem d_m_commit_96 : decode c_m_commit 96 = .ok (.putfield 87, 3) := by decide +kernel
theorem d_m_commit_99 : decode c_m_commit 99 = .ok (.aload_n 0, 1) := by decide +kernel
theorem d_m_commit_100 : decode c_m_commit 100 = .ok (.getfield 87, 3) := by decide +kernel
theorem d_m_commit_103 : decode c_m_commit 103 = .ok (.iconst 1, 1) := by decide +kernel
theorem d_m_commit_104 : decode c_m_commit 104 = .ok (.isub, 1) := by decide +kernel
theorem d_m_commit_105 : decode c_m_commit 105 = .ok (.ireturn, 1) := by decide +kernel
theorem d_m_isContainer_0 : decode c_m_isContainer 0 = .ok (.iload_n 1, 1) := by decide +kernel
theorem d_m_isContainer_1 : decode c_m_isContainer 1 = .ok (.aload_n 0, 1) := by decide +kernel
theorem d_m_isContainer_2 : decode c_m_isContainer 2 = .ok (.getfield 94, 3) := by decide +kernel
theorem d_m_isContainer_5 : decode c_m_isContainer 5 = .ok (.invokestatic 90, 3) := by decide +kernel
theorem d_m_isContainer_8 : decode c_m_isContainer 8 = .ok (.ireturn, 1) := by decide +kernel
theorem d_m_copies_0 : decode c_m_copies 0 = .ok (.aload_n 0, 1) := by decide +kernel
theorem d_m_copies_1 : decode c_m_copies 1 = .ok (.getfield 13, 3) := by decide +kernel
theorem d_m_copies_4 : decode c_m_copies 4 = .ok (.iload_n 1, 1) := by decide +kernel
theorem d_m_copies_5 : decode c_m_copies 5 = .ok (.aload_n 0, 1) := by decide +kernel
theorem d_m_copies_6 : decode c_m_copies 6 = .ok (.getfield 13, 3) := by decide +kernel
theorem d_m_copies_9 : decode c_m_copies 9 = .ok (.iload_n 2, 1) := by decide +kernel
theorem d_m_copies_10 : decode c_m_copies 10 = .ok (.iaload, 1) := by decide +kernel
theorem d_m_copies_11 : decode c_m_copies 11 = .ok (.iastore, 1) := by decide +kernel
theorem d_m_copies_12 : decode c_m_copies 12 = .ok (.iconst 0, 1) := by decide +kernel
theorem d_m_copies_13 : decode c_m_copies 13 = .ok (.istore_n 3, 1) := by decide +kernel
theorem d_m_copies_14 : decode c_m_copies 14 = .ok (.iload_n 3, 1) := by decide +kernel
theorem d_m_copies_15 : decode c_m_copies 15 = .ok (.bipush 32, 2) := by decide +kernel
theorem d_m_copies_17 : decode c_m_copies 17 = .ok (.if_icmp .ge 31, 3) := by decide +kernel
theorem d_m_copies_20 : decode c_m_copies 20 = .ok (.aload_n 0, 1) := by decide +kernel
theorem d_m_copies_21 : decode c_m_copies 21 = .ok (.getfield 7, 3) := by decide +kernel
theorem d_m_copies_24 : decode c_m_copies 24 = .ok (.bipush 32, 2) := by decide +kernel
theorem d_m_copies_26 : decode c_m_copies 26 = .ok (.iload_n 1, 1) := by decide +kernel
theorem d_m_copies_27 : decode c_m_copies 27 = .ok (.imul, 1) := by decide +kernel
theorem d_m_copies_28 : decode c_m_copies 28 = .ok (.iload_n 3, 1) := by decide +kernel
theorem d_m_copies_29 : decode c_m_copies 29 = .ok (.iadd, 1) := by decide +kernel
theorem d_m_copies_30 : decode c_m_copies 30 = .ok (.aload_n 0, 1) := by decide +kernel
theorem d_m_copies_31 : decode c_m_copies 31 = .ok (.getfield 7, 3) := by decide +kernel
theorem d_m_copies_34 : decode c_m_copies 34 = .ok (.bipush 32, 2) := by decide +kernel
theorem d_m_copies_36 : decode c_m_copies 36 = .ok (.iload_n 2, 1) := by decide +kernel
theorem d_m_copies_37 : decode c_m_copies 37 = .ok (.imul, 1) := by decide +kernel
theorem d_m_copies_38 : decode c_m_copies 38 = .ok (.iload_n 3, 1) := by decide +kernel
theorem d_m_copies_39 : decode c_m_copies 39 = .ok (.iadd, 1) := by decide +kernel
theorem d_m_copies_40 : decode c_m_copies 40 = .ok (.iaload, 1) := by decide +kernel
theorem d_m_copies_41 : decode c_m_copies 41 = .ok (.iastore, 1) := by decide +kernel
theorem d_m_copies_42 : decode c_m_copies 42 = .ok (.iinc 3 1, 3) := by decide +kernel
theorem d_m_copies_45 : decode c_m_copies 45 = .ok (.goto (-31), 3) := by decide +kernel
theorem d_m_copies_48 : decode c_m_copies 48 = .ok (.return_, 1) := by decide +kernel
theorem d_m_newGroup_0 : decode c_m_newGroup 0 = .ok (.iload_n 2, 1) := by decide +kernel
theorem d_m_newGroup_1 : decode c_m_newGroup 1 = .ok (.iconst 1, 1) := by decide +kernel
theorem d_m_newGroup_2 : decode c_m_newGroup 2 = .ok (.if_icmp .lt 38, 3) := by decide +kernel
theorem d_m_newGroup_5 : decode c_m_newGroup 5 = .ok (.iload_n 2, 1) := by decide +kernel
theorem d_m_newGroup_6 : decode c_m_newGroup 6 = .ok (.sipush 10000, 3) := by decide +kernel
theorem d_m_newGroup_9 : decode c_m_newGroup 9 = .ok (.if_icmp .gt 31, 3) := by decide +kernel
theorem d_m_newGroup_12 : decode c_m_newGroup 12 = .ok (.iload_n 3, 1) := by decide +kernel
theorem d_m_newGroup_13 : decode c_m_newGroup 13 = .ok (.iconst 1, 1) := by decide +kernel
theorem d_m_newGroup_14 : decode c_m_newGroup 14 = .ok (.if_icmp .lt 26, 3) := by decide +kernel
theorem d_m_newGroup_17 : decode c_m_newGroup 17 = .ok (.iload_n 3, 1) := by decide +kernel
theorem d_m_newGroup_18 : decode c_m_newGroup 18 = .ok (.bipush 100, 2) := by decide +kernel
theorem d_m_newGroup_20 : decode c_m_newGroup 20 = .ok (.if_icmp .gt 20, 3) := by decide +kernel
theorem d_m_newGroup_23 : decode c_m_newGroup 23 = .ok (.iload 4, 2) := by decide +kernel
theorem d_m_newGroup_25 : decode c_m_newGroup 25 = .ok (.iconst 1, 1) := by decide +kernel
theorem d_m_newGroup_26 : decode c_m_newGroup 26 = .ok (.if_icmp .lt 14, 3) := by decide +kernel
theorem d_m_newGroup_29 : decode c_m_newGroup 29 = .ok (.iload 4, 2) := by decide +kernel
theorem d_m_newGroup_31 : decode c_m_newGroup 31 = .ok (.bipush 100, 2) := by decide +kernel
theorem d_m_newGroup_33 : decode c_m_newGroup 33 = .ok (.if_icmp .gt 7, 3) := by decide +kernel
theorem d_m_newGroup_36 : decode c_m_newGroup 36 = .ok (.iconst 1, 1) := by decide +kernel
theorem d_m_newGroup_37 : decode c_m_newGroup 37 = .ok (.goto 4, 3) := by decide +kernel
theorem d_m_newGroup_40 : decode c_m_newGroup 40 = .ok (.iconst 0, 1) := by decide +kernel
theorem d_m_newGroup_41 : decode c_m_newGroup 41 = .ok (.istore 5, 2) := by decide +kernel
theorem d_m_newGroup_43 : decode c_m_newGroup 43 = .ok (.aload_n 0, 1) := by decide +kernel
theorem d_m_newGroup_44 : decode c_m_newGroup 44 = .ok (.aload_n 0, 1) := by decide +kernel
theorem d_m_newGroup_45 : decode c_m_newGroup 45 = .ok (.iload_n 1, 1) := by decide +kernel
theorem d_m_newGroup_46 : decode c_m_newGroup 46 = .ok (.invokevirtual 133, 3) := by decide +kernel
theorem d_m_newGroup_49 : decode c_m_newGroup 49 = .ok (.ifCond .ne 7, 3) := by decide +kernel
theorem d_m_newGroup_52 : decode c_m_newGroup 52 = .ok (.iconst 1, 1) := by decide +kernel
theorem d_m_newGroup_53 : decode c_m_newGroup 53 = .ok (.goto 26, 3) := by decide +kernel
theorem d_m_newGroup_56 : decode c_m_newGroup 56 = .ok (.iload 5, 2) := by decide +kernel
theorem d_m_newGroup_58 : decode c_m_newGroup 58 = .ok (.ifCond .ne 7, 3) := by decide +kernel
theorem d_m_newGroup_61 : decode c_m_newGroup 61 = .ok (.iconst 2, 1) := by decide +kernel
theorem d_m_newGroup_62 : decode c_m_newGroup 62 = .ok (.goto 17, 3) := by decide +kernel
theorem d_m_newGroup_65 : decode c_m_newGroup 65 = .ok (.aload_n 0, 1) := by decide +kernel
theorem d_m_newGroup_66 : decode c_m_newGroup 66 = .ok (.getfield 23, 3) := by decide +kernel
theorem d_m_newGroup_69 : decode c_m_newGroup 69 = .ok (.bipush 8, 2) := by decide +kernel
theorem d_m_newGroup_71 : decode c_m_newGroup 71 = .ok (.if_icmp .ne 7, 3) := by decide +kernel
theorem d_m_newGroup_74 : decode c_m_newGroup 74 = .ok (.iconst 3, 1) := by decide +kernel
theorem d_m_newGroup_75 : decode c_m_newGroup 75 = .ok (.goto 4, 3) := by decide +kernel
theorem d_m_newGroup_78 : decode c_m_newGroup 78 = .ok (.iconst 0, 1) := by decide +kernel
theorem d_m_newGroup_79 : decode c_m_newGroup 79 = .ok (.invokevirtual 109, 3) := by decide +kernel
theorem d_m_newGroup_82 : decode c_m_newGroup 82 = .ok (.ifCond .ne 5, 3) := by decide +kernel
theorem d_m_newGroup_85 : decode c_m_newGroup 85 = .ok (.iconst 0, 1) := by decide +kernel
theorem d_m_newGroup_86 : decode c_m_newGroup 86 = .ok (.ireturn, 1) := by decide +kernel
theorem d_m_newGroup_87 : decode c_m_newGroup 87 = .ok (.aload_n 0, 1) := by decide +kernel
theorem d_m_newGroup_88 : decode c_m_newGroup 88 = .ok (.getfield 27, 3) := by decide +kernel
theorem d_m_newGroup_91 : decode c_m_newGroup 91 = .ok (.aload_n 0, 1) := by decide +kernel
theorem d_m_newGroup_92 : decode c_m_newGroup 92 = .ok (.getfield 23, 3) := by decide +kernel
theorem d_m_newGroup_95 : decode c_m_newGroup 95 = .ok (.iload_n 1, 1) := by decide +kernel
theorem d_m_newGroup_96 : decode c_m_newGroup 96 = .ok (.iastore, 1) := by decide +kernel
theorem d_m_newGroup_97 : decode c_m_newGroup 97 = .ok (.aload_n 0, 1) := by decide +kernel
theorem d_m_newGroup_98 : decode c_m_newGroup 98 = .ok (.getfield 30, 3) := by decide +kernel
theorem d_m_newGroup_101 : decode c_m_newGroup 101 = .ok (.aload_n 0, 1) := by decide +kernel
theorem d_m_newGroup_102 : decode c_m_newGroup 102 = .ok (.getfield 23, 3) := by decide +kernel
theorem d_m_newGroup_105 : decode c_m_newGroup 105 = .ok (.iload_n 2, 1) := by decide +kernel
theorem d_m_newGroup_106 : decode c_m_newGroup 106 = .ok (.iastore, 1) := by decide +kernel
theorem d_m_newGroup_107 : decode c_m_newGroup 107 = .ok (.aload_n 0, 1) := by decide +kernel
theorem d_m_newGroup_108 : decode c_m_newGroup 108 = .ok (.getfield 33, 3) := by decide +kernel
theorem d_m_newGroup_111 : decode c_m_newGroup 111 = .ok (.aload_n 0, 1) := by decide +kernel
theorem d_m_newGroup_112 : decode c_m_newGroup 112 = .ok (.getfield 23, 3) := by decide +kernel
theorem d_m_newGroup_115 : decode c_m_newGroup 115 = .ok (.iload_n 3, 1) := by decide +kernel
theorem d_m_newGroup_116 : decode c_m_newGroup 116 = .ok (.iastore, 1) := by decide +kernel
theorem d_m_newGroup_117 : decode c_m_newGroup 117 = .ok (.aload_n 0, 1) := by decide +kernel
theorem d_m_newGroup_118 : decode c_m_newGroup 118 = .ok (.getfield 36, 3) := by decide +kernel
theorem d_m_newGroup_121 : decode c_m_newGroup 121 = .ok (.aload_n 0, 1) := by decide +kernel
theorem d_m_newGroup_122 : decode c_m_newGroup 122 = .ok (.getfield 23, 3) := by decide +kernel
theorem d_m_newGroup_125 : decode c_m_newGroup 125 = .ok (.iload 4, 2) := by decide +kernel
theorem d_m_newGroup_127 : decode c_m_newGroup 127 = .ok (.iastore, 1) := by decide +kernel
theorem d_m_newGroup_128 : decode c_m_newGroup 128 = .ok (.aload_n 0, 1) := by decide +kernel
theorem d_m_newGroup_129 : decode c_m_newGroup 129 = .ok (.dup, 1) := by decide +kernel
theorem d_m_newGroup_130 : decode c_m_newGroup 130 = .ok (.getfield 23, 3) := by decide +kernel
theorem d_m_newGroup_133 : decode c_m_newGroup 133 = .ok (.iconst 1, 1) := by decide +kernel
theorem d_m_newGroup_134 : decode c_m_newGroup 134 = .ok (.iadd, 1) := by decide +kernel
theorem d_m_newGroup_135 : decode c_m_newGroup 135 = .ok (.putfield 23, 3) := by decide +kernel
theorem d_m_newGroup_138 : decode c_m_newGroup 138 = .ok (.aload_n 0, 1) := by decide +kernel
theorem d_m_newGroup_139 : decode c_m_newGroup 139 = .ok (.getfield 23, 3) := by decide +kernel
theorem d_m_newGroup_142 : decode c_m_newGroup 142 = .ok (.iconst 1, 1) := by decide +kernel
theorem d_m_newGroup_143 : decode c_m_newGroup 143 = .ok (.isub, 1) := by decide +kernel
theorem d_m_newGroup_144 : decode c_m_newGroup 144 = .ok (.ireturn, 1) := by decide +kernel
theorem d_m_isGroup_0 : decode c_m_isGroup 0 = .ok (.iload_n 1, 1) := by decide +kernel
theorem d_m_isGroup_1 : decode c_m_isGroup 1 = .ok (.aload_n 0, 1) := by decide +kernel
theorem d_m_isGroup_2 : decode c_m_isGroup 2 = .ok (.getfield 23, 3) := by decide +kernel
theorem d_m_isGroup_5 : decode c_m_isGroup 5 = .ok (.invokestatic 90, 3) := by decide +kernel
theorem d_m_isGroup_8 : decode c_m_isGroup 8 = .ok (.ireturn, 1) := by decide +kernel
theorem d_m_groupMemory_0 : decode c_m_groupMemory 0 = .ok (.aload_n 0, 1) := by decide +kernel
theorem d_m_groupMemory_1 : decode c_m_groupMemory 1 = .ok (.aload_n 0, 1) := by decide +kernel
theorem d_m_groupMemory_2 : decode c_m_groupMemory 2 = .ok (.iload_n 1, 1) := by decide +kernel
theorem d_m_groupMemory_3 : decode c_m_groupMemory 3 = .ok (.invokevirtual 133, 3) := by decide +kernel
theorem d_m_groupMemory_6 : decode c_m_groupMemory 6 = .ok (.ifCond .eq 7, 3) := by decide +kernel
theorem d_m_groupMemory_9 : decode c_m_groupMemory 9 = .ok (.iconst 0, 1) := by decide +kernel
theorem d_m_groupMemory_10 : decode c_m_groupMemory 10 = .ok (.goto 4, 3) := by decide +kernel
theorem d_m_groupMemory_13 : decode c_m_groupMemory 13 = .ok (.iconst 1, 1) := by decide +kernel
theorem d_m_groupMemory_14 : decode c_m_groupMemory 14 = .ok (.invokevirtual 109, 3) := by decide +kernel
theorem d_m_groupMemory_17 : decode c_m_groupMemory 17 = .ok (.ifCond .eq 11, 3) := by decide +kernel
theorem d_m_groupMemory_20 : decode c_m_groupMemory 20 = .ok (.aload_n 0, 1) := by decide +kernel
theorem d_m_groupMemory_21 : decode c_m_groupMemory 21 = .ok (.iload_n 1, 1) := by decide +kernel
theorem d_m_groupMemory_22 : decode c_m_groupMemory 22 = .ok (.invokevirtual 136, 3) := by decide +kernel
theorem d_m_groupMemory_25 : decode c_m_groupMemory 25 = .ok (.goto 4, 3) := by decide +kernel
theorem d_m_groupMemory_28 : decode c_m_groupMemory 28 = .ok (.iconst 0, 1) := by decide +kernel
theorem d_m_groupMemory_29 : decode c_m_groupMemory 29 = .ok (.ireturn, 1) := by decide +kernel
theorem d_m_memoryIn_0 : decode c_m_memoryIn 0 = .ok (.iconst 0, 1) := by decide +kernel
theorem d_m_memoryIn_1 : decode c_m_memoryIn 1 = .ok (.istore_n 2, 1) := by decide +kernel
theorem d_m_memoryIn_2 : decode c_m_memoryIn 2 = .ok (.iconst 0, 1) := by decide +kernel
theorem d_m_memoryIn_3 : decode c_m_memoryIn 3 = .ok (.istore_n 3, 1) := by decide +kernel
theorem d_m_memoryIn_4 : decode c_m_memoryIn 4 = .ok (.iload_n 3, 1) := by decide +kernel
theorem d_m_memoryIn_5 : decode c_m_memoryIn 5 = .ok (.aload_n 0, 1) := by decide +kernel
theorem d_m_memoryIn_6 : decode c_m_memoryIn 6 = .ok (.getfield 94, 3) := by decide +kernel
theorem d_m_memoryIn_9 : decode c_m_memoryIn 9 = .ok (.if_icmp .ge 36, 3) := by decide +kernel
theorem d_m_memoryIn_12 : decode c_m_memoryIn 12 = .ok (.iload_n 2, 1) := by decide +kernel
theorem d_m_memoryIn_13 : decode c_m_memoryIn 13 = .ok (.aload_n 0, 1) := by decide +kernel
theorem d_m_memoryIn_14 : decode c_m_memoryIn 14 = .ok (.aload_n 0, 1) := by decide +kernel
theorem d_m_memoryIn_15 : decode c_m_memoryIn 15 = .ok (.getfield 63, 3) := by decide +kernel
theorem d_m_memoryIn_18 : decode c_m_memoryIn 18 = .ok (.iload_n 3, 1) := by decide +kernel
theorem d_m_memoryIn_19 : decode c_m_memoryIn 19 = .ok (.iaload, 1) := by decide +kernel
theorem d_m_memoryIn_20 : decode c_m_memoryIn 20 = .ok (.iload_n 1, 1) := by decide +kernel
theorem d_m_memoryIn_21 : decode c_m_memoryIn 21 = .ok (.invokevirtual 130, 3) := by decide +kernel
theorem d_m_memoryIn_24 : decode c_m_memoryIn 24 = .ok (.ifCond .eq 12, 3) := by decide +kernel
theorem d_m_memoryIn_27 : decode c_m_memoryIn 27 = .ok (.aload_n 0, 1) := by decide +kernel
theorem d_m_memoryIn_28 : decode c_m_memoryIn 28 = .ok (.getfield 45, 3) := by decide +kernel
theorem d_m_memoryIn_31 : decode c_m_memoryIn 31 = .ok (.iload_n 3, 1) := by decide +kernel
theorem d_m_memoryIn_32 : decode c_m_memoryIn 32 = .ok (.iaload, 1) := by decide +kernel
theorem d_m_memoryIn_33 : decode c_m_memoryIn 33 = .ok (.goto 4, 3) := by decide +kernel
theorem d_m_memoryIn_36 : decode c_m_memoryIn 36 = .ok (.iconst 0, 1) := by decide +kernel
theorem d_m_memoryIn_37 : decode c_m_memoryIn 37 = .ok (.iadd, 1) := by decide +kernel
theorem d_m_memoryIn_38 : decode c_m_memoryIn 38 = .ok (.istore_n 2, 1) := by decide +kernel
theorem d_m_memoryIn_39 : decode c_m_memoryIn 39 = .ok (.iinc 3 1, 3) := by decide +kernel
theorem d_m_memoryIn_42 : decode c_m_memoryIn 42 = .ok (.goto (-38), 3) := by decide +kernel
theorem d_m_memoryIn_45 : decode c_m_memoryIn 45 = .ok (.iload_n 2, 1) := by decide +kernel
theorem d_m_memoryIn_46 : decode c_m_memoryIn 46 = .ok (.ireturn, 1) := by decide +kernel
theorem d_m_isBelow_0 : decode c_m_isBelow 0 = .ok (.iload_n 1, 1) := by decide +kernel
theorem d_m_isBelow_1 : decode c_m_isBelow 1 = .ok (.istore_n 3, 1) := by decide +kernel
theorem d_m_isBelow_2 : decode c_m_isBelow 2 = .ok (.iload_n 3, 1) := by decide +kernel
theorem d_m_isBelow_3 : decode c_m_isBelow 3 = .ok (.iconst (-1), 1) := by decide +kernel
theorem d_m_isBelow_4 : decode c_m_isBelow 4 = .ok (.if_icmp .eq 18, 3) := by decide +kernel
theorem d_m_isBelow_7 : decode c_m_isBelow 7 = .ok (.iload_n 3, 1) := by decide +kernel
theorem d_m_isBelow_8 : decode c_m_isBelow 8 = .ok (.iload_n 2, 1) := by decide +kernel
theorem d_m_isBelow_9 : decode c_m_isBelow 9 = .ok (.if_icmp .eq 13, 3) := by decide +kernel
theorem d_m_isBelow_12 : decode c_m_isBelow 12 = .ok (.aload_n 0, 1) := by decide +kernel
theorem d_m_isBelow_13 : decode c_m_isBelow 13 = .ok (.getfield 27, 3) := by decide +kernel
theorem d_m_isBelow_16 : decode c_m_isBelow 16 = .ok (.iload_n 3, 1) := by decide +kernel
theorem d_m_isBelow_17 : decode c_m_isBelow 17 = .ok (.iaload, 1) := by decide +kernel
theorem d_m_isBelow_18 : decode c_m_isBelow 18 = .ok (.istore_n 3, 1) := by decide +kernel
theorem d_m_isBelow_19 : decode c_m_isBelow 19 = .ok (.goto (-17), 3) := by decide +kernel
theorem d_m_isBelow_22 : decode c_m_isBelow 22 = .ok (.iload_n 3, 1) := by decide +kernel
theorem d_m_isBelow_23 : decode c_m_isBelow 23 = .ok (.iload_n 2, 1) := by decide +kernel
theorem d_m_isBelow_24 : decode c_m_isBelow 24 = .ok (.if_icmp .ne 7, 3) := by decide +kernel
theorem d_m_isBelow_27 : decode c_m_isBelow 27 = .ok (.iconst 1, 1) := by decide +kernel
theorem d_m_isBelow_28 : decode c_m_isBelow 28 = .ok (.goto 4, 3) := by decide +kernel
theorem d_m_isBelow_31 : decode c_m_isBelow 31 = .ok (.iconst 0, 1) := by decide +kernel
theorem d_m_isBelow_32 : decode c_m_isBelow 32 = .ok (.ireturn, 1) := by decide +kernel
theorem d_m_groupProcesses_0 : decode c_m_groupProcesses 0 = .ok (.aload_n 0, 1) := by decide +kernel
theorem d_m_groupProcesses_1 : decode c_m_groupProcesses 1 = .ok (.aload_n 0, 1) := by decide +kernel
theorem d_m_groupProcesses_2 : decode c_m_groupProcesses 2 = .ok (.iload_n 1, 1) := by decide +kernel
theorem d_m_groupProcesses_3 : decode c_m_groupProcesses 3 = .ok (.invokevirtual 133, 3) := by decide +kernel
theorem d_m_groupProcesses_6 : decode c_m_groupProcesses 6 = .ok (.ifCond .eq 7, 3) := by decide +kernel
theorem d_m_groupProcesses_9 : decode c_m_groupProcesses 9 = .ok (.iconst 0, 1) := by decide +kernel
theorem d_m_groupProcesses_10 : decode c_m_groupProcesses 10 = .ok (.goto 4, 3) := by decide +kernel
theorem d_m_groupProcesses_13 : decode c_m_groupProcesses 13 = .ok (.iconst 1, 1) := by decide +kernel
theorem d_m_groupProcesses_14 : decode c_m_groupProcesses 14 = .ok (.invokevirtual 109, 3) := by decide +kernel
theorem d_m_groupProcesses_17 : decode c_m_groupProcesses 17 = .ok (.ifCond .eq 11, 3) := by decide +kernel
theorem d_m_groupProcesses_20 : decode c_m_groupProcesses 20 = .ok (.aload_n 0, 1) := by decide +kernel
theorem d_m_groupProcesses_21 : decode c_m_groupProcesses 21 = .ok (.iload_n 1, 1) := by decide +kernel
theorem d_m_groupProcesses_22 : decode c_m_groupProcesses 22 = .ok (.invokevirtual 139, 3) := by decide +kernel
theorem d_m_groupProcesses_25 : decode c_m_groupProcesses 25 = .ok (.goto 4, 3) := by decide +kernel
theorem d_m_groupProcesses_28 : decode c_m_groupProcesses 28 = .ok (.iconst 0, 1) := by decide +kernel
theorem d_m_groupProcesses_29 : decode c_m_groupProcesses 29 = .ok (.ireturn, 1) := by decide +kernel
theorem d_m_processesIn_0 : decode c_m_processesIn 0 = .ok (.iconst 0, 1) := by decide +kernel
theorem d_m_processesIn_1 : decode c_m_processesIn 1 = .ok (.istore_n 2, 1) := by decide +kernel
theorem d_m_processesIn_2 : decode c_m_processesIn 2 = .ok (.iconst 0, 1) := by decide +kernel
theorem d_m_processesIn_3 : decode c_m_processesIn 3 = .ok (.istore_n 3, 1) := by decide +kernel
theorem d_m_processesIn_4 : decode c_m_processesIn 4 = .ok (.iload_n 3, 1) := by decide +kernel
theorem d_m_processesIn_5 : decode c_m_processesIn 5 = .ok (.aload_n 0, 1) := by decide +kernel
theorem d_m_processesIn_6 : decode c_m_processesIn 6 = .ok (.getfield 94, 3) := by decide +kernel
theorem d_m_processesIn_9 : decode c_m_processesIn 9 = .ok (.if_icmp .ge 36, 3) := by decide +kernel
theorem d_m_processesIn_12 : decode c_m_processesIn 12 = .ok (.iload_n 2, 1) := by decide +kernel
theorem d_m_processesIn_13 : decode c_m_processesIn 13 = .ok (.aload_n 0, 1) := by decide +kernel
theorem d_m_processesIn_14 : decode c_m_processesIn 14 = .ok (.aload_n 0, 1) := by decide +kernel
theorem d_m_processesIn_15 : decode c_m_processesIn 15 = .ok (.getfield 63, 3) := by decide +kernel
theorem d_m_processesIn_18 : decode c_m_processesIn 18 = .ok (.iload_n 3, 1) := by decide +kernel
theorem d_m_processesIn_19 : decode c_m_processesIn 19 = .ok (.iaload, 1) := by decide +kernel
theorem d_m_processesIn_20 : decode c_m_processesIn 20 = .ok (.iload_n 1, 1) := by decide +kernel
theorem d_m_processesIn_21 : decode c_m_processesIn 21 = .ok (.invokevirtual 130, 3) := by decide +kernel
theorem d_m_processesIn_24 : decode c_m_processesIn 24 = .ok (.ifCond .eq 12, 3) := by decide +kernel
theorem d_m_processesIn_27 : decode c_m_processesIn 27 = .ok (.aload_n 0, 1) := by decide +kernel
theorem d_m_processesIn_28 : decode c_m_processesIn 28 = .ok (.getfield 48, 3) := by decide +kernel
theorem d_m_processesIn_31 : decode c_m_processesIn 31 = .ok (.iload_n 3, 1) := by decide +kernel
theorem d_m_processesIn_32 : decode c_m_processesIn 32 = .ok (.iaload, 1) := by decide +kernel
theorem d_m_processesIn_33 : decode c_m_processesIn 33 = .ok (.goto 4, 3) := by decide +kernel
theorem d_m_processesIn_36 : decode c_m_processesIn 36 = .ok (.iconst 0, 1) := by decide +kernel
theorem d_m_processesIn_37 : decode c_m_processesIn 37 = .ok (.iadd, 1) := by decide +kernel
theorem d_m_processesIn_38 : decode c_m_processesIn 38 = .ok (.istore_n 2, 1) := by decide +kernel
theorem d_m_processesIn_39 : decode c_m_processesIn 39 = .ok (.iinc 3 1, 3) := by decide +kernel
theorem d_m_processesIn_42 : decode c_m_processesIn 42 = .ok (.goto (-38), 3) := by decide +kernel
theorem d_m_processesIn_45 : decode c_m_processesIn 45 = .ok (.iload_n 2, 1) := by decide +kernel
theorem d_m_processesIn_46 : decode c_m_processesIn 46 = .ok (.ireturn, 1) := by decide +kernel
theorem d_m_run_0 : decode c_m_run 0 = .ok (.aload_n 0, 1) := by decide +kernel
theorem d_m_run_1 : decode c_m_run 1 = .ok (.iload_n 1, 1) := by decide +kernel
theorem d_m_run_2 : decode c_m_run 2 = .ok (.invokevirtual 101, 3) := by decide +kernel
theorem d_m_run_5 : decode c_m_run 5 = .ok (.ifCond .eq 15, 3) := by decide +kernel
theorem d_m_run_8 : decode c_m_run 8 = .ok (.aload_n 0, 1) := by decide +kernel
theorem d_m_run_9 : decode c_m_run 9 = .ok (.iload_n 2, 1) := by decide +kernel
theorem d_m_run_10 : decode c_m_run 10 = .ok (.invokevirtual 133, 3) := by decide +kernel
theorem d_m_run_13 : decode c_m_run 13 = .ok (.ifCond .eq 7, 3) := by decide +kernel
theorem d_m_run_16 : decode c_m_run 16 = .ok (.iconst 1, 1) := by decide +kernel
theorem d_m_run_17 : decode c_m_run 17 = .ok (.goto 4, 3) := by decide +kernel
theorem d_m_run_20 : decode c_m_run 20 = .ok (.iconst 0, 1) := by decide +kernel
theorem d_m_run_21 : decode c_m_run 21 = .ok (.istore 5, 2) := by decide +kernel
theorem d_m_run_23 : decode c_m_run 23 = .ok (.iload_n 3, 1) := by decide +kernel
theorem d_m_run_24 : decode c_m_run 24 = .ok (.bipush 16, 2) := by decide +kernel
theorem d_m_run_26 : decode c_m_run 26 = .ok (.invokestatic 90, 3) := by decide +kernel
theorem d_m_run_29 : decode c_m_run 29 = .ok (.ifCond .eq 20, 3) := by decide +kernel
theorem d_m_run_32 : decode c_m_run 32 = .ok (.iload 4, 2) := by decide +kernel
theorem d_m_run_34 : decode c_m_run 34 = .ok (.iconst 1, 1) := by decide +kernel
theorem d_m_run_35 : decode c_m_run 35 = .ok (.if_icmp .lt 14, 3) := by decide +kernel
theorem d_m_run_38 : decode c_m_run 38 = .ok (.iload 4, 2) := by decide +kernel
theorem d_m_run_40 : decode c_m_run 40 = .ok (.bipush 100, 2) := by decide +kernel
theorem d_m_run_42 : decode c_m_run 42 = .ok (.if_icmp .gt 7, 3) := by decide +kernel
theorem d_m_run_45 : decode c_m_run 45 = .ok (.iconst 1, 1) := by decide +kernel
theorem d_m_run_46 : decode c_m_run 46 = .ok (.goto 4, 3) := by decide +kernel
theorem d_m_run_49 : decode c_m_run 49 = .ok (.iconst 0, 1) := by decide +kernel
theorem d_m_run_50 : decode c_m_run 50 = .ok (.istore 6, 2) := by decide +kernel
theorem d_m_run_52 : decode c_m_run 52 = .ok (.aload_n 0, 1) := by decide +kernel
theorem d_m_run_53 : decode c_m_run 53 = .ok (.iload 5, 2) := by decide +kernel
theorem d_m_run_55 : decode c_m_run 55 = .ok (.ifCond .ne 7, 3) := by decide +kernel
theorem d_m_run_58 : decode c_m_run 58 = .ok (.iconst 1, 1) := by decide +kernel
theorem d_m_run_59 : decode c_m_run 59 = .ok (.goto 46, 3) := by decide +kernel
theorem d_m_run_62 : decode c_m_run 62 = .ok (.iload 6, 2) := by decide +kernel
theorem d_m_run_64 : decode c_m_run 64 = .ok (.ifCond .ne 7, 3) := by decide +kernel
theorem d_m_run_67 : decode c_m_run 67 = .ok (.iconst 2, 1) := by decide +kernel
theorem d_m_run_68 : decode c_m_run 68 = .ok (.goto 37, 3) := by decide +kernel
theorem d_m_run_71 : decode c_m_run 71 = .ok (.aload_n 0, 1) := by decide +kernel
theorem d_m_run_72 : decode c_m_run 72 = .ok (.getfield 19, 3) := by decide +kernel
theorem d_m_run_75 : decode c_m_run 75 = .ok (.iload_n 1, 1) := by decide +kernel
theorem d_m_run_76 : decode c_m_run 76 = .ok (.baload, 1) := by decide +kernel
theorem d_m_run_77 : decode c_m_run 77 = .ok (.ifCond .eq 23, 3) := by decide +kernel
theorem d_m_run_80 : decode c_m_run 80 = .ok (.aload_n 0, 1) := by decide +kernel
theorem d_m_run_81 : decode c_m_run 81 = .ok (.getfield 94, 3) := by decide +kernel
theorem d_m_run_84 : decode c_m_run 84 = .ok (.bipush 20, 2) := by decide +kernel
theorem d_m_run_86 : decode c_m_run 86 = .ok (.if_icmp .eq 14, 3) := by decide +kernel
theorem d_m_run_89 : decode c_m_run 89 = .ok (.aload_n 0, 1) := by decide +kernel
theorem d_m_run_90 : decode c_m_run 90 = .ok (.iload_n 2, 1) := by decide +kernel
theorem d_m_run_91 : decode c_m_run 91 = .ok (.iconst 0, 1) := by decide +kernel
theorem d_m_run_92 : decode c_m_run 92 = .ok (.iconst 1, 1) := by decide +kernel
theorem d_m_run_93 : decode c_m_run 93 = .ok (.invokevirtual 142, 3) := by decide +kernel
theorem d_m_run_96 : decode c_m_run 96 = .ok (.iconst (-1), 1) := by decide +kernel
theorem d_m_run_97 : decode c_m_run 97 = .ok (.if_icmp .eq 7, 3) := by decide +kernel
theorem d_m_run_100 : decode c_m_run 100 = .ok (.iconst 3, 1) := by decide +kernel
theorem d_m_run_101 : decode c_m_run 101 = .ok (.goto 4, 3) := by decide +kernel
theorem d_m_run_104 : decode c_m_run 104 = .ok (.iconst 0, 1) := by decide +kernel
theorem d_m_run_105 : decode c_m_run 105 = .ok (.invokevirtual 109, 3) := by decide +kernel
theorem d_m_run_108 : decode c_m_run 108 = .ok (.ifCond .ne 5, 3) := by decide +kernel
theorem d_m_run_111 : decode c_m_run 111 = .ok (.iconst 0, 1) := by decide +kernel
theorem d_m_run_112 : decode c_m_run 112 = .ok (.ireturn, 1) := by decide +kernel
theorem d_m_run_113 : decode c_m_run 113 = .ok (.aload_n 0, 1) := by decide +kernel
theorem d_m_run_114 : decode c_m_run 114 = .ok (.iload_n 1, 1) := by decide +kernel
theorem d_m_run_115 : decode c_m_run 115 = .ok (.iload_n 2, 1) := by decide +kernel
theorem d_m_run_116 : decode c_m_run 116 = .ok (.iload_n 3, 1) := by decide +kernel
theorem d_m_run_117 : decode c_m_run 117 = .ok (.iload 4, 2) := by decide +kernel
theorem d_m_run_119 : decode c_m_run 119 = .ok (.invokevirtual 145, 3) := by decide +kernel
theorem d_m_run_122 : decode c_m_run 122 = .ok (.aload_n 0, 1) := by decide +kernel
theorem d_m_run_123 : decode c_m_run 123 = .ok (.getfield 94, 3) := by decide +kernel
theorem d_m_run_126 : decode c_m_run 126 = .ok (.iconst 1, 1) := by decide +kernel
theorem d_m_run_127 : decode c_m_run 127 = .ok (.isub, 1) := by decide +kernel
theorem d_m_run_128 : decode c_m_run 128 = .ok (.ireturn, 1) := by decide +kernel
theorem d_m_tooMuch_0 : decode c_m_tooMuch 0 = .ok (.iload_n 1, 1) := by decide +kernel
theorem d_m_tooMuch_1 : decode c_m_tooMuch 1 = .ok (.istore 4, 2) := by decide +kernel
theorem d_m_tooMuch_3 : decode c_m_tooMuch 3 = .ok (.iload 4, 2) := by decide +kernel
theorem d_m_tooMuch_5 : decode c_m_tooMuch 5 = .ok (.iconst (-1), 1) := by decide +kernel
theorem d_m_tooMuch_6 : decode c_m_tooMuch 6 = .ok (.if_icmp .eq 54, 3) := by decide +kernel
theorem d_m_tooMuch_9 : decode c_m_tooMuch 9 = .ok (.aload_n 0, 1) := by decide +kernel
theorem d_m_tooMuch_10 : decode c_m_tooMuch 10 = .ok (.iload 4, 2) := by decide +kernel
theorem d_m_tooMuch_12 : decode c_m_tooMuch 12 = .ok (.invokevirtual 136, 3) := by decide +kernel
theorem d_m_tooMuch_15 : decode c_m_tooMuch 15 = .ok (.iload_n 2, 1) := by decide +kernel
theorem d_m_tooMuch_16 : decode c_m_tooMuch 16 = .ok (.iadd, 1) := by decide +kernel
theorem d_m_tooMuch_17 : decode c_m_tooMuch 17 = .ok (.aload_n 0, 1) := by decide +kernel
theorem d_m_tooMuch_18 : decode c_m_tooMuch 18 = .ok (.getfield 30, 3) := by decide +kernel
theorem d_m_tooMuch_21 : decode c_m_tooMuch 21 = .ok (.iload 4, 2) := by decide +kernel
theorem d_m_tooMuch_23 : decode c_m_tooMuch 23 = .ok (.iaload, 1) := by decide +kernel
theorem d_m_tooMuch_24 : decode c_m_tooMuch 24 = .ok (.if_icmp .gt 21, 3) := by decide +kernel
theorem d_m_tooMuch_27 : decode c_m_tooMuch 27 = .ok (.aload_n 0, 1) := by decide +kernel
theorem d_m_tooMuch_28 : decode c_m_tooMuch 28 = .ok (.iload 4, 2) := by decide +kernel
theorem d_m_tooMuch_30 : decode c_m_tooMuch 30 = .ok (.invokevirtual 139, 3) := by decide +kernel
theorem d_m_tooMuch_33 : decode c_m_tooMuch 33 = .ok (.iload_n 3, 1) := by decide +kernel
theorem d_m_tooMuch_34 : decode c_m_tooMuch 34 = .ok (.iadd, 1) := by decide +kernel
theorem d_m_tooMuch_35 : decode c_m_tooMuch 35 = .ok (.aload_n 0, 1) := by decide +kernel
theorem d_m_tooMuch_36 : decode c_m_tooMuch 36 = .ok (.getfield 33, 3) := by decide +kernel
theorem d_m_tooMuch_39 : decode c_m_tooMuch 39 = .ok (.iload 4, 2) := by decide +kernel
theorem d_m_tooMuch_41 : decode c_m_tooMuch 41 = .ok (.iaload, 1) := by decide +kernel
theorem d_m_tooMuch_42 : decode c_m_tooMuch 42 = .ok (.if_icmp .le 6, 3) := by decide +kernel
theorem d_m_tooMuch_45 : decode c_m_tooMuch 45 = .ok (.iload 4, 2) := by decide +kernel
theorem d_m_tooMuch_47 : decode c_m_tooMuch 47 = .ok (.ireturn, 1) := by decide +kernel
theorem d_m_tooMuch_48 : decode c_m_tooMuch 48 = .ok (.aload_n 0, 1) := by decide +kernel
theorem d_m_tooMuch_49 : decode c_m_tooMuch 49 = .ok (.getfield 27, 3) := by decide +kernel
theorem d_m_tooMuch_52 : decode c_m_tooMuch 52 = .ok (.iload 4, 2) := by decide +kernel
theorem d_m_tooMuch_54 : decode c_m_tooMuch 54 = .ok (.iaload, 1) := by decide +kernel
theorem d_m_tooMuch_55 : decode c_m_tooMuch 55 = .ok (.istore 4, 2) := by decide +kernel
theorem d_m_tooMuch_57 : decode c_m_tooMuch 57 = .ok (.goto (-54), 3) := by decide +kernel
theorem d_m_tooMuch_60 : decode c_m_tooMuch 60 = .ok (.iconst (-1), 1) := by decide +kernel
theorem d_m_tooMuch_61 : decode c_m_tooMuch 61 = .ok (.ireturn, 1) := by decide +kernel
theorem d_m_begins_0 : decode c_m_begins 0 = .ok (.aload_n 0, 1) := by decide +kernel
theorem d_m_begins_1 : decode c_m_begins 1 = .ok (.getfield 39, 3) := by decide +kernel
theorem d_m_begins_4 : decode c_m_begins 4 = .ok (.aload_n 0, 1) := by decide +kernel
theorem d_m_begins_5 : decode c_m_begins 5 = .ok (.getfield 94, 3) := by decide +kernel
theorem d_m_begins_8 : decode c_m_begins 8 = .ok (.iload_n 1, 1) := by decide +kernel
theorem d_m_begins_9 : decode c_m_begins 9 = .ok (.iastore, 1) := by decide +kernel
theorem d_m_begins_10 : decode c_m_begins 10 = .ok (.aload_n 0, 1) := by decide +kernel
theorem d_m_begins_11 : decode c_m_begins 11 = .ok (.getfield 42, 3) := by decide +kernel
theorem d_m_begins_14 : decode c_m_begins 14 = .ok (.aload_n 0, 1) := by decide +kernel
theorem d_m_begins_15 : decode c_m_begins 15 = .ok (.getfield 94, 3) := by decide +kernel
theorem d_m_begins_18 : decode c_m_begins 18 = .ok (.iload 4, 2) := by decide +kernel
theorem d_m_begins_20 : decode c_m_begins 20 = .ok (.iastore, 1) := by decide +kernel
theorem d_m_begins_21 : decode c_m_begins 21 = .ok (.aload_n 0, 1) := by decide +kernel
theorem d_m_begins_22 : decode c_m_begins 22 = .ok (.getfield 45, 3) := by decide +kernel
theorem d_m_begins_25 : decode c_m_begins 25 = .ok (.aload_n 0, 1) := by decide +kernel
theorem d_m_begins_26 : decode c_m_begins 26 = .ok (.getfield 94, 3) := by decide +kernel
theorem d_m_begins_29 : decode c_m_begins 29 = .ok (.iconst 0, 1) := by decide +kernel
theorem d_m_begins_30 : decode c_m_begins 30 = .ok (.iastore, 1) := by decide +kernel
theorem d_m_begins_31 : decode c_m_begins 31 = .ok (.aload_n 0, 1) := by decide +kernel
theorem d_m_begins_32 : decode c_m_begins 32 = .ok (.getfield 48, 3) := by decide +kernel
theorem d_m_begins_35 : decode c_m_begins 35 = .ok (.aload_n 0, 1) := by decide +kernel
theorem d_m_begins_36 : decode c_m_begins 36 = .ok (.getfield 94, 3) := by decide +kernel
theorem d_m_begins_39 : decode c_m_begins 39 = .ok (.iconst 1, 1) := by decide +kernel
theorem d_m_begins_40 : decode c_m_begins 40 = .ok (.iastore, 1) := by decide +kernel
theorem d_m_begins_41 : decode c_m_begins 41 = .ok (.aload_n 0, 1) := by decide +kernel
theorem d_m_begins_42 : decode c_m_begins 42 = .ok (.getfield 51, 3) := by decide +kernel
theorem d_m_begins_45 : decode c_m_begins 45 = .ok (.aload_n 0, 1) := by decide +kernel
theorem d_m_begins_46 : decode c_m_begins 46 = .ok (.getfield 94, 3) := by decide +kernel
theorem d_m_begins_49 : decode c_m_begins 49 = .ok (.iload_n 3, 1) := by decide +kernel
theorem d_m_begins_50 : decode c_m_begins 50 = .ok (.iastore, 1) := by decide +kernel
theorem d_m_begins_51 : decode c_m_begins 51 = .ok (.aload_n 0, 1) := by decide +kernel
theorem d_m_begins_52 : decode c_m_begins 52 = .ok (.getfield 54, 3) := by decide +kernel
theorem d_m_begins_55 : decode c_m_begins 55 = .ok (.aload_n 0, 1) := by decide +kernel
theorem d_m_begins_56 : decode c_m_begins 56 = .ok (.getfield 94, 3) := by decide +kernel
theorem d_m_begins_59 : decode c_m_begins 59 = .ok (.iload_n 3, 1) := by decide +kernel
theorem d_m_begins_60 : decode c_m_begins 60 = .ok (.iastore, 1) := by decide +kernel
theorem d_m_begins_61 : decode c_m_begins 61 = .ok (.aload_n 0, 1) := by decide +kernel
theorem d_m_begins_62 : decode c_m_begins 62 = .ok (.getfield 57, 3) := by decide +kernel
theorem d_m_begins_65 : decode c_m_begins 65 = .ok (.aload_n 0, 1) := by decide +kernel
theorem d_m_begins_66 : decode c_m_begins 66 = .ok (.getfield 94, 3) := by decide +kernel
theorem d_m_begins_69 : decode c_m_begins 69 = .ok (.iconst 0, 1) := by decide +kernel
theorem d_m_begins_70 : decode c_m_begins 70 = .ok (.iastore, 1) := by decide +kernel
theorem d_m_begins_71 : decode c_m_begins 71 = .ok (.aload_n 0, 1) := by decide +kernel
theorem d_m_begins_72 : decode c_m_begins 72 = .ok (.getfield 60, 3) := by decide +kernel
theorem d_m_begins_75 : decode c_m_begins 75 = .ok (.aload_n 0, 1) := by decide +kernel
theorem d_m_begins_76 : decode c_m_begins 76 = .ok (.getfield 94, 3) := by decide +kernel
theorem d_m_begins_79 : decode c_m_begins 79 = .ok (.iconst 0, 1) := by decide +kernel
theorem d_m_begins_80 : decode c_m_begins 80 = .ok (.iastore, 1) := by decide +kernel
theorem d_m_begins_81 : decode c_m_begins 81 = .ok (.aload_n 0, 1) := by decide +kernel
theorem d_m_begins_82 : decode c_m_begins 82 = .ok (.getfield 63, 3) := by decide +kernel
theorem d_m_begins_85 : decode c_m_begins 85 = .ok (.aload_n 0, 1) := by decide +kernel
theorem d_m_begins_86 : decode c_m_begins 86 = .ok (.getfield 94, 3) := by decide +kernel
theorem d_m_begins_89 : decode c_m_begins 89 = .ok (.iload_n 2, 1) := by decide +kernel
theorem d_m_begins_90 : decode c_m_begins 90 = .ok (.iastore, 1) := by decide +kernel
theorem d_m_begins_91 : decode c_m_begins 91 = .ok (.aload_n 0, 1) := by decide +kernel
theorem d_m_begins_92 : decode c_m_begins 92 = .ok (.getfield 66, 3) := by decide +kernel
theorem d_m_begins_95 : decode c_m_begins 95 = .ok (.aload_n 0, 1) := by decide +kernel
theorem d_m_begins_96 : decode c_m_begins 96 = .ok (.getfield 94, 3) := by decide +kernel
theorem d_m_begins_99 : decode c_m_begins 99 = .ok (.iconst (-1), 1) := by decide +kernel
theorem d_m_begins_100 : decode c_m_begins 100 = .ok (.iastore, 1) := by decide +kernel
theorem d_m_begins_101 : decode c_m_begins 101 = .ok (.aload_n 0, 1) := by decide +kernel
theorem d_m_begins_102 : decode c_m_begins 102 = .ok (.getfield 69, 3) := by decide +kernel
theorem d_m_begins_105 : decode c_m_begins 105 = .ok (.aload_n 0, 1) := by decide +kernel
theorem d_m_begins_106 : decode c_m_begins 106 = .ok (.getfield 94, 3) := by decide +kernel
theorem d_m_begins_109 : decode c_m_begins 109 = .ok (.iconst 0, 1) := by decide +kernel
theorem d_m_begins_110 : decode c_m_begins 110 = .ok (.iastore, 1) := by decide +kernel
theorem d_m_begins_111 : decode c_m_begins 111 = .ok (.aload_n 0, 1) := by decide +kernel
theorem d_m_begins_112 : decode c_m_begins 112 = .ok (.bipush 10, 2) := by decide +kernel
theorem d_m_begins_114 : decode c_m_begins 114 = .ok (.aload_n 0, 1) := by decide +kernel
theorem d_m_begins_115 : decode c_m_begins 115 = .ok (.getfield 94, 3) := by decide +kernel
theorem d_m_begins_118 : decode c_m_begins 118 = .ok (.iadd, 1) := by decide +kernel
theorem d_m_begins_119 : decode c_m_begins 119 = .ok (.invokevirtual 112, 3) := by decide +kernel
theorem d_m_begins_122 : decode c_m_begins 122 = .ok (.aload_n 0, 1) := by decide +kernel
theorem d_m_begins_123 : decode c_m_begins 123 = .ok (.dup, 1) := by decide +kernel
theorem d_m_begins_124 : decode c_m_begins 124 = .ok (.getfield 94, 3) := by decide +kernel
theorem d_m_begins_127 : decode c_m_begins 127 = .ok (.iconst 1, 1) := by decide +kernel
theorem d_m_begins_128 : decode c_m_begins 128 = .ok (.iadd, 1) := by decide +kernel
theorem d_m_begins_129 : decode c_m_begins 129 = .ok (.putfield 94, 3) := by decide +kernel
theorem d_m_begins_132 : decode c_m_begins 132 = .ok (.return_, 1) := by decide +kernel
theorem d_m_pause_0 : decode c_m_pause 0 = .ok (.aload_n 0, 1) := by decide +kernel
theorem d_m_pause_1 : decode c_m_pause 1 = .ok (.iload_n 1, 1) := by decide +kernel
theorem d_m_pause_2 : decode c_m_pause 2 = .ok (.iconst 0, 1) := by decide +kernel
theorem d_m_pause_3 : decode c_m_pause 3 = .ok (.invokevirtual 149, 3) := by decide +kernel
theorem d_m_pause_6 : decode c_m_pause 6 = .ok (.ifCond .eq 10, 3) := by decide +kernel
theorem d_m_pause_9 : decode c_m_pause 9 = .ok (.aload_n 0, 1) := by decide +kernel
theorem d_m_pause_10 : decode c_m_pause 10 = .ok (.getfield 60, 3) := by decide +kernel
theorem d_m_pause_13 : decode c_m_pause 13 = .ok (.iload_n 1, 1) := by decide +kernel
theorem d_m_pause_14 : decode c_m_pause 14 = .ok (.iconst 1, 1) := by decide +kernel
theorem d_m_pause_15 : decode c_m_pause 15 = .ok (.iastore, 1) := by decide +kernel
theorem d_m_pause_16 : decode c_m_pause 16 = .ok (.return_, 1) := by decide +kernel
theorem d_m_isThere_0 : decode c_m_isThere 0 = .ok (.aload_n 0, 1) := by decide +kernel
theorem d_m_isThere_1 : decode c_m_isThere 1 = .ok (.iload_n 1, 1) := by decide +kernel
theorem d_m_isThere_2 : decode c_m_isThere 2 = .ok (.invokevirtual 123, 3) := by decide +kernel
theorem d_m_isThere_5 : decode c_m_isThere 5 = .ok (.istore_n 3, 1) := by decide +kernel
theorem d_m_isThere_6 : decode c_m_isThere 6 = .ok (.aload_n 0, 1) := by decide +kernel
theorem d_m_isThere_7 : decode c_m_isThere 7 = .ok (.iload_n 3, 1) := by decide +kernel
theorem d_m_isThere_8 : decode c_m_isThere 8 = .ok (.ifCond .ne 7, 3) := by decide +kernel
theorem d_m_isThere_11 : decode c_m_isThere 11 = .ok (.iconst 1, 1) := by decide +kernel
theorem d_m_isThere_12 : decode c_m_isThere 12 = .ok (.goto 18, 3) := by decide +kernel
theorem d_m_isThere_15 : decode c_m_isThere 15 = .ok (.aload_n 0, 1) := by decide +kernel
theorem d_m_isThere_16 : decode c_m_isThere 16 = .ok (.getfield 60, 3) := by decide +kernel
theorem d_m_isThere_19 : decode c_m_isThere 19 = .ok (.iload_n 1, 1) := by decide +kernel
theorem d_m_isThere_20 : decode c_m_isThere 20 = .ok (.iaload, 1) := by decide +kernel
theorem d_m_isThere_21 : decode c_m_isThere 21 = .ok (.iload_n 2, 1) := by decide +kernel
theorem d_m_isThere_22 : decode c_m_isThere 22 = .ok (.if_icmp .ne 7, 3) := by decide +kernel
theorem d_m_isThere_25 : decode c_m_isThere 25 = .ok (.iconst 0, 1) := by decide +kernel
theorem d_m_isThere_26 : decode c_m_isThere 26 = .ok (.goto 4, 3) := by decide +kernel
theorem d_m_isThere_29 : decode c_m_isThere 29 = .ok (.iconst 2, 1) := by decide +kernel
theorem d_m_isThere_30 : decode c_m_isThere 30 = .ok (.invokevirtual 109, 3) := by decide +kernel
theorem d_m_isThere_33 : decode c_m_isThere 33 = .ok (.ireturn, 1) := by decide +kernel
theorem d_m_resume_0 : decode c_m_resume 0 = .ok (.aload_n 0, 1) := by decide +kernel
theorem d_m_resume_1 : decode c_m_resume 1 = .ok (.iload_n 1, 1) := by decide +kernel
theorem d_m_resume_2 : decode c_m_resume 2 = .ok (.iconst 1, 1) := by decide +kernel
theorem d_m_resume_3 : decode c_m_resume 3 = .ok (.invokevirtual 149, 3) := by decide +kernel
theorem d_m_resume_6 : decode c_m_resume 6 = .ok (.ifCond .eq 10, 3) := by decide +kernel
theorem d_m_resume_9 : decode c_m_resume 9 = .ok (.aload_n 0, 1) := by decide +kernel
theorem d_m_resume_10 : decode c_m_resume 10 = .ok (.getfield 60, 3) := by decide +kernel
theorem d_m_resume_13 : decode c_m_resume 13 = .ok (.iload_n 1, 1) := by decide +kernel
theorem d_m_resume_14 : decode c_m_resume 14 = .ok (.iconst 0, 1) := by decide +kernel
theorem d_m_resume_15 : decode c_m_resume 15 = .ok (.iastore, 1) := by decide +kernel
theorem d_m_resume_16 : decode c_m_resume 16 = .ok (.return_, 1) := by decide +kernel
theorem d_m_stop_0 : decode c_m_stop 0 = .ok (.aload_n 0, 1) := by decide +kernel
theorem d_m_stop_1 : decode c_m_stop 1 = .ok (.iload_n 1, 1) := by decide +kernel
theorem d_m_stop_2 : decode c_m_stop 2 = .ok (.invokevirtual 123, 3) := by decide +kernel
theorem d_m_stop_5 : decode c_m_stop 5 = .ok (.istore_n 2, 1) := by decide +kernel
theorem d_m_stop_6 : decode c_m_stop 6 = .ok (.aload_n 0, 1) := by decide +kernel
theorem d_m_stop_7 : decode c_m_stop 7 = .ok (.iload_n 2, 1) := by decide +kernel
theorem d_m_stop_8 : decode c_m_stop 8 = .ok (.ifCond .ne 7, 3) := by decide +kernel
theorem d_m_stop_11 : decode c_m_stop 11 = .ok (.iconst 1, 1) := by decide +kernel
theorem d_m_stop_12 : decode c_m_stop 12 = .ok (.goto 18, 3) := by decide +kernel
theorem d_m_stop_15 : decode c_m_stop 15 = .ok (.aload_n 0, 1) := by decide +kernel
theorem d_m_stop_16 : decode c_m_stop 16 = .ok (.getfield 60, 3) := by decide +kernel
theorem d_m_stop_19 : decode c_m_stop 19 = .ok (.iload_n 1, 1) := by decide +kernel
theorem d_m_stop_20 : decode c_m_stop 20 = .ok (.iaload, 1) := by decide +kernel
theorem d_m_stop_21 : decode c_m_stop 21 = .ok (.iconst 2, 1) := by decide +kernel
theorem d_m_stop_22 : decode c_m_stop 22 = .ok (.if_icmp .ne 7, 3) := by decide +kernel
theorem d_m_stop_25 : decode c_m_stop 25 = .ok (.iconst 2, 1) := by decide +kernel
theorem d_m_stop_26 : decode c_m_stop 26 = .ok (.goto 4, 3) := by decide +kernel
theorem d_m_stop_29 : decode c_m_stop 29 = .ok (.iconst 0, 1) := by decide +kernel
theorem d_m_stop_30 : decode c_m_stop 30 = .ok (.invokevirtual 109, 3) := by decide +kernel
theorem d_m_stop_33 : decode c_m_stop 33 = .ok (.ifCond .eq 11, 3) := by decide +kernel
theorem d_m_stop_36 : decode c_m_stop 36 = .ok (.aload_n 0, 1) := by decide +kernel
theorem d_m_stop_37 : decode c_m_stop 37 = .ok (.iload_n 1, 1) := by decide +kernel
theorem d_m_stop_38 : decode c_m_stop 38 = .ok (.invokevirtual 152, 3) := by decide +kernel
theorem d_m_stop_41 : decode c_m_stop 41 = .ok (.goto 4, 3) := by decide +kernel
theorem d_m_stop_44 : decode c_m_stop 44 = .ok (.iconst 0, 1) := by decide +kernel
theorem d_m_stop_45 : decode c_m_stop 45 = .ok (.ireturn, 1) := by decide +kernel
theorem d_m_stops_0 : decode c_m_stops 0 = .ok (.aload_n 0, 1) := by decide +kernel
theorem d_m_stops_1 : decode c_m_stops 1 = .ok (.getfield 45, 3) := by decide +kernel
theorem d_m_stops_4 : decode c_m_stops 4 = .ok (.iload_n 1, 1) := by decide +kernel
theorem d_m_stops_5 : decode c_m_stops 5 = .ok (.iaload, 1) := by decide +kernel
theorem d_m_stops_6 : decode c_m_stops 6 = .ok (.istore_n 2, 1) := by decide +kernel
theorem d_m_stops_7 : decode c_m_stops 7 = .ok (.aload_n 0, 1) := by decide +kernel
theorem d_m_stops_8 : decode c_m_stops 8 = .ok (.getfield 60, 3) := by decide +kernel
theorem d_m_stops_11 : decode c_m_stops 11 = .ok (.iload_n 1, 1) := by decide +kernel
theorem d_m_stops_12 : decode c_m_stops 12 = .ok (.iconst 2, 1) := by decide +kernel
theorem d_m_stops_13 : decode c_m_stops 13 = .ok (.iastore, 1) := by decide +kernel
theorem d_m_stops_14 : decode c_m_stops 14 = .ok (.aload_n 0, 1) := by decide +kernel
theorem d_m_stops_15 : decode c_m_stops 15 = .ok (.getfield 45, 3) := by decide +kernel
theorem d_m_stops_18 : decode c_m_stops 18 = .ok (.iload_n 1, 1) := by decide +kernel
theorem d_m_stops_19 : decode c_m_stops 19 = .ok (.iconst 0, 1) := by decide +kernel
theorem d_m_stops_20 : decode c_m_stops 20 = .ok (.iastore, 1) := by decide +kernel
theorem d_m_stops_21 : decode c_m_stops 21 = .ok (.aload_n 0, 1) := by decide +kernel
theorem d_m_stops_22 : decode c_m_stops 22 = .ok (.getfield 48, 3) := by decide +kernel
theorem d_m_stops_25 : decode c_m_stops 25 = .ok (.iload_n 1, 1) := by decide +kernel
theorem d_m_stops_26 : decode c_m_stops 26 = .ok (.iconst 0, 1) := by decide +kernel
theorem d_m_stops_27 : decode c_m_stops 27 = .ok (.iastore, 1) := by decide +kernel
theorem d_m_stops_28 : decode c_m_stops 28 = .ok (.aload_n 0, 1) := by decide +kernel
theorem d_m_stops_29 : decode c_m_stops 29 = .ok (.getfield 57, 3) := by decide +kernel
theorem d_m_stops_32 : decode c_m_stops 32 = .ok (.iload_n 1, 1) := by decide +kernel
theorem d_m_stops_33 : decode c_m_stops 33 = .ok (.iconst 0, 1) := by decide +kernel
theorem d_m_stops_34 : decode c_m_stops 34 = .ok (.iastore, 1) := by decide +kernel
theorem d_m_stops_35 : decode c_m_stops 35 = .ok (.aload_n 0, 1) := by decide +kernel
theorem d_m_stops_36 : decode c_m_stops 36 = .ok (.getfield 66, 3) := by decide +kernel
theorem d_m_stops_39 : decode c_m_stops 39 = .ok (.iload_n 1, 1) := by decide +kernel
theorem d_m_stops_40 : decode c_m_stops 40 = .ok (.iconst (-1), 1) := by decide +kernel
theorem d_m_stops_41 : decode c_m_stops 41 = .ok (.iastore, 1) := by decide +kernel
theorem d_m_stops_42 : decode c_m_stops 42 = .ok (.iconst 0, 1) := by decide +kernel
theorem d_m_stops_43 : decode c_m_stops 43 = .ok (.istore_n 3, 1) := by decide +kernel
theorem d_m_stops_44 : decode c_m_stops 44 = .ok (.iload_n 3, 1) := by decide +kernel
theorem d_m_stops_45 : decode c_m_stops 45 = .ok (.bipush 32, 2) := by decide +kernel
theorem d_m_stops_47 : decode c_m_stops 47 = .ok (.if_icmp .ge 35, 3) := by decide +kernel
theorem d_m_stops_50 : decode c_m_stops 50 = .ok (.aload_n 0, 1) := by decide +kernel
theorem d_m_stops_51 : decode c_m_stops 51 = .ok (.getfield 72, 3) := by decide +kernel
theorem d_m_stops_54 : decode c_m_stops 54 = .ok (.iload_n 3, 1) := by decide +kernel
theorem d_m_stops_55 : decode c_m_stops 55 = .ok (.aload_n 0, 1) := by decide +kernel
theorem d_m_stops_56 : decode c_m_stops 56 = .ok (.getfield 72, 3) := by decide +kernel
theorem d_m_stops_59 : decode c_m_stops 59 = .ok (.iload_n 3, 1) := by decide +kernel
theorem d_m_stops_60 : decode c_m_stops 60 = .ok (.iaload, 1) := by decide +kernel
theorem d_m_stops_61 : decode c_m_stops 61 = .ok (.iload_n 1, 1) := by decide +kernel
theorem d_m_stops_62 : decode c_m_stops 62 = .ok (.if_icmp .ne 7, 3) := by decide +kernel
theorem d_m_stops_65 : decode c_m_stops 65 = .ok (.iconst (-1), 1) := by decide +kernel
theorem d_m_stops_66 : decode c_m_stops 66 = .ok (.goto 9, 3) := by decide +kernel
theorem d_m_stops_69 : decode c_m_stops 69 = .ok (.aload_n 0, 1) := by decide +kernel
theorem d_m_stops_70 : decode c_m_stops 70 = .ok (.getfield 72, 3) := by decide +kernel
theorem d_m_stops_73 : decode c_m_stops 73 = .ok (.iload_n 3, 1) := by decide +kernel
theorem d_m_stops_74 : decode c_m_stops 74 = .ok (.iaload, 1) := by decide +kernel
theorem d_m_stops_75 : decode c_m_stops 75 = .ok (.iastore, 1) := by decide +kernel
theorem d_m_stops_76 : decode c_m_stops 76 = .ok (.iinc 3 1, 3) := by decide +kernel
theorem d_m_stops_79 : decode c_m_stops 79 = .ok (.goto (-35), 3) := by decide +kernel
theorem d_m_stops_82 : decode c_m_stops 82 = .ok (.iload_n 2, 1) := by decide +kernel
theorem d_m_stops_83 : decode c_m_stops 83 = .ok (.ireturn, 1) := by decide +kernel
theorem d_m_allocate_0 : decode c_m_allocate 0 = .ok (.aload_n 0, 1) := by decide +kernel
theorem d_m_allocate_1 : decode c_m_allocate 1 = .ok (.iload_n 1, 1) := by decide +kernel
theorem d_m_allocate_2 : decode c_m_allocate 2 = .ok (.invokevirtual 123, 3) := by decide +kernel
theorem d_m_allocate_5 : decode c_m_allocate 5 = .ok (.istore_n 3, 1) := by decide +kernel
theorem d_m_allocate_6 : decode c_m_allocate 6 = .ok (.aload_n 0, 1) := by decide +kernel
theorem d_m_allocate_7 : decode c_m_allocate 7 = .ok (.iload_n 3, 1) := by decide +kernel
theorem d_m_allocate_8 : decode c_m_allocate 8 = .ok (.ifCond .ne 7, 3) := by decide +kernel
theorem d_m_allocate_11 : decode c_m_allocate 11 = .ok (.iconst 1, 1) := by decide +kernel
theorem d_m_allocate_12 : decode c_m_allocate 12 = .ok (.goto 28, 3) := by decide +kernel
theorem d_m_allocate_15 : decode c_m_allocate 15 = .ok (.iload_n 2, 1) := by decide +kernel
theorem d_m_allocate_16 : decode c_m_allocate 16 = .ok (.invokestatic 155, 3) := by decide +kernel
theorem d_m_allocate_19 : decode c_m_allocate 19 = .ok (.ifCond .ne 7, 3) := by decide +kernel
theorem d_m_allocate_22 : decode c_m_allocate 22 = .ok (.iconst 2, 1) := by decide +kernel
theorem d_m_allocate_23 : decode c_m_allocate 23 = .ok (.goto 17, 3) := by decide +kernel
theorem d_m_allocate_26 : decode c_m_allocate 26 = .ok (.aload_n 0, 1) := by decide +kernel
theorem d_m_allocate_27 : decode c_m_allocate 27 = .ok (.getfield 60, 3) := by decide +kernel
theorem d_m_allocate_30 : decode c_m_allocate 30 = .ok (.iload_n 1, 1) := by decide +kernel
theorem d_m_allocate_31 : decode c_m_allocate 31 = .ok (.iaload, 1) := by decide +kernel
theorem d_m_allocate_32 : decode c_m_allocate 32 = .ok (.ifCond .eq 7, 3) := by decide +kernel
theorem d_m_allocate_35 : decode c_m_allocate 35 = .ok (.iconst 3, 1) := by decide +kernel
theorem d_m_allocate_36 : decode c_m_allocate 36 = .ok (.goto 4, 3) := by decide +kernel
theorem d_m_allocate_39 : decode c_m_allocate 39 = .ok (.iconst 0, 1) := by decide +kernel
theorem d_m_allocate_40 : decode c_m_allocate 40 = .ok (.invokevirtual 109, 3) := by decide +kernel
theorem d_m_allocate_43 : decode c_m_allocate 43 = .ok (.ifCond .ne 5, 3) := by decide +kernel
theorem d_m_allocate_46 : decode c_m_allocate 46 = .ok (.iconst 0, 1) := by decide +kernel
theorem d_m_allocate_47 : decode c_m_allocate 47 = .ok (.ireturn, 1) := by decide +kernel
theorem d_m_allocate_48 : decode c_m_allocate 48 = .ok (.aload_n 0, 1) := by decide +kernel
theorem d_m_allocate_49 : decode c_m_allocate 49 = .ok (.aload_n 0, 1) := by decide +kernel
theorem d_m_allocate_50 : decode c_m_allocate 50 = .ok (.getfield 63, 3) := by decide +kernel
theorem d_m_allocate_53 : decode c_m_allocate 53 = .ok (.iload_n 1, 1) := by decide +kernel
theorem d_m_allocate_54 : decode c_m_allocate 54 = .ok (.iaload, 1) := by decide +kernel
theorem d_m_allocate_55 : decode c_m_allocate 55 = .ok (.iload_n 2, 1) := by decide +kernel
theorem d_m_allocate_56 : decode c_m_allocate 56 = .ok (.iconst 0, 1) := by decide +kernel
theorem d_m_allocate_57 : decode c_m_allocate 57 = .ok (.invokevirtual 142, 3) := by decide +kernel
theorem d_m_allocate_60 : decode c_m_allocate 60 = .ok (.istore 4, 2) := by decide +kernel
theorem d_m_allocate_62 : decode c_m_allocate 62 = .ok (.iload 4, 2) := by decide +kernel
theorem d_m_allocate_64 : decode c_m_allocate 64 = .ok (.iconst (-1), 1) := by decide +kernel
theorem d_m_allocate_65 : decode c_m_allocate 65 = .ok (.if_icmp .eq 41, 3) := by decide +kernel
theorem d_m_allocate_68 : decode c_m_allocate 68 = .ok (.aload_n 0, 1) := by decide +kernel
theorem d_m_allocate_69 : decode c_m_allocate 69 = .ok (.getfield 60, 3) := by decide +kernel
theorem d_m_allocate_72 : decode c_m_allocate 72 = .ok (.iload_n 1, 1) := by decide +kernel
theorem d_m_allocate_73 : decode c_m_allocate 73 = .ok (.iaload, 1) := by decide +kernel
theorem d_m_allocate_74 : decode c_m_allocate 74 = .ok (.ifCond .ne 32, 3) := by decide +kernel
theorem d_m_allocate_77 : decode c_m_allocate 77 = .ok (.aload_n 0, 1) := by decide +kernel
theorem d_m_allocate_78 : decode c_m_allocate 78 = .ok (.aload_n 0, 1) := by decide +kernel
theorem d_m_allocate_79 : decode c_m_allocate 79 = .ok (.iload 4, 2) := by decide +kernel
theorem d_m_allocate_81 : decode c_m_allocate 81 = .ok (.invokevirtual 158, 3) := by decide +kernel
theorem d_m_allocate_84 : decode c_m_allocate 84 = .ok (.invokevirtual 152, 3) := by decide +kernel
theorem d_m_allocate_87 : decode c_m_allocate 87 = .ok (.istore 5, 2) := by decide +kernel
theorem d_m_allocate_89 : decode c_m_allocate 89 = .ok (.aload_n 0, 1) := by decide +kernel
theorem d_m_allocate_90 : decode c_m_allocate 90 = .ok (.aload_n 0, 1) := by decide +kernel
theorem d_m_allocate_91 : decode c_m_allocate 91 = .ok (.getfield 63, 3) := by decide +kernel
theorem d_m_allocate_94 : decode c_m_allocate 94 = .ok (.iload_n 1, 1) := by decide +kernel
theorem d_m_allocate_95 : decode c_m_allocate 95 = .ok (.iaload, 1) := by decide +kernel
theorem d_m_allocate_96 : decode c_m_allocate 96 = .ok (.iload_n 2, 1) := by decide +kernel
theorem d_m_allocate_97 : decode c_m_allocate 97 = .ok (.iconst 0, 1) := by decide +kernel
theorem d_m_allocate_98 : decode c_m_allocate 98 = .ok (.invokevirtual 142, 3) := by decide +kernel
theorem d_m_allocate_101 : decode c_m_allocate 101 = .ok (.istore 4, 2) := by decide +kernel
theorem d_m_allocate_103 : decode c_m_allocate 103 = .ok (.goto (-41), 3) := by decide +kernel
theorem d_m_allocate_106 : decode c_m_allocate 106 = .ok (.aload_n 0, 1) := by decide +kernel
theorem d_m_allocate_107 : decode c_m_allocate 107 = .ok (.getfield 60, 3) := by decide +kernel
theorem d_m_allocate_110 : decode c_m_allocate 110 = .ok (.iload_n 1, 1) := by decide +kernel
theorem d_m_allocate_111 : decode c_m_allocate 111 = .ok (.iaload, 1) := by decide +kernel
theorem d_m_allocate_112 : decode c_m_allocate 112 = .ok (.iconst 2, 1) := by decide +kernel
theorem d_m_allocate_113 : decode c_m_allocate 113 = .ok (.if_icmp .ne 5, 3) := by decide +kernel
theorem d_m_allocate_116 : decode c_m_allocate 116 = .ok (.iconst (-1), 1) := by decide +kernel
theorem d_m_allocate_117 : decode c_m_allocate 117 = .ok (.ireturn, 1) := by decide +kernel
theorem d_m_allocate_118 : decode c_m_allocate 118 = .ok (.aload_n 0, 1) := by decide +kernel
theorem d_m_allocate_119 : decode c_m_allocate 119 = .ok (.getfield 45, 3) := by decide +kernel
theorem d_m_allocate_122 : decode c_m_allocate 122 = .ok (.iload_n 1, 1) := by decide +kernel
theorem d_m_allocate_123 : decode c_m_allocate 123 = .ok (.dup2, 1) := by decide +kernel
theorem d_m_allocate_124 : decode c_m_allocate 124 = .ok (.iaload, 1) := by decide +kernel
theorem d_m_allocate_125 : decode c_m_allocate 125 = .ok (.iload_n 2, 1) := by decide +kernel
theorem d_m_allocate_126 : decode c_m_allocate 126 = .ok (.iadd, 1) := by decide +kernel
theorem d_m_allocate_127 : decode c_m_allocate 127 = .ok (.iastore, 1) := by decide +kernel
theorem d_m_allocate_128 : decode c_m_allocate 128 = .ok (.aload_n 0, 1) := by decide +kernel
theorem d_m_allocate_129 : decode c_m_allocate 129 = .ok (.getfield 45, 3) := by decide +kernel
theorem d_m_allocate_132 : decode c_m_allocate 132 = .ok (.iload_n 1, 1) := by decide +kernel
theorem d_m_allocate_133 : decode c_m_allocate 133 = .ok (.iaload, 1) := by decide +kernel
theorem d_m_allocate_134 : decode c_m_allocate 134 = .ok (.ireturn, 1) := by decide +kernel
theorem d_m_areUnits_0 : decode c_m_areUnits 0 = .ok (.iload_n 0, 1) := by decide +kernel
theorem d_m_areUnits_1 : decode c_m_areUnits 1 = .ok (.iconst 1, 1) := by decide +kernel
theorem d_m_areUnits_2 : decode c_m_areUnits 2 = .ok (.if_icmp .lt 14, 3) := by decide +kernel
theorem d_m_areUnits_5 : decode c_m_areUnits 5 = .ok (.iload_n 0, 1) := by decide +kernel
theorem d_m_areUnits_6 : decode c_m_areUnits 6 = .ok (.sipush 5000, 3) := by decide +kernel
theorem d_m_areUnits_9 : decode c_m_areUnits 9 = .ok (.if_icmp .gt 7, 3) := by decide +kernel
theorem d_m_areUnits_12 : decode c_m_areUnits 12 = .ok (.iconst 1, 1) := by decide +kernel
theorem d_m_areUnits_13 : decode c_m_areUnits 13 = .ok (.goto 4, 3) := by decide +kernel
theorem d_m_areUnits_16 : decode c_m_areUnits 16 = .ok (.iconst 0, 1) := by decide +kernel
theorem d_m_areUnits_17 : decode c_m_areUnits 17 = .ok (.ireturn, 1) := by decide +kernel
theorem d_m_greatest_0 : decode c_m_greatest 0 = .ok (.iconst (-1), 1) := by decide +kernel
theorem d_m_greatest_1 : decode c_m_greatest 1 = .ok (.istore_n 2, 1) := by decide +kernel
theorem d_m_greatest_2 : decode c_m_greatest 2 = .ok (.iconst 0, 1) := by decide +kernel
theorem d_m_greatest_3 : decode c_m_greatest 3 = .ok (.istore_n 3, 1) := by decide +kernel
theorem d_m_greatest_4 : decode c_m_greatest 4 = .ok (.iload_n 3, 1) := by decide +kernel
theorem d_m_greatest_5 : decode c_m_greatest 5 = .ok (.aload_n 0, 1) := by decide +kernel
theorem d_m_greatest_6 : decode c_m_greatest 6 = .ok (.getfield 94, 3) := by decide +kernel
theorem d_m_greatest_9 : decode c_m_greatest 9 = .ok (.if_icmp .ge 71, 3) := by decide +kernel
theorem d_m_greatest_12 : decode c_m_greatest 12 = .ok (.aload_n 0, 1) := by decide +kernel
theorem d_m_greatest_13 : decode c_m_greatest 13 = .ok (.getfield 60, 3) := by decide +kernel
theorem d_m_greatest_16 : decode c_m_greatest 16 = .ok (.iload_n 3, 1) := by decide +kernel
theorem d_m_greatest_17 : decode c_m_greatest 17 = .ok (.iaload, 1) := by decide +kernel
theorem d_m_greatest_18 : decode c_m_greatest 18 = .ok (.iconst 2, 1) := by decide +kernel
theorem d_m_greatest_19 : decode c_m_greatest 19 = .ok (.if_icmp .eq 21, 3) := by decide +kernel
theorem d_m_greatest_22 : decode c_m_greatest 22 = .ok (.aload_n 0, 1) := by decide +kernel
theorem d_m_greatest_23 : decode c_m_greatest 23 = .ok (.aload_n 0, 1) := by decide +kernel
theorem d_m_greatest_24 : decode c_m_greatest 24 = .ok (.getfield 63, 3) := by decide +kernel
theorem d_m_greatest_27 : decode c_m_greatest 27 = .ok (.iload_n 3, 1) := by decide +kernel
theorem d_m_greatest_28 : decode c_m_greatest 28 = .ok (.iaload, 1) := by decide +kernel
theorem d_m_greatest_29 : decode c_m_greatest 29 = .ok (.iload_n 1, 1) := by decide +kernel
theorem d_m_greatest_30 : decode c_m_greatest 30 = .ok (.invokevirtual 130, 3) := by decide +kernel
theorem d_m_greatest_33 : decode c_m_greatest 33 = .ok (.ifCond .eq 7, 3) := by decide +kernel
theorem d_m_greatest_36 : decode c_m_greatest 36 = .ok (.iconst 1, 1) := by decide +kernel
theorem d_m_greatest_37 : decode c_m_greatest 37 = .ok (.goto 4, 3) := by decide +kernel
theorem d_m_greatest_40 : decode c_m_greatest 40 = .ok (.iconst 0, 1) := by decide +kernel
theorem d_m_greatest_41 : decode c_m_greatest 41 = .ok (.istore 4, 2) := by decide +kernel
theorem d_m_greatest_43 : decode c_m_greatest 43 = .ok (.iload 4, 2) := by decide +kernel
theorem d_m_greatest_45 : decode c_m_greatest 45 = .ok (.ifCond .eq 27, 3) := by decide +kernel
theorem d_m_greatest_48 : decode c_m_greatest 48 = .ok (.iload_n 2, 1) := by decide +kernel
theorem d_m_greatest_49 : decode c_m_greatest 49 = .ok (.iconst (-1), 1) := by decide +kernel
theorem d_m_greatest_50 : decode c_m_greatest 50 = .ok (.if_icmp .eq 18, 3) := by decide +kernel
theorem d_m_greatest_53 : decode c_m_greatest 53 = .ok (.aload_n 0, 1) := by decide +kernel
theorem d_m_greatest_54 : decode c_m_greatest 54 = .ok (.getfield 45, 3) := by decide +kernel
theorem d_m_greatest_57 : decode c_m_greatest 57 = .ok (.iload_n 3, 1) := by decide +kernel
theorem d_m_greatest_58 : decode c_m_greatest 58 = .ok (.iaload, 1) := by decide +kernel
theorem d_m_greatest_59 : decode c_m_greatest 59 = .ok (.aload_n 0, 1) := by decide +kernel
theorem d_m_greatest_60 : decode c_m_greatest 60 = .ok (.getfield 45, 3) := by decide +kernel
theorem d_m_greatest_63 : decode c_m_greatest 63 = .ok (.iload_n 2, 1) := by decide +kernel
theorem d_m_greatest_64 : decode c_m_greatest 64 = .ok (.iaload, 1) := by decide +kernel
theorem d_m_greatest_65 : decode c_m_greatest 65 = .ok (.if_icmp .lt 7, 3) := by decide +kernel
theorem d_m_greatest_68 : decode c_m_greatest 68 = .ok (.iload_n 3, 1) := by decide +kernel
theorem d_m_greatest_69 : decode c_m_greatest 69 = .ok (.goto 4, 3) := by decide +kernel
theorem d_m_greatest_72 : decode c_m_greatest 72 = .ok (.iload_n 2, 1) := by decide +kernel
theorem d_m_greatest_73 : decode c_m_greatest 73 = .ok (.istore_n 2, 1) := by decide +kernel
theorem d_m_greatest_74 : decode c_m_greatest 74 = .ok (.iinc 3 1, 3) := by decide +kernel
theorem d_m_greatest_77 : decode c_m_greatest 77 = .ok (.goto (-73), 3) := by decide +kernel
theorem d_m_greatest_80 : decode c_m_greatest 80 = .ok (.iload_n 2, 1) := by decide +kernel
theorem d_m_greatest_81 : decode c_m_greatest 81 = .ok (.ireturn, 1) := by decide +kernel
theorem d_m_free_0 : decode c_m_free 0 = .ok (.aload_n 0, 1) := by decide +kernel
theorem d_m_free_1 : decode c_m_free 1 = .ok (.iload_n 1, 1) := by decide +kernel
theorem d_m_free_2 : decode c_m_free 2 = .ok (.invokevirtual 123, 3) := by decide +kernel
theorem d_m_free_5 : decode c_m_free 5 = .ok (.istore_n 3, 1) := by decide +kernel
theorem d_m_free_6 : decode c_m_free 6 = .ok (.aload_n 0, 1) := by decide +kernel
theorem d_m_free_7 : decode c_m_free 7 = .ok (.iload_n 3, 1) := by decide +kernel
theorem d_m_free_8 : decode c_m_free 8 = .ok (.ifCond .ne 7, 3) := by decide +kernel
theorem d_m_free_11 : decode c_m_free 11 = .ok (.iconst 1, 1) := by decide +kernel
theorem d_m_free_12 : decode c_m_free 12 = .ok (.goto 38, 3) := by decide +kernel
theorem d_m_free_15 : decode c_m_free 15 = .ok (.iload_n 2, 1) := by decide +kernel
theorem d_m_free_16 : decode c_m_free 16 = .ok (.invokestatic 155, 3) := by decide +kernel
theorem d_m_free_19 : decode c_m_free 19 = .ok (.ifCond .ne 7, 3) := by decide +kernel
theorem d_m_free_22 : decode c_m_free 22 = .ok (.iconst 2, 1) := by decide +kernel
theorem d_m_free_23 : decode c_m_free 23 = .ok (.goto 27, 3) := by decide +kernel
theorem d_m_free_26 : decode c_m_free 26 = .ok (.aload_n 0, 1) := by decide +kernel
theorem d_m_free_27 : decode c_m_free 27 = .ok (.getfield 60, 3) := by decide +kernel
theorem d_m_free_30 : decode c_m_free 30 = .ok (.iload_n 1, 1) := by decide +kernel
theorem d_m_free_31 : decode c_m_free 31 = .ok (.iaload, 1) := by decide +kernel
theorem d_m_free_32 : decode c_m_free 32 = .ok (.ifCond .ne 13, 3) := by decide +kernel
theorem d_m_free_35 : decode c_m_free 35 = .ok (.aload_n 0, 1) := by decide +kernel
theorem d_m_free_36 : decode c_m_free 36 = .ok (.getfield 45, 3) := by decide +kernel
theorem d_m_free_39 : decode c_m_free 39 = .ok (.iload_n 1, 1) := by decide +kernel
theorem d_m_free_40 : decode c_m_free 40 = .ok (.iaload, 1) := by decide +kernel
theorem d_m_free_41 : decode c_m_free 41 = .ok (.iload_n 2, 1) := by decide +kernel
theorem d_m_free_42 : decode c_m_free 42 = .ok (.if_icmp .ge 7, 3) := by decide +kernel
theorem d_m_free_45 : decode c_m_free 45 = .ok (.iconst 3, 1) := by decide +kernel
theorem d_m_free_46 : decode c_m_free 46 = .ok (.goto 4, 3) := by decide +kernel
theorem d_m_free_49 : decode c_m_free 49 = .ok (.iconst 0, 1) := by decide +kernel
theorem d_m_free_50 : decode c_m_free 50 = .ok (.invokevirtual 109, 3) := by decide +kernel
theorem d_m_free_53 : decode c_m_free 53 = .ok (.ifCond .ne 5, 3) := by decide +kernel
theorem d_m_free_56 : decode c_m_free 56 = .ok (.iconst 0, 1) := by decide +kernel
theorem d_m_free_57 : decode c_m_free 57 = .ok (.ireturn, 1) := by decide +kernel
theorem d_m_free_58 : decode c_m_free 58 = .ok (.aload_n 0, 1) := by decide +kernel
theorem d_m_free_59 : decode c_m_free 59 = .ok (.getfield 45, 3) := by decide +kernel
theorem d_m_free_62 : decode c_m_free 62 = .ok (.iload_n 1, 1) := by decide +kernel
theorem d_m_free_63 : decode c_m_free 63 = .ok (.dup2, 1) := by decide +kernel
theorem d_m_free_64 : decode c_m_free 64 = .ok (.iaload, 1) := by decide +kernel
theorem d_m_free_65 : decode c_m_free 65 = .ok (.iload_n 2, 1) := by decide +kernel
theorem d_m_free_66 : decode c_m_free 66 = .ok (.isub, 1) := by decide +kernel
theorem d_m_free_67 : decode c_m_free 67 = .ok (.iastore, 1) := by decide +kernel
theorem d_m_free_68 : decode c_m_free 68 = .ok (.aload_n 0, 1) := by decide +kernel
theorem d_m_free_69 : decode c_m_free 69 = .ok (.getfield 45, 3) := by decide +kernel
theorem d_m_free_72 : decode c_m_free 72 = .ok (.iload_n 1, 1) := by decide +kernel
theorem d_m_free_73 : decode c_m_free 73 = .ok (.iaload, 1) := by decide +kernel
theorem d_m_free_74 : decode c_m_free 74 = .ok (.ireturn, 1) := by decide +kernel
theorem d_m_fork_0 : decode c_m_fork 0 = .ok (.aload_n 0, 1) := by decide +kernel
theorem d_m_fork_1 : decode c_m_fork 1 = .ok (.iload_n 1, 1) := by decide +kernel
theorem d_m_fork_2 : decode c_m_fork 2 = .ok (.invokevirtual 123, 3) := by decide +kernel
theorem d_m_fork_5 : decode c_m_fork 5 = .ok (.istore_n 2, 1) := by decide +kernel
theorem d_m_fork_6 : decode c_m_fork 6 = .ok (.aload_n 0, 1) := by decide +kernel
theorem d_m_fork_7 : decode c_m_fork 7 = .ok (.iload_n 2, 1) := by decide +kernel
theorem d_m_fork_8 : decode c_m_fork 8 = .ok (.ifCond .ne 7, 3) := by decide +kernel
theorem d_m_fork_11 : decode c_m_fork 11 = .ok (.iconst 1, 1) := by decide +kernel
theorem d_m_fork_12 : decode c_m_fork 12 = .ok (.goto 33, 3) := by decide +kernel
theorem d_m_fork_15 : decode c_m_fork 15 = .ok (.aload_n 0, 1) := by decide +kernel
theorem d_m_fork_16 : decode c_m_fork 16 = .ok (.getfield 60, 3) := by decide +kernel
theorem d_m_fork_19 : decode c_m_fork 19 = .ok (.iload_n 1, 1) := by decide +kernel
theorem d_m_fork_20 : decode c_m_fork 20 = .ok (.iaload, 1) := by decide +kernel
theorem d_m_fork_21 : decode c_m_fork 21 = .ok (.ifCond .ne 19, 3) := by decide +kernel
theorem d_m_fork_24 : decode c_m_fork 24 = .ok (.aload_n 0, 1) := by decide +kernel
theorem d_m_fork_25 : decode c_m_fork 25 = .ok (.aload_n 0, 1) := by decide +kernel
theorem d_m_fork_26 : decode c_m_fork 26 = .ok (.getfield 63, 3) := by decide +kernel
theorem d_m_fork_29 : decode c_m_fork 29 = .ok (.iload_n 1, 1) := by decide +kernel
theorem d_m_fork_30 : decode c_m_fork 30 = .ok (.iaload, 1) := by decide +kernel
theorem d_m_fork_31 : decode c_m_fork 31 = .ok (.iconst 0, 1) := by decide +kernel
theorem d_m_fork_32 : decode c_m_fork 32 = .ok (.iconst 1, 1) := by decide +kernel
theorem d_m_fork_33 : decode c_m_fork 33 = .ok (.invokevirtual 142, 3) := by decide +kernel
theorem d_m_fork_36 : decode c_m_fork 36 = .ok (.iconst (-1), 1) := by decide +kernel
theorem d_m_fork_37 : decode c_m_fork 37 = .ok (.if_icmp .eq 7, 3) := by decide +kernel
theorem d_m_fork_40 : decode c_m_fork 40 = .ok (.iconst 2, 1) := by decide +kernel
theorem d_m_fork_41 : decode c_m_fork 41 = .ok (.goto 4, 3) := by decide +kernel
theorem d_m_fork_44 : decode c_m_fork 44 = .ok (.iconst 0, 1) := by decide +kernel
theorem d_m_fork_45 : decode c_m_fork 45 = .ok (.invokevirtual 109, 3) := by decide +kernel
theorem d_m_fork_48 : decode c_m_fork 48 = .ok (.ifCond .ne 5, 3) := by decide +kernel
theorem d_m_fork_51 : decode c_m_fork 51 = .ok (.iconst 0, 1) := by decide +kernel
theorem d_m_fork_52 : decode c_m_fork 52 = .ok (.ireturn, 1) := by decide +kernel
theorem d_m_fork_53 : decode c_m_fork 53 = .ok (.aload_n 0, 1) := by decide +kernel
theorem d_m_fork_54 : decode c_m_fork 54 = .ok (.getfield 48, 3) := by decide +kernel
theorem d_m_fork_57 : decode c_m_fork 57 = .ok (.iload_n 1, 1) := by decide +kernel
theorem d_m_fork_58 : decode c_m_fork 58 = .ok (.dup2, 1) := by decide +kernel
theorem d_m_fork_59 : decode c_m_fork 59 = .ok (.iaload, 1) := by decide +kernel
theorem d_m_fork_60 : decode c_m_fork 60 = .ok (.iconst 1, 1) := by decide +kernel
theorem d_m_fork_61 : decode c_m_fork 61 = .ok (.iadd, 1) := by decide +kernel
theorem d_m_fork_62 : decode c_m_fork 62 = .ok (.iastore, 1) := by decide +kernel
theorem d_m_fork_63 : decode c_m_fork 63 = .ok (.aload_n 0, 1) := by decide +kernel
theorem d_m_fork_64 : decode c_m_fork 64 = .ok (.getfield 48, 3) := by decide +kernel
theorem d_m_fork_67 : decode c_m_fork 67 = .ok (.iload_n 1, 1) := by decide +kernel
theorem d_m_fork_68 : decode c_m_fork 68 = .ok (.iaload, 1) := by decide +kernel
theorem d_m_fork_69 : decode c_m_fork 69 = .ok (.ireturn, 1) := by decide +kernel
theorem d_m_exit_0 : decode c_m_exit 0 = .ok (.aload_n 0, 1) := by decide +kernel
theorem d_m_exit_1 : decode c_m_exit 1 = .ok (.iload_n 1, 1) := by decide +kernel
theorem d_m_exit_2 : decode c_m_exit 2 = .ok (.iconst 0, 1) := by decide +kernel
theorem d_m_exit_3 : decode c_m_exit 3 = .ok (.invokevirtual 149, 3) := by decide +kernel
theorem d_m_exit_6 : decode c_m_exit 6 = .ok (.ifCond .ne 5, 3) := by decide +kernel
theorem d_m_exit_9 : decode c_m_exit 9 = .ok (.iconst 0, 1) := by decide +kernel
theorem d_m_exit_10 : decode c_m_exit 10 = .ok (.ireturn, 1) := by decide +kernel
theorem d_m_exit_11 : decode c_m_exit 11 = .ok (.aload_n 0, 1) := by decide +kernel
theorem d_m_exit_12 : decode c_m_exit 12 = .ok (.getfield 48, 3) := by decide +kernel
theorem d_m_exit_15 : decode c_m_exit 15 = .ok (.iload_n 1, 1) := by decide +kernel
theorem d_m_exit_16 : decode c_m_exit 16 = .ok (.dup2, 1) := by decide +kernel
theorem d_m_exit_17 : decode c_m_exit 17 = .ok (.iaload, 1) := by decide +kernel
theorem d_m_exit_18 : decode c_m_exit 18 = .ok (.iconst 1, 1) := by decide +kernel
theorem d_m_exit_19 : decode c_m_exit 19 = .ok (.isub, 1) := by decide +kernel
theorem d_m_exit_20 : decode c_m_exit 20 = .ok (.iastore, 1) := by decide +kernel
theorem d_m_exit_21 : decode c_m_exit 21 = .ok (.aload_n 0, 1) := by decide +kernel
theorem d_m_exit_22 : decode c_m_exit 22 = .ok (.getfield 48, 3) := by decide +kernel
theorem d_m_exit_25 : decode c_m_exit 25 = .ok (.iload_n 1, 1) := by decide +kernel
theorem d_m_exit_26 : decode c_m_exit 26 = .ok (.iaload, 1) := by decide +kernel
theorem d_m_exit_27 : decode c_m_exit 27 = .ok (.ifCond .ne 9, 3) := by decide +kernel
theorem d_m_exit_30 : decode c_m_exit 30 = .ok (.aload_n 0, 1) := by decide +kernel
theorem d_m_exit_31 : decode c_m_exit 31 = .ok (.iload_n 1, 1) := by decide +kernel
theorem d_m_exit_32 : decode c_m_exit 32 = .ok (.invokevirtual 152, 3) := by decide +kernel
theorem d_m_exit_35 : decode c_m_exit 35 = .ok (.istore_n 2, 1) := by decide +kernel
theorem d_m_exit_36 : decode c_m_exit 36 = .ok (.aload_n 0, 1) := by decide +kernel
theorem d_m_exit_37 : decode c_m_exit 37 = .ok (.getfield 48, 3) := by decide +kernel
theorem d_m_exit_40 : decode c_m_exit 40 = .ok (.iload_n 1, 1) := by decide +kernel
theorem d_m_exit_41 : decode c_m_exit 41 = .ok (.iaload, 1) := by decide +kernel
theorem d_m_exit_42 : decode c_m_exit 42 = .ok (.ireturn, 1) := by decide +kernel
theorem d_m_schedule_0 : decode c_m_schedule 0 = .ok (.aload_n 0, 1) := by decide +kernel
theorem d_m_schedule_1 : decode c_m_schedule 1 = .ok (.iload_n 1, 1) := by decide +kernel
theorem d_m_schedule_2 : decode c_m_schedule 2 = .ok (.iconst 1, 1) := by decide +kernel
theorem d_m_schedule_3 : decode c_m_schedule 3 = .ok (.if_icmp .lt 14, 3) := by decide +kernel
theorem d_m_schedule_6 : decode c_m_schedule 6 = .ok (.iload_n 1, 1) := by decide +kernel
theorem d_m_schedule_7 : decode c_m_schedule 7 = .ok (.sipush 10000, 3) := by decide +kernel
theorem d_m_schedule_10 : decode c_m_schedule 10 = .ok (.if_icmp .gt 7, 3) := by decide +kernel
theorem d_m_schedule_13 : decode c_m_schedule 13 = .ok (.iconst 0, 1) := by decide +kernel
theorem d_m_schedule_14 : decode c_m_schedule 14 = .ok (.goto 4, 3) := by decide +kernel
theorem d_m_schedule_17 : decode c_m_schedule 17 = .ok (.iconst 1, 1) := by decide +kernel
theorem d_m_schedule_18 : decode c_m_schedule 18 = .ok (.invokevirtual 109, 3) := by decide +kernel
theorem d_m_schedule_21 : decode c_m_schedule 21 = .ok (.ifCond .ne 5, 3) := by decide +kernel
theorem d_m_schedule_24 : decode c_m_schedule 24 = .ok (.iconst 0, 1) := by decide +kernel
theorem d_m_schedule_25 : decode c_m_schedule 25 = .ok (.ireturn, 1) := by decide +kernel
theorem d_m_schedule_26 : decode c_m_schedule 26 = .ok (.iconst 0, 1) := by decide +kernel
theorem d_m_schedule_27 : decode c_m_schedule 27 = .ok (.istore_n 2, 1) := by decide +kernel
theorem d_m_schedule_28 : decode c_m_schedule 28 = .ok (.iload_n 2, 1) := by decide +kernel
theorem d_m_schedule_29 : decode c_m_schedule 29 = .ok (.bipush 8, 2) := by decide +kernel
theorem d_m_schedule_31 : decode c_m_schedule 31 = .ok (.if_icmp .ge 24, 3) := by decide +kernel
theorem d_m_schedule_34 : decode c_m_schedule 34 = .ok (.aload_n 0, 1) := by decide +kernel
theorem d_m_schedule_35 : decode c_m_schedule 35 = .ok (.getfield 78, 3) := by decide +kernel
theorem d_m_schedule_38 : decode c_m_schedule 38 = .ok (.iload_n 2, 1) := by decide +kernel
theorem d_m_schedule_39 : decode c_m_schedule 39 = .ok (.iload_n 2, 1) := by decide +kernel
theorem d_m_schedule_40 : decode c_m_schedule 40 = .ok (.ifCond .ne 7, 3) := by decide +kernel
theorem d_m_schedule_43 : decode c_m_schedule 43 = .ok (.iload_n 1, 1) := by decide +kernel
theorem d_m_schedule_44 : decode c_m_schedule 44 = .ok (.goto 4, 3) := by decide +kernel
theorem d_m_schedule_47 : decode c_m_schedule 47 = .ok (.iconst 0, 1) := by decide +kernel
theorem d_m_schedule_48 : decode c_m_schedule 48 = .ok (.iastore, 1) := by decide +kernel
theorem d_m_schedule_49 : decode c_m_schedule 49 = .ok (.iinc 2 1, 3) := by decide +kernel
theorem d_m_schedule_52 : decode c_m_schedule 52 = .ok (.goto (-24), 3) := by decide +kernel
theorem d_m_schedule_55 : decode c_m_schedule 55 = .ok (.iconst 0, 1) := by decide +kernel
theorem d_m_schedule_56 : decode c_m_schedule 56 = .ok (.istore_n 2, 1) := by decide +kernel
theorem d_m_schedule_57 : decode c_m_schedule 57 = .ok (.iconst 0, 1) := by decide +kernel
theorem d_m_schedule_58 : decode c_m_schedule 58 = .ok (.istore_n 3, 1) := by decide +kernel
theorem d_m_schedule_59 : decode c_m_schedule 59 = .ok (.iload_n 3, 1) := by decide +kernel
theorem d_m_schedule_60 : decode c_m_schedule 60 = .ok (.aload_n 0, 1) := by decide +kernel
theorem d_m_schedule_61 : decode c_m_schedule 61 = .ok (.getfield 23, 3) := by decide +kernel
theorem d_m_schedule_64 : decode c_m_schedule 64 = .ok (.if_icmp .ge 17, 3) := by decide +kernel
theorem d_m_schedule_67 : decode c_m_schedule 67 = .ok (.iload_n 2, 1) := by decide +kernel
theorem d_m_schedule_68 : decode c_m_schedule 68 = .ok (.aload_n 0, 1) := by decide +kernel
theorem d_m_schedule_69 : decode c_m_schedule 69 = .ok (.iload_n 3, 1) := by decide +kernel
theorem d_m_schedule_70 : decode c_m_schedule 70 = .ok (.invokevirtual 170, 3) := by decide +kernel
theorem d_m_schedule_73 : decode c_m_schedule 73 = .ok (.iadd, 1) := by decide +kernel
theorem d_m_schedule_74 : decode c_m_schedule 74 = .ok (.istore_n 2, 1) := by decide +kernel
theorem d_m_schedule_75 : decode c_m_schedule 75 = .ok (.iinc 3 1, 3) := by decide +kernel
theorem d_m_schedule_78 : decode c_m_schedule 78 = .ok (.goto (-19), 3) := by decide +kernel
theorem d_m_schedule_81 : decode c_m_schedule 81 = .ok (.iload_n 2, 1) := by decide +kernel
theorem d_m_schedule_82 : decode c_m_schedule 82 = .ok (.ireturn, 1) := by decide +kernel
theorem d_m_sharesOut_0 : decode c_m_sharesOut 0 = .ok (.iconst 0, 1) := by decide +kernel
theorem d_m_sharesOut_1 : decode c_m_sharesOut 1 = .ok (.istore_n 2, 1) := by decide +kernel
theorem d_m_sharesOut_2 : decode c_m_sharesOut 2 = .ok (.iconst 0, 1) := by decide +kernel
theorem d_m_sharesOut_3 : decode c_m_sharesOut 3 = .ok (.istore_n 3, 1) := by decide +kernel
theorem d_m_sharesOut_4 : decode c_m_sharesOut 4 = .ok (.iload_n 3, 1) := by decide +kernel
theorem d_m_sharesOut_5 : decode c_m_sharesOut 5 = .ok (.bipush 28, 2) := by decide +kernel
theorem d_m_sharesOut_7 : decode c_m_sharesOut 7 = .ok (.if_icmp .ge 30, 3) := by decide +kernel
theorem d_m_sharesOut_10 : decode c_m_sharesOut 10 = .ok (.iload_n 2, 1) := by decide +kernel
theorem d_m_sharesOut_11 : decode c_m_sharesOut 11 = .ok (.aload_n 0, 1) := by decide +kernel
theorem d_m_sharesOut_12 : decode c_m_sharesOut 12 = .ok (.iload_n 3, 1) := by decide +kernel
theorem d_m_sharesOut_13 : decode c_m_sharesOut 13 = .ok (.iload_n 1, 1) := by decide +kernel
theorem d_m_sharesOut_14 : decode c_m_sharesOut 14 = .ok (.invokevirtual 161, 3) := by decide +kernel
theorem d_m_sharesOut_17 : decode c_m_sharesOut 17 = .ok (.ifCond .eq 11, 3) := by decide +kernel
theorem d_m_sharesOut_20 : decode c_m_sharesOut 20 = .ok (.aload_n 0, 1) := by decide +kernel
theorem d_m_sharesOut_21 : decode c_m_sharesOut 21 = .ok (.iload_n 3, 1) := by decide +kernel
theorem d_m_sharesOut_22 : decode c_m_sharesOut 22 = .ok (.invokevirtual 164, 3) := by decide +kernel
theorem d_m_sharesOut_25 : decode c_m_sharesOut 25 = .ok (.goto 4, 3) := by decide +kernel
theorem d_m_sharesOut_28 : decode c_m_sharesOut 28 = .ok (.iconst 0, 1) := by decide +kernel
theorem d_m_sharesOut_29 : decode c_m_sharesOut 29 = .ok (.iadd, 1) := by decide +kernel
theorem d_m_sharesOut_30 : decode c_m_sharesOut 30 = .ok (.istore_n 2, 1) := by decide +kernel
theorem d_m_sharesOut_31 : decode c_m_sharesOut 31 = .ok (.iinc 3 1, 3) := by decide +kernel
theorem d_m_sharesOut_34 : decode c_m_sharesOut 34 = .ok (.goto (-30), 3) := by decide +kernel
theorem d_m_sharesOut_37 : decode c_m_sharesOut 37 = .ok (.iload_n 2, 1) := by decide +kernel
theorem d_m_sharesOut_38 : decode c_m_sharesOut 38 = .ok (.ifCond .ne 7, 3) := by decide +kernel
theorem d_m_sharesOut_41 : decode c_m_sharesOut 41 = .ok (.iconst 0, 1) := by decide +kernel
theorem d_m_sharesOut_42 : decode c_m_sharesOut 42 = .ok (.goto 9, 3) := by decide +kernel
theorem d_m_sharesOut_45 : decode c_m_sharesOut 45 = .ok (.aload_n 0, 1) := by decide +kernel
theorem d_m_sharesOut_46 : decode c_m_sharesOut 46 = .ok (.getfield 78, 3) := by decide +kernel
theorem d_m_sharesOut_49 : decode c_m_sharesOut 49 = .ok (.iload_n 1, 1) := by decide +kernel
theorem d_m_sharesOut_50 : decode c_m_sharesOut 50 = .ok (.iaload, 1) := by decide +kernel
theorem d_m_sharesOut_51 : decode c_m_sharesOut 51 = .ok (.istore_n 3, 1) := by decide +kernel
theorem d_m_sharesOut_52 : decode c_m_sharesOut 52 = .ok (.iconst 0, 1) := by decide +kernel
theorem d_m_sharesOut_53 : decode c_m_sharesOut 53 = .ok (.istore 4, 2) := by decide +kernel
theorem d_m_sharesOut_55 : decode c_m_sharesOut 55 = .ok (.iconst 0, 1) := by decide +kernel
theorem d_m_sharesOut_56 : decode c_m_sharesOut 56 = .ok (.istore 5, 2) := by decide +kernel
theorem d_m_sharesOut_58 : decode c_m_sharesOut 58 = .ok (.iload 5, 2) := by decide +kernel
theorem d_m_sharesOut_60 : decode c_m_sharesOut 60 = .ok (.bipush 28, 2) := by decide +kernel
theorem d_m_sharesOut_62 : decode c_m_sharesOut 62 = .ok (.if_icmp .ge 97, 3) := by decide +kernel
theorem d_m_sharesOut_65 : decode c_m_sharesOut 65 = .ok (.aload_n 0, 1) := by decide +kernel
theorem d_m_sharesOut_66 : decode c_m_sharesOut 66 = .ok (.getfield 81, 3) := by decide +kernel
theorem d_m_sharesOut_69 : decode c_m_sharesOut 69 = .ok (.iload 5, 2) := by decide +kernel
theorem d_m_sharesOut_71 : decode c_m_sharesOut 71 = .ok (.iconst (-1), 1) := by decide +kernel
theorem d_m_sharesOut_72 : decode c_m_sharesOut 72 = .ok (.iastore, 1) := by decide +kernel
theorem d_m_sharesOut_73 : decode c_m_sharesOut 73 = .ok (.aload_n 0, 1) := by decide +kernel
theorem d_m_sharesOut_74 : decode c_m_sharesOut 74 = .ok (.iload 5, 2) := by decide +kernel
theorem d_m_sharesOut_76 : decode c_m_sharesOut 76 = .ok (.iload_n 1, 1) := by decide +kernel
theorem d_m_sharesOut_77 : decode c_m_sharesOut 77 = .ok (.invokevirtual 161, 3) := by decide +kernel
theorem d_m_sharesOut_80 : decode c_m_sharesOut 80 = .ok (.ifCond .eq 73, 3) := by decide +kernel
theorem d_m_sharesOut_83 : decode c_m_sharesOut 83 = .ok (.aload_n 0, 1) := by decide +kernel
theorem d_m_sharesOut_84 : decode c_m_sharesOut 84 = .ok (.getfield 78, 3) := by decide +kernel
theorem d_m_sharesOut_87 : decode c_m_sharesOut 87 = .ok (.iload_n 1, 1) := by decide +kernel
theorem d_m_sharesOut_88 : decode c_m_sharesOut 88 = .ok (.iaload, 1) := by decide +kernel
theorem d_m_sharesOut_89 : decode c_m_sharesOut 89 = .ok (.aload_n 0, 1) := by decide +kernel
theorem d_m_sharesOut_90 : decode c_m_sharesOut 90 = .ok (.iload 5, 2) := by decide +kernel
theorem d_m_sharesOut_92 : decode c_m_sharesOut 92 = .ok (.invokevirtual 164, 3) := by decide +kernel
theorem d_m_sharesOut_95 : decode c_m_sharesOut 95 = .ok (.imul, 1) := by decide +kernel
theorem d_m_sharesOut_96 : decode c_m_sharesOut 96 = .ok (.iload_n 2, 1) := by decide +kernel
theorem d_m_sharesOut_97 : decode c_m_sharesOut 97 = .ok (.idiv, 1) := by decide +kernel
theorem d_m_sharesOut_98 : decode c_m_sharesOut 98 = .ok (.istore 6, 2) := by decide +kernel
theorem d_m_sharesOut_100 : decode c_m_sharesOut 100 = .ok (.aload_n 0, 1) := by decide +kernel
theorem d_m_sharesOut_101 : decode c_m_sharesOut 101 = .ok (.getfield 81, 3) := by decide +kernel
theorem d_m_sharesOut_104 : decode c_m_sharesOut 104 = .ok (.iload 5, 2) := by decide +kernel
theorem d_m_sharesOut_106 : decode c_m_sharesOut 106 = .ok (.aload_n 0, 1) := by decide +kernel
theorem d_m_sharesOut_107 : decode c_m_sharesOut 107 = .ok (.getfield 78, 3) := by decide +kernel
theorem d_m_sharesOut_110 : decode c_m_sharesOut 110 = .ok (.iload_n 1, 1) := by decide +kernel
theorem d_m_sharesOut_111 : decode c_m_sharesOut 111 = .ok (.iaload, 1) := by decide +kernel
theorem d_m_sharesOut_112 : decode c_m_sharesOut 112 = .ok (.aload_n 0, 1) := by decide +kernel
theorem d_m_sharesOut_113 : decode c_m_sharesOut 113 = .ok (.iload 5, 2) := by decide +kernel
theorem d_m_sharesOut_115 : decode c_m_sharesOut 115 = .ok (.invokevirtual 164, 3) := by decide +kernel
theorem d_m_sharesOut_118 : decode c_m_sharesOut 118 = .ok (.imul, 1) := by decide +kernel
theorem d_m_sharesOut_119 : decode c_m_sharesOut 119 = .ok (.iload_n 2, 1) := by decide +kernel
theorem d_m_sharesOut_120 : decode c_m_sharesOut 120 = .ok (.irem, 1) := by decide +kernel
theorem d_m_sharesOut_121 : decode c_m_sharesOut 121 = .ok (.iastore, 1) := by decide +kernel
theorem d_m_sharesOut_122 : decode c_m_sharesOut 122 = .ok (.aload_n 0, 1) := by decide +kernel
theorem d_m_sharesOut_123 : decode c_m_sharesOut 123 = .ok (.iload 5, 2) := by decide +kernel
theorem d_m_sharesOut_125 : decode c_m_sharesOut 125 = .ok (.iload 6, 2) := by decide +kernel
theorem d_m_sharesOut_127 : decode c_m_sharesOut 127 = .ok (.invokevirtual 167, 3) := by decide +kernel
theorem d_m_sharesOut_130 : decode c_m_sharesOut 130 = .ok (.iload 4, 2) := by decide +kernel
theorem d_m_sharesOut_132 : decode c_m_sharesOut 132 = .ok (.iload 5, 2) := by decide +kernel
theorem d_m_sharesOut_134 : decode c_m_sharesOut 134 = .ok (.bipush 8, 2) := by decide +kernel
theorem d_m_sharesOut_136 : decode c_m_sharesOut 136 = .ok (.if_icmp .ge 7, 3) := by decide +kernel
theorem d_m_sharesOut_139 : decode c_m_sharesOut 139 = .ok (.iconst 0, 1) := by decide +kernel
theorem d_m_sharesOut_140 : decode c_m_sharesOut 140 = .ok (.goto 5, 3) := by decide +kernel
theorem d_m_sharesOut_143 : decode c_m_sharesOut 143 = .ok (.iload 6, 2) := by decide +kernel
theorem d_m_sharesOut_145 : decode c_m_sharesOut 145 = .ok (.iadd, 1) := by decide +kernel
theorem d_m_sharesOut_146 : decode c_m_sharesOut 146 = .ok (.istore 4, 2) := by decide +kernel
theorem d_m_sharesOut_148 : decode c_m_sharesOut 148 = .ok (.iload_n 3, 1) := by decide +kernel
theorem d_m_sharesOut_149 : decode c_m_sharesOut 149 = .ok (.iload 6, 2) := by decide +kernel
theorem d_m_sharesOut_151 : decode c_m_sharesOut 151 = .ok (.isub, 1) := by decide +kernel
theorem d_m_sharesOut_152 : decode c_m_sharesOut 152 = .ok (.istore_n 3, 1) := by decide +kernel
theorem d_m_sharesOut_153 : decode c_m_sharesOut 153 = .ok (.iinc 5 1, 3) := by decide +kernel
theorem d_m_sharesOut_156 : decode c_m_sharesOut 156 = .ok (.goto (-98), 3) := by decide +kernel
theorem d_m_sharesOut_159 : decode c_m_sharesOut 159 = .ok (.iload_n 3, 1) := by decide +kernel
theorem d_m_sharesOut_160 : decode c_m_sharesOut 160 = .ok (.ifCond .le 86, 3) := by decide +kernel
theorem d_m_sharesOut_163 : decode c_m_sharesOut 163 = .ok (.iconst 0, 1) := by decide +kernel
theorem d_m_sharesOut_164 : decode c_m_sharesOut 164 = .ok (.istore 5, 2) := by decide +kernel
theorem d_m_sharesOut_166 : decode c_m_sharesOut 166 = .ok (.iconst 1, 1) := by decide +kernel
theorem d_m_sharesOut_167 : decode c_m_sharesOut 167 = .ok (.istore 6, 2) := by decide +kernel
theorem d_m_sharesOut_169 : decode c_m_sharesOut 169 = .ok (.iload 6, 2) := by decide +kernel
theorem d_m_sharesOut_171 : decode c_m_sharesOut 171 = .ok (.bipush 28, 2) := by decide +kernel
theorem d_m_sharesOut_173 : decode c_m_sharesOut 173 = .ok (.if_icmp .ge 35, 3) := by decide +kernel
theorem d_m_sharesOut_176 : decode c_m_sharesOut 176 = .ok (.aload_n 0, 1) := by decide +kernel
theorem d_m_sharesOut_177 : decode c_m_sharesOut 177 = .ok (.getfield 81, 3) := by decide +kernel
theorem d_m_sharesOut_180 : decode c_m_sharesOut 180 = .ok (.iload 6, 2) := by decide +kernel
theorem d_m_sharesOut_182 : decode c_m_sharesOut 182 = .ok (.iaload, 1) := by decide +kernel
theorem d_m_sharesOut_183 : decode c_m_sharesOut 183 = .ok (.aload_n 0, 1) := by decide +kernel
theorem d_m_sharesOut_184 : decode c_m_sharesOut 184 = .ok (.getfield 81, 3) := by decide +kernel
theorem d_m_sharesOut_187 : decode c_m_sharesOut 187 = .ok (.iload 5, 2) := by decide +kernel
theorem d_m_sharesOut_189 : decode c_m_sharesOut 189 = .ok (.iaload, 1) := by decide +kernel
theorem d_m_sharesOut_190 : decode c_m_sharesOut 190 = .ok (.if_icmp .le 8, 3) := by decide +kernel
theorem d_m_sharesOut_193 : decode c_m_sharesOut 193 = .ok (.iload 6, 2) := by decide +kernel
theorem d_m_sharesOut_195 : decode c_m_sharesOut 195 = .ok (.goto 5, 3) := by decide +kernel
theorem d_m_sharesOut_198 : decode c_m_sharesOut 198 = .ok (.iload 5, 2) := by decide +kernel
theorem d_m_sharesOut_200 : decode c_m_sharesOut 200 = .ok (.istore 5, 2) := by decide +kernel
theorem d_m_sharesOut_202 : decode c_m_sharesOut 202 = .ok (.iinc 6 1, 3) := by decide +kernel
theorem d_m_sharesOut_205 : decode c_m_sharesOut 205 = .ok (.goto (-36), 3) := by decide +kernel
theorem d_m_sharesOut_208 : decode c_m_sharesOut 208 = .ok (.aload_n 0, 1) := by decide +kernel
theorem d_m_sharesOut_209 : decode c_m_sharesOut 209 = .ok (.getfield 81, 3) := by decide +kernel
theorem d_m_sharesOut_212 : decode c_m_sharesOut 212 = .ok (.iload 5, 2) := by decide +kernel
theorem d_m_sharesOut_214 : decode c_m_sharesOut 214 = .ok (.iconst (-1), 1) := by decide +kernel
theorem d_m_sharesOut_215 : decode c_m_sharesOut 215 = .ok (.iastore, 1) := by decide +kernel
theorem d_m_sharesOut_216 : decode c_m_sharesOut 216 = .ok (.aload_n 0, 1) := by decide +kernel
theorem d_m_sharesOut_217 : decode c_m_sharesOut 217 = .ok (.iload 5, 2) := by decide +kernel
theorem d_m_sharesOut_219 : decode c_m_sharesOut 219 = .ok (.iconst 1, 1) := by decide +kernel
theorem d_m_sharesOut_220 : decode c_m_sharesOut 220 = .ok (.invokevirtual 167, 3) := by decide +kernel
theorem d_m_sharesOut_223 : decode c_m_sharesOut 223 = .ok (.iload 4, 2) := by decide +kernel
theorem d_m_sharesOut_225 : decode c_m_sharesOut 225 = .ok (.iload 5, 2) := by decide +kernel
theorem d_m_sharesOut_227 : decode c_m_sharesOut 227 = .ok (.bipush 8, 2) := by decide +kernel
theorem d_m_sharesOut_229 : decode c_m_sharesOut 229 = .ok (.if_icmp .ge 7, 3) := by decide +kernel
theorem d_m_sharesOut_232 : decode c_m_sharesOut 232 = .ok (.iconst 0, 1) := by decide +kernel
theorem d_m_sharesOut_233 : decode c_m_sharesOut 233 = .ok (.goto 4, 3) := by decide +kernel
theorem d_m_sharesOut_236 : decode c_m_sharesOut 236 = .ok (.iconst 1, 1) := by decide +kernel
theorem d_m_sharesOut_237 : decode c_m_sharesOut 237 = .ok (.iadd, 1) := by decide +kernel
theorem d_m_sharesOut_238 : decode c_m_sharesOut 238 = .ok (.istore 4, 2) := by decide +kernel
theorem d_m_sharesOut_240 : decode c_m_sharesOut 240 = .ok (.iinc 3 (-1), 3) := by decide +kernel
theorem d_m_sharesOut_243 : decode c_m_sharesOut 243 = .ok (.goto (-84), 3) := by decide +kernel
theorem d_m_sharesOut_246 : decode c_m_sharesOut 246 = .ok (.iload 4, 2) := by decide +kernel
theorem d_m_sharesOut_248 : decode c_m_sharesOut 248 = .ok (.ireturn, 1) := by decide +kernel
theorem d_m_isPart_0 : decode c_m_isPart 0 = .ok (.iload_n 1, 1) := by decide +kernel
theorem d_m_isPart_1 : decode c_m_isPart 1 = .ok (.bipush 8, 2) := by decide +kernel
theorem d_m_isPart_3 : decode c_m_isPart 3 = .ok (.if_icmp .lt 45, 3) := by decide +kernel
theorem d_m_isPart_6 : decode c_m_isPart 6 = .ok (.iload_n 1, 1) := by decide +kernel
theorem d_m_isPart_7 : decode c_m_isPart 7 = .ok (.bipush 8, 2) := by decide +kernel
theorem d_m_isPart_9 : decode c_m_isPart 9 = .ok (.isub, 1) := by decide +kernel
theorem d_m_isPart_10 : decode c_m_isPart 10 = .ok (.aload_n 0, 1) := by decide +kernel
theorem d_m_isPart_11 : decode c_m_isPart 11 = .ok (.getfield 94, 3) := by decide +kernel
theorem d_m_isPart_14 : decode c_m_isPart 14 = .ok (.if_icmp .ge 32, 3) := by decide +kernel
theorem d_m_isPart_17 : decode c_m_isPart 17 = .ok (.aload_n 0, 1) := by decide +kernel
theorem d_m_isPart_18 : decode c_m_isPart 18 = .ok (.getfield 60, 3) := by decide +kernel
theorem d_m_isPart_21 : decode c_m_isPart 21 = .ok (.iload_n 1, 1) := by decide +kernel
theorem d_m_isPart_22 : decode c_m_isPart 22 = .ok (.bipush 8, 2) := by decide +kernel
theorem d_m_isPart_24 : decode c_m_isPart 24 = .ok (.isub, 1) := by decide +kernel
theorem d_m_isPart_25 : decode c_m_isPart 25 = .ok (.iaload, 1) := by decide +kernel
theorem d_m_isPart_26 : decode c_m_isPart 26 = .ok (.ifCond .ne 20, 3) := by decide +kernel
theorem d_m_isPart_29 : decode c_m_isPart 29 = .ok (.aload_n 0, 1) := by decide +kernel
theorem d_m_isPart_30 : decode c_m_isPart 30 = .ok (.getfield 63, 3) := by decide +kernel
theorem d_m_isPart_33 : decode c_m_isPart 33 = .ok (.iload_n 1, 1) := by decide +kernel
theorem d_m_isPart_34 : decode c_m_isPart 34 = .ok (.bipush 8, 2) := by decide +kernel
theorem d_m_isPart_36 : decode c_m_isPart 36 = .ok (.isub, 1) := by decide +kernel
theorem d_m_isPart_37 : decode c_m_isPart 37 = .ok (.iaload, 1) := by decide +kernel
theorem d_m_isPart_38 : decode c_m_isPart 38 = .ok (.iload_n 2, 1) := by decide +kernel
theorem d_m_isPart_39 : decode c_m_isPart 39 = .ok (.if_icmp .ne 7, 3) := by decide +kernel
theorem d_m_isPart_42 : decode c_m_isPart 42 = .ok (.iconst 1, 1) := by decide +kernel
theorem d_m_isPart_43 : decode c_m_isPart 43 = .ok (.goto 4, 3) := by decide +kernel
theorem d_m_isPart_46 : decode c_m_isPart 46 = .ok (.iconst 0, 1) := by decide +kernel
theorem d_m_isPart_47 : decode c_m_isPart 47 = .ok (.ireturn, 1) := by decide +kernel
theorem d_m_isPart_48 : decode c_m_isPart 48 = .ok (.iconst 0, 1) := by decide +kernel
theorem d_m_isPart_49 : decode c_m_isPart 49 = .ok (.istore_n 3, 1) := by decide +kernel
theorem d_m_isPart_50 : decode c_m_isPart 50 = .ok (.iconst 0, 1) := by decide +kernel
theorem d_m_isPart_51 : decode c_m_isPart 51 = .ok (.istore 4, 2) := by decide +kernel
theorem d_m_isPart_53 : decode c_m_isPart 53 = .ok (.iload 4, 2) := by decide +kernel
theorem d_m_isPart_55 : decode c_m_isPart 55 = .ok (.aload_n 0, 1) := by decide +kernel
theorem d_m_isPart_56 : decode c_m_isPart 56 = .ok (.getfield 94, 3) := by decide +kernel
theorem d_m_isPart_59 : decode c_m_isPart 59 = .ok (.if_icmp .ge 44, 3) := by decide +kernel
theorem d_m_isPart_62 : decode c_m_isPart 62 = .ok (.iload_n 3, 1) := by decide +kernel
theorem d_m_isPart_63 : decode c_m_isPart 63 = .ok (.ifCond .ne 28, 3) := by decide +kernel
theorem d_m_isPart_66 : decode c_m_isPart 66 = .ok (.aload_n 0, 1) := by decide +kernel
theorem d_m_isPart_67 : decode c_m_isPart 67 = .ok (.getfield 60, 3) := by decide +kernel
theorem d_m_isPart_70 : decode c_m_isPart 70 = .ok (.iload 4, 2) := by decide +kernel
theorem d_m_isPart_72 : decode c_m_isPart 72 = .ok (.iaload, 1) := by decide +kernel
theorem d_m_isPart_73 : decode c_m_isPart 73 = .ok (.ifCond .ne 22, 3) := by decide +kernel
theorem d_m_isPart_76 : decode c_m_isPart 76 = .ok (.aload_n 0, 1) := by decide +kernel
theorem d_m_isPart_77 : decode c_m_isPart 77 = .ok (.aload_n 0, 1) := by decide +kernel
theorem d_m_isPart_78 : decode c_m_isPart 78 = .ok (.getfield 63, 3) := by decide +kernel
theorem d_m_isPart_81 : decode c_m_isPart 81 = .ok (.iload 4, 2) := by decide +kernel
theorem d_m_isPart_83 : decode c_m_isPart 83 = .ok (.iaload, 1) := by decide +kernel
theorem d_m_isPart_84 : decode c_m_isPart 84 = .ok (.iload_n 1, 1) := by decide +kernel
theorem d_m_isPart_85 : decode c_m_isPart 85 = .ok (.invokevirtual 130, 3) := by decide +kernel
theorem d_m_isPart_88 : decode c_m_isPart 88 = .ok (.ifCond .eq 7, 3) := by decide +kernel
theorem d_m_isPart_91 : decode c_m_isPart 91 = .ok (.iconst 1, 1) := by decide +kernel
theorem d_m_isPart_92 : decode c_m_isPart 92 = .ok (.goto 4, 3) := by decide +kernel
theorem d_m_isPart_95 : decode c_m_isPart 95 = .ok (.iconst 0, 1) := by decide +kernel
theorem d_m_isPart_96 : decode c_m_isPart 96 = .ok (.istore_n 3, 1) := by decide +kernel
theorem d_m_isPart_97 : decode c_m_isPart 97 = .ok (.iinc 4 1, 3) := by decide +kernel
theorem d_m_isPart_100 : decode c_m_isPart 100 = .ok (.goto (-47), 3) := by decide +kernel
theorem d_m_isPart_103 : decode c_m_isPart 103 = .ok (.iload_n 1, 1) := by decide +kernel
theorem d_m_isPart_104 : decode c_m_isPart 104 = .ok (.aload_n 0, 1) := by decide +kernel
theorem d_m_isPart_105 : decode c_m_isPart 105 = .ok (.getfield 23, 3) := by decide +kernel
theorem d_m_isPart_108 : decode c_m_isPart 108 = .ok (.if_icmp .ge 21, 3) := by decide +kernel
theorem d_m_isPart_111 : decode c_m_isPart 111 = .ok (.aload_n 0, 1) := by decide +kernel
theorem d_m_isPart_112 : decode c_m_isPart 112 = .ok (.getfield 27, 3) := by decide +kernel
theorem d_m_isPart_115 : decode c_m_isPart 115 = .ok (.iload_n 1, 1) := by decide +kernel
theorem d_m_isPart_116 : decode c_m_isPart 116 = .ok (.iaload, 1) := by decide +kernel
theorem d_m_isPart_117 : decode c_m_isPart 117 = .ok (.iload_n 2, 1) := by decide +kernel
theorem d_m_isPart_118 : decode c_m_isPart 118 = .ok (.if_icmp .ne 11, 3) := by decide +kernel
theorem d_m_isPart_121 : decode c_m_isPart 121 = .ok (.iload_n 3, 1) := by decide +kernel
theorem d_m_isPart_122 : decode c_m_isPart 122 = .ok (.ifCond .eq 7, 3) := by decide +kernel
theorem d_m_isPart_125 : decode c_m_isPart 125 = .ok (.iconst 1, 1) := by decide +kernel
theorem d_m_isPart_126 : decode c_m_isPart 126 = .ok (.goto 4, 3) := by decide +kernel
theorem d_m_isPart_129 : decode c_m_isPart 129 = .ok (.iconst 0, 1) := by decide +kernel
theorem d_m_isPart_130 : decode c_m_isPart 130 = .ok (.ireturn, 1) := by decide +kernel
theorem d_m_sharesOfPart_0 : decode c_m_sharesOfPart 0 = .ok (.iload_n 1, 1) := by decide +kernel
theorem d_m_sharesOfPart_1 : decode c_m_sharesOfPart 1 = .ok (.bipush 8, 2) := by decide +kernel
theorem d_m_sharesOfPart_3 : decode c_m_sharesOfPart 3 = .ok (.if_icmp .ge 12, 3) := by decide +kernel
theorem d_m_sharesOfPart_6 : decode c_m_sharesOfPart 6 = .ok (.aload_n 0, 1) := by decide +kernel
theorem d_m_sharesOfPart_7 : decode c_m_sharesOfPart 7 = .ok (.getfield 36, 3) := by decide +kernel
theorem d_m_sharesOfPart_10 : decode c_m_sharesOfPart 10 = .ok (.iload_n 1, 1) := by decide +kernel
theorem d_m_sharesOfPart_11 : decode c_m_sharesOfPart 11 = .ok (.iaload, 1) := by decide +kernel
theorem d_m_sharesOfPart_12 : decode c_m_sharesOfPart 12 = .ok (.goto 12, 3) := by decide +kernel
theorem d_m_sharesOfPart_15 : decode c_m_sharesOfPart 15 = .ok (.aload_n 0, 1) := by decide +kernel
theorem d_m_sharesOfPart_16 : decode c_m_sharesOfPart 16 = .ok (.getfield 42, 3) := by decide +kernel
theorem d_m_sharesOfPart_19 : decode c_m_sharesOfPart 19 = .ok (.iload_n 1, 1) := by decide +kernel
theorem d_m_sharesOfPart_20 : decode c_m_sharesOfPart 20 = .ok (.bipush 8, 2) := by decide +kernel
theorem d_m_sharesOfPart_22 : decode c_m_sharesOfPart 22 = .ok (.isub, 1) := by decide +kernel
theorem d_m_sharesOfPart_23 : decode c_m_sharesOfPart 23 = .ok (.iaload, 1) := by decide +kernel
theorem d_m_sharesOfPart_24 : decode c_m_sharesOfPart 24 = .ok (.ireturn, 1) := by decide +kernel
theorem d_m_gives_0 : decode c_m_gives 0 = .ok (.iload_n 1, 1) := by decide +kernel
theorem d_m_gives_1 : decode c_m_gives 1 = .ok (.bipush 8, 2) := by decide +kernel
theorem d_m_gives_3 : decode c_m_gives 3 = .ok (.if_icmp .ge 16, 3) := by decide +kernel
theorem d_m_gives_6 : decode c_m_gives 6 = .ok (.aload_n 0, 1) := by decide +kernel
theorem d_m_gives_7 : decode c_m_gives 7 = .ok (.getfield 78, 3) := by decide +kernel
theorem d_m_gives_10 : decode c_m_gives 10 = .ok (.iload_n 1, 1) := by decide +kernel
theorem d_m_gives_11 : decode c_m_gives 11 = .ok (.dup2, 1) := by decide +kernel
theorem d_m_gives_12 : decode c_m_gives 12 = .ok (.iaload, 1) := by decide +kernel
theorem d_m_gives_13 : decode c_m_gives 13 = .ok (.iload_n 2, 1) := by decide +kernel
theorem d_m_gives_14 : decode c_m_gives 14 = .ok (.iadd, 1) := by decide +kernel
theorem d_m_gives_15 : decode c_m_gives 15 = .ok (.iastore, 1) := by decide +kernel
theorem d_m_gives_16 : decode c_m_gives 16 = .ok (.goto 16, 3) := by decide +kernel
theorem d_m_gives_19 : decode c_m_gives 19 = .ok (.aload_n 0, 1) := by decide +kernel
theorem d_m_gives_20 : decode c_m_gives 20 = .ok (.getfield 69, 3) := by decide +kernel
theorem d_m_gives_23 : decode c_m_gives 23 = .ok (.iload_n 1, 1) := by decide +kernel
theorem d_m_gives_24 : decode c_m_gives 24 = .ok (.bipush 8, 2) := by decide +kernel
theorem d_m_gives_26 : decode c_m_gives 26 = .ok (.isub, 1) := by decide +kernel
theorem d_m_gives_27 : decode c_m_gives 27 = .ok (.dup2, 1) := by decide +kernel
theorem d_m_gives_28 : decode c_m_gives 28 = .ok (.iaload, 1) := by decide +kernel
theorem d_m_gives_29 : decode c_m_gives 29 = .ok (.iload_n 2, 1) := by decide +kernel
theorem d_m_gives_30 : decode c_m_gives 30 = .ok (.iadd, 1) := by decide +kernel
theorem d_m_gives_31 : decode c_m_gives 31 = .ok (.iastore, 1) := by decide +kernel
theorem d_m_gives_32 : decode c_m_gives 32 = .ok (.return_, 1) := by decide +kernel
theorem d_m_writeFile_0 : decode c_m_writeFile 0 = .ok (.aload_n 0, 1) := by decide +kernel
theorem d_m_writeFile_1 : decode c_m_writeFile 1 = .ok (.iload_n 1, 1) := by decide +kernel
theorem d_m_writeFile_2 : decode c_m_writeFile 2 = .ok (.invokevirtual 123, 3) := by decide +kernel
theorem d_m_writeFile_5 : decode c_m_writeFile 5 = .ok (.ifCond .eq 16, 3) := by decide +kernel
theorem d_m_writeFile_8 : decode c_m_writeFile 8 = .ok (.iload_n 2, 1) := by decide +kernel
theorem d_m_writeFile_9 : decode c_m_writeFile 9 = .ok (.bipush 32, 2) := by decide +kernel
theorem d_m_writeFile_11 : decode c_m_writeFile 11 = .ok (.invokestatic 90, 3) := by decide +kernel
theorem d_m_writeFile_14 : decode c_m_writeFile 14 = .ok (.ifCond .eq 7, 3) := by decide +kernel
theorem d_m_writeFile_17 : decode c_m_writeFile 17 = .ok (.iconst 1, 1) := by decide +kernel
theorem d_m_writeFile_18 : decode c_m_writeFile 18 = .ok (.goto 4, 3) := by decide +kernel
theorem d_m_writeFile_21 : decode c_m_writeFile 21 = .ok (.iconst 0, 1) := by decide +kernel
theorem d_m_writeFile_22 : decode c_m_writeFile 22 = .ok (.istore 4, 2) := by decide +kernel
theorem d_m_writeFile_24 : decode c_m_writeFile 24 = .ok (.aload_n 0, 1) := by decide +kernel
theorem d_m_writeFile_25 : decode c_m_writeFile 25 = .ok (.iload 4, 2) := by decide +kernel
theorem d_m_writeFile_27 : decode c_m_writeFile 27 = .ok (.ifCond .ne 7, 3) := by decide +kernel
theorem d_m_writeFile_30 : decode c_m_writeFile 30 = .ok (.iconst 1, 1) := by decide +kernel
theorem d_m_writeFile_31 : decode c_m_writeFile 31 = .ok (.goto 28, 3) := by decide +kernel
theorem d_m_writeFile_34 : decode c_m_writeFile 34 = .ok (.iload_n 3, 1) := by decide +kernel
theorem d_m_writeFile_35 : decode c_m_writeFile 35 = .ok (.invokestatic 116, 3) := by decide +kernel
theorem d_m_writeFile_38 : decode c_m_writeFile 38 = .ok (.ifCond .ne 7, 3) := by decide +kernel
theorem d_m_writeFile_41 : decode c_m_writeFile 41 = .ok (.iconst 2, 1) := by decide +kernel
theorem d_m_writeFile_42 : decode c_m_writeFile 42 = .ok (.goto 17, 3) := by decide +kernel
theorem d_m_writeFile_45 : decode c_m_writeFile 45 = .ok (.aload_n 0, 1) := by decide +kernel
theorem d_m_writeFile_46 : decode c_m_writeFile 46 = .ok (.iload_n 1, 1) := by decide +kernel
theorem d_m_writeFile_47 : decode c_m_writeFile 47 = .ok (.iload_n 2, 1) := by decide +kernel
theorem d_m_writeFile_48 : decode c_m_writeFile 48 = .ok (.invokevirtual 176, 3) := by decide +kernel
theorem d_m_writeFile_51 : decode c_m_writeFile 51 = .ok (.ifCond .eq 7, 3) := by decide +kernel
theorem d_m_writeFile_54 : decode c_m_writeFile 54 = .ok (.iconst 0, 1) := by decide +kernel
theorem d_m_writeFile_55 : decode c_m_writeFile 55 = .ok (.goto 4, 3) := by decide +kernel
theorem d_m_writeFile_58 : decode c_m_writeFile 58 = .ok (.iconst 3, 1) := by decide +kernel
theorem d_m_writeFile_59 : decode c_m_writeFile 59 = .ok (.invokevirtual 109, 3) := by decide +kernel
theorem d_m_writeFile_62 : decode c_m_writeFile 62 = .ok (.ifCond .ne 5, 3) := by decide +kernel
theorem d_m_writeFile_65 : decode c_m_writeFile 65 = .ok (.iconst 0, 1) := by decide +kernel
theorem d_m_writeFile_66 : decode c_m_writeFile 66 = .ok (.ireturn, 1) := by decide +kernel
theorem d_m_writeFile_67 : decode c_m_writeFile 67 = .ok (.aload_n 0, 1) := by decide +kernel
theorem d_m_writeFile_68 : decode c_m_writeFile 68 = .ok (.iload_n 1, 1) := by decide +kernel
theorem d_m_writeFile_69 : decode c_m_writeFile 69 = .ok (.iload_n 2, 1) := by decide +kernel
theorem d_m_writeFile_70 : decode c_m_writeFile 70 = .ok (.invokevirtual 179, 3) := by decide +kernel
theorem d_m_writeFile_73 : decode c_m_writeFile 73 = .ok (.istore 5, 2) := by decide +kernel
theorem d_m_writeFile_75 : decode c_m_writeFile 75 = .ok (.aload_n 0, 1) := by decide +kernel
theorem d_m_writeFile_76 : decode c_m_writeFile 76 = .ok (.getfield 7, 3) := by decide +kernel
theorem d_m_writeFile_79 : decode c_m_writeFile 79 = .ok (.bipush 32, 2) := by decide +kernel
theorem d_m_writeFile_81 : decode c_m_writeFile 81 = .ok (.bipush 10, 2) := by decide +kernel
theorem d_m_writeFile_83 : decode c_m_writeFile 83 = .ok (.iload_n 1, 1) := by decide +kernel
theorem d_m_writeFile_84 : decode c_m_writeFile 84 = .ok (.iadd, 1) := by decide +kernel
theorem d_m_writeFile_85 : decode c_m_writeFile 85 = .ok (.imul, 1) := by decide +kernel
theorem d_m_writeFile_86 : decode c_m_writeFile 86 = .ok (.iload_n 2, 1) := by decide +kernel
theorem d_m_writeFile_87 : decode c_m_writeFile 87 = .ok (.iadd, 1) := by decide +kernel
theorem d_m_writeFile_88 : decode c_m_writeFile 88 = .ok (.iload_n 3, 1) := by decide +kernel
theorem d_m_writeFile_89 : decode c_m_writeFile 89 = .ok (.iastore, 1) := by decide +kernel
theorem d_m_writeFile_90 : decode c_m_writeFile 90 = .ok (.iload 5, 2) := by decide +kernel
theorem d_m_writeFile_92 : decode c_m_writeFile 92 = .ok (.ireturn, 1) := by decide +kernel
theorem d_m_mayChange_0 : decode c_m_mayChange 0 = .ok (.aload_n 0, 1) := by decide +kernel
theorem d_m_mayChange_1 : decode c_m_mayChange 1 = .ok (.getfield 60, 3) := by decide +kernel
theorem d_m_mayChange_4 : decode c_m_mayChange 4 = .ok (.iload_n 1, 1) := by decide +kernel
theorem d_m_mayChange_5 : decode c_m_mayChange 5 = .ok (.iaload, 1) := by decide +kernel
theorem d_m_mayChange_6 : decode c_m_mayChange 6 = .ok (.ifCond .ne 21, 3) := by decide +kernel
theorem d_m_mayChange_9 : decode c_m_mayChange 9 = .ok (.iload_n 2, 1) := by decide +kernel
theorem d_m_mayChange_10 : decode c_m_mayChange 10 = .ok (.iconst 4, 1) := by decide +kernel
theorem d_m_mayChange_11 : decode c_m_mayChange 11 = .ok (.if_icmp .ge 12, 3) := by decide +kernel
theorem d_m_mayChange_14 : decode c_m_mayChange 14 = .ok (.aload_n 0, 1) := by decide +kernel
theorem d_m_mayChange_15 : decode c_m_mayChange 15 = .ok (.iload_n 1, 1) := by decide +kernel
theorem d_m_mayChange_16 : decode c_m_mayChange 16 = .ok (.iconst 1, 1) := by decide +kernel
theorem d_m_mayChange_17 : decode c_m_mayChange 17 = .ok (.invokevirtual 173, 3) := by decide +kernel
theorem d_m_mayChange_20 : decode c_m_mayChange 20 = .ok (.ifCond .eq 7, 3) := by decide +kernel
theorem d_m_mayChange_23 : decode c_m_mayChange 23 = .ok (.iconst 1, 1) := by decide +kernel
theorem d_m_mayChange_24 : decode c_m_mayChange 24 = .ok (.goto 4, 3) := by decide +kernel
theorem d_m_mayChange_27 : decode c_m_mayChange 27 = .ok (.iconst 0, 1) := by decide +kernel
theorem d_m_mayChange_28 : decode c_m_mayChange 28 = .ok (.ireturn, 1) := by decide +kernel
theorem d_m_isEffective_0 : decode c_m_isEffective 0 = .ok (.aload_n 0, 1) := by decide +kernel
theorem d_m_isEffective_1 : decode c_m_isEffective 1 = .ok (.getfield 54, 3) := by decide +kernel
theorem d_m_isEffective_4 : decode c_m_isEffective 4 = .ok (.iload_n 1, 1) := by decide +kernel
theorem d_m_isEffective_5 : decode c_m_isEffective 5 = .ok (.iaload, 1) := by decide +kernel
theorem d_m_isEffective_6 : decode c_m_isEffective 6 = .ok (.iload_n 2, 1) := by decide +kernel
theorem d_m_isEffective_7 : decode c_m_isEffective 7 = .ok (.ishr, 1) := by decide +kernel
theorem d_m_isEffective_8 : decode c_m_isEffective 8 = .ok (.iconst 1, 1) := by decide +kernel
theorem d_m_isEffective_9 : decode c_m_isEffective 9 = .ok (.iand, 1) := by decide +kernel
theorem d_m_isEffective_10 : decode c_m_isEffective 10 = .ok (.iconst 1, 1) := by decide +kernel
theorem d_m_isEffective_11 : decode c_m_isEffective 11 = .ok (.if_icmp .ne 7, 3) := by decide +kernel
theorem d_m_isEffective_14 : decode c_m_isEffective 14 = .ok (.iconst 1, 1) := by decide +kernel
theorem d_m_isEffective_15 : decode c_m_isEffective 15 = .ok (.goto 4, 3) := by decide +kernel
theorem d_m_isEffective_18 : decode c_m_isEffective 18 = .ok (.iconst 0, 1) := by decide +kernel
theorem d_m_isEffective_19 : decode c_m_isEffective 19 = .ok (.ireturn, 1) := by decide +kernel
theorem d_m_containerSees_0 : decode c_m_containerSees 0 = .ok (.aload_n 0, 1) := by decide +kernel
theorem d_m_containerSees_1 : decode c_m_containerSees 1 = .ok (.bipush 10, 2) := by decide +kernel
theorem d_m_containerSees_3 : decode c_m_containerSees 3 = .ok (.iload_n 1, 1) := by decide +kernel
theorem d_m_containerSees_4 : decode c_m_containerSees 4 = .ok (.iadd, 1) := by decide +kernel
theorem d_m_containerSees_5 : decode c_m_containerSees 5 = .ok (.aload_n 0, 1) := by decide +kernel
theorem d_m_containerSees_6 : decode c_m_containerSees 6 = .ok (.getfield 39, 3) := by decide +kernel
theorem d_m_containerSees_9 : decode c_m_containerSees 9 = .ok (.iload_n 1, 1) := by decide +kernel
theorem d_m_containerSees_10 : decode c_m_containerSees 10 = .ok (.iaload, 1) := by decide +kernel
theorem d_m_containerSees_11 : decode c_m_containerSees 11 = .ok (.iload_n 2, 1) := by decide +kernel
theorem d_m_containerSees_12 : decode c_m_containerSees 12 = .ok (.invokevirtual 97, 3) := by decide +kernel
theorem d_m_containerSees_15 : decode c_m_containerSees 15 = .ok (.ireturn, 1) := by decide +kernel
theorem d_m_removeFile_0 : decode c_m_removeFile 0 = .ok (.aload_n 0, 1) := by decide +kernel
theorem d_m_removeFile_1 : decode c_m_removeFile 1 = .ok (.iload_n 1, 1) := by decide +kernel
theorem d_m_removeFile_2 : decode c_m_removeFile 2 = .ok (.invokevirtual 123, 3) := by decide +kernel
theorem d_m_removeFile_5 : decode c_m_removeFile 5 = .ok (.ifCond .eq 16, 3) := by decide +kernel
theorem d_m_removeFile_8 : decode c_m_removeFile 8 = .ok (.iload_n 2, 1) := by decide +kernel
theorem d_m_removeFile_9 : decode c_m_removeFile 9 = .ok (.bipush 32, 2) := by decide +kernel
theorem d_m_removeFile_11 : decode c_m_removeFile 11 = .ok (.invokestatic 90, 3) := by decide +kernel
theorem d_m_removeFile_14 : decode c_m_removeFile 14 = .ok (.ifCond .eq 7, 3) := by decide +kernel
theorem d_m_removeFile_17 : decode c_m_removeFile 17 = .ok (.iconst 1, 1) := by decide +kernel
theorem d_m_removeFile_18 : decode c_m_removeFile 18 = .ok (.goto 4, 3) := by decide +kernel
theorem d_m_removeFile_21 : decode c_m_removeFile 21 = .ok (.iconst 0, 1) := by decide +kernel
theorem d_m_removeFile_22 : decode c_m_removeFile 22 = .ok (.istore_n 3, 1) := by decide +kernel
theorem d_m_removeFile_23 : decode c_m_removeFile 23 = .ok (.aload_n 0, 1) := by decide +kernel
theorem d_m_removeFile_24 : decode c_m_removeFile 24 = .ok (.iload_n 3, 1) := by decide +kernel
theorem d_m_removeFile_25 : decode c_m_removeFile 25 = .ok (.ifCond .ne 7, 3) := by decide +kernel
theorem d_m_removeFile_28 : decode c_m_removeFile 28 = .ok (.iconst 1, 1) := by decide +kernel
theorem d_m_removeFile_29 : decode c_m_removeFile 29 = .ok (.goto 26, 3) := by decide +kernel
theorem d_m_removeFile_32 : decode c_m_removeFile 32 = .ok (.aload_n 0, 1) := by decide +kernel
theorem d_m_removeFile_33 : decode c_m_removeFile 33 = .ok (.iload_n 1, 1) := by decide +kernel
theorem d_m_removeFile_34 : decode c_m_removeFile 34 = .ok (.iload_n 2, 1) := by decide +kernel
theorem d_m_removeFile_35 : decode c_m_removeFile 35 = .ok (.invokevirtual 176, 3) := by decide +kernel
theorem d_m_removeFile_38 : decode c_m_removeFile 38 = .ok (.ifCond .eq 16, 3) := by decide +kernel
theorem d_m_removeFile_41 : decode c_m_removeFile 41 = .ok (.aload_n 0, 1) := by decide +kernel
theorem d_m_removeFile_42 : decode c_m_removeFile 42 = .ok (.iload_n 1, 1) := by decide +kernel
theorem d_m_removeFile_43 : decode c_m_removeFile 43 = .ok (.iload_n 2, 1) := by decide +kernel
theorem d_m_removeFile_44 : decode c_m_removeFile 44 = .ok (.invokevirtual 179, 3) := by decide +kernel
theorem d_m_removeFile_47 : decode c_m_removeFile 47 = .ok (.ifCond .le 7, 3) := by decide +kernel
theorem d_m_removeFile_50 : decode c_m_removeFile 50 = .ok (.iconst 0, 1) := by decide +kernel
theorem d_m_removeFile_51 : decode c_m_removeFile 51 = .ok (.goto 4, 3) := by decide +kernel
theorem d_m_removeFile_54 : decode c_m_removeFile 54 = .ok (.iconst 2, 1) := by decide +kernel
theorem d_m_removeFile_55 : decode c_m_removeFile 55 = .ok (.invokevirtual 109, 3) := by decide +kernel
theorem d_m_removeFile_58 : decode c_m_removeFile 58 = .ok (.ifCond .ne 5, 3) := by decide +kernel
theorem d_m_removeFile_61 : decode c_m_removeFile 61 = .ok (.iconst 0, 1) := by decide +kernel
theorem d_m_removeFile_62 : decode c_m_removeFile 62 = .ok (.ireturn, 1) := by decide +kernel
theorem d_m_removeFile_63 : decode c_m_removeFile 63 = .ok (.aload_n 0, 1) := by decide +kernel
theorem d_m_removeFile_64 : decode c_m_removeFile 64 = .ok (.iload_n 1, 1) := by decide +kernel
theorem d_m_removeFile_65 : decode c_m_removeFile 65 = .ok (.iload_n 2, 1) := by decide +kernel
theorem d_m_removeFile_66 : decode c_m_removeFile 66 = .ok (.invokevirtual 179, 3) := by decide +kernel
theorem d_m_removeFile_69 : decode c_m_removeFile 69 = .ok (.istore 4, 2) := by decide +kernel
theorem d_m_removeFile_71 : decode c_m_removeFile 71 = .ok (.aload_n 0, 1) := by decide +kernel
theorem d_m_removeFile_72 : decode c_m_removeFile 72 = .ok (.getfield 7, 3) := by decide +kernel
theorem d_m_removeFile_75 : decode c_m_removeFile 75 = .ok (.bipush 32, 2) := by decide +kernel
theorem d_m_removeFile_77 : decode c_m_removeFile 77 = .ok (.bipush 10, 2) := by decide +kernel
theorem d_m_removeFile_79 : decode c_m_removeFile 79 = .ok (.iload_n 1, 1) := by decide +kernel
theorem d_m_removeFile_80 : decode c_m_removeFile 80 = .ok (.iadd, 1) := by decide +kernel
theorem d_m_removeFile_81 : decode c_m_removeFile 81 = .ok (.imul, 1) := by decide +kernel
theorem d_m_removeFile_82 : decode c_m_removeFile 82 = .ok (.iload_n 2, 1) := by decide +kernel
theorem d_m_removeFile_83 : decode c_m_removeFile 83 = .ok (.iadd, 1) := by decide +kernel
theorem d_m_removeFile_84 : decode c_m_removeFile 84 = .ok (.iconst (-1), 1) := by decide +kernel
theorem d_m_removeFile_85 : decode c_m_removeFile 85 = .ok (.iastore, 1) := by decide +kernel
theorem d_m_removeFile_86 : decode c_m_removeFile 86 = .ok (.iload 4, 2) := by decide +kernel
theorem d_m_removeFile_88 : decode c_m_removeFile 88 = .ok (.ireturn, 1) := by decide +kernel
theorem d_m_fileOf_0 : decode c_m_fileOf 0 = .ok (.aload_n 0, 1) := by decide +kernel
theorem d_m_fileOf_1 : decode c_m_fileOf 1 = .ok (.aload_n 0, 1) := by decide +kernel
theorem d_m_fileOf_2 : decode c_m_fileOf 2 = .ok (.iload_n 1, 1) := by decide +kernel
theorem d_m_fileOf_3 : decode c_m_fileOf 3 = .ok (.invokevirtual 123, 3) := by decide +kernel
theorem d_m_fileOf_6 : decode c_m_fileOf 6 = .ok (.ifCond .eq 16, 3) := by decide +kernel
theorem d_m_fileOf_9 : decode c_m_fileOf 9 = .ok (.iload_n 2, 1) := by decide +kernel
theorem d_m_fileOf_10 : decode c_m_fileOf 10 = .ok (.bipush 32, 2) := by decide +kernel
theorem d_m_fileOf_12 : decode c_m_fileOf 12 = .ok (.invokestatic 90, 3) := by decide +kernel
theorem d_m_fileOf_15 : decode c_m_fileOf 15 = .ok (.ifCond .eq 7, 3) := by decide +kernel
theorem d_m_fileOf_18 : decode c_m_fileOf 18 = .ok (.iconst 0, 1) := by decide +kernel
theorem d_m_fileOf_19 : decode c_m_fileOf 19 = .ok (.goto 4, 3) := by decide +kernel
theorem d_m_fileOf_22 : decode c_m_fileOf 22 = .ok (.iconst 1, 1) := by decide +kernel
theorem d_m_fileOf_23 : decode c_m_fileOf 23 = .ok (.invokevirtual 109, 3) := by decide +kernel
theorem d_m_fileOf_26 : decode c_m_fileOf 26 = .ok (.ifCond .eq 12, 3) := by decide +kernel
theorem d_m_fileOf_29 : decode c_m_fileOf 29 = .ok (.aload_n 0, 1) := by decide +kernel
theorem d_m_fileOf_30 : decode c_m_fileOf 30 = .ok (.iload_n 1, 1) := by decide +kernel
theorem d_m_fileOf_31 : decode c_m_fileOf 31 = .ok (.iload_n 2, 1) := by decide +kernel
theorem d_m_fileOf_32 : decode c_m_fileOf 32 = .ok (.invokevirtual 179, 3) := by decide +kernel
theorem d_m_fileOf_35 : decode c_m_fileOf 35 = .ok (.goto 4, 3) := by decide +kernel
theorem d_m_fileOf_38 : decode c_m_fileOf 38 = .ok (.iconst 0, 1) := by decide +kernel
theorem d_m_fileOf_39 : decode c_m_fileOf 39 = .ok (.ireturn, 1) := by decide +kernel
theorem d_m_plainFileOf_0 : decode c_m_plainFileOf 0 = .ok (.aload_n 0, 1) := by decide +kernel
theorem d_m_plainFileOf_1 : decode c_m_plainFileOf 1 = .ok (.aload_n 0, 1) := by decide +kernel
theorem d_m_plainFileOf_2 : decode c_m_plainFileOf 2 = .ok (.iload_n 1, 1) := by decide +kernel
theorem d_m_plainFileOf_3 : decode c_m_plainFileOf 3 = .ok (.invokevirtual 123, 3) := by decide +kernel
theorem d_m_plainFileOf_6 : decode c_m_plainFileOf 6 = .ok (.ifCond .eq 16, 3) := by decide +kernel
theorem d_m_plainFileOf_9 : decode c_m_plainFileOf 9 = .ok (.iload_n 2, 1) := by decide +kernel
theorem d_m_plainFileOf_10 : decode c_m_plainFileOf 10 = .ok (.bipush 32, 2) := by decide +kernel
theorem d_m_plainFileOf_12 : decode c_m_plainFileOf 12 = .ok (.invokestatic 90, 3) := by decide +kernel
theorem d_m_plainFileOf_15 : decode c_m_plainFileOf 15 = .ok (.ifCond .eq 7, 3) := by decide +kernel
theorem d_m_plainFileOf_18 : decode c_m_plainFileOf 18 = .ok (.iconst 0, 1) := by decide +kernel
theorem d_m_plainFileOf_19 : decode c_m_plainFileOf 19 = .ok (.goto 4, 3) := by decide +kernel
theorem d_m_plainFileOf_22 : decode c_m_plainFileOf 22 = .ok (.iconst 1, 1) := by decide +kernel
theorem d_m_plainFileOf_23 : decode c_m_plainFileOf 23 = .ok (.invokevirtual 109, 3) := by decide +kernel
theorem d_m_plainFileOf_26 : decode c_m_plainFileOf 26 = .ok (.ifCond .ne 5, 3) := by decide +kernel
theorem d_m_plainFileOf_29 : decode c_m_plainFileOf 29 = .ok (.iconst 0, 1) := by decide +kernel
theorem d_m_plainFileOf_30 : decode c_m_plainFileOf 30 = .ok (.ireturn, 1) := by decide +kernel
theorem d_m_plainFileOf_31 : decode c_m_plainFileOf 31 = .ok (.iconst 0, 1) := by decide +kernel
theorem d_m_plainFileOf_32 : decode c_m_plainFileOf 32 = .ok (.istore_n 3, 1) := by decide +kernel
theorem d_m_plainFileOf_33 : decode c_m_plainFileOf 33 = .ok (.iconst 0, 1) := by decide +kernel
theorem d_m_plainFileOf_34 : decode c_m_plainFileOf 34 = .ok (.istore 4, 2) := by decide +kernel
theorem d_m_plainFileOf_36 : decode c_m_plainFileOf 36 = .ok (.iload 4, 2) := by decide +kernel
theorem d_m_plainFileOf_38 : decode c_m_plainFileOf 38 = .ok (.aload_n 0, 1) := by decide +kernel
theorem d_m_plainFileOf_39 : decode c_m_plainFileOf 39 = .ok (.aload_n 0, 1) := by decide +kernel
theorem d_m_plainFileOf_40 : decode c_m_plainFileOf 40 = .ok (.getfield 39, 3) := by decide +kernel
theorem d_m_plainFileOf_43 : decode c_m_plainFileOf 43 = .ok (.iload_n 1, 1) := by decide +kernel
theorem d_m_plainFileOf_44 : decode c_m_plainFileOf 44 = .ok (.iaload, 1) := by decide +kernel
theorem d_m_plainFileOf_45 : decode c_m_plainFileOf 45 = .ok (.invokevirtual 105, 3) := by decide +kernel
theorem d_m_plainFileOf_48 : decode c_m_plainFileOf 48 = .ok (.if_icmp .gt 76, 3) := by decide +kernel
theorem d_m_plainFileOf_51 : decode c_m_plainFileOf 51 = .ok (.aload_n 0, 1) := by decide +kernel
theorem d_m_plainFileOf_52 : decode c_m_plainFileOf 52 = .ok (.iload_n 1, 1) := by decide +kernel
theorem d_m_plainFileOf_53 : decode c_m_plainFileOf 53 = .ok (.iload 4, 2) := by decide +kernel
theorem d_m_plainFileOf_55 : decode c_m_plainFileOf 55 = .ok (.invokevirtual 182, 3) := by decide +kernel
theorem d_m_plainFileOf_58 : decode c_m_plainFileOf 58 = .ok (.istore 5, 2) := by decide +kernel
theorem d_m_plainFileOf_60 : decode c_m_plainFileOf 60 = .ok (.aload_n 0, 1) := by decide +kernel
theorem d_m_plainFileOf_61 : decode c_m_plainFileOf 61 = .ok (.getfield 13, 3) := by decide +kernel
theorem d_m_plainFileOf_64 : decode c_m_plainFileOf 64 = .ok (.iload 5, 2) := by decide +kernel
theorem d_m_plainFileOf_66 : decode c_m_plainFileOf 66 = .ok (.iaload, 1) := by decide +kernel
theorem d_m_plainFileOf_67 : decode c_m_plainFileOf 67 = .ok (.iload_n 2, 1) := by decide +kernel
theorem d_m_plainFileOf_68 : decode c_m_plainFileOf 68 = .ok (.iconst 4, 1) := by decide +kernel
theorem d_m_plainFileOf_69 : decode c_m_plainFileOf 69 = .ok (.idiv, 1) := by decide +kernel
theorem d_m_plainFileOf_70 : decode c_m_plainFileOf 70 = .ok (.ishr, 1) := by decide +kernel
theorem d_m_plainFileOf_71 : decode c_m_plainFileOf 71 = .ok (.iconst 1, 1) := by decide +kernel
theorem d_m_plainFileOf_72 : decode c_m_plainFileOf 72 = .ok (.iand, 1) := by decide +kernel
theorem d_m_plainFileOf_73 : decode c_m_plainFileOf 73 = .ok (.iconst 1, 1) := by decide +kernel
theorem d_m_plainFileOf_74 : decode c_m_plainFileOf 74 = .ok (.if_icmp .ne 7, 3) := by decide +kernel
theorem d_m_plainFileOf_77 : decode c_m_plainFileOf 77 = .ok (.iconst 0, 1) := by decide +kernel
theorem d_m_plainFileOf_78 : decode c_m_plainFileOf 78 = .ok (.goto 4, 3) := by decide +kernel
theorem d_m_plainFileOf_81 : decode c_m_plainFileOf 81 = .ok (.iload_n 3, 1) := by decide +kernel
theorem d_m_plainFileOf_82 : decode c_m_plainFileOf 82 = .ok (.istore_n 3, 1) := by decide +kernel
theorem d_m_plainFileOf_83 : decode c_m_plainFileOf 83 = .ok (.aload_n 0, 1) := by decide +kernel
theorem d_m_plainFileOf_84 : decode c_m_plainFileOf 84 = .ok (.getfield 7, 3) := by decide +kernel
theorem d_m_plainFileOf_87 : decode c_m_plainFileOf 87 = .ok (.bipush 32, 2) := by decide +kernel
theorem d_m_plainFileOf_89 : decode c_m_plainFileOf 89 = .ok (.iload 5, 2) := by decide +kernel
theorem d_m_plainFileOf_91 : decode c_m_plainFileOf 91 = .ok (.imul, 1) := by decide +kernel
theorem d_m_plainFileOf_92 : decode c_m_plainFileOf 92 = .ok (.iload_n 2, 1) := by decide +kernel
theorem d_m_plainFileOf_93 : decode c_m_plainFileOf 93 = .ok (.iadd, 1) := by decide +kernel
theorem d_m_plainFileOf_94 : decode c_m_plainFileOf 94 = .ok (.iaload, 1) := by decide +kernel
theorem d_m_plainFileOf_95 : decode c_m_plainFileOf 95 = .ok (.istore 6, 2) := by decide +kernel
theorem d_m_plainFileOf_97 : decode c_m_plainFileOf 97 = .ok (.iload 6, 2) := by decide +kernel
theorem d_m_plainFileOf_99 : decode c_m_plainFileOf 99 = .ok (.ifCond .ge 7, 3) := by decide +kernel
theorem d_m_plainFileOf_102 : decode c_m_plainFileOf 102 = .ok (.iconst 0, 1) := by decide +kernel
theorem d_m_plainFileOf_103 : decode c_m_plainFileOf 103 = .ok (.goto 14, 3) := by decide +kernel
theorem d_m_plainFileOf_106 : decode c_m_plainFileOf 106 = .ok (.iload 6, 2) := by decide +kernel
theorem d_m_plainFileOf_108 : decode c_m_plainFileOf 108 = .ok (.ifCond .le 8, 3) := by decide +kernel
theorem d_m_plainFileOf_111 : decode c_m_plainFileOf 111 = .ok (.iload 6, 2) := by decide +kernel
theorem d_m_plainFileOf_113 : decode c_m_plainFileOf 113 = .ok (.goto 4, 3) := by decide +kernel
theorem d_m_plainFileOf_116 : decode c_m_plainFileOf 116 = .ok (.iload_n 3, 1) := by decide +kernel
theorem d_m_plainFileOf_117 : decode c_m_plainFileOf 117 = .ok (.istore_n 3, 1) := by decide +kernel
theorem d_m_plainFileOf_118 : decode c_m_plainFileOf 118 = .ok (.iinc 4 1, 3) := by decide +kernel
theorem d_m_plainFileOf_121 : decode c_m_plainFileOf 121 = .ok (.goto (-85), 3) := by decide +kernel
theorem d_m_plainFileOf_124 : decode c_m_plainFileOf 124 = .ok (.iload_n 3, 1) := by decide +kernel
theorem d_m_plainFileOf_125 : decode c_m_plainFileOf 125 = .ok (.ireturn, 1) := by decide +kernel
theorem d_m_layerAt_0 : decode c_m_layerAt 0 = .ok (.aload_n 0, 1) := by decide +kernel
theorem d_m_layerAt_1 : decode c_m_layerAt 1 = .ok (.aload_n 0, 1) := by decide +kernel
theorem d_m_layerAt_2 : decode c_m_layerAt 2 = .ok (.getfield 39, 3) := by decide +kernel
theorem d_m_layerAt_5 : decode c_m_layerAt 5 = .ok (.iload_n 1, 1) := by decide +kernel
theorem d_m_layerAt_6 : decode c_m_layerAt 6 = .ok (.iaload, 1) := by decide +kernel
theorem d_m_layerAt_7 : decode c_m_layerAt 7 = .ok (.invokevirtual 105, 3) := by decide +kernel
theorem d_m_layerAt_10 : decode c_m_layerAt 10 = .ok (.istore_n 3, 1) := by decide +kernel
theorem d_m_layerAt_11 : decode c_m_layerAt 11 = .ok (.aload_n 0, 1) := by decide +kernel
theorem d_m_layerAt_12 : decode c_m_layerAt 12 = .ok (.getfield 39, 3) := by decide +kernel
theorem d_m_layerAt_15 : decode c_m_layerAt 15 = .ok (.iload_n 1, 1) := by decide +kernel
theorem d_m_layerAt_16 : decode c_m_layerAt 16 = .ok (.iaload, 1) := by decide +kernel
theorem d_m_layerAt_17 : decode c_m_layerAt 17 = .ok (.istore 4, 2) := by decide +kernel
theorem d_m_layerAt_19 : decode c_m_layerAt 19 = .ok (.iload_n 3, 1) := by decide +kernel
theorem d_m_layerAt_20 : decode c_m_layerAt 20 = .ok (.iconst 1, 1) := by decide +kernel
theorem d_m_layerAt_21 : decode c_m_layerAt 21 = .ok (.isub, 1) := by decide +kernel
theorem d_m_layerAt_22 : decode c_m_layerAt 22 = .ok (.istore 5, 2) := by decide +kernel
theorem d_m_layerAt_24 : decode c_m_layerAt 24 = .ok (.iload 5, 2) := by decide +kernel
theorem d_m_layerAt_26 : decode c_m_layerAt 26 = .ok (.iload_n 2, 1) := by decide +kernel
theorem d_m_layerAt_27 : decode c_m_layerAt 27 = .ok (.if_icmp .le 23, 3) := by decide +kernel
theorem d_m_layerAt_30 : decode c_m_layerAt 30 = .ok (.iload_n 2, 1) := by decide +kernel
theorem d_m_layerAt_31 : decode c_m_layerAt 31 = .ok (.iload_n 3, 1) := by decide +kernel
theorem d_m_layerAt_32 : decode c_m_layerAt 32 = .ok (.if_icmp .ge 18, 3) := by decide +kernel
theorem d_m_layerAt_35 : decode c_m_layerAt 35 = .ok (.aload_n 0, 1) := by decide +kernel
theorem d_m_layerAt_36 : decode c_m_layerAt 36 = .ok (.getfield 16, 3) := by decide +kernel
theorem d_m_layerAt_39 : decode c_m_layerAt 39 = .ok (.iload 4, 2) := by decide +kernel
theorem d_m_layerAt_41 : decode c_m_layerAt 41 = .ok (.iaload, 1) := by decide +kernel
theorem d_m_layerAt_42 : decode c_m_layerAt 42 = .ok (.istore 4, 2) := by decide +kernel
theorem d_m_layerAt_44 : decode c_m_layerAt 44 = .ok (.iinc 5 (-1), 3) := by decide +kernel
theorem d_m_layerAt_47 : decode c_m_layerAt 47 = .ok (.goto (-23), 3) := by decide +kernel
theorem d_m_layerAt_50 : decode c_m_layerAt 50 = .ok (.iload_n 2, 1) := by decide +kernel
theorem d_m_layerAt_51 : decode c_m_layerAt 51 = .ok (.iload_n 3, 1) := by decide +kernel
theorem d_m_layerAt_52 : decode c_m_layerAt 52 = .ok (.if_icmp .ne 10, 3) := by decide +kernel
theorem d_m_layerAt_55 : decode c_m_layerAt 55 = .ok (.bipush 10, 2) := by decide +kernel
theorem d_m_layerAt_57 : decode c_m_layerAt 57 = .ok (.iload_n 1, 1) := by decide +kernel
theorem d_m_layerAt_58 : decode c_m_layerAt 58 = .ok (.iadd, 1) := by decide +kernel
theorem d_m_layerAt_59 : decode c_m_layerAt 59 = .ok (.goto 5, 3) := by decide +kernel
theorem d_m_layerAt_62 : decode c_m_layerAt 62 = .ok (.iload 4, 2) := by decide +kernel
theorem d_m_layerAt_64 : decode c_m_layerAt 64 = .ok (.ireturn, 1) := by decide +kernel
theorem d_m_raise_0 : decode c_m_raise 0 = .ok (.aload_n 0, 1) := by decide +kernel
theorem d_m_raise_1 : decode c_m_raise 1 = .ok (.iload_n 1, 1) := by decide +kernel
theorem d_m_raise_2 : decode c_m_raise 2 = .ok (.iload_n 2, 1) := by decide +kernel
theorem d_m_raise_3 : decode c_m_raise 3 = .ok (.iconst 1, 1) := by decide +kernel
theorem d_m_raise_4 : decode c_m_raise 4 = .ok (.invokevirtual 185, 3) := by decide +kernel
theorem d_m_raise_7 : decode c_m_raise 7 = .ok (.ifCond .ne 5, 3) := by decide +kernel
theorem d_m_raise_10 : decode c_m_raise 10 = .ok (.iconst 0, 1) := by decide +kernel
theorem d_m_raise_11 : decode c_m_raise 11 = .ok (.ireturn, 1) := by decide +kernel
theorem d_m_raise_12 : decode c_m_raise 12 = .ok (.aload_n 0, 1) := by decide +kernel
theorem d_m_raise_13 : decode c_m_raise 13 = .ok (.getfield 54, 3) := by decide +kernel
theorem d_m_raise_16 : decode c_m_raise 16 = .ok (.iload_n 1, 1) := by decide +kernel
theorem d_m_raise_17 : decode c_m_raise 17 = .ok (.dup2, 1) := by decide +kernel
theorem d_m_raise_18 : decode c_m_raise 18 = .ok (.iaload, 1) := by decide +kernel
theorem d_m_raise_19 : decode c_m_raise 19 = .ok (.iconst 1, 1) := by decide +kernel
theorem d_m_raise_20 : decode c_m_raise 20 = .ok (.iload_n 2, 1) := by decide +kernel
theorem d_m_raise_21 : decode c_m_raise 21 = .ok (.ishl, 1) := by decide +kernel
theorem d_m_raise_22 : decode c_m_raise 22 = .ok (.ior, 1) := by decide +kernel
theorem d_m_raise_23 : decode c_m_raise 23 = .ok (.iastore, 1) := by decide +kernel
theorem d_m_raise_24 : decode c_m_raise 24 = .ok (.aload_n 0, 1) := by decide +kernel
theorem d_m_raise_25 : decode c_m_raise 25 = .ok (.getfield 54, 3) := by decide +kernel
theorem d_m_raise_28 : decode c_m_raise 28 = .ok (.iload_n 1, 1) := by decide +kernel
theorem d_m_raise_29 : decode c_m_raise 29 = .ok (.iaload, 1) := by decide +kernel
theorem d_m_raise_30 : decode c_m_raise 30 = .ok (.ireturn, 1) := by decide +kernel
theorem d_m_isCapability_0 : decode c_m_isCapability 0 = .ok (.aload_n 0, 1) := by decide +kernel
theorem d_m_isCapability_1 : decode c_m_isCapability 1 = .ok (.iload_n 1, 1) := by decide +kernel
theorem d_m_isCapability_2 : decode c_m_isCapability 2 = .ok (.invokevirtual 123, 3) := by decide +kernel
theorem d_m_isCapability_5 : decode c_m_isCapability 5 = .ok (.ifCond .eq 15, 3) := by decide +kernel
theorem d_m_isCapability_8 : decode c_m_isCapability 8 = .ok (.iload_n 2, 1) := by decide +kernel
theorem d_m_isCapability_9 : decode c_m_isCapability 9 = .ok (.iconst 4, 1) := by decide +kernel
theorem d_m_isCapability_10 : decode c_m_isCapability 10 = .ok (.invokestatic 90, 3) := by decide +kernel
theorem d_m_isCapability_13 : decode c_m_isCapability 13 = .ok (.ifCond .eq 7, 3) := by decide +kernel
theorem d_m_isCapability_16 : decode c_m_isCapability 16 = .ok (.iconst 1, 1) := by decide +kernel
theorem d_m_isCapability_17 : decode c_m_isCapability 17 = .ok (.goto 4, 3) := by decide +kernel
theorem d_m_isCapability_20 : decode c_m_isCapability 20 = .ok (.iconst 0, 1) := by decide +kernel
theorem d_m_isCapability_21 : decode c_m_isCapability 21 = .ok (.istore 4, 2) := by decide +kernel
theorem d_m_isCapability_23 : decode c_m_isCapability 23 = .ok (.aload_n 0, 1) := by decide +kernel
theorem d_m_isCapability_24 : decode c_m_isCapability 24 = .ok (.iload 4, 2) := by decide +kernel
theorem d_m_isCapability_26 : decode c_m_isCapability 26 = .ok (.ifCond .ne 7, 3) := by decide +kernel
theorem d_m_isCapability_29 : decode c_m_isCapability 29 = .ok (.iconst 1, 1) := by decide +kernel
theorem d_m_isCapability_30 : decode c_m_isCapability 30 = .ok (.goto 34, 3) := by decide +kernel
theorem d_m_isCapability_33 : decode c_m_isCapability 33 = .ok (.aload_n 0, 1) := by decide +kernel
theorem d_m_isCapability_34 : decode c_m_isCapability 34 = .ok (.getfield 60, 3) := by decide +kernel
theorem d_m_isCapability_37 : decode c_m_isCapability 37 = .ok (.iload_n 1, 1) := by decide +kernel
theorem d_m_isCapability_38 : decode c_m_isCapability 38 = .ok (.iaload, 1) := by decide +kernel
theorem d_m_isCapability_39 : decode c_m_isCapability 39 = .ok (.ifCond .ne 20, 3) := by decide +kernel
theorem d_m_isCapability_42 : decode c_m_isCapability 42 = .ok (.iload_n 3, 1) := by decide +kernel
theorem d_m_isCapability_43 : decode c_m_isCapability 43 = .ok (.ifCond .eq 20, 3) := by decide +kernel
theorem d_m_isCapability_46 : decode c_m_isCapability 46 = .ok (.aload_n 0, 1) := by decide +kernel
theorem d_m_isCapability_47 : decode c_m_isCapability 47 = .ok (.getfield 51, 3) := by decide +kernel
theorem d_m_isCapability_50 : decode c_m_isCapability 50 = .ok (.iload_n 1, 1) := by decide +kernel
theorem d_m_isCapability_51 : decode c_m_isCapability 51 = .ok (.iaload, 1) := by decide +kernel
theorem d_m_isCapability_52 : decode c_m_isCapability 52 = .ok (.iload_n 2, 1) := by decide +kernel
theorem d_m_isCapability_53 : decode c_m_isCapability 53 = .ok (.ishr, 1) := by decide +kernel
theorem d_m_isCapability_54 : decode c_m_isCapability 54 = .ok (.iconst 1, 1) := by decide +kernel
theorem d_m_isCapability_55 : decode c_m_isCapability 55 = .ok (.iand, 1) := by decide +kernel
theorem d_m_isCapability_56 : decode c_m_isCapability 56 = .ok (.ifCond .ne 7, 3) := by decide +kernel
theorem d_m_isCapability_59 : decode c_m_isCapability 59 = .ok (.iconst 2, 1) := by decide +kernel
theorem d_m_isCapability_60 : decode c_m_isCapability 60 = .ok (.goto 4, 3) := by decide +kernel
theorem d_m_isCapability_63 : decode c_m_isCapability 63 = .ok (.iconst 0, 1) := by decide +kernel
theorem d_m_isCapability_64 : decode c_m_isCapability 64 = .ok (.invokevirtual 109, 3) := by decide +kernel
theorem d_m_isCapability_67 : decode c_m_isCapability 67 = .ok (.ireturn, 1) := by decide +kernel
theorem d_m_lower_0 : decode c_m_lower 0 = .ok (.aload_n 0, 1) := by decide +kernel
theorem d_m_lower_1 : decode c_m_lower 1 = .ok (.iload_n 1, 1) := by decide +kernel
theorem d_m_lower_2 : decode c_m_lower 2 = .ok (.iload_n 2, 1) := by decide +kernel
theorem d_m_lower_3 : decode c_m_lower 3 = .ok (.iconst 0, 1) := by decide +kernel
theorem d_m_lower_4 : decode c_m_lower 4 = .ok (.invokevirtual 185, 3) := by decide +kernel
theorem d_m_lower_7 : decode c_m_lower 7 = .ok (.ifCond .ne 5, 3) := by decide +kernel
theorem d_m_lower_10 : decode c_m_lower 10 = .ok (.iconst 0, 1) := by decide +kernel
theorem d_m_lower_11 : decode c_m_lower 11 = .ok (.ireturn, 1) := by decide +kernel
theorem d_m_lower_12 : decode c_m_lower 12 = .ok (.aload_n 0, 1) := by decide +kernel
theorem d_m_lower_13 : decode c_m_lower 13 = .ok (.getfield 54, 3) := by decide +kernel
theorem d_m_lower_16 : decode c_m_lower 16 = .ok (.iload_n 1, 1) := by decide +kernel
theorem d_m_lower_17 : decode c_m_lower 17 = .ok (.dup2, 1) := by decide +kernel
theorem d_m_lower_18 : decode c_m_lower 18 = .ok (.iaload, 1) := by decide +kernel
theorem d_m_lower_19 : decode c_m_lower 19 = .ok (.iconst 1, 1) := by decide +kernel
theorem d_m_lower_20 : decode c_m_lower 20 = .ok (.iload_n 2, 1) := by decide +kernel
theorem d_m_lower_21 : decode c_m_lower 21 = .ok (.ishl, 1) := by decide +kernel
theorem d_m_lower_22 : decode c_m_lower 22 = .ok (.iconst (-1), 1) := by decide +kernel
theorem d_m_lower_23 : decode c_m_lower 23 = .ok (.ixor, 1) := by decide +kernel
theorem d_m_lower_24 : decode c_m_lower 24 = .ok (.iand, 1) := by decide +kernel
theorem d_m_lower_25 : decode c_m_lower 25 = .ok (.iastore, 1) := by decide +kernel
theorem d_m_lower_26 : decode c_m_lower 26 = .ok (.aload_n 0, 1) := by decide +kernel
theorem d_m_lower_27 : decode c_m_lower 27 = .ok (.getfield 54, 3) := by decide +kernel
theorem d_m_lower_30 : decode c_m_lower 30 = .ok (.iload_n 1, 1) := by decide +kernel
theorem d_m_lower_31 : decode c_m_lower 31 = .ok (.iaload, 1) := by decide +kernel
theorem d_m_lower_32 : decode c_m_lower 32 = .ok (.ireturn, 1) := by decide +kernel
theorem d_m_drop_0 : decode c_m_drop 0 = .ok (.aload_n 0, 1) := by decide +kernel
theorem d_m_drop_1 : decode c_m_drop 1 = .ok (.iload_n 1, 1) := by decide +kernel
theorem d_m_drop_2 : decode c_m_drop 2 = .ok (.iload_n 2, 1) := by decide +kernel
theorem d_m_drop_3 : decode c_m_drop 3 = .ok (.iconst 0, 1) := by decide +kernel
theorem d_m_drop_4 : decode c_m_drop 4 = .ok (.invokevirtual 185, 3) := by decide +kernel
theorem d_m_drop_7 : decode c_m_drop 7 = .ok (.ifCond .ne 5, 3) := by decide +kernel
theorem d_m_drop_10 : decode c_m_drop 10 = .ok (.iconst 0, 1) := by decide +kernel
theorem d_m_drop_11 : decode c_m_drop 11 = .ok (.ireturn, 1) := by decide +kernel
theorem d_m_drop_12 : decode c_m_drop 12 = .ok (.aload_n 0, 1) := by decide +kernel
theorem d_m_drop_13 : decode c_m_drop 13 = .ok (.getfield 54, 3) := by decide +kernel
theorem d_m_drop_16 : decode c_m_drop 16 = .ok (.iload_n 1, 1) := by decide +kernel
theorem d_m_drop_17 : decode c_m_drop 17 = .ok (.dup2, 1) := by decide +kernel
theorem d_m_drop_18 : decode c_m_drop 18 = .ok (.iaload, 1) := by decide +kernel
theorem d_m_drop_19 : decode c_m_drop 19 = .ok (.iconst 1, 1) := by decide +kernel
theorem d_m_drop_20 : decode c_m_drop 20 = .ok (.iload_n 2, 1) := by decide +kernel
theorem d_m_drop_21 : decode c_m_drop 21 = .ok (.ishl, 1) := by decide +kernel
theorem d_m_drop_22 : decode c_m_drop 22 = .ok (.iconst (-1), 1) := by decide +kernel
theorem d_m_drop_23 : decode c_m_drop 23 = .ok (.ixor, 1) := by decide +kernel
theorem d_m_drop_24 : decode c_m_drop 24 = .ok (.iand, 1) := by decide +kernel
theorem d_m_drop_25 : decode c_m_drop 25 = .ok (.iastore, 1) := by decide +kernel
theorem d_m_drop_26 : decode c_m_drop 26 = .ok (.aload_n 0, 1) := by decide +kernel
theorem d_m_drop_27 : decode c_m_drop 27 = .ok (.getfield 51, 3) := by decide +kernel
theorem d_m_drop_30 : decode c_m_drop 30 = .ok (.iload_n 1, 1) := by decide +kernel
theorem d_m_drop_31 : decode c_m_drop 31 = .ok (.dup2, 1) := by decide +kernel
theorem d_m_drop_32 : decode c_m_drop 32 = .ok (.iaload, 1) := by decide +kernel
theorem d_m_drop_33 : decode c_m_drop 33 = .ok (.iconst 1, 1) := by decide +kernel
theorem d_m_drop_34 : decode c_m_drop 34 = .ok (.iload_n 2, 1) := by decide +kernel
theorem d_m_drop_35 : decode c_m_drop 35 = .ok (.ishl, 1) := by decide +kernel
theorem d_m_drop_36 : decode c_m_drop 36 = .ok (.iconst (-1), 1) := by decide +kernel
theorem d_m_drop_37 : decode c_m_drop 37 = .ok (.ixor, 1) := by decide +kernel
theorem d_m_drop_38 : decode c_m_drop 38 = .ok (.iand, 1) := by decide +kernel
theorem d_m_drop_39 : decode c_m_drop 39 = .ok (.iastore, 1) := by decide +kernel
theorem d_m_drop_40 : decode c_m_drop 40 = .ok (.aload_n 0, 1) := by decide +kernel
theorem d_m_drop_41 : decode c_m_drop 41 = .ok (.getfield 51, 3) := by decide +kernel
theorem d_m_drop_44 : decode c_m_drop 44 = .ok (.iload_n 1, 1) := by decide +kernel
theorem d_m_drop_45 : decode c_m_drop 45 = .ok (.iaload, 1) := by decide +kernel
theorem d_m_drop_46 : decode c_m_drop 46 = .ok (.ireturn, 1) := by decide +kernel
theorem d_m_kill_0 : decode c_m_kill 0 = .ok (.aload_n 0, 1) := by decide +kernel
theorem d_m_kill_1 : decode c_m_kill 1 = .ok (.iload_n 1, 1) := by decide +kernel
theorem d_m_kill_2 : decode c_m_kill 2 = .ok (.invokevirtual 123, 3) := by decide +kernel
theorem d_m_kill_5 : decode c_m_kill 5 = .ok (.ifCond .eq 15, 3) := by decide +kernel
theorem d_m_kill_8 : decode c_m_kill 8 = .ok (.aload_n 0, 1) := by decide +kernel
theorem d_m_kill_9 : decode c_m_kill 9 = .ok (.iload_n 2, 1) := by decide +kernel
theorem d_m_kill_10 : decode c_m_kill 10 = .ok (.invokevirtual 123, 3) := by decide +kernel
theorem d_m_kill_13 : decode c_m_kill 13 = .ok (.ifCond .eq 7, 3) := by decide +kernel
theorem d_m_kill_16 : decode c_m_kill 16 = .ok (.iconst 1, 1) := by decide +kernel
theorem d_m_kill_17 : decode c_m_kill 17 = .ok (.goto 4, 3) := by decide +kernel
theorem d_m_kill_20 : decode c_m_kill 20 = .ok (.iconst 0, 1) := by decide +kernel
theorem d_m_kill_21 : decode c_m_kill 21 = .ok (.istore_n 3, 1) := by decide +kernel
theorem d_m_kill_22 : decode c_m_kill 22 = .ok (.iload_n 3, 1) := by decide +kernel
theorem d_m_kill_23 : decode c_m_kill 23 = .ok (.ifCond .eq 59, 3) := by decide +kernel
theorem d_m_kill_26 : decode c_m_kill 26 = .ok (.aload_n 0, 1) := by decide +kernel
theorem d_m_kill_27 : decode c_m_kill 27 = .ok (.getfield 60, 3) := by decide +kernel
theorem d_m_kill_30 : decode c_m_kill 30 = .ok (.iload_n 1, 1) := by decide +kernel
theorem d_m_kill_31 : decode c_m_kill 31 = .ok (.iaload, 1) := by decide +kernel
theorem d_m_kill_32 : decode c_m_kill 32 = .ok (.ifCond .ne 50, 3) := by decide +kernel
theorem d_m_kill_35 : decode c_m_kill 35 = .ok (.aload_n 0, 1) := by decide +kernel
theorem d_m_kill_36 : decode c_m_kill 36 = .ok (.iload_n 1, 1) := by decide +kernel
theorem d_m_kill_37 : decode c_m_kill 37 = .ok (.iconst 3, 1) := by decide +kernel
theorem d_m_kill_38 : decode c_m_kill 38 = .ok (.invokevirtual 173, 3) := by decide +kernel
theorem d_m_kill_41 : decode c_m_kill 41 = .ok (.ifCond .eq 41, 3) := by decide +kernel
theorem d_m_kill_44 : decode c_m_kill 44 = .ok (.iload_n 2, 1) := by decide +kernel
theorem d_m_kill_45 : decode c_m_kill 45 = .ok (.iload_n 1, 1) := by decide +kernel
theorem d_m_kill_46 : decode c_m_kill 46 = .ok (.if_icmp .eq 36, 3) := by decide +kernel
theorem d_m_kill_49 : decode c_m_kill 49 = .ok (.aload_n 0, 1) := by decide +kernel
theorem d_m_kill_50 : decode c_m_kill 50 = .ok (.getfield 60, 3) := by decide +kernel
theorem d_m_kill_53 : decode c_m_kill 53 = .ok (.iload_n 2, 1) := by decide +kernel
theorem d_m_kill_54 : decode c_m_kill 54 = .ok (.iaload, 1) := by decide +kernel
theorem d_m_kill_55 : decode c_m_kill 55 = .ok (.iconst 2, 1) := by decide +kernel
theorem d_m_kill_56 : decode c_m_kill 56 = .ok (.if_icmp .eq 26, 3) := by decide +kernel
theorem d_m_kill_59 : decode c_m_kill 59 = .ok (.aload_n 0, 1) := by decide +kernel
theorem d_m_kill_60 : decode c_m_kill 60 = .ok (.aload_n 0, 1) := by decide +kernel
theorem d_m_kill_61 : decode c_m_kill 61 = .ok (.getfield 63, 3) := by decide +kernel
theorem d_m_kill_64 : decode c_m_kill 64 = .ok (.iload_n 2, 1) := by decide +kernel
theorem d_m_kill_65 : decode c_m_kill 65 = .ok (.iaload, 1) := by decide +kernel
theorem d_m_kill_66 : decode c_m_kill 66 = .ok (.aload_n 0, 1) := by decide +kernel
theorem d_m_kill_67 : decode c_m_kill 67 = .ok (.getfield 63, 3) := by decide +kernel
theorem d_m_kill_70 : decode c_m_kill 70 = .ok (.iload_n 1, 1) := by decide +kernel
theorem d_m_kill_71 : decode c_m_kill 71 = .ok (.iaload, 1) := by decide +kernel
theorem d_m_kill_72 : decode c_m_kill 72 = .ok (.invokevirtual 130, 3) := by decide +kernel
theorem d_m_kill_75 : decode c_m_kill 75 = .ok (.ifCond .eq 7, 3) := by decide +kernel
theorem d_m_kill_78 : decode c_m_kill 78 = .ok (.iconst 1, 1) := by decide +kernel
theorem d_m_kill_79 : decode c_m_kill 79 = .ok (.goto 4, 3) := by decide +kernel
theorem d_m_kill_82 : decode c_m_kill 82 = .ok (.iconst 0, 1) := by decide +kernel
theorem d_m_kill_83 : decode c_m_kill 83 = .ok (.istore 4, 2) := by decide +kernel
theorem d_m_kill_85 : decode c_m_kill 85 = .ok (.aload_n 0, 1) := by decide +kernel
theorem d_m_kill_86 : decode c_m_kill 86 = .ok (.iload_n 3, 1) := by decide +kernel
theorem d_m_kill_87 : decode c_m_kill 87 = .ok (.ifCond .ne 7, 3) := by decide +kernel
theorem d_m_kill_90 : decode c_m_kill 90 = .ok (.iconst 1, 1) := by decide +kernel
theorem d_m_kill_91 : decode c_m_kill 91 = .ok (.goto 13, 3) := by decide +kernel
theorem d_m_kill_94 : decode c_m_kill 94 = .ok (.iload 4, 2) := by decide +kernel
theorem d_m_kill_96 : decode c_m_kill 96 = .ok (.ifCond .eq 7, 3) := by decide +kernel
theorem d_m_kill_99 : decode c_m_kill 99 = .ok (.iconst 0, 1) := by decide +kernel
theorem d_m_kill_100 : decode c_m_kill 100 = .ok (.goto 4, 3) := by decide +kernel
theorem d_m_kill_103 : decode c_m_kill 103 = .ok (.iconst 2, 1) := by decide +kernel
theorem d_m_kill_104 : decode c_m_kill 104 = .ok (.invokevirtual 109, 3) := by decide +kernel
theorem d_m_kill_107 : decode c_m_kill 107 = .ok (.ifCond .eq 11, 3) := by decide +kernel
theorem d_m_kill_110 : decode c_m_kill 110 = .ok (.aload_n 0, 1) := by decide +kernel
theorem d_m_kill_111 : decode c_m_kill 111 = .ok (.iload_n 2, 1) := by decide +kernel
theorem d_m_kill_112 : decode c_m_kill 112 = .ok (.invokevirtual 152, 3) := by decide +kernel
theorem d_m_kill_115 : decode c_m_kill 115 = .ok (.goto 4, 3) := by decide +kernel
theorem d_m_kill_118 : decode c_m_kill 118 = .ok (.iconst 0, 1) := by decide +kernel
theorem d_m_kill_119 : decode c_m_kill 119 = .ok (.ireturn, 1) := by decide +kernel
theorem d_m_attach_0 : decode c_m_attach 0 = .ok (.aload_n 0, 1) := by decide +kernel
theorem d_m_attach_1 : decode c_m_attach 1 = .ok (.iload_n 1, 1) := by decide +kernel
theorem d_m_attach_2 : decode c_m_attach 2 = .ok (.invokevirtual 123, 3) := by decide +kernel
theorem d_m_attach_5 : decode c_m_attach 5 = .ok (.ifCond .eq 15, 3) := by decide +kernel
theorem d_m_attach_8 : decode c_m_attach 8 = .ok (.iload_n 2, 1) := by decide +kernel
theorem d_m_attach_9 : decode c_m_attach 9 = .ok (.iconst 4, 1) := by decide +kernel
theorem d_m_attach_10 : decode c_m_attach 10 = .ok (.invokestatic 90, 3) := by decide +kernel
theorem d_m_attach_13 : decode c_m_attach 13 = .ok (.ifCond .eq 7, 3) := by decide +kernel
theorem d_m_attach_16 : decode c_m_attach 16 = .ok (.iconst 1, 1) := by decide +kernel
theorem d_m_attach_17 : decode c_m_attach 17 = .ok (.goto 4, 3) := by decide +kernel
theorem d_m_attach_20 : decode c_m_attach 20 = .ok (.iconst 0, 1) := by decide +kernel
theorem d_m_attach_21 : decode c_m_attach 21 = .ok (.istore_n 3, 1) := by decide +kernel
theorem d_m_attach_22 : decode c_m_attach 22 = .ok (.iload_n 3, 1) := by decide +kernel
theorem d_m_attach_23 : decode c_m_attach 23 = .ok (.ifCond .eq 45, 3) := by decide +kernel
theorem d_m_attach_26 : decode c_m_attach 26 = .ok (.aload_n 0, 1) := by decide +kernel
theorem d_m_attach_27 : decode c_m_attach 27 = .ok (.getfield 60, 3) := by decide +kernel
theorem d_m_attach_30 : decode c_m_attach 30 = .ok (.iload_n 1, 1) := by decide +kernel
theorem d_m_attach_31 : decode c_m_attach 31 = .ok (.iaload, 1) := by decide +kernel
theorem d_m_attach_32 : decode c_m_attach 32 = .ok (.ifCond .ne 36, 3) := by decide +kernel
theorem d_m_attach_35 : decode c_m_attach 35 = .ok (.aload_n 0, 1) := by decide +kernel
theorem d_m_attach_36 : decode c_m_attach 36 = .ok (.iload_n 1, 1) := by decide +kernel
theorem d_m_attach_37 : decode c_m_attach 37 = .ok (.iconst 2, 1) := by decide +kernel
theorem d_m_attach_38 : decode c_m_attach 38 = .ok (.invokevirtual 173, 3) := by decide +kernel
theorem d_m_attach_41 : decode c_m_attach 41 = .ok (.ifCond .eq 27, 3) := by decide +kernel
theorem d_m_attach_44 : decode c_m_attach 44 = .ok (.aload_n 0, 1) := by decide +kernel
theorem d_m_attach_45 : decode c_m_attach 45 = .ok (.getfield 66, 3) := by decide +kernel
theorem d_m_attach_48 : decode c_m_attach 48 = .ok (.iload_n 1, 1) := by decide +kernel
theorem d_m_attach_49 : decode c_m_attach 49 = .ok (.iaload, 1) := by decide +kernel
theorem d_m_attach_50 : decode c_m_attach 50 = .ok (.iconst (-1), 1) := by decide +kernel
theorem d_m_attach_51 : decode c_m_attach 51 = .ok (.if_icmp .ne 17, 3) := by decide +kernel
theorem d_m_attach_54 : decode c_m_attach 54 = .ok (.aload_n 0, 1) := by decide +kernel
theorem d_m_attach_55 : decode c_m_attach 55 = .ok (.iload_n 2, 1) := by decide +kernel
theorem d_m_attach_56 : decode c_m_attach 56 = .ok (.invokevirtual 192, 3) := by decide +kernel
theorem d_m_attach_59 : decode c_m_attach 59 = .ok (.bipush 6, 2) := by decide +kernel
theorem d_m_attach_61 : decode c_m_attach 61 = .ok (.if_icmp .gt 7, 3) := by decide +kernel
theorem d_m_attach_64 : decode c_m_attach 64 = .ok (.iconst 1, 1) := by decide +kernel
theorem d_m_attach_65 : decode c_m_attach 65 = .ok (.goto 4, 3) := by decide +kernel
theorem d_m_attach_68 : decode c_m_attach 68 = .ok (.iconst 0, 1) := by decide +kernel
theorem d_m_attach_69 : decode c_m_attach 69 = .ok (.istore 4, 2) := by decide +kernel
theorem d_m_attach_71 : decode c_m_attach 71 = .ok (.aload_n 0, 1) := by decide +kernel
theorem d_m_attach_72 : decode c_m_attach 72 = .ok (.iload_n 3, 1) := by decide +kernel
theorem d_m_attach_73 : decode c_m_attach 73 = .ok (.ifCond .ne 7, 3) := by decide +kernel
theorem d_m_attach_76 : decode c_m_attach 76 = .ok (.iconst 1, 1) := by decide +kernel
theorem d_m_attach_77 : decode c_m_attach 77 = .ok (.goto 13, 3) := by decide +kernel
theorem d_m_attach_80 : decode c_m_attach 80 = .ok (.iload 4, 2) := by decide +kernel
theorem d_m_attach_82 : decode c_m_attach 82 = .ok (.ifCond .eq 7, 3) := by decide +kernel
theorem d_m_attach_85 : decode c_m_attach 85 = .ok (.iconst 0, 1) := by decide +kernel
theorem d_m_attach_86 : decode c_m_attach 86 = .ok (.goto 4, 3) := by decide +kernel
theorem d_m_attach_89 : decode c_m_attach 89 = .ok (.iconst 2, 1) := by decide +kernel
theorem d_m_attach_90 : decode c_m_attach 90 = .ok (.invokevirtual 109, 3) := by decide +kernel
theorem d_m_attach_93 : decode c_m_attach 93 = .ok (.ifCond .ne 5, 3) := by decide +kernel
theorem d_m_attach_96 : decode c_m_attach 96 = .ok (.iconst 0, 1) := by decide +kernel
theorem d_m_attach_97 : decode c_m_attach 97 = .ok (.ireturn, 1) := by decide +kernel
theorem d_m_attach_98 : decode c_m_attach 98 = .ok (.aload_n 0, 1) := by decide +kernel
theorem d_m_attach_99 : decode c_m_attach 99 = .ok (.iload_n 2, 1) := by decide +kernel
theorem d_m_attach_100 : decode c_m_attach 100 = .ok (.invokevirtual 192, 3) := by decide +kernel
theorem d_m_attach_103 : decode c_m_attach 103 = .ok (.istore 5, 2) := by decide +kernel
theorem d_m_attach_105 : decode c_m_attach 105 = .ok (.aload_n 0, 1) := by decide +kernel
theorem d_m_attach_106 : decode c_m_attach 106 = .ok (.getfield 66, 3) := by decide +kernel
theorem d_m_attach_109 : decode c_m_attach 109 = .ok (.iload_n 1, 1) := by decide +kernel
theorem d_m_attach_110 : decode c_m_attach 110 = .ok (.bipush 10, 2) := by decide +kernel
theorem d_m_attach_112 : decode c_m_attach 112 = .ok (.iload_n 2, 1) := by decide +kernel
theorem d_m_attach_113 : decode c_m_attach 113 = .ok (.imul, 1) := by decide +kernel
theorem d_m_attach_114 : decode c_m_attach 114 = .ok (.iload 5, 2) := by decide +kernel
theorem d_m_attach_116 : decode c_m_attach 116 = .ok (.iadd, 1) := by decide +kernel
theorem d_m_attach_117 : decode c_m_attach 117 = .ok (.iastore, 1) := by decide +kernel
theorem d_m_attach_118 : decode c_m_attach 118 = .ok (.iload 5, 2) := by decide +kernel
theorem d_m_attach_120 : decode c_m_attach 120 = .ok (.ireturn, 1) := by decide +kernel
theorem d_m_freeAddress_0 : decode c_m_freeAddress 0 = .ok (.iconst 1, 1) := by decide +kernel
theorem d_m_freeAddress_1 : decode c_m_freeAddress 1 = .ok (.istore_n 2, 1) := by decide +kernel
theorem d_m_freeAddress_2 : decode c_m_freeAddress 2 = .ok (.iload_n 2, 1) := by decide +kernel
theorem d_m_freeAddress_3 : decode c_m_freeAddress 3 = .ok (.bipush 6, 2) := by decide +kernel
theorem d_m_freeAddress_5 : decode c_m_freeAddress 5 = .ok (.if_icmp .gt 19, 3) := by decide +kernel
theorem d_m_freeAddress_8 : decode c_m_freeAddress 8 = .ok (.aload_n 0, 1) := by decide +kernel
theorem d_m_freeAddress_9 : decode c_m_freeAddress 9 = .ok (.iload_n 1, 1) := by decide +kernel
theorem d_m_freeAddress_10 : decode c_m_freeAddress 10 = .ok (.iload_n 2, 1) := by decide +kernel
theorem d_m_freeAddress_11 : decode c_m_freeAddress 11 = .ok (.invokevirtual 189, 3) := by decide +kernel
theorem d_m_freeAddress_14 : decode c_m_freeAddress 14 = .ok (.iconst (-1), 1) := by decide +kernel
theorem d_m_freeAddress_15 : decode c_m_freeAddress 15 = .ok (.if_icmp .eq 9, 3) := by decide +kernel
theorem d_m_freeAddress_18 : decode c_m_freeAddress 18 = .ok (.iinc 2 1, 3) := by decide +kernel
theorem d_m_freeAddress_21 : decode c_m_freeAddress 21 = .ok (.goto (-19), 3) := by decide +kernel
theorem d_m_freeAddress_24 : decode c_m_freeAddress 24 = .ok (.iload_n 2, 1) := by decide +kernel
theorem d_m_freeAddress_25 : decode c_m_freeAddress 25 = .ok (.ireturn, 1) := by decide +kernel
theorem d_m_atAddress_0 : decode c_m_atAddress 0 = .ok (.iconst (-1), 1) := by decide +kernel
theorem d_m_atAddress_1 : decode c_m_atAddress 1 = .ok (.istore_n 3, 1) := by decide +kernel
theorem d_m_atAddress_2 : decode c_m_atAddress 2 = .ok (.iconst 0, 1) := by decide +kernel
theorem d_m_atAddress_3 : decode c_m_atAddress 3 = .ok (.istore 4, 2) := by decide +kernel
theorem d_m_atAddress_5 : decode c_m_atAddress 5 = .ok (.iload 4, 2) := by decide +kernel
theorem d_m_atAddress_7 : decode c_m_atAddress 7 = .ok (.aload_n 0, 1) := by decide +kernel
theorem d_m_atAddress_8 : decode c_m_atAddress 8 = .ok (.getfield 94, 3) := by decide +kernel
theorem d_m_atAddress_11 : decode c_m_atAddress 11 = .ok (.if_icmp .ge 32, 3) := by decide +kernel
theorem d_m_atAddress_14 : decode c_m_atAddress 14 = .ok (.aload_n 0, 1) := by decide +kernel
theorem d_m_atAddress_15 : decode c_m_atAddress 15 = .ok (.getfield 66, 3) := by decide +kernel
theorem d_m_atAddress_18 : decode c_m_atAddress 18 = .ok (.iload 4, 2) := by decide +kernel
theorem d_m_atAddress_20 : decode c_m_atAddress 20 = .ok (.iaload, 1) := by decide +kernel
theorem d_m_atAddress_21 : decode c_m_atAddress 21 = .ok (.bipush 10, 2) := by decide +kernel
theorem d_m_atAddress_23 : decode c_m_atAddress 23 = .ok (.iload_n 1, 1) := by decide +kernel
theorem d_m_atAddress_24 : decode c_m_atAddress 24 = .ok (.imul, 1) := by decide +kernel
theorem d_m_atAddress_25 : decode c_m_atAddress 25 = .ok (.iload_n 2, 1) := by decide +kernel
theorem d_m_atAddress_26 : decode c_m_atAddress 26 = .ok (.iadd, 1) := by decide +kernel
theorem d_m_atAddress_27 : decode c_m_atAddress 27 = .ok (.if_icmp .ne 8, 3) := by decide +kernel
theorem d_m_atAddress_30 : decode c_m_atAddress 30 = .ok (.iload 4, 2) := by decide +kernel
theorem d_m_atAddress_32 : decode c_m_atAddress 32 = .ok (.goto 4, 3) := by decide +kernel
theorem d_m_atAddress_35 : decode c_m_atAddress 35 = .ok (.iload_n 3, 1) := by decide +kernel
theorem d_m_atAddress_36 : decode c_m_atAddress 36 = .ok (.istore_n 3, 1) := by decide +kernel
theorem d_m_atAddress_37 : decode c_m_atAddress 37 = .ok (.iinc 4 1, 3) := by decide +kernel
theorem d_m_atAddress_40 : decode c_m_atAddress 40 = .ok (.goto (-35), 3) := by decide +kernel
theorem d_m_atAddress_43 : decode c_m_atAddress 43 = .ok (.iload_n 3, 1) := by decide +kernel
theorem d_m_atAddress_44 : decode c_m_atAddress 44 = .ok (.ireturn, 1) := by decide +kernel
theorem d_m_detach_0 : decode c_m_detach 0 = .ok (.aload_n 0, 1) := by decide +kernel
theorem d_m_detach_1 : decode c_m_detach 1 = .ok (.iload_n 1, 1) := by decide +kernel
theorem d_m_detach_2 : decode c_m_detach 2 = .ok (.invokevirtual 123, 3) := by decide +kernel
theorem d_m_detach_5 : decode c_m_detach 5 = .ok (.istore_n 2, 1) := by decide +kernel
theorem d_m_detach_6 : decode c_m_detach 6 = .ok (.aload_n 0, 1) := by decide +kernel
theorem d_m_detach_7 : decode c_m_detach 7 = .ok (.iload_n 2, 1) := by decide +kernel
theorem d_m_detach_8 : decode c_m_detach 8 = .ok (.ifCond .ne 7, 3) := by decide +kernel
theorem d_m_detach_11 : decode c_m_detach 11 = .ok (.iconst 1, 1) := by decide +kernel
theorem d_m_detach_12 : decode c_m_detach 12 = .ok (.goto 27, 3) := by decide +kernel
theorem d_m_detach_15 : decode c_m_detach 15 = .ok (.aload_n 0, 1) := by decide +kernel
theorem d_m_detach_16 : decode c_m_detach 16 = .ok (.getfield 60, 3) := by decide +kernel
theorem d_m_detach_19 : decode c_m_detach 19 = .ok (.iload_n 1, 1) := by decide +kernel
theorem d_m_detach_20 : decode c_m_detach 20 = .ok (.iaload, 1) := by decide +kernel
theorem d_m_detach_21 : decode c_m_detach 21 = .ok (.ifCond .ne 13, 3) := by decide +kernel
theorem d_m_detach_24 : decode c_m_detach 24 = .ok (.aload_n 0, 1) := by decide +kernel
theorem d_m_detach_25 : decode c_m_detach 25 = .ok (.getfield 66, 3) := by decide +kernel
theorem d_m_detach_28 : decode c_m_detach 28 = .ok (.iload_n 1, 1) := by decide +kernel
theorem d_m_detach_29 : decode c_m_detach 29 = .ok (.iaload, 1) := by decide +kernel
theorem d_m_detach_30 : decode c_m_detach 30 = .ok (.iconst (-1), 1) := by decide +kernel
theorem d_m_detach_31 : decode c_m_detach 31 = .ok (.if_icmp .ne 7, 3) := by decide +kernel
theorem d_m_detach_34 : decode c_m_detach 34 = .ok (.iconst 2, 1) := by decide +kernel
theorem d_m_detach_35 : decode c_m_detach 35 = .ok (.goto 4, 3) := by decide +kernel
theorem d_m_detach_38 : decode c_m_detach 38 = .ok (.iconst 0, 1) := by decide +kernel
theorem d_m_detach_39 : decode c_m_detach 39 = .ok (.invokevirtual 109, 3) := by decide +kernel
theorem d_m_detach_42 : decode c_m_detach 42 = .ok (.ifCond .ne 5, 3) := by decide +kernel
theorem d_m_detach_45 : decode c_m_detach 45 = .ok (.iconst 0, 1) := by decide +kernel
theorem d_m_detach_46 : decode c_m_detach 46 = .ok (.ireturn, 1) := by decide +kernel
theorem d_m_detach_47 : decode c_m_detach 47 = .ok (.aload_n 0, 1) := by decide +kernel
theorem d_m_detach_48 : decode c_m_detach 48 = .ok (.getfield 66, 3) := by decide +kernel
theorem d_m_detach_51 : decode c_m_detach 51 = .ok (.iload_n 1, 1) := by decide +kernel
theorem d_m_detach_52 : decode c_m_detach 52 = .ok (.iaload, 1) := by decide +kernel
theorem d_m_detach_53 : decode c_m_detach 53 = .ok (.bipush 10, 2) := by decide +kernel
theorem d_m_detach_55 : decode c_m_detach 55 = .ok (.idiv, 1) := by decide +kernel
theorem d_m_detach_56 : decode c_m_detach 56 = .ok (.istore_n 3, 1) := by decide +kernel
theorem d_m_detach_57 : decode c_m_detach 57 = .ok (.aload_n 0, 1) := by decide +kernel
theorem d_m_detach_58 : decode c_m_detach 58 = .ok (.getfield 66, 3) := by decide +kernel
theorem d_m_detach_61 : decode c_m_detach 61 = .ok (.iload_n 1, 1) := by decide +kernel
theorem d_m_detach_62 : decode c_m_detach 62 = .ok (.iconst (-1), 1) := by decide +kernel
theorem d_m_detach_63 : decode c_m_detach 63 = .ok (.iastore, 1) := by decide +kernel
theorem d_m_detach_64 : decode c_m_detach 64 = .ok (.iload_n 3, 1) := by decide +kernel
theorem d_m_detach_65 : decode c_m_detach 65 = .ok (.ireturn, 1) := by decide +kernel
theorem d_m_listen_0 : decode c_m_listen 0 = .ok (.aload_n 0, 1) := by decide +kernel
theorem d_m_listen_1 : decode c_m_listen 1 = .ok (.iload_n 1, 1) := by decide +kernel
theorem d_m_listen_2 : decode c_m_listen 2 = .ok (.invokevirtual 123, 3) := by decide +kernel
theorem d_m_listen_5 : decode c_m_listen 5 = .ok (.ifCond .eq 16, 3) := by decide +kernel
theorem d_m_listen_8 : decode c_m_listen 8 = .ok (.iload_n 2, 1) := by decide +kernel
theorem d_m_listen_9 : decode c_m_listen 9 = .ok (.bipush 16, 2) := by decide +kernel
theorem d_m_listen_11 : decode c_m_listen 11 = .ok (.invokestatic 90, 3) := by decide +kernel
theorem d_m_listen_14 : decode c_m_listen 14 = .ok (.ifCond .eq 7, 3) := by decide +kernel
theorem d_m_listen_17 : decode c_m_listen 17 = .ok (.iconst 1, 1) := by decide +kernel
theorem d_m_listen_18 : decode c_m_listen 18 = .ok (.goto 4, 3) := by decide +kernel
theorem d_m_listen_21 : decode c_m_listen 21 = .ok (.iconst 0, 1) := by decide +kernel
theorem d_m_listen_22 : decode c_m_listen 22 = .ok (.istore_n 3, 1) := by decide +kernel
theorem d_m_listen_23 : decode c_m_listen 23 = .ok (.iload_n 3, 1) := by decide +kernel
theorem d_m_listen_24 : decode c_m_listen 24 = .ok (.ifCond .eq 39, 3) := by decide +kernel
theorem d_m_listen_27 : decode c_m_listen 27 = .ok (.aload_n 0, 1) := by decide +kernel
theorem d_m_listen_28 : decode c_m_listen 28 = .ok (.getfield 60, 3) := by decide +kernel
theorem d_m_listen_31 : decode c_m_listen 31 = .ok (.iload_n 1, 1) := by decide +kernel
theorem d_m_listen_32 : decode c_m_listen 32 = .ok (.iaload, 1) := by decide +kernel
theorem d_m_listen_33 : decode c_m_listen 33 = .ok (.ifCond .ne 30, 3) := by decide +kernel
theorem d_m_listen_36 : decode c_m_listen 36 = .ok (.aload_n 0, 1) := by decide +kernel
theorem d_m_listen_37 : decode c_m_listen 37 = .ok (.iload_n 1, 1) := by decide +kernel
theorem d_m_listen_38 : decode c_m_listen 38 = .ok (.iload_n 2, 1) := by decide +kernel
theorem d_m_listen_39 : decode c_m_listen 39 = .ok (.invokevirtual 195, 3) := by decide +kernel
theorem d_m_listen_42 : decode c_m_listen 42 = .ok (.ifCond .ne 21, 3) := by decide +kernel
theorem d_m_listen_45 : decode c_m_listen 45 = .ok (.iload_n 2, 1) := by decide +kernel
theorem d_m_listen_46 : decode c_m_listen 46 = .ok (.iconst 4, 1) := by decide +kernel
theorem d_m_listen_47 : decode c_m_listen 47 = .ok (.if_icmp .ge 12, 3) := by decide +kernel
theorem d_m_listen_50 : decode c_m_listen 50 = .ok (.aload_n 0, 1) := by decide +kernel
theorem d_m_listen_51 : decode c_m_listen 51 = .ok (.iload_n 1, 1) := by decide +kernel
theorem d_m_listen_52 : decode c_m_listen 52 = .ok (.iconst 0, 1) := by decide +kernel
theorem d_m_listen_53 : decode c_m_listen 53 = .ok (.invokevirtual 173, 3) := by decide +kernel
theorem d_m_listen_56 : decode c_m_listen 56 = .ok (.ifCond .eq 7, 3) := by decide +kernel
theorem d_m_listen_59 : decode c_m_listen 59 = .ok (.iconst 1, 1) := by decide +kernel
theorem d_m_listen_60 : decode c_m_listen 60 = .ok (.goto 4, 3) := by decide +kernel
theorem d_m_listen_63 : decode c_m_listen 63 = .ok (.iconst 0, 1) := by decide +kernel
theorem d_m_listen_64 : decode c_m_listen 64 = .ok (.istore 4, 2) := by decide +kernel
theorem d_m_listen_66 : decode c_m_listen 66 = .ok (.aload_n 0, 1) := by decide +kernel
theorem d_m_listen_67 : decode c_m_listen 67 = .ok (.iload_n 3, 1) := by decide +kernel
theorem d_m_listen_68 : decode c_m_listen 68 = .ok (.ifCond .ne 7, 3) := by decide +kernel
theorem d_m_listen_71 : decode c_m_listen 71 = .ok (.iconst 1, 1) := by decide +kernel
theorem d_m_listen_72 : decode c_m_listen 72 = .ok (.goto 13, 3) := by decide +kernel
theorem d_m_listen_75 : decode c_m_listen 75 = .ok (.iload 4, 2) := by decide +kernel
theorem d_m_listen_77 : decode c_m_listen 77 = .ok (.ifCond .eq 7, 3) := by decide +kernel
theorem d_m_listen_80 : decode c_m_listen 80 = .ok (.iconst 0, 1) := by decide +kernel
theorem d_m_listen_81 : decode c_m_listen 81 = .ok (.goto 4, 3) := by decide +kernel
theorem d_m_listen_84 : decode c_m_listen 84 = .ok (.iconst 2, 1) := by decide +kernel
theorem d_m_listen_85 : decode c_m_listen 85 = .ok (.invokevirtual 109, 3) := by decide +kernel
theorem d_m_listen_88 : decode c_m_listen 88 = .ok (.ifCond .ne 5, 3) := by decide +kernel
theorem d_m_listen_91 : decode c_m_listen 91 = .ok (.iconst 0, 1) := by decide +kernel
theorem d_m_listen_92 : decode c_m_listen 92 = .ok (.ireturn, 1) := by decide +kernel
theorem d_m_listen_93 : decode c_m_listen 93 = .ok (.aload_n 0, 1) := by decide +kernel
theorem d_m_listen_94 : decode c_m_listen 94 = .ok (.getfield 57, 3) := by decide +kernel
theorem d_m_listen_97 : decode c_m_listen 97 = .ok (.iload_n 1, 1) := by decide +kernel
theorem d_m_listen_98 : decode c_m_listen 98 = .ok (.dup2, 1) := by decide +kernel
theorem d_m_listen_99 : decode c_m_listen 99 = .ok (.iaload, 1) := by decide +kernel
theorem d_m_listen_100 : decode c_m_listen 100 = .ok (.iconst 1, 1) := by decide +kernel
theorem d_m_listen_101 : decode c_m_listen 101 = .ok (.iload_n 2, 1) := by decide +kernel
theorem d_m_listen_102 : decode c_m_listen 102 = .ok (.ishl, 1) := by decide +kernel
theorem d_m_listen_103 : decode c_m_listen 103 = .ok (.ior, 1) := by decide +kernel
theorem d_m_listen_104 : decode c_m_listen 104 = .ok (.iastore, 1) := by decide +kernel
theorem d_m_listen_105 : decode c_m_listen 105 = .ok (.iconst 0, 1) := by decide +kernel
theorem d_m_listen_106 : decode c_m_listen 106 = .ok (.istore 5, 2) := by decide +kernel
theorem d_m_listen_108 : decode c_m_listen 108 = .ok (.iconst 0, 1) := by decide +kernel
theorem d_m_listen_109 : decode c_m_listen 109 = .ok (.istore 6, 2) := by decide +kernel
theorem d_m_listen_111 : decode c_m_listen 111 = .ok (.iload 6, 2) := by decide +kernel
theorem d_m_listen_113 : decode c_m_listen 113 = .ok (.bipush 16, 2) := by decide +kernel
theorem d_m_listen_115 : decode c_m_listen 115 = .ok (.if_icmp .ge 25, 3) := by decide +kernel
theorem d_m_listen_118 : decode c_m_listen 118 = .ok (.iload 5, 2) := by decide +kernel
theorem d_m_listen_120 : decode c_m_listen 120 = .ok (.aload_n 0, 1) := by decide +kernel
theorem d_m_listen_121 : decode c_m_listen 121 = .ok (.getfield 57, 3) := by decide +kernel
theorem d_m_listen_124 : decode c_m_listen 124 = .ok (.iload_n 1, 1) := by decide +kernel
theorem d_m_listen_125 : decode c_m_listen 125 = .ok (.iaload, 1) := by decide +kernel
theorem d_m_listen_126 : decode c_m_listen 126 = .ok (.iload 6, 2) := by decide +kernel
theorem d_m_listen_128 : decode c_m_listen 128 = .ok (.ishr, 1) := by decide +kernel
theorem d_m_listen_129 : decode c_m_listen 129 = .ok (.iconst 1, 1) := by decide +kernel
theorem d_m_listen_130 : decode c_m_listen 130 = .ok (.iand, 1) := by decide +kernel
theorem d_m_listen_131 : decode c_m_listen 131 = .ok (.iadd, 1) := by decide +kernel
theorem d_m_listen_132 : decode c_m_listen 132 = .ok (.istore 5, 2) := by decide +kernel
theorem d_m_listen_134 : decode c_m_listen 134 = .ok (.iinc 6 1, 3) := by decide +kernel
theorem d_m_listen_137 : decode c_m_listen 137 = .ok (.goto (-26), 3) := by decide +kernel
theorem d_m_listen_140 : decode c_m_listen 140 = .ok (.iload 5, 2) := by decide +kernel
theorem d_m_listen_142 : decode c_m_listen 142 = .ok (.ireturn, 1) := by decide +kernel
theorem d_m_isListening_0 : decode c_m_isListening 0 = .ok (.aload_n 0, 1) := by decide +kernel
theorem d_m_isListening_1 : decode c_m_isListening 1 = .ok (.getfield 57, 3) := by decide +kernel
theorem d_m_isListening_4 : decode c_m_isListening 4 = .ok (.iload_n 1, 1) := by decide +kernel
theorem d_m_isListening_5 : decode c_m_isListening 5 = .ok (.iaload, 1) := by decide +kernel
theorem d_m_isListening_6 : decode c_m_isListening 6 = .ok (.iload_n 2, 1) := by decide +kernel
theorem d_m_isListening_7 : decode c_m_isListening 7 = .ok (.ishr, 1) := by decide +kernel
theorem d_m_isListening_8 : decode c_m_isListening 8 = .ok (.iconst 1, 1) := by decide +kernel
theorem d_m_isListening_9 : decode c_m_isListening 9 = .ok (.iand, 1) := by decide +kernel
theorem d_m_isListening_10 : decode c_m_isListening 10 = .ok (.iconst 1, 1) := by decide +kernel
theorem d_m_isListening_11 : decode c_m_isListening 11 = .ok (.if_icmp .ne 7, 3) := by decide +kernel
theorem d_m_isListening_14 : decode c_m_isListening 14 = .ok (.iconst 1, 1) := by decide +kernel
theorem d_m_isListening_15 : decode c_m_isListening 15 = .ok (.goto 4, 3) := by decide +kernel
theorem d_m_isListening_18 : decode c_m_isListening 18 = .ok (.iconst 0, 1) := by decide +kernel
theorem d_m_isListening_19 : decode c_m_isListening 19 = .ok (.ireturn, 1) := by decide +kernel
theorem d_m_publish_0 : decode c_m_publish 0 = .ok (.aload_n 0, 1) := by decide +kernel
theorem d_m_publish_1 : decode c_m_publish 1 = .ok (.iload_n 1, 1) := by decide +kernel
theorem d_m_publish_2 : decode c_m_publish 2 = .ok (.invokevirtual 123, 3) := by decide +kernel
theorem d_m_publish_5 : decode c_m_publish 5 = .ok (.ifCond .eq 25, 3) := by decide +kernel
theorem d_m_publish_8 : decode c_m_publish 8 = .ok (.iload_n 2, 1) := by decide +kernel
theorem d_m_publish_9 : decode c_m_publish 9 = .ok (.bipush 16, 2) := by decide +kernel
theorem d_m_publish_11 : decode c_m_publish 11 = .ok (.invokestatic 90, 3) := by decide +kernel
theorem d_m_publish_14 : decode c_m_publish 14 = .ok (.ifCond .eq 16, 3) := by decide +kernel
theorem d_m_publish_17 : decode c_m_publish 17 = .ok (.iload_n 3, 1) := by decide +kernel
theorem d_m_publish_18 : decode c_m_publish 18 = .ok (.bipush 32, 2) := by decide +kernel
theorem d_m_publish_20 : decode c_m_publish 20 = .ok (.invokestatic 90, 3) := by decide +kernel
theorem d_m_publish_23 : decode c_m_publish 23 = .ok (.ifCond .eq 7, 3) := by decide +kernel
theorem d_m_publish_26 : decode c_m_publish 26 = .ok (.iconst 1, 1) := by decide +kernel
theorem d_m_publish_27 : decode c_m_publish 27 = .ok (.goto 4, 3) := by decide +kernel
theorem d_m_publish_30 : decode c_m_publish 30 = .ok (.iconst 0, 1) := by decide +kernel
theorem d_m_publish_31 : decode c_m_publish 31 = .ok (.istore 4, 2) := by decide +kernel
theorem d_m_publish_33 : decode c_m_publish 33 = .ok (.aload_n 0, 1) := by decide +kernel
theorem d_m_publish_34 : decode c_m_publish 34 = .ok (.iload 4, 2) := by decide +kernel
theorem d_m_publish_36 : decode c_m_publish 36 = .ok (.ifCond .ne 7, 3) := by decide +kernel
theorem d_m_publish_39 : decode c_m_publish 39 = .ok (.iconst 1, 1) := by decide +kernel
theorem d_m_publish_40 : decode c_m_publish 40 = .ok (.goto 27, 3) := by decide +kernel
theorem d_m_publish_43 : decode c_m_publish 43 = .ok (.aload_n 0, 1) := by decide +kernel
theorem d_m_publish_44 : decode c_m_publish 44 = .ok (.iload_n 1, 1) := by decide +kernel
theorem d_m_publish_45 : decode c_m_publish 45 = .ok (.iload_n 2, 1) := by decide +kernel
theorem d_m_publish_46 : decode c_m_publish 46 = .ok (.invokevirtual 195, 3) := by decide +kernel
theorem d_m_publish_49 : decode c_m_publish 49 = .ok (.ifCond .eq 17, 3) := by decide +kernel
theorem d_m_publish_52 : decode c_m_publish 52 = .ok (.aload_n 0, 1) := by decide +kernel
theorem d_m_publish_53 : decode c_m_publish 53 = .ok (.getfield 72, 3) := by decide +kernel
theorem d_m_publish_56 : decode c_m_publish 56 = .ok (.iload_n 3, 1) := by decide +kernel
theorem d_m_publish_57 : decode c_m_publish 57 = .ok (.iaload, 1) := by decide +kernel
theorem d_m_publish_58 : decode c_m_publish 58 = .ok (.iconst (-1), 1) := by decide +kernel
theorem d_m_publish_59 : decode c_m_publish 59 = .ok (.if_icmp .ne 7, 3) := by decide +kernel
theorem d_m_publish_62 : decode c_m_publish 62 = .ok (.iconst 0, 1) := by decide +kernel
theorem d_m_publish_63 : decode c_m_publish 63 = .ok (.goto 4, 3) := by decide +kernel
theorem d_m_publish_66 : decode c_m_publish 66 = .ok (.iconst 2, 1) := by decide +kernel
theorem d_m_publish_67 : decode c_m_publish 67 = .ok (.invokevirtual 109, 3) := by decide +kernel
theorem d_m_publish_70 : decode c_m_publish 70 = .ok (.ifCond .ne 5, 3) := by decide +kernel
theorem d_m_publish_73 : decode c_m_publish 73 = .ok (.iconst 0, 1) := by decide +kernel
theorem d_m_publish_74 : decode c_m_publish 74 = .ok (.ireturn, 1) := by decide +kernel
theorem d_m_publish_75 : decode c_m_publish 75 = .ok (.aload_n 0, 1) := by decide +kernel
theorem d_m_publish_76 : decode c_m_publish 76 = .ok (.getfield 72, 3) := by decide +kernel
theorem d_m_publish_79 : decode c_m_publish 79 = .ok (.iload_n 3, 1) := by decide +kernel
theorem d_m_publish_80 : decode c_m_publish 80 = .ok (.iload_n 1, 1) := by decide +kernel
theorem d_m_publish_81 : decode c_m_publish 81 = .ok (.iastore, 1) := by decide +kernel
theorem d_m_publish_82 : decode c_m_publish 82 = .ok (.aload_n 0, 1) := by decide +kernel
theorem d_m_publish_83 : decode c_m_publish 83 = .ok (.getfield 75, 3) := by decide +kernel
theorem d_m_publish_86 : decode c_m_publish 86 = .ok (.iload_n 3, 1) := by decide +kernel
theorem d_m_publish_87 : decode c_m_publish 87 = .ok (.iload_n 2, 1) := by decide +kernel
theorem d_m_publish_88 : decode c_m_publish 88 = .ok (.iastore, 1) := by decide +kernel
theorem d_m_publish_89 : decode c_m_publish 89 = .ok (.iconst 0, 1) := by decide +kernel
theorem d_m_publish_90 : decode c_m_publish 90 = .ok (.istore 5, 2) := by decide +kernel
theorem d_m_publish_92 : decode c_m_publish 92 = .ok (.iconst 0, 1) := by decide +kernel
theorem d_m_publish_93 : decode c_m_publish 93 = .ok (.istore 6, 2) := by decide +kernel
theorem d_m_publish_95 : decode c_m_publish 95 = .ok (.iload 6, 2) := by decide +kernel
theorem d_m_publish_97 : decode c_m_publish 97 = .ok (.bipush 32, 2) := by decide +kernel
theorem d_m_publish_99 : decode c_m_publish 99 = .ok (.if_icmp .ge 30, 3) := by decide +kernel
theorem d_m_publish_102 : decode c_m_publish 102 = .ok (.iload 5, 2) := by decide +kernel
theorem d_m_publish_104 : decode c_m_publish 104 = .ok (.aload_n 0, 1) := by decide +kernel
theorem d_m_publish_105 : decode c_m_publish 105 = .ok (.getfield 72, 3) := by decide +kernel
theorem d_m_publish_108 : decode c_m_publish 108 = .ok (.iload 6, 2) := by decide +kernel
theorem d_m_publish_110 : decode c_m_publish 110 = .ok (.iaload, 1) := by decide +kernel
theorem d_m_publish_111 : decode c_m_publish 111 = .ok (.iconst (-1), 1) := by decide +kernel
theorem d_m_publish_112 : decode c_m_publish 112 = .ok (.if_icmp .ne 7, 3) := by decide +kernel
theorem d_m_publish_115 : decode c_m_publish 115 = .ok (.iconst 0, 1) := by decide +kernel
theorem d_m_publish_116 : decode c_m_publish 116 = .ok (.goto 4, 3) := by decide +kernel
theorem d_m_publish_119 : decode c_m_publish 119 = .ok (.iconst 1, 1) := by decide +kernel
theorem d_m_publish_120 : decode c_m_publish 120 = .ok (.iadd, 1) := by decide +kernel
theorem d_m_publish_121 : decode c_m_publish 121 = .ok (.istore 5, 2) := by decide +kernel
theorem d_m_publish_123 : decode c_m_publish 123 = .ok (.iinc 6 1, 3) := by decide +kernel
theorem d_m_publish_126 : decode c_m_publish 126 = .ok (.goto (-31), 3) := by decide +kernel
theorem d_m_publish_129 : decode c_m_publish 129 = .ok (.iload 5, 2) := by decide +kernel
theorem d_m_publish_131 : decode c_m_publish 131 = .ok (.ireturn, 1) := by decide +kernel
theorem d_m_connect_0 : decode c_m_connect 0 = .ok (.aload_n 0, 1) := by decide +kernel
theorem d_m_connect_1 : decode c_m_connect 1 = .ok (.iload_n 1, 1) := by decide +kernel
theorem d_m_connect_2 : decode c_m_connect 2 = .ok (.invokevirtual 123, 3) := by decide +kernel
theorem d_m_connect_5 : decode c_m_connect 5 = .ok (.ifCond .eq 16, 3) := by decide +kernel
theorem d_m_connect_8 : decode c_m_connect 8 = .ok (.iload_n 3, 1) := by decide +kernel
theorem d_m_connect_9 : decode c_m_connect 9 = .ok (.bipush 16, 2) := by decide +kernel
theorem d_m_connect_11 : decode c_m_connect 11 = .ok (.invokestatic 90, 3) := by decide +kernel
theorem d_m_connect_14 : decode c_m_connect 14 = .ok (.ifCond .eq 7, 3) := by decide +kernel
theorem d_m_connect_17 : decode c_m_connect 17 = .ok (.iconst 1, 1) := by decide +kernel
theorem d_m_connect_18 : decode c_m_connect 18 = .ok (.goto 4, 3) := by decide +kernel
theorem d_m_connect_21 : decode c_m_connect 21 = .ok (.iconst 0, 1) := by decide +kernel
theorem d_m_connect_22 : decode c_m_connect 22 = .ok (.istore 4, 2) := by decide +kernel
theorem d_m_connect_24 : decode c_m_connect 24 = .ok (.aload_n 0, 1) := by decide +kernel
theorem d_m_connect_25 : decode c_m_connect 25 = .ok (.iload 4, 2) := by decide +kernel
theorem d_m_connect_27 : decode c_m_connect 27 = .ok (.ifCond .ne 7, 3) := by decide +kernel
theorem d_m_connect_30 : decode c_m_connect 30 = .ok (.iconst 1, 1) := by decide +kernel
theorem d_m_connect_31 : decode c_m_connect 31 = .ok (.goto 42, 3) := by decide +kernel
theorem d_m_connect_34 : decode c_m_connect 34 = .ok (.iload_n 2, 1) := by decide +kernel
theorem d_m_connect_35 : decode c_m_connect 35 = .ok (.iconst 1, 1) := by decide +kernel
theorem d_m_connect_36 : decode c_m_connect 36 = .ok (.if_icmp .lt 9, 3) := by decide +kernel
theorem d_m_connect_39 : decode c_m_connect 39 = .ok (.iload_n 2, 1) := by decide +kernel
theorem d_m_connect_40 : decode c_m_connect 40 = .ok (.bipush 6, 2) := by decide +kernel
theorem d_m_connect_42 : decode c_m_connect 42 = .ok (.if_icmp .le 7, 3) := by decide +kernel
theorem d_m_connect_45 : decode c_m_connect 45 = .ok (.iconst 2, 1) := by decide +kernel
theorem d_m_connect_46 : decode c_m_connect 46 = .ok (.goto 27, 3) := by decide +kernel
theorem d_m_connect_49 : decode c_m_connect 49 = .ok (.aload_n 0, 1) := by decide +kernel
theorem d_m_connect_50 : decode c_m_connect 50 = .ok (.getfield 60, 3) := by decide +kernel
theorem d_m_connect_53 : decode c_m_connect 53 = .ok (.iload_n 1, 1) := by decide +kernel
theorem d_m_connect_54 : decode c_m_connect 54 = .ok (.iaload, 1) := by decide +kernel
theorem d_m_connect_55 : decode c_m_connect 55 = .ok (.ifCond .ne 13, 3) := by decide +kernel
theorem d_m_connect_58 : decode c_m_connect 58 = .ok (.aload_n 0, 1) := by decide +kernel
theorem d_m_connect_59 : decode c_m_connect 59 = .ok (.getfield 66, 3) := by decide +kernel
theorem d_m_connect_62 : decode c_m_connect 62 = .ok (.iload_n 1, 1) := by decide +kernel
theorem d_m_connect_63 : decode c_m_connect 63 = .ok (.iaload, 1) := by decide +kernel
theorem d_m_connect_64 : decode c_m_connect 64 = .ok (.iconst (-1), 1) := by decide +kernel
theorem d_m_connect_65 : decode c_m_connect 65 = .ok (.if_icmp .ne 7, 3) := by decide +kernel
theorem d_m_connect_68 : decode c_m_connect 68 = .ok (.iconst 3, 1) := by decide +kernel
theorem d_m_connect_69 : decode c_m_connect 69 = .ok (.goto 4, 3) := by decide +kernel
theorem d_m_connect_72 : decode c_m_connect 72 = .ok (.iconst 0, 1) := by decide +kernel
theorem d_m_connect_73 : decode c_m_connect 73 = .ok (.invokevirtual 109, 3) := by decide +kernel
theorem d_m_connect_76 : decode c_m_connect 76 = .ok (.ifCond .ne 5, 3) := by decide +kernel
theorem d_m_connect_79 : decode c_m_connect 79 = .ok (.iconst 0, 1) := by decide +kernel
theorem d_m_connect_80 : decode c_m_connect 80 = .ok (.ireturn, 1) := by decide +kernel
theorem d_m_connect_81 : decode c_m_connect 81 = .ok (.aload_n 0, 1) := by decide +kernel
theorem d_m_connect_82 : decode c_m_connect 82 = .ok (.aload_n 0, 1) := by decide +kernel
theorem d_m_connect_83 : decode c_m_connect 83 = .ok (.getfield 66, 3) := by decide +kernel
theorem d_m_connect_86 : decode c_m_connect 86 = .ok (.iload_n 1, 1) := by decide +kernel
theorem d_m_connect_87 : decode c_m_connect 87 = .ok (.iaload, 1) := by decide +kernel
theorem d_m_connect_88 : decode c_m_connect 88 = .ok (.bipush 10, 2) := by decide +kernel
theorem d_m_connect_90 : decode c_m_connect 90 = .ok (.idiv, 1) := by decide +kernel
theorem d_m_connect_91 : decode c_m_connect 91 = .ok (.iload_n 2, 1) := by decide +kernel
theorem d_m_connect_92 : decode c_m_connect 92 = .ok (.invokevirtual 189, 3) := by decide +kernel
theorem d_m_connect_95 : decode c_m_connect 95 = .ok (.istore 5, 2) := by decide +kernel
theorem d_m_connect_97 : decode c_m_connect 97 = .ok (.iload 5, 2) := by decide +kernel
theorem d_m_connect_99 : decode c_m_connect 99 = .ok (.iconst (-1), 1) := by decide +kernel
theorem d_m_connect_100 : decode c_m_connect 100 = .ok (.if_icmp .eq 28, 3) := by decide +kernel
theorem d_m_connect_103 : decode c_m_connect 103 = .ok (.aload_n 0, 1) := by decide +kernel
theorem d_m_connect_104 : decode c_m_connect 104 = .ok (.getfield 60, 3) := by decide +kernel
theorem d_m_connect_107 : decode c_m_connect 107 = .ok (.iload 5, 2) := by decide +kernel
theorem d_m_connect_109 : decode c_m_connect 109 = .ok (.iaload, 1) := by decide +kernel
theorem d_m_connect_110 : decode c_m_connect 110 = .ok (.ifCond .ne 18, 3) := by decide +kernel
theorem d_m_connect_113 : decode c_m_connect 113 = .ok (.aload_n 0, 1) := by decide +kernel
theorem d_m_connect_114 : decode c_m_connect 114 = .ok (.iload 5, 2) := by decide +kernel
theorem d_m_connect_116 : decode c_m_connect 116 = .ok (.iload_n 3, 1) := by decide +kernel
theorem d_m_connect_117 : decode c_m_connect 117 = .ok (.invokevirtual 195, 3) := by decide +kernel
theorem d_m_connect_120 : decode c_m_connect 120 = .ok (.ifCond .eq 8, 3) := by decide +kernel
theorem d_m_connect_123 : decode c_m_connect 123 = .ok (.iload 5, 2) := by decide +kernel
theorem d_m_connect_125 : decode c_m_connect 125 = .ok (.goto 4, 3) := by decide +kernel
theorem d_m_connect_128 : decode c_m_connect 128 = .ok (.iconst (-1), 1) := by decide +kernel
theorem d_m_connect_129 : decode c_m_connect 129 = .ok (.ireturn, 1) := by decide +kernel
theorem d_m_connectHost_0 : decode c_m_connectHost 0 = .ok (.aload_n 0, 1) := by decide +kernel
theorem d_m_connectHost_1 : decode c_m_connectHost 1 = .ok (.iload_n 1, 1) := by decide +kernel
theorem d_m_connectHost_2 : decode c_m_connectHost 2 = .ok (.bipush 32, 2) := by decide +kernel
theorem d_m_connectHost_4 : decode c_m_connectHost 4 = .ok (.invokestatic 90, 3) := by decide +kernel
theorem d_m_connectHost_7 : decode c_m_connectHost 7 = .ok (.ifCond .eq 7, 3) := by decide +kernel
theorem d_m_connectHost_10 : decode c_m_connectHost 10 = .ok (.iconst 0, 1) := by decide +kernel
theorem d_m_connectHost_11 : decode c_m_connectHost 11 = .ok (.goto 4, 3) := by decide +kernel
theorem d_m_connectHost_14 : decode c_m_connectHost 14 = .ok (.iconst 1, 1) := by decide +kernel
theorem d_m_connectHost_15 : decode c_m_connectHost 15 = .ok (.invokevirtual 109, 3) := by decide +kernel
theorem d_m_connectHost_18 : decode c_m_connectHost 18 = .ok (.ifCond .ne 5, 3) := by decide +kernel
theorem d_m_connectHost_21 : decode c_m_connectHost 21 = .ok (.iconst 0, 1) := by decide +kernel
theorem d_m_connectHost_22 : decode c_m_connectHost 22 = .ok (.ireturn, 1) := by decide +kernel
theorem d_m_connectHost_23 : decode c_m_connectHost 23 = .ok (.aload_n 0, 1) := by decide +kernel
theorem d_m_connectHost_24 : decode c_m_connectHost 24 = .ok (.getfield 72, 3) := by decide +kernel
theorem d_m_connectHost_27 : decode c_m_connectHost 27 = .ok (.iload_n 1, 1) := by decide +kernel
theorem d_m_connectHost_28 : decode c_m_connectHost 28 = .ok (.iaload, 1) := by decide +kernel
theorem d_m_connectHost_29 : decode c_m_connectHost 29 = .ok (.istore_n 2, 1) := by decide +kernel
theorem d_m_connectHost_30 : decode c_m_connectHost 30 = .ok (.iload_n 2, 1) := by decide +kernel
theorem d_m_connectHost_31 : decode c_m_connectHost 31 = .ok (.iconst (-1), 1) := by decide +kernel
theorem d_m_connectHost_32 : decode c_m_connectHost 32 = .ok (.if_icmp .eq 16, 3) := by decide +kernel
theorem d_m_connectHost_35 : decode c_m_connectHost 35 = .ok (.aload_n 0, 1) := by decide +kernel
theorem d_m_connectHost_36 : decode c_m_connectHost 36 = .ok (.getfield 60, 3) := by decide +kernel
theorem d_m_connectHost_39 : decode c_m_connectHost 39 = .ok (.iload_n 2, 1) := by decide +kernel
theorem d_m_connectHost_40 : decode c_m_connectHost 40 = .ok (.iaload, 1) := by decide +kernel
theorem d_m_connectHost_41 : decode c_m_connectHost 41 = .ok (.ifCond .ne 7, 3) := by decide +kernel
theorem d_m_connectHost_44 : decode c_m_connectHost 44 = .ok (.iload_n 2, 1) := by decide +kernel
theorem d_m_connectHost_45 : decode c_m_connectHost 45 = .ok (.goto 4, 3) := by decide +kernel
theorem d_m_connectHost_48 : decode c_m_connectHost 48 = .ok (.iconst (-1), 1) := by decide +kernel
theorem d_m_connectHost_49 : decode c_m_connectHost 49 = .ok (.ireturn, 1) := by decide +kernel
theorem d_m_save_0 : decode c_m_save 0 = .ok (.aload_n 0, 1) := by decide +kernel
theorem d_m_save_1 : decode c_m_save 1 = .ok (.iload_n 1, 1) := by decide +kernel
theorem d_m_save_2 : decode c_m_save 2 = .ok (.invokevirtual 123, 3) := by decide +kernel
theorem d_m_save_5 : decode c_m_save 5 = .ok (.istore_n 2, 1) := by decide +kernel
theorem d_m_save_6 : decode c_m_save 6 = .ok (.aload_n 0, 1) := by decide +kernel
theorem d_m_save_7 : decode c_m_save 7 = .ok (.iload_n 2, 1) := by decide +kernel
theorem d_m_save_8 : decode c_m_save 8 = .ok (.ifCond .ne 7, 3) := by decide +kernel
theorem d_m_save_11 : decode c_m_save 11 = .ok (.iconst 1, 1) := by decide +kernel
theorem d_m_save_12 : decode c_m_save 12 = .ok (.goto 26, 3) := by decide +kernel
theorem d_m_save_15 : decode c_m_save 15 = .ok (.aload_n 0, 1) := by decide +kernel
theorem d_m_save_16 : decode c_m_save 16 = .ok (.getfield 60, 3) := by decide +kernel
theorem d_m_save_19 : decode c_m_save 19 = .ok (.iload_n 1, 1) := by decide +kernel
theorem d_m_save_20 : decode c_m_save 20 = .ok (.iaload, 1) := by decide +kernel
theorem d_m_save_21 : decode c_m_save 21 = .ok (.iconst 1, 1) := by decide +kernel
theorem d_m_save_22 : decode c_m_save 22 = .ok (.if_icmp .ne 11, 3) := by decide +kernel
theorem d_m_save_25 : decode c_m_save 25 = .ok (.aload_n 0, 1) := by decide +kernel
theorem d_m_save_26 : decode c_m_save 26 = .ok (.getfield 198, 3) := by decide +kernel
theorem d_m_save_29 : decode c_m_save 29 = .ok (.iconst 5, 1) := by decide +kernel
theorem d_m_save_30 : decode c_m_save 30 = .ok (.if_icmp .ne 7, 3) := by decide +kernel
theorem d_m_save_33 : decode c_m_save 33 = .ok (.iconst 2, 1) := by decide +kernel
theorem d_m_save_34 : decode c_m_save 34 = .ok (.goto 4, 3) := by decide +kernel
theorem d_m_save_37 : decode c_m_save 37 = .ok (.iconst 0, 1) := by decide +kernel
theorem d_m_save_38 : decode c_m_save 38 = .ok (.invokevirtual 109, 3) := by decide +kernel
theorem d_m_save_41 : decode c_m_save 41 = .ok (.ifCond .ne 5, 3) := by decide +kernel
theorem d_m_save_44 : decode c_m_save 44 = .ok (.iconst 0, 1) := by decide +kernel
theorem d_m_save_45 : decode c_m_save 45 = .ok (.ireturn, 1) := by decide +kernel
theorem d_m_save_46 : decode c_m_save 46 = .ok (.aload_n 0, 1) := by decide +kernel
theorem d_m_save_47 : decode c_m_save 47 = .ok (.bipush 20, 2) := by decide +kernel
theorem d_m_save_49 : decode c_m_save 49 = .ok (.aload_n 0, 1) := by decide +kernel
theorem d_m_save_50 : decode c_m_save 50 = .ok (.getfield 198, 3) := by decide +kernel
theorem d_m_save_53 : decode c_m_save 53 = .ok (.iadd, 1) := by decide +kernel
theorem d_m_save_54 : decode c_m_save 54 = .ok (.iload_n 1, 1) := by decide +kernel
theorem d_m_save_55 : decode c_m_save 55 = .ok (.invokevirtual 201, 3) := by decide +kernel
theorem d_m_save_58 : decode c_m_save 58 = .ok (.aload_n 0, 1) := by decide +kernel
theorem d_m_save_59 : decode c_m_save 59 = .ok (.dup, 1) := by decide +kernel
theorem d_m_save_60 : decode c_m_save 60 = .ok (.getfield 198, 3) := by decide +kernel
theorem d_m_save_63 : decode c_m_save 63 = .ok (.iconst 1, 1) := by decide +kernel
theorem d_m_save_64 : decode c_m_save 64 = .ok (.iadd, 1) := by decide +kernel
theorem d_m_save_65 : decode c_m_save 65 = .ok (.putfield 198, 3) := by decide +kernel
theorem d_m_save_68 : decode c_m_save 68 = .ok (.aload_n 0, 1) := by decide +kernel
theorem d_m_save_69 : decode c_m_save 69 = .ok (.getfield 198, 3) := by decide +kernel
theorem d_m_save_72 : decode c_m_save 72 = .ok (.iconst 1, 1) := by decide +kernel
theorem d_m_save_73 : decode c_m_save 73 = .ok (.isub, 1) := by decide +kernel
theorem d_m_save_74 : decode c_m_save 74 = .ok (.ireturn, 1) := by decide +kernel
theorem d_m_keeps_0 : decode c_m_keeps 0 = .ok (.aload_n 0, 1) := by decide +kernel
theorem d_m_keeps_1 : decode c_m_keeps 1 = .ok (.getfield 39, 3) := by decide +kernel
theorem d_m_keeps_4 : decode c_m_keeps 4 = .ok (.iload_n 1, 1) := by decide +kernel
theorem d_m_keeps_5 : decode c_m_keeps 5 = .ok (.aload_n 0, 1) := by decide +kernel
theorem d_m_keeps_6 : decode c_m_keeps 6 = .ok (.getfield 39, 3) := by decide +kernel
theorem d_m_keeps_9 : decode c_m_keeps 9 = .ok (.iload_n 2, 1) := by decide +kernel
theorem d_m_keeps_10 : decode c_m_keeps 10 = .ok (.iaload, 1) := by decide +kernel
theorem d_m_keeps_11 : decode c_m_keeps 11 = .ok (.iastore, 1) := by decide +kernel
theorem d_m_keeps_12 : decode c_m_keeps 12 = .ok (.aload_n 0, 1) := by decide +kernel
theorem d_m_keeps_13 : decode c_m_keeps 13 = .ok (.getfield 42, 3) := by decide +kernel
theorem d_m_keeps_16 : decode c_m_keeps 16 = .ok (.iload_n 1, 1) := by decide +kernel
theorem d_m_keeps_17 : decode c_m_keeps 17 = .ok (.aload_n 0, 1) := by decide +kernel
theorem d_m_keeps_18 : decode c_m_keeps 18 = .ok (.getfield 42, 3) := by decide +kernel
theorem d_m_keeps_21 : decode c_m_keeps 21 = .ok (.iload_n 2, 1) := by decide +kernel
theorem d_m_keeps_22 : decode c_m_keeps 22 = .ok (.iaload, 1) := by decide +kernel
theorem d_m_keeps_23 : decode c_m_keeps 23 = .ok (.iastore, 1) := by decide +kernel
theorem d_m_keeps_24 : decode c_m_keeps 24 = .ok (.aload_n 0, 1) := by decide +kernel
theorem d_m_keeps_25 : decode c_m_keeps 25 = .ok (.getfield 45, 3) := by decide +kernel
theorem d_m_keeps_28 : decode c_m_keeps 28 = .ok (.iload_n 1, 1) := by decide +kernel
theorem d_m_keeps_29 : decode c_m_keeps 29 = .ok (.aload_n 0, 1) := by decide +kernel
theorem d_m_keeps_30 : decode c_m_keeps 30 = .ok (.getfield 45, 3) := by decide +kernel
theorem d_m_keeps_33 : decode c_m_keeps 33 = .ok (.iload_n 2, 1) := by decide +kernel
theorem d_m_keeps_34 : decode c_m_keeps 34 = .ok (.iaload, 1) := by decide +kernel
theorem d_m_keeps_35 : decode c_m_keeps 35 = .ok (.iastore, 1) := by decide +kernel
theorem d_m_keeps_36 : decode c_m_keeps 36 = .ok (.aload_n 0, 1) := by decide +kernel
theorem d_m_keeps_37 : decode c_m_keeps 37 = .ok (.getfield 48, 3) := by decide +kernel
theorem d_m_keeps_40 : decode c_m_keeps 40 = .ok (.iload_n 1, 1) := by decide +kernel
theorem d_m_keeps_41 : decode c_m_keeps 41 = .ok (.aload_n 0, 1) := by decide +kernel
theorem d_m_keeps_42 : decode c_m_keeps 42 = .ok (.getfield 48, 3) := by decide +kernel
theorem d_m_keeps_45 : decode c_m_keeps 45 = .ok (.iload_n 2, 1) := by decide +kernel
theorem d_m_keeps_46 : decode c_m_keeps 46 = .ok (.iaload, 1) := by decide +kernel
theorem d_m_keeps_47 : decode c_m_keeps 47 = .ok (.iastore, 1) := by decide +kernel
theorem d_m_keeps_48 : decode c_m_keeps 48 = .ok (.aload_n 0, 1) := by decide +kernel
theorem d_m_keeps_49 : decode c_m_keeps 49 = .ok (.getfield 51, 3) := by decide +kernel
theorem d_m_keeps_52 : decode c_m_keeps 52 = .ok (.iload_n 1, 1) := by decide +kernel
theorem d_m_keeps_53 : decode c_m_keeps 53 = .ok (.aload_n 0, 1) := by decide +kernel
theorem d_m_keeps_54 : decode c_m_keeps 54 = .ok (.getfield 51, 3) := by decide +kernel
theorem d_m_keeps_57 : decode c_m_keeps 57 = .ok (.iload_n 2, 1) := by decide +kernel
theorem d_m_keeps_58 : decode c_m_keeps 58 = .ok (.iaload, 1) := by decide +kernel
theorem d_m_keeps_59 : decode c_m_keeps 59 = .ok (.iastore, 1) := by decide +kernel
theorem d_m_keeps_60 : decode c_m_keeps 60 = .ok (.aload_n 0, 1) := by decide +kernel
theorem d_m_keeps_61 : decode c_m_keeps 61 = .ok (.getfield 54, 3) := by decide +kernel
theorem d_m_keeps_64 : decode c_m_keeps 64 = .ok (.iload_n 1, 1) := by decide +kernel
theorem d_m_keeps_65 : decode c_m_keeps 65 = .ok (.aload_n 0, 1) := by decide +kernel
theorem d_m_keeps_66 : decode c_m_keeps 66 = .ok (.getfield 54, 3) := by decide +kernel
theorem d_m_keeps_69 : decode c_m_keeps 69 = .ok (.iload_n 2, 1) := by decide +kernel
theorem d_m_keeps_70 : decode c_m_keeps 70 = .ok (.iaload, 1) := by decide +kernel
theorem d_m_keeps_71 : decode c_m_keeps 71 = .ok (.iastore, 1) := by decide +kernel
theorem d_m_keeps_72 : decode c_m_keeps 72 = .ok (.aload_n 0, 1) := by decide +kernel
theorem d_m_keeps_73 : decode c_m_keeps 73 = .ok (.getfield 57, 3) := by decide +kernel
theorem d_m_keeps_76 : decode c_m_keeps 76 = .ok (.iload_n 1, 1) := by decide +kernel
theorem d_m_keeps_77 : decode c_m_keeps 77 = .ok (.aload_n 0, 1) := by decide +kernel
theorem d_m_keeps_78 : decode c_m_keeps 78 = .ok (.getfield 57, 3) := by decide +kernel
theorem d_m_keeps_81 : decode c_m_keeps 81 = .ok (.iload_n 2, 1) := by decide +kernel
theorem d_m_keeps_82 : decode c_m_keeps 82 = .ok (.iaload, 1) := by decide +kernel
theorem d_m_keeps_83 : decode c_m_keeps 83 = .ok (.iastore, 1) := by decide +kernel
theorem d_m_keeps_84 : decode c_m_keeps 84 = .ok (.aload_n 0, 1) := by decide +kernel
theorem d_m_keeps_85 : decode c_m_keeps 85 = .ok (.bipush 10, 2) := by decide +kernel
theorem d_m_keeps_87 : decode c_m_keeps 87 = .ok (.iload_n 1, 1) := by decide +kernel
theorem d_m_keeps_88 : decode c_m_keeps 88 = .ok (.iadd, 1) := by decide +kernel
theorem d_m_keeps_89 : decode c_m_keeps 89 = .ok (.bipush 10, 2) := by decide +kernel
theorem d_m_keeps_91 : decode c_m_keeps 91 = .ok (.iload_n 2, 1) := by decide +kernel
theorem d_m_keeps_92 : decode c_m_keeps 92 = .ok (.iadd, 1) := by decide +kernel
theorem d_m_keeps_93 : decode c_m_keeps 93 = .ok (.invokevirtual 126, 3) := by decide +kernel
theorem d_m_keeps_96 : decode c_m_keeps 96 = .ok (.return_, 1) := by decide +kernel
theorem d_m_restore_0 : decode c_m_restore 0 = .ok (.iload_n 1, 1) := by decide +kernel
theorem d_m_restore_1 : decode c_m_restore 1 = .ok (.aload_n 0, 1) := by decide +kernel
theorem d_m_restore_2 : decode c_m_restore 2 = .ok (.getfield 198, 3) := by decide +kernel
theorem d_m_restore_5 : decode c_m_restore 5 = .ok (.invokestatic 90, 3) := by decide +kernel
theorem d_m_restore_8 : decode c_m_restore 8 = .ok (.ifCond .eq 15, 3) := by decide +kernel
theorem d_m_restore_11 : decode c_m_restore 11 = .ok (.aload_n 0, 1) := by decide +kernel
theorem d_m_restore_12 : decode c_m_restore 12 = .ok (.iload_n 2, 1) := by decide +kernel
theorem d_m_restore_13 : decode c_m_restore 13 = .ok (.invokevirtual 133, 3) := by decide +kernel
theorem d_m_restore_16 : decode c_m_restore 16 = .ok (.ifCond .eq 7, 3) := by decide +kernel
theorem d_m_restore_19 : decode c_m_restore 19 = .ok (.iconst 1, 1) := by decide +kernel
theorem d_m_restore_20 : decode c_m_restore 20 = .ok (.goto 4, 3) := by decide +kernel
theorem d_m_restore_23 : decode c_m_restore 23 = .ok (.iconst 0, 1) := by decide +kernel
theorem d_m_restore_24 : decode c_m_restore 24 = .ok (.istore_n 3, 1) := by decide +kernel
theorem d_m_restore_25 : decode c_m_restore 25 = .ok (.bipush 20, 2) := by decide +kernel
theorem d_m_restore_27 : decode c_m_restore 27 = .ok (.iload_n 1, 1) := by decide +kernel
theorem d_m_restore_28 : decode c_m_restore 28 = .ok (.iadd, 1) := by decide +kernel
theorem d_m_restore_29 : decode c_m_restore 29 = .ok (.istore 4, 2) := by decide +kernel
theorem d_m_restore_31 : decode c_m_restore 31 = .ok (.aload_n 0, 1) := by decide +kernel
theorem d_m_restore_32 : decode c_m_restore 32 = .ok (.iload_n 3, 1) := by decide +kernel
theorem d_m_restore_33 : decode c_m_restore 33 = .ok (.ifCond .ne 7, 3) := by decide +kernel
theorem d_m_restore_36 : decode c_m_restore 36 = .ok (.iconst 1, 1) := by decide +kernel
theorem d_m_restore_37 : decode c_m_restore 37 = .ok (.goto 40, 3) := by decide +kernel
theorem d_m_restore_40 : decode c_m_restore 40 = .ok (.aload_n 0, 1) := by decide +kernel
theorem d_m_restore_41 : decode c_m_restore 41 = .ok (.getfield 94, 3) := by decide +kernel
theorem d_m_restore_44 : decode c_m_restore 44 = .ok (.bipush 20, 2) := by decide +kernel
theorem d_m_restore_46 : decode c_m_restore 46 = .ok (.if_icmp .eq 26, 3) := by decide +kernel
theorem d_m_restore_49 : decode c_m_restore 49 = .ok (.aload_n 0, 1) := by decide +kernel
theorem d_m_restore_50 : decode c_m_restore 50 = .ok (.iload_n 2, 1) := by decide +kernel
theorem d_m_restore_51 : decode c_m_restore 51 = .ok (.aload_n 0, 1) := by decide +kernel
theorem d_m_restore_52 : decode c_m_restore 52 = .ok (.getfield 45, 3) := by decide +kernel
theorem d_m_restore_55 : decode c_m_restore 55 = .ok (.iload 4, 2) := by decide +kernel
theorem d_m_restore_57 : decode c_m_restore 57 = .ok (.iaload, 1) := by decide +kernel
theorem d_m_restore_58 : decode c_m_restore 58 = .ok (.aload_n 0, 1) := by decide +kernel
theorem d_m_restore_59 : decode c_m_restore 59 = .ok (.getfield 48, 3) := by decide +kernel
theorem d_m_restore_62 : decode c_m_restore 62 = .ok (.iload 4, 2) := by decide +kernel
theorem d_m_restore_64 : decode c_m_restore 64 = .ok (.iaload, 1) := by decide +kernel
theorem d_m_restore_65 : decode c_m_restore 65 = .ok (.invokevirtual 142, 3) := by decide +kernel
theorem d_m_restore_68 : decode c_m_restore 68 = .ok (.iconst (-1), 1) := by decide +kernel
theorem d_m_restore_69 : decode c_m_restore 69 = .ok (.if_icmp .eq 7, 3) := by decide +kernel
theorem d_m_restore_72 : decode c_m_restore 72 = .ok (.iconst 2, 1) := by decide +kernel
theorem d_m_restore_73 : decode c_m_restore 73 = .ok (.goto 4, 3) := by decide +kernel
theorem d_m_restore_76 : decode c_m_restore 76 = .ok (.iconst 0, 1) := by decide +kernel
theorem d_m_restore_77 : decode c_m_restore 77 = .ok (.invokevirtual 109, 3) := by decide +kernel
theorem d_m_restore_80 : decode c_m_restore 80 = .ok (.ifCond .ne 5, 3) := by decide +kernel
theorem d_m_restore_83 : decode c_m_restore 83 = .ok (.iconst 0, 1) := by decide +kernel
theorem d_m_restore_84 : decode c_m_restore 84 = .ok (.ireturn, 1) := by decide +kernel
theorem d_m_restore_85 : decode c_m_restore 85 = .ok (.aload_n 0, 1) := by decide +kernel
theorem d_m_restore_86 : decode c_m_restore 86 = .ok (.iconst 0, 1) := by decide +kernel
theorem d_m_restore_87 : decode c_m_restore 87 = .ok (.iload_n 2, 1) := by decide +kernel
theorem d_m_restore_88 : decode c_m_restore 88 = .ok (.iconst 0, 1) := by decide +kernel
theorem d_m_restore_89 : decode c_m_restore 89 = .ok (.iconst 1, 1) := by decide +kernel
theorem d_m_restore_90 : decode c_m_restore 90 = .ok (.invokevirtual 145, 3) := by decide +kernel
theorem d_m_restore_93 : decode c_m_restore 93 = .ok (.aload_n 0, 1) := by decide +kernel
theorem d_m_restore_94 : decode c_m_restore 94 = .ok (.aload_n 0, 1) := by decide +kernel
theorem d_m_restore_95 : decode c_m_restore 95 = .ok (.getfield 94, 3) := by decide +kernel
theorem d_m_restore_98 : decode c_m_restore 98 = .ok (.iconst 1, 1) := by decide +kernel
theorem d_m_restore_99 : decode c_m_restore 99 = .ok (.isub, 1) := by decide +kernel
theorem d_m_restore_100 : decode c_m_restore 100 = .ok (.iload 4, 2) := by decide +kernel
theorem d_m_restore_102 : decode c_m_restore 102 = .ok (.invokevirtual 201, 3) := by decide +kernel
theorem d_m_restore_105 : decode c_m_restore 105 = .ok (.aload_n 0, 1) := by decide +kernel
theorem d_m_restore_106 : decode c_m_restore 106 = .ok (.getfield 94, 3) := by decide +kernel
theorem d_m_restore_109 : decode c_m_restore 109 = .ok (.iconst 1, 1) := by decide +kernel
theorem d_m_restore_110 : decode c_m_restore 110 = .ok (.isub, 1) := by decide +kernel
theorem d_m_restore_111 : decode c_m_restore 111 = .ok (.ireturn, 1) := by decide +kernel
theorem d_m_containers_0 : decode c_m_containers 0 = .ok (.aload_n 0, 1) := by decide +kernel
theorem d_m_containers_1 : decode c_m_containers 1 = .ok (.iconst 0, 1) := by decide +kernel
theorem d_m_containers_2 : decode c_m_containers 2 = .ok (.putfield 84, 3) := by decide +kernel
theorem d_m_containers_5 : decode c_m_containers 5 = .ok (.aload_n 0, 1) := by decide +kernel
theorem d_m_containers_6 : decode c_m_containers 6 = .ok (.getfield 94, 3) := by decide +kernel
theorem d_m_containers_9 : decode c_m_containers 9 = .ok (.ireturn, 1) := by decide +kernel
theorem d_m_stateOf_0 : decode c_m_stateOf 0 = .ok (.aload_n 0, 1) := by decide +kernel
theorem d_m_stateOf_1 : decode c_m_stateOf 1 = .ok (.iload_n 1, 1) := by decide +kernel
theorem d_m_stateOf_2 : decode c_m_stateOf 2 = .ok (.invokevirtual 204, 3) := by decide +kernel
theorem d_m_stateOf_5 : decode c_m_stateOf 5 = .ok (.ifCond .eq 12, 3) := by decide +kernel
theorem d_m_stateOf_8 : decode c_m_stateOf 8 = .ok (.aload_n 0, 1) := by decide +kernel
theorem d_m_stateOf_9 : decode c_m_stateOf 9 = .ok (.getfield 60, 3) := by decide +kernel
theorem d_m_stateOf_12 : decode c_m_stateOf 12 = .ok (.iload_n 1, 1) := by decide +kernel
theorem d_m_stateOf_13 : decode c_m_stateOf 13 = .ok (.iaload, 1) := by decide +kernel
theorem d_m_stateOf_14 : decode c_m_stateOf 14 = .ok (.goto 4, 3) := by decide +kernel
theorem d_m_stateOf_17 : decode c_m_stateOf 17 = .ok (.iconst 0, 1) := by decide +kernel
theorem d_m_stateOf_18 : decode c_m_stateOf 18 = .ok (.ireturn, 1) := by decide +kernel
theorem d_m_isAsked_0 : decode c_m_isAsked 0 = .ok (.aload_n 0, 1) := by decide +kernel
theorem d_m_isAsked_1 : decode c_m_isAsked 1 = .ok (.aload_n 0, 1) := by decide +kernel
theorem d_m_isAsked_2 : decode c_m_isAsked 2 = .ok (.iload_n 1, 1) := by decide +kernel
theorem d_m_isAsked_3 : decode c_m_isAsked 3 = .ok (.invokevirtual 123, 3) := by decide +kernel
theorem d_m_isAsked_6 : decode c_m_isAsked 6 = .ok (.ifCond .eq 7, 3) := by decide +kernel
theorem d_m_isAsked_9 : decode c_m_isAsked 9 = .ok (.iconst 0, 1) := by decide +kernel
theorem d_m_isAsked_10 : decode c_m_isAsked 10 = .ok (.goto 4, 3) := by decide +kernel
theorem d_m_isAsked_13 : decode c_m_isAsked 13 = .ok (.iconst 1, 1) := by decide +kernel
theorem d_m_isAsked_14 : decode c_m_isAsked 14 = .ok (.invokevirtual 109, 3) := by decide +kernel
theorem d_m_isAsked_17 : decode c_m_isAsked 17 = .ok (.ireturn, 1) := by decide +kernel
theorem d_m_memoryOf_0 : decode c_m_memoryOf 0 = .ok (.aload_n 0, 1) := by decide +kernel
theorem d_m_memoryOf_1 : decode c_m_memoryOf 1 = .ok (.iload_n 1, 1) := by decide +kernel
theorem d_m_memoryOf_2 : decode c_m_memoryOf 2 = .ok (.invokevirtual 204, 3) := by decide +kernel
theorem d_m_memoryOf_5 : decode c_m_memoryOf 5 = .ok (.ifCond .eq 12, 3) := by decide +kernel
theorem d_m_memoryOf_8 : decode c_m_memoryOf 8 = .ok (.aload_n 0, 1) := by decide +kernel
theorem d_m_memoryOf_9 : decode c_m_memoryOf 9 = .ok (.getfield 45, 3) := by decide +kernel
theorem d_m_memoryOf_12 : decode c_m_memoryOf 12 = .ok (.iload_n 1, 1) := by decide +kernel
theorem d_m_memoryOf_13 : decode c_m_memoryOf 13 = .ok (.iaload, 1) := by decide +kernel
theorem d_m_memoryOf_14 : decode c_m_memoryOf 14 = .ok (.goto 4, 3) := by decide +kernel
theorem d_m_memoryOf_17 : decode c_m_memoryOf 17 = .ok (.iconst 0, 1) := by decide +kernel
theorem d_m_memoryOf_18 : decode c_m_memoryOf 18 = .ok (.ireturn, 1) := by decide +kernel
theorem d_m_timeOf_0 : decode c_m_timeOf 0 = .ok (.aload_n 0, 1) := by decide +kernel
theorem d_m_timeOf_1 : decode c_m_timeOf 1 = .ok (.iload_n 1, 1) := by decide +kernel
theorem d_m_timeOf_2 : decode c_m_timeOf 2 = .ok (.invokevirtual 204, 3) := by decide +kernel
theorem d_m_timeOf_5 : decode c_m_timeOf 5 = .ok (.ifCond .eq 12, 3) := by decide +kernel
theorem d_m_timeOf_8 : decode c_m_timeOf 8 = .ok (.aload_n 0, 1) := by decide +kernel
theorem d_m_timeOf_9 : decode c_m_timeOf 9 = .ok (.getfield 69, 3) := by decide +kernel
theorem d_m_timeOf_12 : decode c_m_timeOf 12 = .ok (.iload_n 1, 1) := by decide +kernel
theorem d_m_timeOf_13 : decode c_m_timeOf 13 = .ok (.iaload, 1) := by decide +kernel
theorem d_m_timeOf_14 : decode c_m_timeOf 14 = .ok (.goto 4, 3) := by decide +kernel
theorem d_m_timeOf_17 : decode c_m_timeOf 17 = .ok (.iconst 0, 1) := by decide +kernel
theorem d_m_timeOf_18 : decode c_m_timeOf 18 = .ok (.ireturn, 1) := by decide +kernel
theorem d_m_capabilitiesOf_0 : decode c_m_capabilitiesOf 0 = .ok (.aload_n 0, 1) := by decide +kernel
theorem d_m_capabilitiesOf_1 : decode c_m_capabilitiesOf 1 = .ok (.iload_n 1, 1) := by decide +kernel
theorem d_m_capabilitiesOf_2 : decode c_m_capabilitiesOf 2 = .ok (.invokevirtual 204, 3) := by decide +kernel
theorem d_m_capabilitiesOf_5 : decode c_m_capabilitiesOf 5 = .ok (.ifCond .eq 22, 3) := by decide +kernel
theorem d_m_capabilitiesOf_8 : decode c_m_capabilitiesOf 8 = .ok (.bipush 16, 2) := by decide +kernel
theorem d_m_capabilitiesOf_10 : decode c_m_capabilitiesOf 10 = .ok (.aload_n 0, 1) := by decide +kernel
theorem d_m_capabilitiesOf_11 : decode c_m_capabilitiesOf 11 = .ok (.getfield 51, 3) := by decide +kernel
theorem d_m_capabilitiesOf_14 : decode c_m_capabilitiesOf 14 = .ok (.iload_n 1, 1) := by decide +kernel
theorem d_m_capabilitiesOf_15 : decode c_m_capabilitiesOf 15 = .ok (.iaload, 1) := by decide +kernel
theorem d_m_capabilitiesOf_16 : decode c_m_capabilitiesOf 16 = .ok (.imul, 1) := by decide +kernel
theorem d_m_capabilitiesOf_17 : decode c_m_capabilitiesOf 17 = .ok (.aload_n 0, 1) := by decide +kernel
theorem d_m_capabilitiesOf_18 : decode c_m_capabilitiesOf 18 = .ok (.getfield 54, 3) := by decide +kernel
theorem d_m_capabilitiesOf_21 : decode c_m_capabilitiesOf 21 = .ok (.iload_n 1, 1) := by decide +kernel
theorem d_m_capabilitiesOf_22 : decode c_m_capabilitiesOf 22 = .ok (.iaload, 1) := by decide +kernel
theorem d_m_capabilitiesOf_23 : decode c_m_capabilitiesOf 23 = .ok (.iadd, 1) := by decide +kernel
theorem d_m_capabilitiesOf_24 : decode c_m_capabilitiesOf 24 = .ok (.goto 4, 3) := by decide +kernel
theorem d_m_capabilitiesOf_27 : decode c_m_capabilitiesOf 27 = .ok (.iconst 0, 1) := by decide +kernel
theorem d_m_capabilitiesOf_28 : decode c_m_capabilitiesOf 28 = .ok (.ireturn, 1) := by decide +kernel
theorem d_m_addressOf_0 : decode c_m_addressOf 0 = .ok (.aload_n 0, 1) := by decide +kernel
theorem d_m_addressOf_1 : decode c_m_addressOf 1 = .ok (.iload_n 1, 1) := by decide +kernel
theorem d_m_addressOf_2 : decode c_m_addressOf 2 = .ok (.invokevirtual 204, 3) := by decide +kernel
theorem d_m_addressOf_5 : decode c_m_addressOf 5 = .ok (.ifCond .eq 12, 3) := by decide +kernel
theorem d_m_addressOf_8 : decode c_m_addressOf 8 = .ok (.aload_n 0, 1) := by decide +kernel
theorem d_m_addressOf_9 : decode c_m_addressOf 9 = .ok (.getfield 66, 3) := by decide +kernel
theorem d_m_addressOf_12 : decode c_m_addressOf 12 = .ok (.iload_n 1, 1) := by decide +kernel
theorem d_m_addressOf_13 : decode c_m_addressOf 13 = .ok (.iaload, 1) := by decide +kernel
theorem d_m_addressOf_14 : decode c_m_addressOf 14 = .ok (.goto 4, 3) := by decide +kernel
theorem d_m_addressOf_17 : decode c_m_addressOf 17 = .ok (.iconst 0, 1) := by decide +kernel
theorem d_m_addressOf_18 : decode c_m_addressOf 18 = .ok (.ireturn, 1) := by decide +kernel
end
section
/-! what holds of the reference's state between calls; sums and chains as functions -/
def isin (a n : Int) : Int := if 0 ≤ a ∧ a < n then 1 else 0
theorem isin_s (a n : Int) : (isin a n = 1 ∧ 0 ≤ a ∧ a < n) ∨ (isin a n = 0 ∧ ¬ (0 ≤ a ∧ a < n)) := by
  unfold isin
  split
  · exact Or.inl ⟨rfl, by omega, by omega⟩
  · exact Or.inr ⟨rfl, by omega⟩
def hRp (S : gS) : Prop := ∀ k j, k ≠ 22 → R32 (S k j)
/-- the numbers that count -/
def Inv1 (S : gS) : Prop := (0 ≤ S 3 0 ∧ S 3 0 ≤ 10) ∧ (1 ≤ S 6 0 ∧ S 6 0 ≤ 8) ∧ (0 ≤ S 11 0 ∧ S 11 0 ≤ 20) ∧ (0 ≤ S 23 0 ∧ S 23 0 ≤ 5)
/-- bases and parents lie below -/
def Inv2 (S : gS) : Prop := (∀ k, 0 ≤ k → k < S 3 0 → -1 ≤ S 4 k ∧ S 4 k < k) ∧ S 7 0 = -1 ∧ (∀ k, 1 ≤ k → k < S 6 0 → 0 ≤ S 7 k ∧ S 7 k < k)
/-- a container or checkpoint: its place -/
def isCK (S : gS) (k : Int) : Prop := (0 ≤ k ∧ k < S 11 0) ∨ (20 ≤ k ∧ k < 20 + S 23 0)
def Inv3 (S : gS) : Prop := ∀ k, isCK S k → (0 ≤ S 12 k ∧ S 12 k < S 3 0) ∧ (1 ≤ S 13 k ∧ S 13 k ≤ 100) ∧ (0 ≤ S 14 k ∧ S 14 k ≤ 10000) ∧ (0 ≤ S 15 k ∧ S 15 k ≤ 100) ∧ (0 ≤ S 16 k ∧ S 16 k ≤ 15) ∧ (0 ≤ S 17 k ∧ S 17 k ≤ 15) ∧ (0 ≤ S 18 k ∧ S 18 k ≤ 65535)
def Inv4 (S : gS) : Prop := ∀ k, 0 ≤ k → k < S 11 0 → (0 ≤ S 19 k ∧ S 19 k ≤ 2) ∧ (0 ≤ S 20 k ∧ S 20 k < S 6 0) ∧ (S 21 k = -1 ∨ ∃ b a, 0 ≤ b ∧ b ≤ 3 ∧ 1 ≤ a ∧ a ≤ 6 ∧ S 21 k = 10 * b + a) ∧ (S 19 k = 2 → S 14 k = 0 ∧ S 15 k = 0 ∧ S 18 k = 0 ∧ S 21 k = -1)
def Inv5 (S : gS) : Prop := (∀ k, 0 ≤ k → k < S 6 0 → (1 ≤ S 8 k ∧ S 8 k ≤ 10000) ∧ (1 ≤ S 9 k ∧ S 9 k ≤ 100)) ∧ (∀ k, 1 ≤ k → k < S 6 0 → 1 ≤ S 10 k ∧ S 10 k ≤ 100)
def Inv6 (S : gS) : Prop := (∀ j, -1 ≤ S 1 j ∧ S 1 j ≤ 999) ∧ (∀ j, 0 ≤ S 2 j ∧ S 2 j ≤ 255) ∧ (∀ j, S 5 j = 0 ∨ S 5 j = 1) ∧ (∀ j, 0 ≤ j → j < 32 → -1 ≤ S 24 j ∧ S 24 j < S 11 0)
/-- how many layers a chain of bases has -/
def layN (S : gS) : Nat → Int → Int
  | 0, _ => 0
  | n + 1, k => if k = -1 then 0 else 1 + layN S n (S 4 k)
def lay (S : gS) (k : Int) : Int := layN S (k + 1).toNat k
/-- is group a below b: 1 or 0 -/
def belN (S : gS) : Nat → Int → Int → Int
  | 0, a, b => if a = b then 1 else 0
  | n + 1, a, b => if a = b then 1 else if a = -1 then 0 else belN S n (S 7 a) b
def bel (S : gS) (a b : Int) : Int := belN S (a + 1).toNat a b
def memN (S : gS) (g : Int) : Nat → Int
  | 0 => 0
  | n + 1 => memN S g n + if bel S (S 20 n) g = 1 then S 14 n else 0
def memI (S : gS) (g : Int) : Int := memN S g (S 11 0).toNat
def prcN (S : gS) (g : Int) : Nat → Int
  | 0 => 0
  | n + 1 => prcN S g n + if bel S (S 20 n) g = 1 then S 15 n else 0
def prcI (S : gS) (g : Int) : Int := prcN S g (S 11 0).toNat
def Inv7 (S : gS) : Prop := (∀ k, 0 ≤ k → k < S 3 0 → lay S k ≤ 8 ∧ (0 ≤ S 4 k → S 5 (S 4 k) = 1)) ∧ (∀ k, isCK S k → S 5 (S 12 k) = 1) ∧ S 8 0 = 10000 ∧ S 9 0 = 100 ∧ memI S 0 ≤ 10000 ∧ prcI S 0 ≤ 100
def Inv (S : gS) : Prop := hRp S ∧ Inv1 S ∧ Inv2 S ∧ Inv3 S ∧ Inv4 S ∧ Inv5 S ∧ Inv6 S ∧ Inv7 S
theorem Inv.ba {S : gS} (h : Inv2 S) : ∀ k, 0 ≤ k → k < S 3 0 → -1 ≤ S 4 k ∧ S 4 k < k := h.1
theorem Inv2.pa {S : gS} (h : Inv2 S) (h1 : Inv1 S) : ∀ k, 0 ≤ k → k < S 6 0 → -1 ≤ S 7 k ∧ S 7 k < k := by
  intro k h0 h2
  rcases (by omega : k = 0 ∨ 1 ≤ k) with rfl | q
  · rw [h.2.1]; omega
  · have := h.2.2 k q h2; omega
theorem lay_m1 (S : gS) : lay S (-1) = 0 := rfl
theorem layN_stab {S : gS} (h : Inv2 S) : ∀ (n m : Nat) (k : Int), -1 ≤ k → k < S 3 0 → k < n → k < m → layN S n k = layN S m k := by
  intro n
  induction n with
  | zero => 
    intro m k h0 h1 h2 h3
    have : k = -1 := by omega
    subst this
    cases m <;> rfl
  | succ n ih =>
    intro m k h0 h1 h2 h3
    cases m with
    | zero =>
      have : k = -1 := by omega
      subst this
      rfl
    | succ m =>
      unfold layN
      by_cases hk : k = -1
      · rw [if_pos hk, if_pos hk]
      · rw [if_neg hk, if_neg hk]
        have := h.1 k (by omega) h1
        rw [ih m (S 4 k) this.1 (by omega) (by omega) (by omega)]
theorem lay_s {S : gS} (h : Inv2 S) {k : Int} (h0 : 0 ≤ k) (h1 : k < S 3 0) : lay S k = 1 + lay S (S 4 k) := by
  have hb := h.1 k h0 h1
  unfold lay
  have e : (k + 1).toNat = k.toNat + 1 := by omega
  rw [e]
  show (if k = -1 then 0 else 1 + layN S k.toNat (S 4 k)) = _
  rw [if_neg (by omega), layN_stab h k.toNat (S 4 k + 1).toNat (S 4 k) hb.1 (by omega) (by omega) (by omega)]
theorem lay_nn (S : gS) (k : Int) : 0 ≤ lay S k := by
  have : ∀ (n : Nat) (k : Int), 0 ≤ layN S n k := by
    intro n
    induction n with
    | zero => intro k; exact Int.le_refl 0
    | succ n ih =>
      intro k
      unfold layN
      split
      · exact Int.le_refl 0
      · have := ih (S 4 k); omega
  exact this _ _
theorem lay_le {S : gS} (h : Inv2 S) {k : Int} (h0 : -1 ≤ k) (h1 : k < S 3 0) : lay S k ≤ k + 1 := by
  have : ∀ (n : Nat) (k : Int), k < n → -1 ≤ k → k < S 3 0 → lay S k ≤ k + 1 := by
    intro n
    induction n with
    | zero => intro k a b c; have : k = -1 := by omega
              subst this
              rw [lay_m1]; omega
    | succ n ih =>
      intro k a b c
      by_cases hk : k = -1
      · subst hk; rw [lay_m1]; omega
      · have hb := h.1 k (by omega) c
        rw [lay_s h (by omega) c]
        have := ih (S 4 k) (by omega) hb.1 (by omega)
        omega
  exact this (k + 1).toNat k (by omega) h0 h1
theorem belN_stab {S : gS} (h : Inv2 S) (h1 : Inv1 S) (b : Int) (hb : 0 ≤ b) : ∀ (n m : Nat) (k : Int), -1 ≤ k → k < S 6 0 → k < n → k < m → belN S n k b = belN S m k b := by
  intro n
  induction n with
  | zero => 
    intro m k h0 h1 h2 h3
    have : k = -1 := by omega
    subst this
    cases m with
    | zero => rfl
    | succ m => unfold belN; rw [if_neg (by omega), if_neg (by omega), if_pos rfl]
  | succ n ih =>
    intro m k h0 h2 h3 h4
    cases m with
    | zero =>
      have : k = -1 := by omega
      subst this
      unfold belN
      rw [if_neg (by omega), if_pos rfl, if_neg (by omega)]
    | succ m =>
      unfold belN
      by_cases hkb : k = b
      · rw [if_pos hkb, if_pos hkb]
      · rw [if_neg hkb, if_neg hkb]
        by_cases hk : k = -1
        · rw [if_pos hk, if_pos hk]
        · rw [if_neg hk, if_neg hk]
          have := h.pa h1 k (by omega) h2
          rw [ih m (S 7 k) this.1 (by omega) (by omega) (by omega)]
theorem bel_eq (S : gS) (a : Int) : bel S a a = 1 := by
  unfold bel
  cases (a + 1).toNat <;> (unfold belN; rw [if_pos rfl])
theorem bel_m1 {S : gS} {b : Int} (hb : 0 ≤ b) : bel S (-1) b = 0 := by
  show belN S 0 (-1) b = 0
  unfold belN
  rw [if_neg (by omega)]
theorem bel_s {S : gS} (h : Inv2 S) (h1 : Inv1 S) {a b : Int} (hb : 0 ≤ b) (h0 : 0 ≤ a) (h2 : a < S 6 0) (hab : a ≠ b) : bel S a b = bel S (S 7 a) b := by
  have hp := h.pa h1 a h0 h2
  unfold bel
  have e : (a + 1).toNat = a.toNat + 1 := by omega
  rw [e]
  show (if a = b then 1 else if a = -1 then 0 else belN S a.toNat (S 7 a) b) = _
  rw [if_neg hab, if_neg (by omega), belN_stab h h1 b hb a.toNat (S 7 a + 1).toNat (S 7 a) hp.1 (by omega) (by omega) (by omega)]
theorem bel_01 (S : gS) (a b : Int) : bel S a b = 0 ∨ bel S a b = 1 := by
  have : ∀ (n : Nat) (a : Int), belN S n a b = 0 ∨ belN S n a b = 1 := by
    intro n
    induction n with
    | zero => intro a; unfold belN; split <;> omega
    | succ n ih =>
      intro a
      unfold belN
      split
      · exact Or.inr rfl
      · split
        · exact Or.inl rfl
        · exact ih _
  exact this _ _
end
section
theorem t_m_isIn (g : xG) {a n : Int} (ha : R32 a) (hn : R32 n) : sM g y_m_isIn k_m_isIn M_m_isIn [.int (iI a), .int (iI n)] (fun v => v = some (.int (iI (isin a n)))) := by
  refine sM.of rfl (by decide) rfl rfl rfl (by simp [Value.category]) (Nat.le_of_ble_eq_true rfl) rfl (fun h => ?_)
  refine x_iload_n d_m_isIn_0 rfl ?_
  refine x_if_lt (tgt := 13) d_m_isIn_1 (by decide) (by first | assumption | (unfold R32; omega)) (fun z1 => ?_) (fun z1 => ?_)
  · refine x_iconst d_m_isIn_13 ?_
    exact x_zret rfl (by omega) d_m_isIn_14 (⟨by have := isin_s a n; exact congrArg (fun z => some (Value.int (iI z))) (by omega), rfl⟩)
  · refine x_iload_n d_m_isIn_4 rfl ?_
    refine x_iload_n d_m_isIn_5 rfl ?_
    refine x_icmp_ge (tgt := 13) d_m_isIn_6 (by decide) (by first | assumption | (unfold R32; omega)) (by first | assumption | (unfold R32; omega)) (fun z6 => ?_) (fun z6 => ?_)
    · refine x_iconst d_m_isIn_13 ?_
      exact x_zret rfl (by omega) d_m_isIn_14 (⟨by have := isin_s a n; exact congrArg (fun z => some (Value.int (iI z))) (by omega), rfl⟩)
    · refine x_iconst d_m_isIn_9 ?_
      refine x_goto (tgt := 14) d_m_isIn_10 (by decide) ?_
      exact x_zret rfl (by omega) d_m_isIn_14 (⟨by have := isin_s a n; exact congrArg (fun z => some (Value.int (iI z))) (by omega), rfl⟩)
theorem t_m_holds {g : xG} {x0 : Nat} {ad : Nat → Nat} {tt : Int} {S : gS} {p : Int} (hp : R32 p) : mM g y_m_holds k_m_holds M_m_holds x0 ad [.int (iI p)] tt S (fun v t9 S9 => v = some (.int (iI (if p = 0 then 1 else 0))) ∧ p = t9 ∧ S = S9) := by
  refine mM.of rfl (by decide) rfl rfl rfl (by simp [Value.category]) (Nat.le_of_ble_eq_true rfl) rfl (fun h0 => ?_)
  refine m_aload_n d_m_holds_0 rfl ?_
  refine m_iload_n d_m_holds_1 rfl ?_
  refine mp_84 d_m_holds_2 rfl ?_
  refine m_iload_n d_m_holds_5 rfl ?_
  refine m_if_ne (tgt := 13) d_m_holds_6 (by decide) hp (fun z6 => ?_) (fun z6 => ?_)
  · refine m_iconst d_m_holds_13 ?_
    exact m_zret rfl d_m_holds_14 (by omega) (⟨congrArg (fun z => some (Value.int (iI z))) (by split <;> omega), rfl, rfl⟩)
  · refine m_iconst d_m_holds_9 ?_
    refine m_goto (tgt := 14) d_m_holds_10 (by decide) ?_
    exact m_zret rfl d_m_holds_14 (by omega) (⟨congrArg (fun z => some (Value.int (iI z))) (by split <;> omega), rfl, rfl⟩)
theorem t_m_isImage {g : xG} {x0 : Nat} {ad : Nat → Nat} {tt : Int} {S : gS} {a : Int} (hR : hRp S) (ha : R32 a) : mM g y_m_isImage k_m_isImage M_m_isImage x0 ad [.int (iI a)] tt S (fun v t9 S9 => v = some (.int (iI (isin a (S 3 0)))) ∧ tt = t9 ∧ S = S9) := by
  refine mM.of rfl (by decide) rfl rfl rfl (by simp [Value.category]) (Nat.le_of_ble_eq_true rfl) rfl (fun h0 => ?_)
  have hs := isin_s a (S 3 0)
  refine m_iload_n d_m_isImage_0 rfl ?_
  refine m_aload_n d_m_isImage_1 rfl ?_
  refine mg_87 d_m_isImage_2 rfl ?_
  refine m_callS d_m_isImage_5 q_m_isImage_90 s_m_isIn (t_m_isIn g ha (hR 3 0 (by decide))) rfl rfl (Nat.le_of_ble_eq_true rfl) rfl rfl rfl ?_
  rintro _ rfl
  exact m_zret rfl d_m_isImage_8 (by omega) (⟨congrArg (fun z => some (Value.int (iI z))) (rfl), rfl, rfl⟩)
theorem t_m_isContainer {g : xG} {x0 : Nat} {ad : Nat → Nat} {tt : Int} {S : gS} {a : Int} (hR : hRp S) (ha : R32 a) : mM g y_m_isContainer k_m_isContainer M_m_isContainer x0 ad [.int (iI a)] tt S (fun v t9 S9 => v = some (.int (iI (isin a (S 11 0)))) ∧ tt = t9 ∧ S = S9) := by
  refine mM.of rfl (by decide) rfl rfl rfl (by simp [Value.category]) (Nat.le_of_ble_eq_true rfl) rfl (fun h0 => ?_)
  have hs := isin_s a (S 11 0)
  refine m_iload_n d_m_isContainer_0 rfl ?_
  refine m_aload_n d_m_isContainer_1 rfl ?_
  refine mg_94 d_m_isContainer_2 rfl ?_
  refine m_callS d_m_isContainer_5 q_m_isContainer_90 s_m_isIn (t_m_isIn g ha (hR 11 0 (by decide))) rfl rfl (Nat.le_of_ble_eq_true rfl) rfl rfl rfl ?_
  rintro _ rfl
  exact m_zret rfl d_m_isContainer_8 (by omega) (⟨congrArg (fun z => some (Value.int (iI z))) (rfl), rfl, rfl⟩)
theorem t_m_isGroup {g : xG} {x0 : Nat} {ad : Nat → Nat} {tt : Int} {S : gS} {a : Int} (hR : hRp S) (ha : R32 a) : mM g y_m_isGroup k_m_isGroup M_m_isGroup x0 ad [.int (iI a)] tt S (fun v t9 S9 => v = some (.int (iI (isin a (S 6 0)))) ∧ tt = t9 ∧ S = S9) := by
  refine mM.of rfl (by decide) rfl rfl rfl (by simp [Value.category]) (Nat.le_of_ble_eq_true rfl) rfl (fun h0 => ?_)
  have hs := isin_s a (S 6 0)
  refine m_iload_n d_m_isGroup_0 rfl ?_
  refine m_aload_n d_m_isGroup_1 rfl ?_
  refine mg_23 d_m_isGroup_2 rfl ?_
  refine m_callS d_m_isGroup_5 q_m_isGroup_90 s_m_isIn (t_m_isIn g ha (hR 6 0 (by decide))) rfl rfl (Nat.le_of_ble_eq_true rfl) rfl rfl rfl ?_
  rintro _ rfl
  exact m_zret rfl d_m_isGroup_8 (by omega) (⟨congrArg (fun z => some (Value.int (iI z))) (rfl), rfl, rfl⟩)
theorem L_m_layersOf {g : xG} {x0 : Nat} {ad : Nat → Nat} {h0 : hp} {tt : Int} {S : gS} {a : Int} (hi1 : Inv1 S) (hi2 : Inv2 S) : ∀ (f : Nat) (k n : Int), k + 1 < f → -1 ≤ k → k < S 3 0 → n + lay S k = lay S a → mW g M_m_layersOf x0 ad h0 (fun v t9 S9 => v = some (.int (iI (lay S a))) ∧ tt = t9 ∧ S = S9) tt S 4 [some (.ref x0), some (.int (iI a)), some (.int (iI n)), some (.int (iI k))] [] := by
  intro f9
  induction f9 with
  | zero => intros; omega
  | succ f9 ih =>
    intro k n h1 h2 h3 h4
    obtain ⟨him, -⟩ := id hi1
    refine m_iload_n d_m_layersOf_4 rfl ?_
    refine m_iconst d_m_layersOf_5 ?_
    refine m_icmp_eq (tgt := 22) d_m_layersOf_6 (by decide) (by unfold R32; omega) (by unfold R32; omega) (fun z6 => ?_) (fun z6 => ?_)
    · refine m_iload_n d_m_layersOf_22 rfl ?_
      exact m_iret rfl d_m_layersOf_23 (⟨congrArg (fun z => some (Value.int (iI z))) (by subst z6; rw [lay_m1] at h4; omega), rfl, rfl⟩)
    · have hb := hi2.1 k (by omega) h3
      have hl := lay_s hi2 (k := k) (by omega) h3
      refine m_iinc d_m_layersOf_9 rfl (by decide) ?_
      refine m_aload_n d_m_layersOf_12 rfl ?_
      refine mg_16 d_m_layersOf_13 rfl ?_
      refine m_iload_n d_m_layersOf_16 rfl ?_
      refine m_ald 10 rfl (by decide) rfl d_m_layersOf_17 (by omega) (by omega) ?_
      refine m_istore_n d_m_layersOf_18 (by decide) ?_
      refine m_goto (tgt := 4) d_m_layersOf_19 (by decide) ?_
      exact ih _ _ (by omega) (by omega) (by omega) (by omega)
theorem t_m_layersOf {g : xG} {x0 : Nat} {ad : Nat → Nat} {tt : Int} {S : gS} {a : Int} (hi1 : Inv1 S) (hi2 : Inv2 S) (ha : -1 ≤ a) (hb : a < S 3 0) : mM g y_m_layersOf k_m_layersOf M_m_layersOf x0 ad [.int (iI a)] tt S (fun v t9 S9 => v = some (.int (iI (lay S a))) ∧ tt = t9 ∧ S = S9) := by
  refine mM.of rfl (by decide) rfl rfl rfl (by simp [Value.category]) (Nat.le_of_ble_eq_true rfl) rfl (fun h0 => ?_)
  refine m_iconst d_m_layersOf_0 ?_
  refine m_istore_n d_m_layersOf_1 (by decide) ?_
  refine m_iload_n d_m_layersOf_2 rfl ?_
  refine m_istore_n d_m_layersOf_3 (by decide) ?_
  exact L_m_layersOf hi1 hi2 ((a + 2).toNat) a 0 (by omega) ha hb (by omega)
end
section
/-- what a layer a, over what is seen below it, shows of a file f -/
def obit (S : gS) (a f : Int) : Int := bit (S 2 a) (f / 4)
def lyr (S : gS) (a f rest : Int) : Int := if S 1 (32 * a + f) = 0 then (if obit S a f = 1 then 0 else rest) else if 0 < S 1 (32 * a + f) then S 1 (32 * a + f) else 0
def seeN (S : gS) : Nat → Int → Int → Int
  | 0, _, _ => 0
  | n + 1, k, f => if k = -1 then 0 else lyr S k f (seeN S n (S 4 k) f)
def see (S : gS) (k f : Int) : Int := seeN S (k + 1).toNat k f
theorem see_m1 (S : gS) (f : Int) : see S (-1) f = 0 := rfl
theorem seeN_stab {S : gS} (h : Inv2 S) (f : Int) : ∀ (n m : Nat) (k : Int), -1 ≤ k → k < S 3 0 → k < n → k < m → seeN S n k f = seeN S m k f := by
  intro n
  induction n with
  | zero =>
    intro m k h0 h1 h2 h3
    have : k = -1 := by omega
    subst this
    cases m <;> rfl
  | succ n ih =>
    intro m k h0 h1 h2 h3
    cases m with
    | zero =>
      have : k = -1 := by omega
      subst this
      rfl
    | succ m =>
      unfold seeN
      by_cases hk : k = -1
      · rw [if_pos hk, if_pos hk]
      · rw [if_neg hk, if_neg hk]
        have := h.1 k (by omega) h1
        rw [ih m (S 4 k) this.1 (by omega) (by omega) (by omega)]
theorem see_s {S : gS} (h : Inv2 S) {k : Int} (f : Int) (h0 : 0 ≤ k) (h1 : k < S 3 0) : see S k f = lyr S k f (see S (S 4 k) f) := by
  have hb := h.1 k h0 h1
  unfold see
  have e : (k + 1).toNat = k.toNat + 1 := by omega
  rw [e]
  show (if k = -1 then 0 else lyr S k f (seeN S k.toNat (S 4 k) f)) = _
  rw [if_neg (by omega), seeN_stab h f k.toNat (S 4 k + 1).toNat (S 4 k) hb.1 (by omega) (by omega) (by omega)]

theorem L_m_shows {g : xG} {x0 : Nat} {ad : Nat → Nat} {h0 : hp} {tt : Int} {S : gS} {a b f r : Int} (hI : Inv S) (hf0 : 0 ≤ f) (hf1 : f < 32) : ∀ (n : Nat) (at0 bw : Int), ((at0 = -1 ∧ (1 : Int) ≤ n) ∨ (at0 ≠ -1 ∧ bw + 2 < n)) → -1 ≤ at0 → at0 < 35 → -1 ≤ bw → bw < S 3 0 → (at0 = -1 → bw = -1) → ((at0 = -1 ∧ r = 0) ∨ (at0 ≠ -1 ∧ r = lyr S at0 f (see S bw f))) → ∀ u6, mW g M_m_shows x0 ad h0 (fun v t9 S9 => v = some (.int (iI (r))) ∧ tt = t9 ∧ S = S9) tt S 6 (some (.ref x0) :: some (.int (iI a)) :: some (.int (iI b)) :: some (.int (iI f)) :: some (.int (iI at0)) :: some (.int (iI bw)) :: u6 :: []) [] := by
  intro f9
  induction f9 with
  | zero => intros; omega
  | succ f9 ih =>
    intro at0 bw h1 h2 h3 h4 h5 h6 h7 u6
    obtain ⟨hR, hi1, hi2, -⟩ := id hI
    obtain ⟨him, -⟩ := id hi1
    have hb4 := hI.2.2.1.1 bw
    refine m_iload d_m_shows_6 rfl ?_
    refine m_iconst d_m_shows_8 ?_
    refine m_icmp_eq (tgt := 88) d_m_shows_9 (by decide) (by first | assumption | exact hR _ _ (by decide) | (unfold R32; omega)) (by first | assumption | exact hR _ _ (by decide) | (unfold R32; omega)) (fun z9 => ?_) (fun z9 => ?_)
    · refine m_iconst d_m_shows_88 ?_
      exact m_iret rfl d_m_shows_89 (⟨congrArg (fun z => some (Value.int (iI z))) (by omega), rfl, rfl⟩)
    · have hl : r = lyr S at0 f (see S bw f) := by omega
      unfold lyr at hl
      have ho := hI.2.2.2.2.2.2.1.2.1 at0
      refine m_aload_n d_m_shows_12 rfl ?_
      refine mg_7 d_m_shows_13 rfl ?_
      refine m_bipush d_m_shows_16 (by decide) ?_
      refine m_iload d_m_shows_18 rfl ?_
      refine m_imul d_m_shows_20 ?_
      refine m_iload_n d_m_shows_21 rfl ?_
      refine m_iadd d_m_shows_22 ?_
      refine m_ald 1120 rfl (by decide) rfl d_m_shows_23 (by omega) (by omega) ?_
      refine m_istore d_m_shows_24 (by decide) ?_
      refine m_iload d_m_shows_26 rfl ?_
      refine m_if_eq (tgt := 43) d_m_shows_28 (by decide) (by first | assumption | exact hR _ _ (by decide) | (unfold R32; omega)) (fun z28 => ?_) (fun z28 => ?_)
      · refine m_aload_n d_m_shows_43 rfl ?_
        refine mg_13 d_m_shows_44 rfl ?_
        refine m_iload d_m_shows_47 rfl ?_
        refine m_ald 35 rfl (by decide) rfl d_m_shows_49 (by omega) (by omega) ?_
        refine m_iload_n d_m_shows_50 rfl ?_
        refine m_iconst d_m_shows_51 ?_
        refine m_idivI d_m_shows_52 (by omega) (by first | assumption | exact hR _ _ (by decide) | (unfold R32; omega)) (by decide) (by first | assumption | exact hR _ _ (by decide) | (unfold R32; omega)) ?_
        refine m_ishrI d_m_shows_53 (by omega) (by omega) (by omega) (by omega) ?_
        refine m_iconst d_m_shows_54 ?_
        refine m_iand1 d_m_shows_55 (Int.ediv_nonneg (by omega) (Int.le_of_lt (Int.pow_pos (by omega)))) ?_
        refine m_iconst d_m_shows_56 ?_
        refine m_icmp_ne (tgt := 62) d_m_shows_57 (by decide) (by first | assumption | exact hR _ _ (by decide) | (unfold R32; omega)) (by first | assumption | exact hR _ _ (by decide) | (unfold R32; omega)) (fun z57 => ?_) (fun z57 => ?_)
        · have y57 : ¬ obit S at0 f = 1 := z57
          have hs : r = see S bw f := by rw [hl, if_pos (by omega), if_neg y57]
          refine m_iload d_m_shows_62 rfl ?_
          refine m_istore d_m_shows_64 (by decide) ?_
          refine m_iload d_m_shows_66 rfl ?_
          refine m_iconst d_m_shows_68 ?_
          refine m_icmp_ne (tgt := 76) d_m_shows_69 (by decide) (by first | assumption | exact hR _ _ (by decide) | (unfold R32; omega)) (by first | assumption | exact hR _ _ (by decide) | (unfold R32; omega)) (fun z69 => ?_) (fun z69 => ?_)
          · have hr9 := see_s hI.2.2.1 (k := bw) f (by omega) h5
            refine m_aload_n d_m_shows_76 rfl ?_
            refine mg_16 d_m_shows_77 rfl ?_
            refine m_iload d_m_shows_80 rfl ?_
            refine m_ald 10 rfl (by decide) rfl d_m_shows_82 (by omega) (by omega) ?_
            refine m_istore d_m_shows_83 (by decide) ?_
            refine m_goto (tgt := 6) d_m_shows_85 (by decide) ?_
            first
              | exact ih bw (-1) (by omega) (by omega) (by omega) (by omega) (by omega) (by omega) (by omega) _
              | exact ih bw (S 4 bw) (by omega) (by omega) (by omega) (by omega) (by omega) (by omega) (by omega) _
          · have hr9 : r = 0 := by rw [hs, z69, see_m1]
            refine m_iconst d_m_shows_72 ?_
            refine m_goto (tgt := 83) d_m_shows_73 (by decide) ?_
            refine m_istore d_m_shows_83 (by decide) ?_
            refine m_goto (tgt := 6) d_m_shows_85 (by decide) ?_
            first
              | exact ih bw (-1) (by omega) (by omega) (by omega) (by omega) (by omega) (by omega) (by omega) _
              | exact ih bw (S 4 bw) (by omega) (by omega) (by omega) (by omega) (by omega) (by omega) (by omega) _
        · have y57 : obit S at0 f = 1 := z57
          refine m_iconst d_m_shows_60 ?_
          exact m_iret rfl d_m_shows_61 (⟨congrArg (fun z => some (Value.int (iI z))) (by rw [hl]; (repeat' split) <;> omega), rfl, rfl⟩)
      · refine m_iload d_m_shows_31 rfl ?_
        refine m_if_le (tgt := 41) d_m_shows_33 (by decide) (by first | assumption | exact hR _ _ (by decide) | (unfold R32; omega)) (fun z33 => ?_) (fun z33 => ?_)
        · refine m_iconst d_m_shows_41 ?_
          exact m_iret rfl d_m_shows_42 (⟨congrArg (fun z => some (Value.int (iI z))) (by rw [hl]; (repeat' split) <;> omega), rfl, rfl⟩)
        · refine m_iload d_m_shows_36 rfl ?_
          refine m_goto (tgt := 42) d_m_shows_38 (by decide) ?_
          exact m_iret rfl d_m_shows_42 (⟨congrArg (fun z => some (Value.int (iI z))) (by rw [hl]; (repeat' split) <;> omega), rfl, rfl⟩)
end
section
def opQ (S : gS) (cd vl : Int) (st : gS) : qS := fun v t9 S9 => t9 = cd ∧ (cd = 0 → v = some (.int (iI vl)) ∧ S9 = st) ∧ (cd ≠ 0 → S9 = S ∧ ∃ z, v = some (.int z))
theorem opQ.bad {S st : gS} {cd vl c : Int} {z : Int32} (h : cd = c) (hc : c ≠ 0) : opQ S cd vl st (some (.int z)) c S := ⟨h.symm, fun q => absurd (h.symm.trans q) hc, fun _ => ⟨rfl, z, rfl⟩⟩
theorem opQ.good {S st S9 : gS} {cd vl e : Int} (h : cd = 0) (hv : e = vl) (hs : S9 = st) : opQ S cd vl st (some (.int (iI e))) 0 S9 := ⟨h.symm, fun _ => ⟨by rw [hv], hs⟩, fun q => absurd h q⟩
theorem lay_congr {S S' : gS} (h : S' 4 = S 4) (k : Int) : lay S' k = lay S k := by
  have : ∀ (n : Nat) (k : Int), layN S' n k = layN S n k := by
    intro n
    induction n with
    | zero => intro k; rfl
    | succ n ih => intro k; unfold layN; rw [ih, h]
  exact this _ _
theorem lyr_b {S : gS} (h : Inv6 S) {a f r : Int} (h0 : 0 ≤ r) (h1 : r ≤ 999) : 0 ≤ lyr S a f r ∧ lyr S a f r ≤ 999 := by
  have := h.1 (32 * a + f)
  unfold lyr
  (repeat' split) <;> omega
theorem see_b {S : gS} (h : Inv6 S) (k f : Int) : 0 ≤ see S k f ∧ see S k f ≤ 999 := by
  have : ∀ (n : Nat) (k : Int), 0 ≤ seeN S n k f ∧ seeN S n k f ≤ 999 := by
    intro n
    induction n with
    | zero => intro k; unfold seeN; omega
    | succ n ih =>
      intro k
      unfold seeN
      split
      · omega
      · exact lyr_b h (ih _).1 (ih _).2
  exact this _ _
def csee (S : gS) (c f : Int) : Int := lyr S (10 + c) f (see S (S 12 c) f)
theorem t_m_shows {g : xG} {x0 : Nat} {ad : Nat → Nat} {tt : Int} {S : gS} {a b f : Int} (hI : Inv S) (ha : 0 ≤ a) (ha2 : a < 35) (hb : -1 ≤ b) (hb2 : b < S 3 0) (hf : 0 ≤ f) (hf2 : f < 32) : mM g y_m_shows k_m_shows M_m_shows x0 ad [.int (iI a), .int (iI b), .int (iI f)] tt S (fun v t9 S9 => v = some (.int (iI (lyr S a f (see S b f)))) ∧ tt = t9 ∧ S = S9) := by
  refine mM.of rfl (by decide) rfl rfl rfl (by simp [Value.category]) (Nat.le_of_ble_eq_true rfl) rfl (fun h0 => ?_)
  refine m_iload_n d_m_shows_0 rfl ?_
  refine m_istore d_m_shows_1 (by decide) ?_
  refine m_iload_n d_m_shows_3 rfl ?_
  refine m_istore d_m_shows_4 (by decide) ?_
  exact L_m_shows hI hf hf2 ((b + 4).toNat) a b (by omega) (by omega) ha2 hb hb2 (by omega) (Or.inr ⟨by omega, rfl⟩) none
theorem t_m_imageShows {g : xG} {x0 : Nat} {ad : Nat → Nat} {tt : Int} {S : gS} {a f : Int} (hI : Inv S) (ha : 0 ≤ a) (ha2 : a < S 3 0) (hf : 0 ≤ f) (hf2 : f < 32) : mM g y_m_imageShows k_m_imageShows M_m_imageShows x0 ad [.int (iI a), .int (iI f)] tt S (fun v t9 S9 => v = some (.int (iI (see S a f))) ∧ tt = t9 ∧ S = S9) := by
  refine mM.of rfl (by decide) rfl rfl rfl (by simp [Value.category]) (Nat.le_of_ble_eq_true rfl) rfl (fun h0 => ?_)
  obtain ⟨hR, hi1, hi2, hi3, hi4, hi5, hi6, hi7⟩ := id hI
  obtain ⟨him, hgr, hco, hck⟩ := id hi1
  have hb := hi2.1 a ha ha2
  refine m_aload_n d_m_imageShows_0 rfl ?_
  refine m_iload_n d_m_imageShows_1 rfl ?_
  refine m_aload_n d_m_imageShows_2 rfl ?_
  refine mg_16 d_m_imageShows_3 rfl ?_
  refine m_iload_n d_m_imageShows_6 rfl ?_
  refine m_ald 10 rfl (by decide) rfl d_m_imageShows_7 (by omega) (by omega) ?_
  refine m_iload_n d_m_imageShows_8 rfl ?_
  refine m_callV d_m_imageShows_9 q_m_imageShows_97 s_m_shows v_m_shows rfl (t_m_shows hI ha (by omega) hb.1 (by omega) hf hf2) rfl rfl (Nat.le_of_ble_eq_true rfl) rfl rfl rfl ?_
  rintro _ _ _ ⟨rfl, rfl, rfl⟩
  exact m_iret rfl d_m_imageShows_12 (⟨congrArg (fun z => some (Value.int (iI z))) ((see_s hi2 f ha ha2).symm), rfl, rfl⟩)
theorem t_m_containerSees {g : xG} {x0 : Nat} {ad : Nat → Nat} {tt : Int} {S : gS} {a f : Int} (hI : Inv S) (ha : 0 ≤ a) (ha2 : a < S 11 0) (hf : 0 ≤ f) (hf2 : f < 32) : mM g y_m_containerSees k_m_containerSees M_m_containerSees x0 ad [.int (iI a), .int (iI f)] tt S (fun v t9 S9 => v = some (.int (iI (csee S a f))) ∧ tt = t9 ∧ S = S9) := by
  refine mM.of rfl (by decide) rfl rfl rfl (by simp [Value.category]) (Nat.le_of_ble_eq_true rfl) rfl (fun h0 => ?_)
  obtain ⟨hR, hi1, hi2, hi3, hi4, hi5, hi6, hi7⟩ := id hI
  obtain ⟨him, hgr, hco, hck⟩ := id hi1
  have hb := hi3 a (Or.inl ⟨ha, ha2⟩)
  refine m_aload_n d_m_containerSees_0 rfl ?_
  refine m_bipush d_m_containerSees_1 (by decide) ?_
  refine m_iload_n d_m_containerSees_3 rfl ?_
  refine m_iadd d_m_containerSees_4 ?_
  refine m_aload_n d_m_containerSees_5 rfl ?_
  refine mg_39 d_m_containerSees_6 rfl ?_
  refine m_iload_n d_m_containerSees_9 rfl ?_
  refine m_ald 25 rfl (by decide) rfl d_m_containerSees_10 (by omega) (by omega) ?_
  refine m_iload_n d_m_containerSees_11 rfl ?_
  refine m_callV d_m_containerSees_12 q_m_containerSees_97 s_m_shows v_m_shows rfl (t_m_shows hI (by omega) (by omega) (by omega) hb.1.2 hf hf2) rfl rfl (Nat.le_of_ble_eq_true rfl) rfl rfl rfl ?_
  rintro _ _ _ ⟨rfl, rfl, rfl⟩
  exact m_iret rfl d_m_containerSees_15 (⟨congrArg (fun z => some (Value.int (iI z))) (rfl), rfl, rfl⟩)
/-- a layer emptied as far as place n -/
def ez (S : gS) (l n : Int) : gS := fun a j => if a = 2 ∧ j = l then 0 else if a = 1 ∧ 32 * l ≤ j ∧ j < 32 * l + n then 0 else S a j
theorem ez_0 (S : gS) (l : Int) : sset S 2 l 0 = ez S l 0 := by
  funext a j; unfold sset ez; (repeat' split) <;> first | rfl | omega
theorem ez_s (S : gS) {l n : Int} (hn : 0 ≤ n) : sset (ez S l n) 1 (32 * l + n) 0 = ez S l (n + 1) := by
  funext a j; unfold sset ez; (repeat' split) <;> first | rfl | omega
def cz (S : gS) (t f n : Int) : gS := fun a j => if a = 2 ∧ j = t then S 2 f else if a = 1 ∧ 32 * t ≤ j ∧ j < 32 * t + n then S 1 (j - 32 * t + 32 * f) else S a j
theorem cz_0 (S : gS) (t f : Int) : sset S 2 t (S 2 f) = cz S t f 0 := by
  funext a j; unfold sset cz; (repeat' split) <;> first | rfl | omega
theorem cz_s (S : gS) {t f n : Int} (hn : 0 ≤ n) : sset (cz S t f n) 1 (32 * t + n) (S 1 (32 * f + n)) = cz S t f (n + 1) := by
  funext a j; unfold sset cz; (repeat' split) <;> first | rfl | omega | (congr 1; omega)
theorem cz_r (S : gS) {t f n : Int} (htf : t ≠ f) (hn : 0 ≤ n) (hn2 : n < 32) : cz S t f n 1 (32 * f + n) = S 1 (32 * f + n) := by
  unfold cz; rw [if_neg (by omega), if_neg (by omega)]
theorem L_m_empties {g : xG} {x0 : Nat} {ad : Nat → Nat} {h0 : hp} {tt : Int} {S : gS} {l : Int} (hl : 0 ≤ l) (hl2 : l < 35) : ∀ (f9 : Nat) (n : Int), 0 ≤ n → n ≤ 32 → 32 < n + f9 → mW g M_m_empties x0 ad h0 (fun v t9 S9 => v = none ∧ tt = t9 ∧ ez S l 32 = S9) tt (ez S l n) 9 [some (.ref x0), some (.int (iI l)), some (.int (iI n))] [] := by
  intro f9
  induction f9 with
  | zero => intros; omega
  | succ f9 ih =>
    intro n h1 h2 h3
    refine m_iload_n d_m_empties_9 rfl ?_
    refine m_bipush d_m_empties_10 (by decide) ?_
    refine m_icmp_ge (tgt := 33) d_m_empties_12 (by decide) (by unfold R32; omega) (by unfold R32; omega) (fun z12 => ?_) (fun z12 => ?_)
    · exact m_vret rfl d_m_empties_33 (⟨rfl, rfl, by rw [show n = 32 by omega]⟩)
    · refine m_aload_n d_m_empties_15 rfl ?_
      refine mg_7 d_m_empties_16 rfl ?_
      refine m_bipush d_m_empties_19 (by decide) ?_
      refine m_iload_n d_m_empties_21 rfl ?_
      refine m_imul d_m_empties_22 ?_
      refine m_iload_n d_m_empties_23 rfl ?_
      refine m_iadd d_m_empties_24 ?_
      refine m_iconst d_m_empties_25 ?_
      refine m_ast 1120 rfl (by decide) rfl d_m_empties_26 (by omega) (by omega) ?_
      refine m_iinc d_m_empties_27 rfl (by decide) ?_
      refine m_goto (tgt := 9) d_m_empties_30 (by decide) ?_
      rw [ez_s S h1]
      exact ih (n + 1) (by omega) (by omega) (by omega)
theorem t_m_empties {g : xG} {x0 : Nat} {ad : Nat → Nat} {tt : Int} {S : gS} {l : Int} (hl : 0 ≤ l) (hl2 : l < 35) : mM g y_m_empties k_m_empties M_m_empties x0 ad [.int (iI l)] tt S (fun v t9 S9 => v = none ∧ tt = t9 ∧ ez S l 32 = S9) := by
  refine mM.of rfl (by decide) rfl rfl rfl (by simp [Value.category]) (Nat.le_of_ble_eq_true rfl) rfl (fun h0 => ?_)
  refine m_aload_n d_m_empties_0 rfl ?_
  refine mg_13 d_m_empties_1 rfl ?_
  refine m_iload_n d_m_empties_4 rfl ?_
  refine m_iconst d_m_empties_5 ?_
  refine m_ast 35 rfl (by decide) rfl d_m_empties_6 (by omega) (by omega) ?_
  refine m_iconst d_m_empties_7 ?_
  refine m_istore_n d_m_empties_8 (by decide) ?_
  rw [ez_0]
  exact L_m_empties hl hl2 33 0 (by omega) (by omega) (by omega)
theorem L_m_copies {g : xG} {x0 : Nat} {ad : Nat → Nat} {h0 : hp} {tt : Int} {S : gS} {t f : Int} (hl : 0 ≤ t) (hl2 : t < 35) (hf : 0 ≤ f) (hf2 : f < 35) (htf : t ≠ f) : ∀ (f9 : Nat) (n : Int), 0 ≤ n → n ≤ 32 → 32 < n + f9 → mW g M_m_copies x0 ad h0 (fun v t9 S9 => v = none ∧ tt = t9 ∧ cz S t f 32 = S9) tt (cz S t f n) 14 [some (.ref x0), some (.int (iI t)), some (.int (iI f)), some (.int (iI n))] [] := by
  intro f9
  induction f9 with
  | zero => intros; omega
  | succ f9 ih =>
    intro n h1 h2 h3
    refine m_iload_n d_m_copies_14 rfl ?_
    refine m_bipush d_m_copies_15 (by decide) ?_
    refine m_icmp_ge (tgt := 48) d_m_copies_17 (by decide) (by unfold R32; omega) (by unfold R32; omega) (fun z17 => ?_) (fun z17 => ?_)
    · exact m_vret rfl d_m_copies_48 (⟨rfl, rfl, by rw [show n = 32 by omega]⟩)
    · refine m_aload_n d_m_copies_20 rfl ?_
      refine mg_7 d_m_copies_21 rfl ?_
      refine m_bipush d_m_copies_24 (by decide) ?_
      refine m_iload_n d_m_copies_26 rfl ?_
      refine m_imul d_m_copies_27 ?_
      refine m_iload_n d_m_copies_28 rfl ?_
      refine m_iadd d_m_copies_29 ?_
      refine m_aload_n d_m_copies_30 rfl ?_
      refine mg_7 d_m_copies_31 rfl ?_
      refine m_bipush d_m_copies_34 (by decide) ?_
      refine m_iload_n d_m_copies_36 rfl ?_
      refine m_imul d_m_copies_37 ?_
      refine m_iload_n d_m_copies_38 rfl ?_
      refine m_iadd d_m_copies_39 ?_
      refine m_ald 1120 rfl (by decide) rfl d_m_copies_40 (by omega) (by omega) ?_
      rw [cz_r S htf h1 (by omega)]
      refine m_ast 1120 rfl (by decide) rfl d_m_copies_41 (by omega) (by omega) ?_
      refine m_iinc d_m_copies_42 rfl (by decide) ?_
      refine m_goto (tgt := 14) d_m_copies_45 (by decide) ?_
      rw [cz_s S h1]
      exact ih (n + 1) (by omega) (by omega) (by omega)
theorem t_m_copies {g : xG} {x0 : Nat} {ad : Nat → Nat} {tt : Int} {S : gS} {t f : Int} (hl : 0 ≤ t) (hl2 : t < 35) (hf : 0 ≤ f) (hf2 : f < 35) (htf : t ≠ f) : mM g y_m_copies k_m_copies M_m_copies x0 ad [.int (iI t), .int (iI f)] tt S (fun v t9 S9 => v = none ∧ tt = t9 ∧ cz S t f 32 = S9) := by
  refine mM.of rfl (by decide) rfl rfl rfl (by simp [Value.category]) (Nat.le_of_ble_eq_true rfl) rfl (fun h0 => ?_)
  refine m_aload_n d_m_copies_0 rfl ?_
  refine mg_13 d_m_copies_1 rfl ?_
  refine m_iload_n d_m_copies_4 rfl ?_
  refine m_aload_n d_m_copies_5 rfl ?_
  refine mg_13 d_m_copies_6 rfl ?_
  refine m_iload_n d_m_copies_9 rfl ?_
  refine m_ald 35 rfl (by decide) rfl d_m_copies_10 (by omega) (by omega) ?_
  refine m_ast 35 rfl (by decide) rfl d_m_copies_11 (by omega) (by omega) ?_
  refine m_iconst d_m_copies_12 ?_
  refine m_istore_n d_m_copies_13 (by decide) ?_
  rw [cz_0]
  exact L_m_copies hl hl2 hf hf2 htf 33 0 (by omega) (by omega) (by omega)
def ict (a : Int) : Int := if 1 ≤ a ∧ a ≤ 999 then 1 else 0
theorem ict_s (a : Int) : (ict a = 1 ∧ 1 ≤ a ∧ a ≤ 999) ∨ (ict a = 0 ∧ ¬ (1 ≤ a ∧ a ≤ 999)) := by
  unfold ict
  split
  · exact Or.inl ⟨rfl, by omega, by omega⟩
  · exact Or.inr ⟨rfl, by omega⟩
theorem t_m_isContent (g : xG) {a : Int} (ha : R32 a) : sM g y_m_isContent k_m_isContent M_m_isContent [.int (iI a)] (fun v => v = some (.int (iI (ict a)))) := by
  refine sM.of rfl (by decide) rfl rfl rfl (by simp [Value.category]) (Nat.le_of_ble_eq_true rfl) rfl (fun h => ?_)
  refine x_iload_n d_m_isContent_0 rfl ?_
  refine x_iconst d_m_isContent_1 ?_
  refine x_icmp_lt (tgt := 16) d_m_isContent_2 (by decide) (by first | assumption | (unfold R32; omega)) (by first | assumption | (unfold R32; omega)) (fun z2 => ?_) (fun z2 => ?_)
  · refine x_iconst d_m_isContent_16 ?_
    exact x_zret rfl (by omega) d_m_isContent_17 (⟨by have := ict_s a; exact congrArg (fun z => some (Value.int (iI z))) (by omega), rfl⟩)
  · refine x_iload_n d_m_isContent_5 rfl ?_
    refine x_sipush d_m_isContent_6 (by decide) ?_
    refine x_icmp_gt (tgt := 16) d_m_isContent_9 (by decide) (by first | assumption | (unfold R32; omega)) (by first | assumption | (unfold R32; omega)) (fun z9 => ?_) (fun z9 => ?_)
    · refine x_iconst d_m_isContent_16 ?_
      exact x_zret rfl (by omega) d_m_isContent_17 (⟨by have := ict_s a; exact congrArg (fun z => some (Value.int (iI z))) (by omega), rfl⟩)
    · refine x_iconst d_m_isContent_12 ?_
      refine x_goto (tgt := 17) d_m_isContent_13 (by decide) ?_
      exact x_zret rfl (by omega) d_m_isContent_17 (⟨by have := ict_s a; exact congrArg (fun z => some (Value.int (iI z))) (by omega), rfl⟩)
def iun (a : Int) : Int := if 1 ≤ a ∧ a ≤ 5000 then 1 else 0
theorem iun_s (a : Int) : (iun a = 1 ∧ 1 ≤ a ∧ a ≤ 5000) ∨ (iun a = 0 ∧ ¬ (1 ≤ a ∧ a ≤ 5000)) := by
  unfold iun
  split
  · exact Or.inl ⟨rfl, by omega, by omega⟩
  · exact Or.inr ⟨rfl, by omega⟩
theorem t_m_areUnits (g : xG) {a : Int} (ha : R32 a) : sM g y_m_areUnits k_m_areUnits M_m_areUnits [.int (iI a)] (fun v => v = some (.int (iI (iun a)))) := by
  refine sM.of rfl (by decide) rfl rfl rfl (by simp [Value.category]) (Nat.le_of_ble_eq_true rfl) rfl (fun h => ?_)
  refine x_iload_n d_m_areUnits_0 rfl ?_
  refine x_iconst d_m_areUnits_1 ?_
  refine x_icmp_lt (tgt := 16) d_m_areUnits_2 (by decide) (by first | assumption | (unfold R32; omega)) (by first | assumption | (unfold R32; omega)) (fun z2 => ?_) (fun z2 => ?_)
  · refine x_iconst d_m_areUnits_16 ?_
    exact x_zret rfl (by omega) d_m_areUnits_17 (⟨by have := iun_s a; exact congrArg (fun z => some (Value.int (iI z))) (by omega), rfl⟩)
  · refine x_iload_n d_m_areUnits_5 rfl ?_
    refine x_sipush d_m_areUnits_6 (by decide) ?_
    refine x_icmp_gt (tgt := 16) d_m_areUnits_9 (by decide) (by first | assumption | (unfold R32; omega)) (by first | assumption | (unfold R32; omega)) (fun z9 => ?_) (fun z9 => ?_)
    · refine x_iconst d_m_areUnits_16 ?_
      exact x_zret rfl (by omega) d_m_areUnits_17 (⟨by have := iun_s a; exact congrArg (fun z => some (Value.int (iI z))) (by omega), rfl⟩)
    · refine x_iconst d_m_areUnits_12 ?_
      refine x_goto (tgt := 17) d_m_areUnits_13 (by decide) ?_
      exact x_zret rfl (by omega) d_m_areUnits_17 (⟨by have := iun_s a; exact congrArg (fun z => some (Value.int (iI z))) (by omega), rfl⟩)
theorem t_m_thrown {g : xG} {x0 : Nat} {ad : Nat → Nat} {tt : Int} {S : gS}  : mM g y_m_thrown k_m_thrown M_m_thrown x0 ad [] tt S (fun v t9 S9 => v = some (.int (iI (tt))) ∧ tt = t9 ∧ S = S9) := by
  refine mM.of rfl (by decide) rfl rfl rfl (by simp [Value.category]) (Nat.le_of_ble_eq_true rfl) rfl (fun h0 => ?_)
  refine m_aload_n d_m_thrown_0 rfl ?_
  refine mg_84 d_m_thrown_1 rfl ?_
  exact m_iret rfl d_m_thrown_4 (⟨congrArg (fun z => some (Value.int (iI z))) (rfl), rfl, rfl⟩)
def cd_write (S : gS) (i f c : Int) : Int := if ¬ (0 ≤ i ∧ i < S 3 0 ∧ 0 ≤ f ∧ f < 32) then 1 else if ¬ (1 ≤ c ∧ c ≤ 999) then 2 else if S 5 i ≠ 0 then 3 else 0
def vl_write (S : gS) (i f c : Int) : Int := see S i f
def st_write (S : gS) (i f c : Int) : gS := sset S 1 (32 * i + f) c
theorem t_m_write {g : xG} {x0 : Nat} {ad : Nat → Nat} {tt : Int} {S : gS} {i f c : Int} (hI : Inv S) (hi : R32 i) (hf : R32 f) (hc : R32 c) : mM g y_m_write k_m_write M_m_write x0 ad [.int (iI i), .int (iI f), .int (iI c)] tt S (opQ S (cd_write S i f c) (vl_write S i f c) (st_write S i f c)) := by
  refine mM.of rfl (by decide) rfl rfl rfl (by simp [Value.category]) (Nat.le_of_ble_eq_true rfl) rfl (fun h0 => ?_)
  obtain ⟨hR, hi1, hi2, hi3, hi4, hi5, hi6, hi7⟩ := id hI
  obtain ⟨him, hgr, hco, hck⟩ := id hi1
  have e1 := isin_s i (S 3 0)
  have e2 := isin_s f 32
  have e3 := ict_s c
  refine m_aload_n d_m_write_0 rfl ?_
  refine m_iload_n d_m_write_1 rfl ?_
  refine m_callV d_m_write_2 q_m_write_101 s_m_isImage v_m_isImage rfl (t_m_isImage hR hi) rfl rfl (Nat.le_of_ble_eq_true rfl) rfl rfl rfl ?_
  rintro _ _ _ ⟨rfl, rfl, rfl⟩
  refine m_if_eq (tgt := 21) d_m_write_5 (by decide) (by first | assumption | exact hR _ _ (by decide) | (unfold R32; omega)) (fun z5 => ?_) (fun z5 => ?_)
  · refine m_iconst d_m_write_21 ?_
    refine m_istore d_m_write_22 (by decide) ?_
    refine m_aload_n d_m_write_24 rfl ?_
    refine m_iload d_m_write_25 rfl ?_
    refine m_if_ne (tgt := 34) d_m_write_27 (by decide) (by first | assumption | exact hR _ _ (by decide) | (unfold R32; omega)) (fun z27 => ?_) (fun z27 => ?_)
    · exact absurd z27 (by decide)
    · refine m_iconst d_m_write_30 ?_
      refine m_goto (tgt := 59) d_m_write_31 (by decide) ?_
      refine m_callV d_m_write_59 q_m_write_109 s_m_holds v_m_holds rfl (t_m_holds ⟨by omega, by omega⟩) rfl rfl (Nat.le_of_ble_eq_true rfl) rfl rfl rfl ?_
      rintro _ _ _ ⟨rfl, rfl, rfl⟩
      refine m_if_ne (tgt := 67) d_m_write_62 (by decide) (by first | assumption | exact hR _ _ (by decide) | (unfold R32; omega)) (fun z62 => ?_) (fun z62 => ?_)
      · exact absurd z62 (by decide)
      · refine m_iconst d_m_write_65 ?_
        exact m_iret rfl d_m_write_66 (opQ.bad (by unfold cd_write; (repeat' split) <;> omega) (by decide))
  · refine m_iload_n d_m_write_8 rfl ?_
    refine m_bipush d_m_write_9 (by decide) ?_
    refine m_callS d_m_write_11 q_m_write_90 s_m_isIn (t_m_isIn g hf ⟨by omega, by omega⟩) rfl rfl (Nat.le_of_ble_eq_true rfl) rfl rfl rfl ?_
    rintro _ rfl
    refine m_if_eq (tgt := 21) d_m_write_14 (by decide) (by first | assumption | exact hR _ _ (by decide) | (unfold R32; omega)) (fun z14 => ?_) (fun z14 => ?_)
    · refine m_iconst d_m_write_21 ?_
      refine m_istore d_m_write_22 (by decide) ?_
      refine m_aload_n d_m_write_24 rfl ?_
      refine m_iload d_m_write_25 rfl ?_
      refine m_if_ne (tgt := 34) d_m_write_27 (by decide) (by first | assumption | exact hR _ _ (by decide) | (unfold R32; omega)) (fun z27 => ?_) (fun z27 => ?_)
      · exact absurd z27 (by decide)
      · refine m_iconst d_m_write_30 ?_
        refine m_goto (tgt := 59) d_m_write_31 (by decide) ?_
        refine m_callV d_m_write_59 q_m_write_109 s_m_holds v_m_holds rfl (t_m_holds ⟨by omega, by omega⟩) rfl rfl (Nat.le_of_ble_eq_true rfl) rfl rfl rfl ?_
        rintro _ _ _ ⟨rfl, rfl, rfl⟩
        refine m_if_ne (tgt := 67) d_m_write_62 (by decide) (by first | assumption | exact hR _ _ (by decide) | (unfold R32; omega)) (fun z62 => ?_) (fun z62 => ?_)
        · exact absurd z62 (by decide)
        · refine m_iconst d_m_write_65 ?_
          exact m_iret rfl d_m_write_66 (opQ.bad (by unfold cd_write; (repeat' split) <;> omega) (by decide))
    · refine m_iconst d_m_write_17 ?_
      refine m_goto (tgt := 22) d_m_write_18 (by decide) ?_
      refine m_istore d_m_write_22 (by decide) ?_
      refine m_aload_n d_m_write_24 rfl ?_
      refine m_iload d_m_write_25 rfl ?_
      refine m_if_ne (tgt := 34) d_m_write_27 (by decide) (by first | assumption | exact hR _ _ (by decide) | (unfold R32; omega)) (fun z27 => ?_) (fun z27 => ?_)
      · refine m_iload_n d_m_write_34 rfl ?_
        refine m_callS d_m_write_35 q_m_write_116 s_m_isContent (t_m_isContent g hc) rfl rfl (Nat.le_of_ble_eq_true rfl) rfl rfl rfl ?_
        rintro _ rfl
        refine m_if_ne (tgt := 45) d_m_write_38 (by decide) (by first | assumption | exact hR _ _ (by decide) | (unfold R32; omega)) (fun z38 => ?_) (fun z38 => ?_)
        · refine m_aload_n d_m_write_45 rfl ?_
          refine mg_19 d_m_write_46 rfl ?_
          refine m_iload_n d_m_write_49 rfl ?_
          refine m_zld d_m_write_50 (by omega) (by omega) ?_
          refine m_if_eq (tgt := 58) d_m_write_51 (by decide) (by first | assumption | exact hR _ _ (by decide) | (unfold R32; omega)) (fun z51 => ?_) (fun z51 => ?_)
          · refine m_iconst d_m_write_58 ?_
            refine m_callV d_m_write_59 q_m_write_109 s_m_holds v_m_holds rfl (t_m_holds ⟨by omega, by omega⟩) rfl rfl (Nat.le_of_ble_eq_true rfl) rfl rfl rfl ?_
            rintro _ _ _ ⟨rfl, rfl, rfl⟩
            refine m_if_ne (tgt := 67) d_m_write_62 (by decide) (by first | assumption | exact hR _ _ (by decide) | (unfold R32; omega)) (fun z62 => ?_) (fun z62 => ?_)
            · refine m_aload_n d_m_write_67 rfl ?_
              refine m_iload_n d_m_write_68 rfl ?_
              refine m_iload_n d_m_write_69 rfl ?_
              refine m_callV d_m_write_70 q_m_write_119 s_m_imageShows v_m_imageShows rfl (t_m_imageShows hI (by omega) (by omega) (by omega) (by omega)) rfl rfl (Nat.le_of_ble_eq_true rfl) rfl rfl rfl ?_
              rintro _ _ _ ⟨rfl, rfl, rfl⟩
              refine m_istore d_m_write_73 (by decide) ?_
              refine m_aload_n d_m_write_75 rfl ?_
              refine mg_7 d_m_write_76 rfl ?_
              refine m_bipush d_m_write_79 (by decide) ?_
              refine m_iload_n d_m_write_81 rfl ?_
              refine m_imul d_m_write_82 ?_
              refine m_iload_n d_m_write_83 rfl ?_
              refine m_iadd d_m_write_84 ?_
              refine m_iload_n d_m_write_85 rfl ?_
              refine m_ast 1120 rfl (by decide) rfl d_m_write_86 (by omega) (by omega) ?_
              refine m_iload d_m_write_87 rfl ?_
              exact m_iret rfl d_m_write_89 (opQ.good (by unfold cd_write; (repeat' split) <;> omega) (rfl) (rfl))
            · exact absurd z62 (by decide)
          · refine m_iconst d_m_write_54 ?_
            refine m_goto (tgt := 59) d_m_write_55 (by decide) ?_
            refine m_callV d_m_write_59 q_m_write_109 s_m_holds v_m_holds rfl (t_m_holds ⟨by omega, by omega⟩) rfl rfl (Nat.le_of_ble_eq_true rfl) rfl rfl rfl ?_
            rintro _ _ _ ⟨rfl, rfl, rfl⟩
            refine m_if_ne (tgt := 67) d_m_write_62 (by decide) (by first | assumption | exact hR _ _ (by decide) | (unfold R32; omega)) (fun z62 => ?_) (fun z62 => ?_)
            · exact absurd z62 (by decide)
            · refine m_iconst d_m_write_65 ?_
              exact m_iret rfl d_m_write_66 (opQ.bad (by unfold cd_write; (repeat' split) <;> omega) (by decide))
        · refine m_iconst d_m_write_41 ?_
          refine m_goto (tgt := 59) d_m_write_42 (by decide) ?_
          refine m_callV d_m_write_59 q_m_write_109 s_m_holds v_m_holds rfl (t_m_holds ⟨by omega, by omega⟩) rfl rfl (Nat.le_of_ble_eq_true rfl) rfl rfl rfl ?_
          rintro _ _ _ ⟨rfl, rfl, rfl⟩
          refine m_if_ne (tgt := 67) d_m_write_62 (by decide) (by first | assumption | exact hR _ _ (by decide) | (unfold R32; omega)) (fun z62 => ?_) (fun z62 => ?_)
          · exact absurd z62 (by decide)
          · refine m_iconst d_m_write_65 ?_
            exact m_iret rfl d_m_write_66 (opQ.bad (by unfold cd_write; (repeat' split) <;> omega) (by decide))
      · exact absurd z27 (by decide)
def cd_remove (S : gS) (i f : Int) : Int := if ¬ (0 ≤ i ∧ i < S 3 0 ∧ 0 ≤ f ∧ f < 32) then 1 else if S 5 i ≠ 0 ∨ see S i f = 0 then 2 else 0
def vl_remove (S : gS) (i f : Int) : Int := see S i f
def st_remove (S : gS) (i f : Int) : gS := sset S 1 (32 * i + f) (-1)
theorem t_m_remove {g : xG} {x0 : Nat} {ad : Nat → Nat} {tt : Int} {S : gS} {i f : Int} (hI : Inv S) (hi : R32 i) (hf : R32 f) : mM g y_m_remove k_m_remove M_m_remove x0 ad [.int (iI i), .int (iI f)] tt S (opQ S (cd_remove S i f) (vl_remove S i f) (st_remove S i f)) := by
  refine mM.of rfl (by decide) rfl rfl rfl (by simp [Value.category]) (Nat.le_of_ble_eq_true rfl) rfl (fun h0 => ?_)
  obtain ⟨hR, hi1, hi2, hi3, hi4, hi5, hi6, hi7⟩ := id hI
  obtain ⟨him, hgr, hco, hck⟩ := id hi1
  have e1 := isin_s i (S 3 0)
  have e2 := isin_s f 32
  have e4 := see_b hi6 i f
  refine m_aload_n d_m_remove_0 rfl ?_
  refine m_iload_n d_m_remove_1 rfl ?_
  refine m_callV d_m_remove_2 q_m_remove_101 s_m_isImage v_m_isImage rfl (t_m_isImage hR hi) rfl rfl (Nat.le_of_ble_eq_true rfl) rfl rfl rfl ?_
  rintro _ _ _ ⟨rfl, rfl, rfl⟩
  refine m_if_eq (tgt := 21) d_m_remove_5 (by decide) (by first | assumption | exact hR _ _ (by decide) | (unfold R32; omega)) (fun z5 => ?_) (fun z5 => ?_)
  · refine m_iconst d_m_remove_21 ?_
    refine m_istore_n d_m_remove_22 (by decide) ?_
    refine m_aload_n d_m_remove_23 rfl ?_
    refine m_iload_n d_m_remove_24 rfl ?_
    refine m_if_ne (tgt := 32) d_m_remove_25 (by decide) (by first | assumption | exact hR _ _ (by decide) | (unfold R32; omega)) (fun z25 => ?_) (fun z25 => ?_)
    · exact absurd z25 (by decide)
    · refine m_iconst d_m_remove_28 ?_
      refine m_goto (tgt := 55) d_m_remove_29 (by decide) ?_
      refine m_callV d_m_remove_55 q_m_remove_109 s_m_holds v_m_holds rfl (t_m_holds ⟨by omega, by omega⟩) rfl rfl (Nat.le_of_ble_eq_true rfl) rfl rfl rfl ?_
      rintro _ _ _ ⟨rfl, rfl, rfl⟩
      refine m_if_ne (tgt := 63) d_m_remove_58 (by decide) (by first | assumption | exact hR _ _ (by decide) | (unfold R32; omega)) (fun z58 => ?_) (fun z58 => ?_)
      · exact absurd z58 (by decide)
      · refine m_iconst d_m_remove_61 ?_
        exact m_iret rfl d_m_remove_62 (opQ.bad (by unfold cd_remove; (repeat' split) <;> omega) (by decide))
  · refine m_iload_n d_m_remove_8 rfl ?_
    refine m_bipush d_m_remove_9 (by decide) ?_
    refine m_callS d_m_remove_11 q_m_remove_90 s_m_isIn (t_m_isIn g hf ⟨by omega, by omega⟩) rfl rfl (Nat.le_of_ble_eq_true rfl) rfl rfl rfl ?_
    rintro _ rfl
    refine m_if_eq (tgt := 21) d_m_remove_14 (by decide) (by first | assumption | exact hR _ _ (by decide) | (unfold R32; omega)) (fun z14 => ?_) (fun z14 => ?_)
    · refine m_iconst d_m_remove_21 ?_
      refine m_istore_n d_m_remove_22 (by decide) ?_
      refine m_aload_n d_m_remove_23 rfl ?_
      refine m_iload_n d_m_remove_24 rfl ?_
      refine m_if_ne (tgt := 32) d_m_remove_25 (by decide) (by first | assumption | exact hR _ _ (by decide) | (unfold R32; omega)) (fun z25 => ?_) (fun z25 => ?_)
      · exact absurd z25 (by decide)
      · refine m_iconst d_m_remove_28 ?_
        refine m_goto (tgt := 55) d_m_remove_29 (by decide) ?_
        refine m_callV d_m_remove_55 q_m_remove_109 s_m_holds v_m_holds rfl (t_m_holds ⟨by omega, by omega⟩) rfl rfl (Nat.le_of_ble_eq_true rfl) rfl rfl rfl ?_
        rintro _ _ _ ⟨rfl, rfl, rfl⟩
        refine m_if_ne (tgt := 63) d_m_remove_58 (by decide) (by first | assumption | exact hR _ _ (by decide) | (unfold R32; omega)) (fun z58 => ?_) (fun z58 => ?_)
        · exact absurd z58 (by decide)
        · refine m_iconst d_m_remove_61 ?_
          exact m_iret rfl d_m_remove_62 (opQ.bad (by unfold cd_remove; (repeat' split) <;> omega) (by decide))
    · refine m_iconst d_m_remove_17 ?_
      refine m_goto (tgt := 22) d_m_remove_18 (by decide) ?_
      refine m_istore_n d_m_remove_22 (by decide) ?_
      refine m_aload_n d_m_remove_23 rfl ?_
      refine m_iload_n d_m_remove_24 rfl ?_
      refine m_if_ne (tgt := 32) d_m_remove_25 (by decide) (by first | assumption | exact hR _ _ (by decide) | (unfold R32; omega)) (fun z25 => ?_) (fun z25 => ?_)
      · refine m_aload_n d_m_remove_32 rfl ?_
        refine mg_19 d_m_remove_33 rfl ?_
        refine m_iload_n d_m_remove_36 rfl ?_
        refine m_zld d_m_remove_37 (by omega) (by omega) ?_
        refine m_if_ne (tgt := 50) d_m_remove_38 (by decide) (by first | assumption | exact hR _ _ (by decide) | (unfold R32; omega)) (fun z38 => ?_) (fun z38 => ?_)
        · refine m_iconst d_m_remove_50 ?_
          refine m_goto (tgt := 55) d_m_remove_51 (by decide) ?_
          refine m_callV d_m_remove_55 q_m_remove_109 s_m_holds v_m_holds rfl (t_m_holds ⟨by omega, by omega⟩) rfl rfl (Nat.le_of_ble_eq_true rfl) rfl rfl rfl ?_
          rintro _ _ _ ⟨rfl, rfl, rfl⟩
          refine m_if_ne (tgt := 63) d_m_remove_58 (by decide) (by first | assumption | exact hR _ _ (by decide) | (unfold R32; omega)) (fun z58 => ?_) (fun z58 => ?_)
          · exact absurd z58 (by decide)
          · refine m_iconst d_m_remove_61 ?_
            exact m_iret rfl d_m_remove_62 (opQ.bad (by unfold cd_remove; (repeat' split) <;> omega) (by decide))
        · refine m_aload_n d_m_remove_41 rfl ?_
          refine m_iload_n d_m_remove_42 rfl ?_
          refine m_iload_n d_m_remove_43 rfl ?_
          refine m_callV d_m_remove_44 q_m_remove_119 s_m_imageShows v_m_imageShows rfl (t_m_imageShows hI (by omega) (by omega) (by omega) (by omega)) rfl rfl (Nat.le_of_ble_eq_true rfl) rfl rfl rfl ?_
          rintro _ _ _ ⟨rfl, rfl, rfl⟩
          refine m_if_ne (tgt := 54) d_m_remove_47 (by decide) (by first | assumption | exact hR _ _ (by decide) | (unfold R32; omega)) (fun z47 => ?_) (fun z47 => ?_)
          · refine m_iconst d_m_remove_54 ?_
            refine m_callV d_m_remove_55 q_m_remove_109 s_m_holds v_m_holds rfl (t_m_holds ⟨by omega, by omega⟩) rfl rfl (Nat.le_of_ble_eq_true rfl) rfl rfl rfl ?_
            rintro _ _ _ ⟨rfl, rfl, rfl⟩
            refine m_if_ne (tgt := 63) d_m_remove_58 (by decide) (by first | assumption | exact hR _ _ (by decide) | (unfold R32; omega)) (fun z58 => ?_) (fun z58 => ?_)
            · refine m_aload_n d_m_remove_63 rfl ?_
              refine m_iload_n d_m_remove_64 rfl ?_
              refine m_iload_n d_m_remove_65 rfl ?_
              refine m_callV d_m_remove_66 q_m_remove_119 s_m_imageShows v_m_imageShows rfl (t_m_imageShows hI (by omega) (by omega) (by omega) (by omega)) rfl rfl (Nat.le_of_ble_eq_true rfl) rfl rfl rfl ?_
              rintro _ _ _ ⟨rfl, rfl, rfl⟩
              refine m_istore d_m_remove_69 (by decide) ?_
              refine m_aload_n d_m_remove_71 rfl ?_
              refine mg_7 d_m_remove_72 rfl ?_
              refine m_bipush d_m_remove_75 (by decide) ?_
              refine m_iload_n d_m_remove_77 rfl ?_
              refine m_imul d_m_remove_78 ?_
              refine m_iload_n d_m_remove_79 rfl ?_
              refine m_iadd d_m_remove_80 ?_
              refine m_iconst d_m_remove_81 ?_
              refine m_ast 1120 rfl (by decide) rfl d_m_remove_82 (by omega) (by omega) ?_
              refine m_iload d_m_remove_83 rfl ?_
              exact m_iret rfl d_m_remove_85 (opQ.good (by unfold cd_remove; (repeat' split) <;> omega) (rfl) (rfl))
            · exact absurd z58 (by decide)
          · refine m_iconst d_m_remove_50 ?_
            refine m_goto (tgt := 55) d_m_remove_51 (by decide) ?_
            refine m_callV d_m_remove_55 q_m_remove_109 s_m_holds v_m_holds rfl (t_m_holds ⟨by omega, by omega⟩) rfl rfl (Nat.le_of_ble_eq_true rfl) rfl rfl rfl ?_
            rintro _ _ _ ⟨rfl, rfl, rfl⟩
            refine m_if_ne (tgt := 63) d_m_remove_58 (by decide) (by first | assumption | exact hR _ _ (by decide) | (unfold R32; omega)) (fun z58 => ?_) (fun z58 => ?_)
            · exact absurd z58 (by decide)
            · refine m_iconst d_m_remove_61 ?_
              exact m_iret rfl d_m_remove_62 (opQ.bad (by unfold cd_remove; (repeat' split) <;> omega) (by decide))
      · exact absurd z25 (by decide)
def cd_seal (S : gS) (i : Int) : Int := if ¬ (0 ≤ i ∧ i < S 3 0) then 1 else if S 5 i ≠ 0 then 2 else 0
def vl_seal (S : gS) (i : Int) : Int := lay S i
def st_seal (S : gS) (i : Int) : gS := sset S 5 i 1
theorem t_m_seal {g : xG} {x0 : Nat} {ad : Nat → Nat} {tt : Int} {S : gS} {i : Int} (hI : Inv S) (hi : R32 i) : mM g y_m_seal k_m_seal M_m_seal x0 ad [.int (iI i)] tt S (opQ S (cd_seal S i) (vl_seal S i) (st_seal S i)) := by
  refine mM.of rfl (by decide) rfl rfl rfl (by simp [Value.category]) (Nat.le_of_ble_eq_true rfl) rfl (fun h0 => ?_)
  obtain ⟨hR, hi1, hi2, hi3, hi4, hi5, hi6, hi7⟩ := id hI
  obtain ⟨him, hgr, hco, hck⟩ := id hi1
  have e1 := isin_s i (S 3 0)
  refine m_aload_n d_m_seal_0 rfl ?_
  refine m_iload_n d_m_seal_1 rfl ?_
  refine m_callV d_m_seal_2 q_m_seal_101 s_m_isImage v_m_isImage rfl (t_m_isImage hR hi) rfl rfl (Nat.le_of_ble_eq_true rfl) rfl rfl rfl ?_
  rintro _ _ _ ⟨rfl, rfl, rfl⟩
  refine m_istore_n d_m_seal_5 (by decide) ?_
  refine m_aload_n d_m_seal_6 rfl ?_
  refine m_iload_n d_m_seal_7 rfl ?_
  refine m_if_ne (tgt := 15) d_m_seal_8 (by decide) (by first | assumption | exact hR _ _ (by decide) | (unfold R32; omega)) (fun z8 => ?_) (fun z8 => ?_)
  · refine m_aload_n d_m_seal_15 rfl ?_
    refine mg_19 d_m_seal_16 rfl ?_
    refine m_iload_n d_m_seal_19 rfl ?_
    refine m_zld d_m_seal_20 (by omega) (by omega) ?_
    refine m_if_eq (tgt := 28) d_m_seal_21 (by decide) (by first | assumption | exact hR _ _ (by decide) | (unfold R32; omega)) (fun z21 => ?_) (fun z21 => ?_)
    · refine m_iconst d_m_seal_28 ?_
      refine m_callV d_m_seal_29 q_m_seal_109 s_m_holds v_m_holds rfl (t_m_holds ⟨by omega, by omega⟩) rfl rfl (Nat.le_of_ble_eq_true rfl) rfl rfl rfl ?_
      rintro _ _ _ ⟨rfl, rfl, rfl⟩
      refine m_if_ne (tgt := 37) d_m_seal_32 (by decide) (by first | assumption | exact hR _ _ (by decide) | (unfold R32; omega)) (fun z32 => ?_) (fun z32 => ?_)
      · refine m_aload_n d_m_seal_37 rfl ?_
        refine mg_19 d_m_seal_38 rfl ?_
        refine m_iload_n d_m_seal_41 rfl ?_
        refine m_iconst d_m_seal_42 ?_
        refine m_zst d_m_seal_43 (by omega) (by omega) (by omega) ?_
        refine m_aload_n d_m_seal_44 rfl ?_
        refine m_iload_n d_m_seal_45 rfl ?_
        refine m_callV d_m_seal_46 q_m_seal_105 s_m_layersOf v_m_layersOf rfl (t_m_layersOf (a := i) (S := sset S 5 i 1) hi1 hi2 (show (-1 : Int) ≤ i by omega) (show i < S 3 0 by omega)) rfl rfl (Nat.le_of_ble_eq_true rfl) rfl rfl rfl ?_
        rintro _ _ _ ⟨rfl, rfl, rfl⟩
        exact m_iret rfl d_m_seal_49 (opQ.good (by unfold cd_seal; (repeat' split) <;> omega) (lay_congr (sset_n S i 1 (by decide)) i) (rfl))
      · exact absurd z32 (by decide)
    · refine m_iconst d_m_seal_24 ?_
      refine m_goto (tgt := 29) d_m_seal_25 (by decide) ?_
      refine m_callV d_m_seal_29 q_m_seal_109 s_m_holds v_m_holds rfl (t_m_holds ⟨by omega, by omega⟩) rfl rfl (Nat.le_of_ble_eq_true rfl) rfl rfl rfl ?_
      rintro _ _ _ ⟨rfl, rfl, rfl⟩
      refine m_if_ne (tgt := 37) d_m_seal_32 (by decide) (by first | assumption | exact hR _ _ (by decide) | (unfold R32; omega)) (fun z32 => ?_) (fun z32 => ?_)
      · exact absurd z32 (by decide)
      · refine m_iconst d_m_seal_35 ?_
        exact m_iret rfl d_m_seal_36 (opQ.bad (by unfold cd_seal; (repeat' split) <;> omega) (by decide))
  · refine m_iconst d_m_seal_11 ?_
    refine m_goto (tgt := 29) d_m_seal_12 (by decide) ?_
    refine m_callV d_m_seal_29 q_m_seal_109 s_m_holds v_m_holds rfl (t_m_holds ⟨by omega, by omega⟩) rfl rfl (Nat.le_of_ble_eq_true rfl) rfl rfl rfl ?_
    rintro _ _ _ ⟨rfl, rfl, rfl⟩
    refine m_if_ne (tgt := 37) d_m_seal_32 (by decide) (by first | assumption | exact hR _ _ (by decide) | (unfold R32; omega)) (fun z32 => ?_) (fun z32 => ?_)
    · exact absurd z32 (by decide)
    · refine m_iconst d_m_seal_35 ?_
      exact m_iret rfl d_m_seal_36 (opQ.bad (by unfold cd_seal; (repeat' split) <;> omega) (by decide))
def cd_shown (S : gS) (i f : Int) : Int := if ¬ (0 ≤ i ∧ i < S 3 0 ∧ 0 ≤ f ∧ f < 32) then 1 else 0
def vl_shown (S : gS) (i f : Int) : Int := see S i f
def st_shown (S : gS) (i f : Int) : gS := S
theorem t_m_shown {g : xG} {x0 : Nat} {ad : Nat → Nat} {tt : Int} {S : gS} {i f : Int} (hI : Inv S) (hi : R32 i) (hf : R32 f) : mM g y_m_shown k_m_shown M_m_shown x0 ad [.int (iI i), .int (iI f)] tt S (opQ S (cd_shown S i f) (vl_shown S i f) (st_shown S i f)) := by
  refine mM.of rfl (by decide) rfl rfl rfl (by simp [Value.category]) (Nat.le_of_ble_eq_true rfl) rfl (fun h0 => ?_)
  obtain ⟨hR, hi1, hi2, hi3, hi4, hi5, hi6, hi7⟩ := id hI
  obtain ⟨him, hgr, hco, hck⟩ := id hi1
  have e1 := isin_s i (S 3 0)
  have e2 := isin_s f 32
  refine m_aload_n d_m_shown_0 rfl ?_
  refine m_aload_n d_m_shown_1 rfl ?_
  refine m_iload_n d_m_shown_2 rfl ?_
  refine m_callV d_m_shown_3 q_m_shown_101 s_m_isImage v_m_isImage rfl (t_m_isImage hR hi) rfl rfl (Nat.le_of_ble_eq_true rfl) rfl rfl rfl ?_
  rintro _ _ _ ⟨rfl, rfl, rfl⟩
  refine m_if_eq (tgt := 22) d_m_shown_6 (by decide) (by first | assumption | exact hR _ _ (by decide) | (unfold R32; omega)) (fun z6 => ?_) (fun z6 => ?_)
  · refine m_iconst d_m_shown_22 ?_
    refine m_callV d_m_shown_23 q_m_shown_109 s_m_holds v_m_holds rfl (t_m_holds ⟨by omega, by omega⟩) rfl rfl (Nat.le_of_ble_eq_true rfl) rfl rfl rfl ?_
    rintro _ _ _ ⟨rfl, rfl, rfl⟩
    refine m_if_eq (tgt := 38) d_m_shown_26 (by decide) (by first | assumption | exact hR _ _ (by decide) | (unfold R32; omega)) (fun z26 => ?_) (fun z26 => ?_)
    · refine m_iconst d_m_shown_38 ?_
      exact m_iret rfl d_m_shown_39 (by first | exact opQ.bad (by unfold cd_shown; (repeat' split) <;> omega) (by decide) | exact opQ.good (by unfold cd_shown; (repeat' split) <;> omega) rfl rfl)
    · exact absurd z26 (by decide)
  · refine m_iload_n d_m_shown_9 rfl ?_
    refine m_bipush d_m_shown_10 (by decide) ?_
    refine m_callS d_m_shown_12 q_m_shown_90 s_m_isIn (t_m_isIn g hf ⟨by omega, by omega⟩) rfl rfl (Nat.le_of_ble_eq_true rfl) rfl rfl rfl ?_
    rintro _ rfl
    refine m_if_eq (tgt := 22) d_m_shown_15 (by decide) (by first | assumption | exact hR _ _ (by decide) | (unfold R32; omega)) (fun z15 => ?_) (fun z15 => ?_)
    · refine m_iconst d_m_shown_22 ?_
      refine m_callV d_m_shown_23 q_m_shown_109 s_m_holds v_m_holds rfl (t_m_holds ⟨by omega, by omega⟩) rfl rfl (Nat.le_of_ble_eq_true rfl) rfl rfl rfl ?_
      rintro _ _ _ ⟨rfl, rfl, rfl⟩
      refine m_if_eq (tgt := 38) d_m_shown_26 (by decide) (by first | assumption | exact hR _ _ (by decide) | (unfold R32; omega)) (fun z26 => ?_) (fun z26 => ?_)
      · refine m_iconst d_m_shown_38 ?_
        exact m_iret rfl d_m_shown_39 (by first | exact opQ.bad (by unfold cd_shown; (repeat' split) <;> omega) (by decide) | exact opQ.good (by unfold cd_shown; (repeat' split) <;> omega) rfl rfl)
      · exact absurd z26 (by decide)
    · refine m_iconst d_m_shown_18 ?_
      refine m_goto (tgt := 23) d_m_shown_19 (by decide) ?_
      refine m_callV d_m_shown_23 q_m_shown_109 s_m_holds v_m_holds rfl (t_m_holds ⟨by omega, by omega⟩) rfl rfl (Nat.le_of_ble_eq_true rfl) rfl rfl rfl ?_
      rintro _ _ _ ⟨rfl, rfl, rfl⟩
      refine m_if_eq (tgt := 38) d_m_shown_26 (by decide) (by first | assumption | exact hR _ _ (by decide) | (unfold R32; omega)) (fun z26 => ?_) (fun z26 => ?_)
      · exact absurd z26 (by decide)
      · refine m_aload_n d_m_shown_29 rfl ?_
        refine m_iload_n d_m_shown_30 rfl ?_
        refine m_iload_n d_m_shown_31 rfl ?_
        refine m_callV d_m_shown_32 q_m_shown_119 s_m_imageShows v_m_imageShows rfl (t_m_imageShows hI (by omega) (by omega) (by omega) (by omega)) rfl rfl (Nat.le_of_ble_eq_true rfl) rfl rfl rfl ?_
        rintro _ _ _ ⟨rfl, rfl, rfl⟩
        refine m_goto (tgt := 39) d_m_shown_35 (by decide) ?_
        exact m_iret rfl d_m_shown_39 (by first | exact opQ.bad (by unfold cd_shown; (repeat' split) <;> omega) (by decide) | exact opQ.good (by unfold cd_shown; (repeat' split) <;> omega) rfl rfl)
end
section
theorem lay_8 {S : gS} (hI : Inv S) {k : Int} (h0 : 0 ≤ k) (h1 : k < S 3 0) : 0 ≤ lay S k ∧ lay S k ≤ 8 := ⟨lay_nn S k, (hI.2.2.2.2.2.2.2.1 k h0 h1).1⟩
def cd_newImage (S : gS) (p : Int) : Int := if ¬ (p = -1 ∨ (0 ≤ p ∧ p < S 3 0)) then 1 else if (p = -1 ∨ (S 5 p = 1 ∧ lay S p < 8)) ∧ S 3 0 < 10 then 0 else 2
def vl_newImage (S : gS) (p : Int) : Int := S 3 0
def st_newImage (S : gS) (p : Int) : gS := sset (ez (sset (sset S 4 (S 3 0) p) 5 (S 3 0) 0) (S 3 0) 32) 3 0 (S 3 0 + 1)
theorem t_m_newImage {g : xG} {x0 : Nat} {ad : Nat → Nat} {tt : Int} {S : gS} {p : Int} (hI : Inv S) (hp : R32 p) : mM g y_m_newImage k_m_newImage M_m_newImage x0 ad [.int (iI p)] tt S (opQ S (cd_newImage S p) (vl_newImage S p) (st_newImage S p)) := by
  refine mM.of rfl (by decide) rfl rfl rfl (by simp [Value.category]) (Nat.le_of_ble_eq_true rfl) rfl (fun h0 => ?_)
  obtain ⟨hR, hi1, hi2, hi3, hi4, hi5, hi6, hi7⟩ := id hI
  obtain ⟨him, hgr, hco, hck⟩ := id hi1
  have e1 := isin_s p (S 3 0)
  have e9 := hi6.2.2.1 p
  refine m_iload_n d_m_newImage_0 rfl ?_
  refine m_iconst d_m_newImage_1 ?_
  refine m_icmp_eq (tgt := 13) d_m_newImage_2 (by decide) (by first | assumption | exact hR _ _ (by decide) | (unfold R32; omega)) (by first | assumption | exact hR _ _ (by decide) | (unfold R32; omega)) (fun z2 => ?_) (fun z2 => ?_)
  · refine m_iconst d_m_newImage_13 ?_
    refine m_goto (tgt := 18) d_m_newImage_14 (by decide) ?_
    refine m_istore_n d_m_newImage_18 (by decide) ?_
    refine m_iload_n d_m_newImage_19 rfl ?_
    refine m_if_eq (tgt := 60) d_m_newImage_20 (by decide) (by first | assumption | exact hR _ _ (by decide) | (unfold R32; omega)) (fun z20 => ?_) (fun z20 => ?_)
    · exact absurd z20 (by decide)
    · refine m_iload_n d_m_newImage_23 rfl ?_
      refine m_iconst d_m_newImage_24 ?_
      refine m_icmp_eq (tgt := 47) d_m_newImage_25 (by decide) (by first | assumption | exact hR _ _ (by decide) | (unfold R32; omega)) (by first | assumption | exact hR _ _ (by decide) | (unfold R32; omega)) (fun z25 => ?_) (fun z25 => ?_)
      · refine m_aload_n d_m_newImage_47 rfl ?_
        refine mg_87 d_m_newImage_48 rfl ?_
        refine m_bipush d_m_newImage_51 (by decide) ?_
        refine m_icmp_ge (tgt := 60) d_m_newImage_53 (by decide) (by first | assumption | exact hR _ _ (by decide) | (unfold R32; omega)) (by first | assumption | exact hR _ _ (by decide) | (unfold R32; omega)) (fun z53 => ?_) (fun z53 => ?_)
        · refine m_iconst d_m_newImage_60 ?_
          refine m_istore_n d_m_newImage_61 (by decide) ?_
          refine m_aload_n d_m_newImage_62 rfl ?_
          refine m_iload_n d_m_newImage_63 rfl ?_
          refine m_if_ne (tgt := 71) d_m_newImage_64 (by decide) (by first | assumption | exact hR _ _ (by decide) | (unfold R32; omega)) (fun z64 => ?_) (fun z64 => ?_)
          · refine m_iload_n d_m_newImage_71 rfl ?_
            refine m_if_eq (tgt := 79) d_m_newImage_72 (by decide) (by first | assumption | exact hR _ _ (by decide) | (unfold R32; omega)) (fun z72 => ?_) (fun z72 => ?_)
            · refine m_iconst d_m_newImage_79 ?_
              refine m_callV d_m_newImage_80 q_m_newImage_109 s_m_holds v_m_holds rfl (t_m_holds ⟨by omega, by omega⟩) rfl rfl (Nat.le_of_ble_eq_true rfl) rfl rfl rfl ?_
              rintro _ _ _ ⟨rfl, rfl, rfl⟩
              refine m_if_ne (tgt := 88) d_m_newImage_83 (by decide) (by first | assumption | exact hR _ _ (by decide) | (unfold R32; omega)) (fun z83 => ?_) (fun z83 => ?_)
              · exact absurd z83 (by decide)
              · refine m_iconst d_m_newImage_86 ?_
                exact m_iret rfl d_m_newImage_87 (opQ.bad (by unfold cd_newImage; (repeat' split) <;> omega) (by decide))
            · exact absurd z72 (by decide)
          · exact absurd z64 (by decide)
        · refine m_iconst d_m_newImage_56 ?_
          refine m_goto (tgt := 61) d_m_newImage_57 (by decide) ?_
          refine m_istore_n d_m_newImage_61 (by decide) ?_
          refine m_aload_n d_m_newImage_62 rfl ?_
          refine m_iload_n d_m_newImage_63 rfl ?_
          refine m_if_ne (tgt := 71) d_m_newImage_64 (by decide) (by first | assumption | exact hR _ _ (by decide) | (unfold R32; omega)) (fun z64 => ?_) (fun z64 => ?_)
          · refine m_iload_n d_m_newImage_71 rfl ?_
            refine m_if_eq (tgt := 79) d_m_newImage_72 (by decide) (by first | assumption | exact hR _ _ (by decide) | (unfold R32; omega)) (fun z72 => ?_) (fun z72 => ?_)
            · exact absurd z72 (by decide)
            · refine m_iconst d_m_newImage_75 ?_
              refine m_goto (tgt := 80) d_m_newImage_76 (by decide) ?_
              refine m_callV d_m_newImage_80 q_m_newImage_109 s_m_holds v_m_holds rfl (t_m_holds ⟨by omega, by omega⟩) rfl rfl (Nat.le_of_ble_eq_true rfl) rfl rfl rfl ?_
              rintro _ _ _ ⟨rfl, rfl, rfl⟩
              refine m_if_ne (tgt := 88) d_m_newImage_83 (by decide) (by first | assumption | exact hR _ _ (by decide) | (unfold R32; omega)) (fun z83 => ?_) (fun z83 => ?_)
              · refine m_aload_n d_m_newImage_88 rfl ?_
                refine mg_16 d_m_newImage_89 rfl ?_
                refine m_aload_n d_m_newImage_92 rfl ?_
                refine mg_87 d_m_newImage_93 rfl ?_
                refine m_iload_n d_m_newImage_96 rfl ?_
                refine m_ast 10 rfl (by decide) rfl d_m_newImage_97 (by omega) (by omega) ?_
                refine m_aload_n d_m_newImage_98 rfl ?_
                refine mg_19 d_m_newImage_99 rfl ?_
                refine m_aload_n d_m_newImage_102 rfl ?_
                refine mgv_87 (S 3 0) rfl d_m_newImage_103 rfl ?_
                refine m_iconst d_m_newImage_106 ?_
                refine m_zst d_m_newImage_107 (by omega) (by omega) (by omega) ?_
                refine m_aload_n d_m_newImage_108 rfl ?_
                refine m_aload_n d_m_newImage_109 rfl ?_
                refine mgv_87 (S 3 0) rfl d_m_newImage_110 rfl ?_
                refine m_callV d_m_newImage_113 q_m_newImage_112 s_m_empties v_m_empties rfl (t_m_empties (l := S 3 0) (by omega) (by omega)) rfl rfl (Nat.le_of_ble_eq_true rfl) rfl rfl rfl ?_
                rintro _ _ _ ⟨rfl, rfl, rfl⟩
                refine m_aload_n d_m_newImage_116 rfl ?_
                refine m_dup d_m_newImage_117 rfl ?_
                refine mgv_87 (S 3 0) rfl d_m_newImage_118 rfl ?_
                refine m_iconst d_m_newImage_121 ?_
                refine m_iadd d_m_newImage_122 ?_
                refine mp_87 d_m_newImage_123 rfl ?_
                refine m_aload_n d_m_newImage_126 rfl ?_
                refine mgv_87 (S 3 0 + 1) rfl d_m_newImage_127 rfl ?_
                refine m_iconst d_m_newImage_130 ?_
                refine m_isub d_m_newImage_131 ?_
                exact m_iret rfl d_m_newImage_132 (opQ.good (by unfold cd_newImage; (repeat' split) <;> omega) (by unfold vl_newImage; omega) (rfl))
              · exact absurd z83 (by decide)
          · exact absurd z64 (by decide)
      · refine m_aload_n d_m_newImage_28 rfl ?_
        refine mg_19 d_m_newImage_29 rfl ?_
        refine m_iload_n d_m_newImage_32 rfl ?_
        refine m_zld d_m_newImage_33 (by omega) (by omega) ?_
        refine m_if_eq (tgt := 60) d_m_newImage_34 (by decide) (by first | assumption | exact hR _ _ (by decide) | (unfold R32; omega)) (fun z34 => ?_) (fun z34 => ?_)
        · refine m_iconst d_m_newImage_60 ?_
          refine m_istore_n d_m_newImage_61 (by decide) ?_
          refine m_aload_n d_m_newImage_62 rfl ?_
          refine m_iload_n d_m_newImage_63 rfl ?_
          refine m_if_ne (tgt := 71) d_m_newImage_64 (by decide) (by first | assumption | exact hR _ _ (by decide) | (unfold R32; omega)) (fun z64 => ?_) (fun z64 => ?_)
          · refine m_iload_n d_m_newImage_71 rfl ?_
            refine m_if_eq (tgt := 79) d_m_newImage_72 (by decide) (by first | assumption | exact hR _ _ (by decide) | (unfold R32; omega)) (fun z72 => ?_) (fun z72 => ?_)
            · refine m_iconst d_m_newImage_79 ?_
              refine m_callV d_m_newImage_80 q_m_newImage_109 s_m_holds v_m_holds rfl (t_m_holds ⟨by omega, by omega⟩) rfl rfl (Nat.le_of_ble_eq_true rfl) rfl rfl rfl ?_
              rintro _ _ _ ⟨rfl, rfl, rfl⟩
              refine m_if_ne (tgt := 88) d_m_newImage_83 (by decide) (by first | assumption | exact hR _ _ (by decide) | (unfold R32; omega)) (fun z83 => ?_) (fun z83 => ?_)
              · exact absurd z83 (by decide)
              · refine m_iconst d_m_newImage_86 ?_
                exact m_iret rfl d_m_newImage_87 (opQ.bad (by unfold cd_newImage; (repeat' split) <;> omega) (by decide))
            · exact absurd z72 (by decide)
          · exact absurd z64 (by decide)
        · refine m_aload_n d_m_newImage_37 rfl ?_
          refine m_iload_n d_m_newImage_38 rfl ?_
          refine m_callV d_m_newImage_39 q_m_newImage_105 s_m_layersOf v_m_layersOf rfl (t_m_layersOf hi1 hi2 (by omega) (by omega)) rfl rfl (Nat.le_of_ble_eq_true rfl) rfl rfl rfl ?_
          rintro _ _ _ ⟨rfl, rfl, rfl⟩
          have e6 := lay_8 hI (k := p) (by omega) (by omega)
          refine m_bipush d_m_newImage_42 (by decide) ?_
          refine m_icmp_ge (tgt := 60) d_m_newImage_44 (by decide) (by first | assumption | exact hR _ _ (by decide) | (unfold R32; omega)) (by first | assumption | exact hR _ _ (by decide) | (unfold R32; omega)) (fun z44 => ?_) (fun z44 => ?_)
          · refine m_iconst d_m_newImage_60 ?_
            refine m_istore_n d_m_newImage_61 (by decide) ?_
            refine m_aload_n d_m_newImage_62 rfl ?_
            refine m_iload_n d_m_newImage_63 rfl ?_
            refine m_if_ne (tgt := 71) d_m_newImage_64 (by decide) (by first | assumption | exact hR _ _ (by decide) | (unfold R32; omega)) (fun z64 => ?_) (fun z64 => ?_)
            · refine m_iload_n d_m_newImage_71 rfl ?_
              refine m_if_eq (tgt := 79) d_m_newImage_72 (by decide) (by first | assumption | exact hR _ _ (by decide) | (unfold R32; omega)) (fun z72 => ?_) (fun z72 => ?_)
              · refine m_iconst d_m_newImage_79 ?_
                refine m_callV d_m_newImage_80 q_m_newImage_109 s_m_holds v_m_holds rfl (t_m_holds ⟨by omega, by omega⟩) rfl rfl (Nat.le_of_ble_eq_true rfl) rfl rfl rfl ?_
                rintro _ _ _ ⟨rfl, rfl, rfl⟩
                refine m_if_ne (tgt := 88) d_m_newImage_83 (by decide) (by first | assumption | exact hR _ _ (by decide) | (unfold R32; omega)) (fun z83 => ?_) (fun z83 => ?_)
                · exact absurd z83 (by decide)
                · refine m_iconst d_m_newImage_86 ?_
                  exact m_iret rfl d_m_newImage_87 (opQ.bad (by unfold cd_newImage; (repeat' split) <;> omega) (by decide))
              · exact absurd z72 (by decide)
            · exact absurd z64 (by decide)
          · refine m_aload_n d_m_newImage_47 rfl ?_
            refine mg_87 d_m_newImage_48 rfl ?_
            refine m_bipush d_m_newImage_51 (by decide) ?_
            refine m_icmp_ge (tgt := 60) d_m_newImage_53 (by decide) (by first | assumption | exact hR _ _ (by decide) | (unfold R32; omega)) (by first | assumption | exact hR _ _ (by decide) | (unfold R32; omega)) (fun z53 => ?_) (fun z53 => ?_)
            · refine m_iconst d_m_newImage_60 ?_
              refine m_istore_n d_m_newImage_61 (by decide) ?_
              refine m_aload_n d_m_newImage_62 rfl ?_
              refine m_iload_n d_m_newImage_63 rfl ?_
              refine m_if_ne (tgt := 71) d_m_newImage_64 (by decide) (by first | assumption | exact hR _ _ (by decide) | (unfold R32; omega)) (fun z64 => ?_) (fun z64 => ?_)
              · refine m_iload_n d_m_newImage_71 rfl ?_
                refine m_if_eq (tgt := 79) d_m_newImage_72 (by decide) (by first | assumption | exact hR _ _ (by decide) | (unfold R32; omega)) (fun z72 => ?_) (fun z72 => ?_)
                · refine m_iconst d_m_newImage_79 ?_
                  refine m_callV d_m_newImage_80 q_m_newImage_109 s_m_holds v_m_holds rfl (t_m_holds ⟨by omega, by omega⟩) rfl rfl (Nat.le_of_ble_eq_true rfl) rfl rfl rfl ?_
                  rintro _ _ _ ⟨rfl, rfl, rfl⟩
                  refine m_if_ne (tgt := 88) d_m_newImage_83 (by decide) (by first | assumption | exact hR _ _ (by decide) | (unfold R32; omega)) (fun z83 => ?_) (fun z83 => ?_)
                  · exact absurd z83 (by decide)
                  · refine m_iconst d_m_newImage_86 ?_
                    exact m_iret rfl d_m_newImage_87 (opQ.bad (by unfold cd_newImage; (repeat' split) <;> omega) (by decide))
                · exact absurd z72 (by decide)
              · exact absurd z64 (by decide)
            · refine m_iconst d_m_newImage_56 ?_
              refine m_goto (tgt := 61) d_m_newImage_57 (by decide) ?_
              refine m_istore_n d_m_newImage_61 (by decide) ?_
              refine m_aload_n d_m_newImage_62 rfl ?_
              refine m_iload_n d_m_newImage_63 rfl ?_
              refine m_if_ne (tgt := 71) d_m_newImage_64 (by decide) (by first | assumption | exact hR _ _ (by decide) | (unfold R32; omega)) (fun z64 => ?_) (fun z64 => ?_)
              · refine m_iload_n d_m_newImage_71 rfl ?_
                refine m_if_eq (tgt := 79) d_m_newImage_72 (by decide) (by first | assumption | exact hR _ _ (by decide) | (unfold R32; omega)) (fun z72 => ?_) (fun z72 => ?_)
                · exact absurd z72 (by decide)
                · refine m_iconst d_m_newImage_75 ?_
                  refine m_goto (tgt := 80) d_m_newImage_76 (by decide) ?_
                  refine m_callV d_m_newImage_80 q_m_newImage_109 s_m_holds v_m_holds rfl (t_m_holds ⟨by omega, by omega⟩) rfl rfl (Nat.le_of_ble_eq_true rfl) rfl rfl rfl ?_
                  rintro _ _ _ ⟨rfl, rfl, rfl⟩
                  refine m_if_ne (tgt := 88) d_m_newImage_83 (by decide) (by first | assumption | exact hR _ _ (by decide) | (unfold R32; omega)) (fun z83 => ?_) (fun z83 => ?_)
                  · refine m_aload_n d_m_newImage_88 rfl ?_
                    refine mg_16 d_m_newImage_89 rfl ?_
                    refine m_aload_n d_m_newImage_92 rfl ?_
                    refine mg_87 d_m_newImage_93 rfl ?_
                    refine m_iload_n d_m_newImage_96 rfl ?_
                    refine m_ast 10 rfl (by decide) rfl d_m_newImage_97 (by omega) (by omega) ?_
                    refine m_aload_n d_m_newImage_98 rfl ?_
                    refine mg_19 d_m_newImage_99 rfl ?_
                    refine m_aload_n d_m_newImage_102 rfl ?_
                    refine mgv_87 (S 3 0) rfl d_m_newImage_103 rfl ?_
                    refine m_iconst d_m_newImage_106 ?_
                    refine m_zst d_m_newImage_107 (by omega) (by omega) (by omega) ?_
                    refine m_aload_n d_m_newImage_108 rfl ?_
                    refine m_aload_n d_m_newImage_109 rfl ?_
                    refine mgv_87 (S 3 0) rfl d_m_newImage_110 rfl ?_
                    refine m_callV d_m_newImage_113 q_m_newImage_112 s_m_empties v_m_empties rfl (t_m_empties (l := S 3 0) (by omega) (by omega)) rfl rfl (Nat.le_of_ble_eq_true rfl) rfl rfl rfl ?_
                    rintro _ _ _ ⟨rfl, rfl, rfl⟩
                    refine m_aload_n d_m_newImage_116 rfl ?_
                    refine m_dup d_m_newImage_117 rfl ?_
                    refine mgv_87 (S 3 0) rfl d_m_newImage_118 rfl ?_
                    refine m_iconst d_m_newImage_121 ?_
                    refine m_iadd d_m_newImage_122 ?_
                    refine mp_87 d_m_newImage_123 rfl ?_
                    refine m_aload_n d_m_newImage_126 rfl ?_
                    refine mgv_87 (S 3 0 + 1) rfl d_m_newImage_127 rfl ?_
                    refine m_iconst d_m_newImage_130 ?_
                    refine m_isub d_m_newImage_131 ?_
                    exact m_iret rfl d_m_newImage_132 (opQ.good (by unfold cd_newImage; (repeat' split) <;> omega) (by unfold vl_newImage; omega) (rfl))
                  · exact absurd z83 (by decide)
              · exact absurd z64 (by decide)
  · refine m_aload_n d_m_newImage_5 rfl ?_
    refine m_iload_n d_m_newImage_6 rfl ?_
    refine m_callV d_m_newImage_7 q_m_newImage_101 s_m_isImage v_m_isImage rfl (t_m_isImage hR (by assumption)) rfl rfl (Nat.le_of_ble_eq_true rfl) rfl rfl rfl ?_
    rintro _ _ _ ⟨rfl, rfl, rfl⟩
    refine m_if_eq (tgt := 17) d_m_newImage_10 (by decide) (by first | assumption | exact hR _ _ (by decide) | (unfold R32; omega)) (fun z10 => ?_) (fun z10 => ?_)
    · refine m_iconst d_m_newImage_17 ?_
      refine m_istore_n d_m_newImage_18 (by decide) ?_
      refine m_iload_n d_m_newImage_19 rfl ?_
      refine m_if_eq (tgt := 60) d_m_newImage_20 (by decide) (by first | assumption | exact hR _ _ (by decide) | (unfold R32; omega)) (fun z20 => ?_) (fun z20 => ?_)
      · refine m_iconst d_m_newImage_60 ?_
        refine m_istore_n d_m_newImage_61 (by decide) ?_
        refine m_aload_n d_m_newImage_62 rfl ?_
        refine m_iload_n d_m_newImage_63 rfl ?_
        refine m_if_ne (tgt := 71) d_m_newImage_64 (by decide) (by first | assumption | exact hR _ _ (by decide) | (unfold R32; omega)) (fun z64 => ?_) (fun z64 => ?_)
        · exact absurd z64 (by decide)
        · refine m_iconst d_m_newImage_67 ?_
          refine m_goto (tgt := 80) d_m_newImage_68 (by decide) ?_
          refine m_callV d_m_newImage_80 q_m_newImage_109 s_m_holds v_m_holds rfl (t_m_holds ⟨by omega, by omega⟩) rfl rfl (Nat.le_of_ble_eq_true rfl) rfl rfl rfl ?_
          rintro _ _ _ ⟨rfl, rfl, rfl⟩
          refine m_if_ne (tgt := 88) d_m_newImage_83 (by decide) (by first | assumption | exact hR _ _ (by decide) | (unfold R32; omega)) (fun z83 => ?_) (fun z83 => ?_)
          · exact absurd z83 (by decide)
          · refine m_iconst d_m_newImage_86 ?_
            exact m_iret rfl d_m_newImage_87 (opQ.bad (by unfold cd_newImage; (repeat' split) <;> omega) (by decide))
      · exact absurd z20 (by decide)
    · refine m_iconst d_m_newImage_13 ?_
      refine m_goto (tgt := 18) d_m_newImage_14 (by decide) ?_
      refine m_istore_n d_m_newImage_18 (by decide) ?_
      refine m_iload_n d_m_newImage_19 rfl ?_
      refine m_if_eq (tgt := 60) d_m_newImage_20 (by decide) (by first | assumption | exact hR _ _ (by decide) | (unfold R32; omega)) (fun z20 => ?_) (fun z20 => ?_)
      · exact absurd z20 (by decide)
      · refine m_iload_n d_m_newImage_23 rfl ?_
        refine m_iconst d_m_newImage_24 ?_
        refine m_icmp_eq (tgt := 47) d_m_newImage_25 (by decide) (by first | assumption | exact hR _ _ (by decide) | (unfold R32; omega)) (by first | assumption | exact hR _ _ (by decide) | (unfold R32; omega)) (fun z25 => ?_) (fun z25 => ?_)
        · refine m_aload_n d_m_newImage_47 rfl ?_
          refine mg_87 d_m_newImage_48 rfl ?_
          refine m_bipush d_m_newImage_51 (by decide) ?_
          refine m_icmp_ge (tgt := 60) d_m_newImage_53 (by decide) (by first | assumption | exact hR _ _ (by decide) | (unfold R32; omega)) (by first | assumption | exact hR _ _ (by decide) | (unfold R32; omega)) (fun z53 => ?_) (fun z53 => ?_)
          · refine m_iconst d_m_newImage_60 ?_
            refine m_istore_n d_m_newImage_61 (by decide) ?_
            refine m_aload_n d_m_newImage_62 rfl ?_
            refine m_iload_n d_m_newImage_63 rfl ?_
            refine m_if_ne (tgt := 71) d_m_newImage_64 (by decide) (by first | assumption | exact hR _ _ (by decide) | (unfold R32; omega)) (fun z64 => ?_) (fun z64 => ?_)
            · refine m_iload_n d_m_newImage_71 rfl ?_
              refine m_if_eq (tgt := 79) d_m_newImage_72 (by decide) (by first | assumption | exact hR _ _ (by decide) | (unfold R32; omega)) (fun z72 => ?_) (fun z72 => ?_)
              · refine m_iconst d_m_newImage_79 ?_
                refine m_callV d_m_newImage_80 q_m_newImage_109 s_m_holds v_m_holds rfl (t_m_holds ⟨by omega, by omega⟩) rfl rfl (Nat.le_of_ble_eq_true rfl) rfl rfl rfl ?_
                rintro _ _ _ ⟨rfl, rfl, rfl⟩
                refine m_if_ne (tgt := 88) d_m_newImage_83 (by decide) (by first | assumption | exact hR _ _ (by decide) | (unfold R32; omega)) (fun z83 => ?_) (fun z83 => ?_)
                · exact absurd z83 (by decide)
                · refine m_iconst d_m_newImage_86 ?_
                  exact m_iret rfl d_m_newImage_87 (opQ.bad (by unfold cd_newImage; (repeat' split) <;> omega) (by decide))
              · exact absurd z72 (by decide)
            · exact absurd z64 (by decide)
          · refine m_iconst d_m_newImage_56 ?_
            refine m_goto (tgt := 61) d_m_newImage_57 (by decide) ?_
            refine m_istore_n d_m_newImage_61 (by decide) ?_
            refine m_aload_n d_m_newImage_62 rfl ?_
            refine m_iload_n d_m_newImage_63 rfl ?_
            refine m_if_ne (tgt := 71) d_m_newImage_64 (by decide) (by first | assumption | exact hR _ _ (by decide) | (unfold R32; omega)) (fun z64 => ?_) (fun z64 => ?_)
            · refine m_iload_n d_m_newImage_71 rfl ?_
              refine m_if_eq (tgt := 79) d_m_newImage_72 (by decide) (by first | assumption | exact hR _ _ (by decide) | (unfold R32; omega)) (fun z72 => ?_) (fun z72 => ?_)
              · exact absurd z72 (by decide)
              · refine m_iconst d_m_newImage_75 ?_
                refine m_goto (tgt := 80) d_m_newImage_76 (by decide) ?_
                refine m_callV d_m_newImage_80 q_m_newImage_109 s_m_holds v_m_holds rfl (t_m_holds ⟨by omega, by omega⟩) rfl rfl (Nat.le_of_ble_eq_true rfl) rfl rfl rfl ?_
                rintro _ _ _ ⟨rfl, rfl, rfl⟩
                refine m_if_ne (tgt := 88) d_m_newImage_83 (by decide) (by first | assumption | exact hR _ _ (by decide) | (unfold R32; omega)) (fun z83 => ?_) (fun z83 => ?_)
                · refine m_aload_n d_m_newImage_88 rfl ?_
                  refine mg_16 d_m_newImage_89 rfl ?_
                  refine m_aload_n d_m_newImage_92 rfl ?_
                  refine mg_87 d_m_newImage_93 rfl ?_
                  refine m_iload_n d_m_newImage_96 rfl ?_
                  refine m_ast 10 rfl (by decide) rfl d_m_newImage_97 (by omega) (by omega) ?_
                  refine m_aload_n d_m_newImage_98 rfl ?_
                  refine mg_19 d_m_newImage_99 rfl ?_
                  refine m_aload_n d_m_newImage_102 rfl ?_
                  refine mgv_87 (S 3 0) rfl d_m_newImage_103 rfl ?_
                  refine m_iconst d_m_newImage_106 ?_
                  refine m_zst d_m_newImage_107 (by omega) (by omega) (by omega) ?_
                  refine m_aload_n d_m_newImage_108 rfl ?_
                  refine m_aload_n d_m_newImage_109 rfl ?_
                  refine mgv_87 (S 3 0) rfl d_m_newImage_110 rfl ?_
                  refine m_callV d_m_newImage_113 q_m_newImage_112 s_m_empties v_m_empties rfl (t_m_empties (l := S 3 0) (by omega) (by omega)) rfl rfl (Nat.le_of_ble_eq_true rfl) rfl rfl rfl ?_
                  rintro _ _ _ ⟨rfl, rfl, rfl⟩
                  refine m_aload_n d_m_newImage_116 rfl ?_
                  refine m_dup d_m_newImage_117 rfl ?_
                  refine mgv_87 (S 3 0) rfl d_m_newImage_118 rfl ?_
                  refine m_iconst d_m_newImage_121 ?_
                  refine m_iadd d_m_newImage_122 ?_
                  refine mp_87 d_m_newImage_123 rfl ?_
                  refine m_aload_n d_m_newImage_126 rfl ?_
                  refine mgv_87 (S 3 0 + 1) rfl d_m_newImage_127 rfl ?_
                  refine m_iconst d_m_newImage_130 ?_
                  refine m_isub d_m_newImage_131 ?_
                  exact m_iret rfl d_m_newImage_132 (opQ.good (by unfold cd_newImage; (repeat' split) <;> omega) (by unfold vl_newImage; omega) (rfl))
                · exact absurd z83 (by decide)
            · exact absurd z64 (by decide)
        · refine m_aload_n d_m_newImage_28 rfl ?_
          refine mg_19 d_m_newImage_29 rfl ?_
          refine m_iload_n d_m_newImage_32 rfl ?_
          refine m_zld d_m_newImage_33 (by omega) (by omega) ?_
          refine m_if_eq (tgt := 60) d_m_newImage_34 (by decide) (by first | assumption | exact hR _ _ (by decide) | (unfold R32; omega)) (fun z34 => ?_) (fun z34 => ?_)
          · refine m_iconst d_m_newImage_60 ?_
            refine m_istore_n d_m_newImage_61 (by decide) ?_
            refine m_aload_n d_m_newImage_62 rfl ?_
            refine m_iload_n d_m_newImage_63 rfl ?_
            refine m_if_ne (tgt := 71) d_m_newImage_64 (by decide) (by first | assumption | exact hR _ _ (by decide) | (unfold R32; omega)) (fun z64 => ?_) (fun z64 => ?_)
            · refine m_iload_n d_m_newImage_71 rfl ?_
              refine m_if_eq (tgt := 79) d_m_newImage_72 (by decide) (by first | assumption | exact hR _ _ (by decide) | (unfold R32; omega)) (fun z72 => ?_) (fun z72 => ?_)
              · refine m_iconst d_m_newImage_79 ?_
                refine m_callV d_m_newImage_80 q_m_newImage_109 s_m_holds v_m_holds rfl (t_m_holds ⟨by omega, by omega⟩) rfl rfl (Nat.le_of_ble_eq_true rfl) rfl rfl rfl ?_
                rintro _ _ _ ⟨rfl, rfl, rfl⟩
                refine m_if_ne (tgt := 88) d_m_newImage_83 (by decide) (by first | assumption | exact hR _ _ (by decide) | (unfold R32; omega)) (fun z83 => ?_) (fun z83 => ?_)
                · exact absurd z83 (by decide)
                · refine m_iconst d_m_newImage_86 ?_
                  exact m_iret rfl d_m_newImage_87 (opQ.bad (by unfold cd_newImage; (repeat' split) <;> omega) (by decide))
              · exact absurd z72 (by decide)
            · exact absurd z64 (by decide)
          · refine m_aload_n d_m_newImage_37 rfl ?_
            refine m_iload_n d_m_newImage_38 rfl ?_
            refine m_callV d_m_newImage_39 q_m_newImage_105 s_m_layersOf v_m_layersOf rfl (t_m_layersOf hi1 hi2 (by omega) (by omega)) rfl rfl (Nat.le_of_ble_eq_true rfl) rfl rfl rfl ?_
            rintro _ _ _ ⟨rfl, rfl, rfl⟩
            have e6 := lay_8 hI (k := p) (by omega) (by omega)
            refine m_bipush d_m_newImage_42 (by decide) ?_
            refine m_icmp_ge (tgt := 60) d_m_newImage_44 (by decide) (by first | assumption | exact hR _ _ (by decide) | (unfold R32; omega)) (by first | assumption | exact hR _ _ (by decide) | (unfold R32; omega)) (fun z44 => ?_) (fun z44 => ?_)
            · refine m_iconst d_m_newImage_60 ?_
              refine m_istore_n d_m_newImage_61 (by decide) ?_
              refine m_aload_n d_m_newImage_62 rfl ?_
              refine m_iload_n d_m_newImage_63 rfl ?_
              refine m_if_ne (tgt := 71) d_m_newImage_64 (by decide) (by first | assumption | exact hR _ _ (by decide) | (unfold R32; omega)) (fun z64 => ?_) (fun z64 => ?_)
              · refine m_iload_n d_m_newImage_71 rfl ?_
                refine m_if_eq (tgt := 79) d_m_newImage_72 (by decide) (by first | assumption | exact hR _ _ (by decide) | (unfold R32; omega)) (fun z72 => ?_) (fun z72 => ?_)
                · refine m_iconst d_m_newImage_79 ?_
                  refine m_callV d_m_newImage_80 q_m_newImage_109 s_m_holds v_m_holds rfl (t_m_holds ⟨by omega, by omega⟩) rfl rfl (Nat.le_of_ble_eq_true rfl) rfl rfl rfl ?_
                  rintro _ _ _ ⟨rfl, rfl, rfl⟩
                  refine m_if_ne (tgt := 88) d_m_newImage_83 (by decide) (by first | assumption | exact hR _ _ (by decide) | (unfold R32; omega)) (fun z83 => ?_) (fun z83 => ?_)
                  · exact absurd z83 (by decide)
                  · refine m_iconst d_m_newImage_86 ?_
                    exact m_iret rfl d_m_newImage_87 (opQ.bad (by unfold cd_newImage; (repeat' split) <;> omega) (by decide))
                · exact absurd z72 (by decide)
              · exact absurd z64 (by decide)
            · refine m_aload_n d_m_newImage_47 rfl ?_
              refine mg_87 d_m_newImage_48 rfl ?_
              refine m_bipush d_m_newImage_51 (by decide) ?_
              refine m_icmp_ge (tgt := 60) d_m_newImage_53 (by decide) (by first | assumption | exact hR _ _ (by decide) | (unfold R32; omega)) (by first | assumption | exact hR _ _ (by decide) | (unfold R32; omega)) (fun z53 => ?_) (fun z53 => ?_)
              · refine m_iconst d_m_newImage_60 ?_
                refine m_istore_n d_m_newImage_61 (by decide) ?_
                refine m_aload_n d_m_newImage_62 rfl ?_
                refine m_iload_n d_m_newImage_63 rfl ?_
                refine m_if_ne (tgt := 71) d_m_newImage_64 (by decide) (by first | assumption | exact hR _ _ (by decide) | (unfold R32; omega)) (fun z64 => ?_) (fun z64 => ?_)
                · refine m_iload_n d_m_newImage_71 rfl ?_
                  refine m_if_eq (tgt := 79) d_m_newImage_72 (by decide) (by first | assumption | exact hR _ _ (by decide) | (unfold R32; omega)) (fun z72 => ?_) (fun z72 => ?_)
                  · refine m_iconst d_m_newImage_79 ?_
                    refine m_callV d_m_newImage_80 q_m_newImage_109 s_m_holds v_m_holds rfl (t_m_holds ⟨by omega, by omega⟩) rfl rfl (Nat.le_of_ble_eq_true rfl) rfl rfl rfl ?_
                    rintro _ _ _ ⟨rfl, rfl, rfl⟩
                    refine m_if_ne (tgt := 88) d_m_newImage_83 (by decide) (by first | assumption | exact hR _ _ (by decide) | (unfold R32; omega)) (fun z83 => ?_) (fun z83 => ?_)
                    · exact absurd z83 (by decide)
                    · refine m_iconst d_m_newImage_86 ?_
                      exact m_iret rfl d_m_newImage_87 (opQ.bad (by unfold cd_newImage; (repeat' split) <;> omega) (by decide))
                  · exact absurd z72 (by decide)
                · exact absurd z64 (by decide)
              · refine m_iconst d_m_newImage_56 ?_
                refine m_goto (tgt := 61) d_m_newImage_57 (by decide) ?_
                refine m_istore_n d_m_newImage_61 (by decide) ?_
                refine m_aload_n d_m_newImage_62 rfl ?_
                refine m_iload_n d_m_newImage_63 rfl ?_
                refine m_if_ne (tgt := 71) d_m_newImage_64 (by decide) (by first | assumption | exact hR _ _ (by decide) | (unfold R32; omega)) (fun z64 => ?_) (fun z64 => ?_)
                · refine m_iload_n d_m_newImage_71 rfl ?_
                  refine m_if_eq (tgt := 79) d_m_newImage_72 (by decide) (by first | assumption | exact hR _ _ (by decide) | (unfold R32; omega)) (fun z72 => ?_) (fun z72 => ?_)
                  · exact absurd z72 (by decide)
                  · refine m_iconst d_m_newImage_75 ?_
                    refine m_goto (tgt := 80) d_m_newImage_76 (by decide) ?_
                    refine m_callV d_m_newImage_80 q_m_newImage_109 s_m_holds v_m_holds rfl (t_m_holds ⟨by omega, by omega⟩) rfl rfl (Nat.le_of_ble_eq_true rfl) rfl rfl rfl ?_
                    rintro _ _ _ ⟨rfl, rfl, rfl⟩
                    refine m_if_ne (tgt := 88) d_m_newImage_83 (by decide) (by first | assumption | exact hR _ _ (by decide) | (unfold R32; omega)) (fun z83 => ?_) (fun z83 => ?_)
                    · refine m_aload_n d_m_newImage_88 rfl ?_
                      refine mg_16 d_m_newImage_89 rfl ?_
                      refine m_aload_n d_m_newImage_92 rfl ?_
                      refine mg_87 d_m_newImage_93 rfl ?_
                      refine m_iload_n d_m_newImage_96 rfl ?_
                      refine m_ast 10 rfl (by decide) rfl d_m_newImage_97 (by omega) (by omega) ?_
                      refine m_aload_n d_m_newImage_98 rfl ?_
                      refine mg_19 d_m_newImage_99 rfl ?_
                      refine m_aload_n d_m_newImage_102 rfl ?_
                      refine mgv_87 (S 3 0) rfl d_m_newImage_103 rfl ?_
                      refine m_iconst d_m_newImage_106 ?_
                      refine m_zst d_m_newImage_107 (by omega) (by omega) (by omega) ?_
                      refine m_aload_n d_m_newImage_108 rfl ?_
                      refine m_aload_n d_m_newImage_109 rfl ?_
                      refine mgv_87 (S 3 0) rfl d_m_newImage_110 rfl ?_
                      refine m_callV d_m_newImage_113 q_m_newImage_112 s_m_empties v_m_empties rfl (t_m_empties (l := S 3 0) (by omega) (by omega)) rfl rfl (Nat.le_of_ble_eq_true rfl) rfl rfl rfl ?_
                      rintro _ _ _ ⟨rfl, rfl, rfl⟩
                      refine m_aload_n d_m_newImage_116 rfl ?_
                      refine m_dup d_m_newImage_117 rfl ?_
                      refine mgv_87 (S 3 0) rfl d_m_newImage_118 rfl ?_
                      refine m_iconst d_m_newImage_121 ?_
                      refine m_iadd d_m_newImage_122 ?_
                      refine mp_87 d_m_newImage_123 rfl ?_
                      refine m_aload_n d_m_newImage_126 rfl ?_
                      refine mgv_87 (S 3 0 + 1) rfl d_m_newImage_127 rfl ?_
                      refine m_iconst d_m_newImage_130 ?_
                      refine m_isub d_m_newImage_131 ?_
                      exact m_iret rfl d_m_newImage_132 (opQ.good (by unfold cd_newImage; (repeat' split) <;> omega) (by unfold vl_newImage; omega) (rfl))
                    · exact absurd z83 (by decide)
                · exact absurd z64 (by decide)
def clN (S : gS) (i d : Int) : Nat → Int
  | 0 => 0
  | n + 1 => clN S i d n + if 0 < see S i (4 * d + n) then 1 else 0
def zz (S : gS) (i d n : Int) : gS := fun a q => if a = 1 ∧ 32 * i + 4 * d ≤ q ∧ q < 32 * i + 4 * d + n then 0 else S a q
theorem zz_0 (S : gS) (i d : Int) : zz S i d 0 = S := by
  funext a j; unfold zz; split <;> first | rfl | omega
theorem zz_s (S : gS) {i d n : Int} (hn : 0 ≤ n) : sset (zz S i d n) 1 (32 * i + (4 * d + n)) 0 = zz S i d (n + 1) := by
  funext a j; unfold sset zz; (repeat' split) <;> first | rfl | omega
theorem clN_b (S : gS) (i d : Int) : ∀ n : Nat, 0 ≤ clN S i d n ∧ clN S i d n ≤ n := by
  intro n
  induction n with
  | zero => unfold clN; omega
  | succ n ih => unfold clN; split <;> omega
def cd_clear (S : gS) (i d : Int) : Int := if ¬ (0 ≤ i ∧ i < S 3 0 ∧ 0 ≤ d ∧ d < 8) then 1 else if S 5 i ≠ 0 then 2 else 0
def vl_clear (S : gS) (i d : Int) : Int := clN S i d 4
def st_clear (S : gS) (i d : Int) : gS := sset (zz S i d 4) 2 i (bset (S 2 i) d)
theorem L2_m_clear {g : xG} {x0 : Nat} {ad : Nat → Nat} {h0 : hp} {tt : Int} {S : gS} {i d r : Int} {u3 : Option Value} (hI : Inv S) (hi0 : 0 ≤ i) (hi9 : i < S 3 0) (hd0 : 0 ≤ d) (hd9 : d < 8) (hcd : cd_clear S i d = 0) (hr : r = clN S i d 4) : ∀ (f9 : Nat) (n : Int), 0 ≤ n → n ≤ 4 → 4 < n + f9 → mW g M_m_clear x0 ad h0 (opQ S (cd_clear S i d) (vl_clear S i d) (st_clear S i d)) 0 (zz S i d n) 103 (some (.ref x0) :: some (.int (iI i)) :: some (.int (iI d)) :: u3 :: some (.int (iI r)) :: some (.int (iI (4 * d + n))) :: []) [] := by
  intro f9
  induction f9 with
  | zero => intros; omega
  | succ f9 ih =>
    intro n h1 h2 h3
    obtain ⟨hR, ⟨him, -⟩, hi2, -, -, -, hi6, -⟩ := id hI
    have ho := hi6.2.1 i
    refine m_iload d_m_clear_103 rfl ?_
    refine m_iconst d_m_clear_105 ?_
    refine m_iload_n d_m_clear_106 rfl ?_
    refine m_imul d_m_clear_107 ?_
    refine m_iconst d_m_clear_108 ?_
    refine m_iadd d_m_clear_109 ?_
    refine m_icmp_ge (tgt := 132) d_m_clear_110 (by decide) (by unfold R32; omega) (by unfold R32; omega) (fun z110 => ?_) (fun z110 => ?_)
    · refine m_aload_n d_m_clear_132 rfl ?_
      refine mg_13 d_m_clear_133 rfl ?_
      refine m_iload_n d_m_clear_136 rfl ?_
      refine m_dup2 d_m_clear_137 rfl rfl ?_
      refine m_aldv 35 rfl (by decide) rfl (S 2 i) rfl d_m_clear_138 (by omega) (by omega) ?_
      refine m_iconst d_m_clear_139 ?_
      refine m_iload_n d_m_clear_140 rfl ?_
      refine m_ishl1 d_m_clear_141 (by omega) (by omega) ?_
      refine m_iork d_m_clear_142 (by omega) ?_
      refine m_ast 35 rfl (by decide) rfl d_m_clear_143 (by omega) (by omega) ?_
      refine m_iload d_m_clear_144 rfl ?_
      exact m_iret rfl d_m_clear_146 (opQ.good hcd (by rw [hr]; rfl) (by rw [show n = 4 by omega]; rfl))
    · refine m_aload_n d_m_clear_113 rfl ?_
      refine mg_7 d_m_clear_114 rfl ?_
      refine m_bipush d_m_clear_117 (by decide) ?_
      refine m_iload_n d_m_clear_119 rfl ?_
      refine m_imul d_m_clear_120 ?_
      refine m_iload d_m_clear_121 rfl ?_
      refine m_iadd d_m_clear_123 ?_
      refine m_iconst d_m_clear_124 ?_
      refine m_ast 1120 rfl (by decide) rfl d_m_clear_125 (by omega) (by omega) ?_
      refine m_iinc d_m_clear_126 rfl (by decide) ?_
      refine m_goto (tgt := 103) d_m_clear_129 (by decide) ?_
      rw [zz_s S h1, show 4 * d + n + 1 = 4 * d + (n + 1) by omega]
      exact ih (n + 1) (by omega) (by omega) (by omega)
theorem L1_m_clear {g : xG} {x0 : Nat} {ad : Nat → Nat} {h0 : hp} {tt : Int} {S : gS} {i d : Int} {u3 u5 : Option Value} (hI : Inv S) (hi0 : 0 ≤ i) (hi9 : i < S 3 0) (hd0 : 0 ≤ d) (hd9 : d < 8) (hcd : cd_clear S i d = 0) : ∀ (f9 n : Nat), n ≤ 4 → 4 < n + f9 → mW g M_m_clear x0 ad h0 (opQ S (cd_clear S i d) (vl_clear S i d) (st_clear S i d)) 0 S 62 (some (.ref x0) :: some (.int (iI i)) :: some (.int (iI d)) :: u3 :: some (.int (iI (clN S i d n))) :: some (.int (iI (4 * d + n))) :: []) [] := by
  intro f9
  induction f9 with
  | zero => intros; omega
  | succ f9 ih =>
    intro n h1 h2
    obtain ⟨hR, ⟨him, -⟩, hi2, -, -, -, hi6, -⟩ := id hI
    refine m_iload d_m_clear_62 rfl ?_
    refine m_iconst d_m_clear_64 ?_
    refine m_iload_n d_m_clear_65 rfl ?_
    refine m_imul d_m_clear_66 ?_
    refine m_iconst d_m_clear_67 ?_
    refine m_iadd d_m_clear_68 ?_
    refine m_icmp_ge (tgt := 98) d_m_clear_69 (by decide) (by unfold R32; omega) (by unfold R32; omega) (fun z69 => ?_) (fun z69 => ?_)
    · refine m_iconst d_m_clear_98 ?_
      refine m_iload_n d_m_clear_99 rfl ?_
      refine m_imul d_m_clear_100 ?_
      refine m_istore d_m_clear_101 (by decide) ?_
      have hn : n = 4 := by omega
      subst hn
      rw [← zz_0 S i d]
      have e0 : zz S i d 0 = S := zz_0 S i d
      exact (by have := L2_m_clear (tt := 0) (g := g) (x0 := x0) (ad := ad) (h0 := h0) (u3 := u3) hI hi0 hi9 hd0 hd9 hcd rfl 5 0 (by omega) (by omega) (by omega); rw [show (4 : Int) * d + 0 = 4 * d by omega] at this; rw [e0] at this ⊢; exact this)
    · refine m_iload d_m_clear_72 rfl ?_
      refine m_aload_n d_m_clear_74 rfl ?_
      refine m_iload_n d_m_clear_75 rfl ?_
      refine m_iload d_m_clear_76 rfl ?_
      refine m_callV d_m_clear_78 q_m_clear_119 s_m_imageShows v_m_imageShows rfl (t_m_imageShows hI (by omega) (by omega) (by omega) (by omega)) rfl rfl (Nat.le_of_ble_eq_true rfl) rfl rfl rfl ?_
      rintro _ _ _ ⟨rfl, rfl, rfl⟩
      have e4 := see_b hi6 i (4 * d + n)
      refine m_if_le (tgt := 88) d_m_clear_81 (by decide) (by unfold R32; omega) (fun z81 => ?_) (fun z81 => ?_)
      · refine m_iconst d_m_clear_88 ?_
        refine m_iadd d_m_clear_89 ?_
        refine m_istore d_m_clear_90 (by decide) ?_
        refine m_iinc d_m_clear_92 rfl (by decide) ?_
        refine m_goto (tgt := 62) d_m_clear_95 (by decide) ?_
        have hs9 : clN S i d (n + 1) = clN S i d n + (if 0 < see S i (4 * d + n) then 1 else 0) := rfl
        first
          | (rw [if_pos (by omega)] at hs9; rw [← hs9, show (4 : Int) * d + n + 1 = 4 * d + ((n + 1 : Nat) : Int) by omega]; exact ih (n + 1) (by omega) (by omega))
          | (rw [if_neg (by omega)] at hs9; rw [← hs9, show (4 : Int) * d + n + 1 = 4 * d + ((n + 1 : Nat) : Int) by omega]; exact ih (n + 1) (by omega) (by omega))
      · refine m_iconst d_m_clear_84 ?_
        refine m_goto (tgt := 89) d_m_clear_85 (by decide) ?_
        refine m_iadd d_m_clear_89 ?_
        refine m_istore d_m_clear_90 (by decide) ?_
        refine m_iinc d_m_clear_92 rfl (by decide) ?_
        refine m_goto (tgt := 62) d_m_clear_95 (by decide) ?_
        have hs9 : clN S i d (n + 1) = clN S i d n + (if 0 < see S i (4 * d + n) then 1 else 0) := rfl
        first
          | (rw [if_pos (by omega)] at hs9; rw [← hs9, show (4 : Int) * d + n + 1 = 4 * d + ((n + 1 : Nat) : Int) by omega]; exact ih (n + 1) (by omega) (by omega))
          | (rw [if_neg (by omega)] at hs9; rw [← hs9, show (4 : Int) * d + n + 1 = 4 * d + ((n + 1 : Nat) : Int) by omega]; exact ih (n + 1) (by omega) (by omega))
theorem t_m_clear {g : xG} {x0 : Nat} {ad : Nat → Nat} {tt : Int} {S : gS} {i d : Int} (hI : Inv S) (hi : R32 i) (hd : R32 d) : mM g y_m_clear k_m_clear M_m_clear x0 ad [.int (iI i), .int (iI d)] tt S (opQ S (cd_clear S i d) (vl_clear S i d) (st_clear S i d)) := by
  refine mM.of rfl (by decide) rfl rfl rfl (by simp [Value.category]) (Nat.le_of_ble_eq_true rfl) rfl (fun h0 => ?_)
  obtain ⟨hR, hi1, hi2, hi3, hi4, hi5, hi6, hi7⟩ := id hI
  obtain ⟨him, hgr, hco, hck⟩ := id hi1
  have e1 := isin_s i (S 3 0)
  have e2 := isin_s d 8
  refine m_aload_n d_m_clear_0 rfl ?_
  refine m_iload_n d_m_clear_1 rfl ?_
  refine m_callV d_m_clear_2 q_m_clear_101 s_m_isImage v_m_isImage rfl (t_m_isImage hR (by assumption)) rfl rfl (Nat.le_of_ble_eq_true rfl) rfl rfl rfl ?_
  rintro _ _ _ ⟨rfl, rfl, rfl⟩
  refine m_if_eq (tgt := 21) d_m_clear_5 (by decide) (by first | assumption | exact hR _ _ (by decide) | (unfold R32; omega)) (fun z5 => ?_) (fun z5 => ?_)
  · refine m_iconst d_m_clear_21 ?_
    refine m_istore_n d_m_clear_22 (by decide) ?_
    refine m_aload_n d_m_clear_23 rfl ?_
    refine m_iload_n d_m_clear_24 rfl ?_
    refine m_if_ne (tgt := 32) d_m_clear_25 (by decide) (by first | assumption | exact hR _ _ (by decide) | (unfold R32; omega)) (fun z25 => ?_) (fun z25 => ?_)
    · exact absurd z25 (by decide)
    · refine m_iconst d_m_clear_28 ?_
      refine m_goto (tgt := 46) d_m_clear_29 (by decide) ?_
      refine m_callV d_m_clear_46 q_m_clear_109 s_m_holds v_m_holds rfl (t_m_holds ⟨by omega, by omega⟩) rfl rfl (Nat.le_of_ble_eq_true rfl) rfl rfl rfl ?_
      rintro _ _ _ ⟨rfl, rfl, rfl⟩
      refine m_if_ne (tgt := 54) d_m_clear_49 (by decide) (by first | assumption | exact hR _ _ (by decide) | (unfold R32; omega)) (fun z49 => ?_) (fun z49 => ?_)
      · exact absurd z49 (by decide)
      · refine m_iconst d_m_clear_52 ?_
        exact m_iret rfl d_m_clear_53 (opQ.bad (by unfold cd_clear; (repeat' split) <;> omega) (by decide))
  · refine m_iload_n d_m_clear_8 rfl ?_
    refine m_bipush d_m_clear_9 (by decide) ?_
    refine m_callS d_m_clear_11 q_m_clear_90 s_m_isIn (t_m_isIn g hd ⟨by omega, by omega⟩) rfl rfl (Nat.le_of_ble_eq_true rfl) rfl rfl rfl ?_
    rintro _ rfl
    refine m_if_eq (tgt := 21) d_m_clear_14 (by decide) (by first | assumption | exact hR _ _ (by decide) | (unfold R32; omega)) (fun z14 => ?_) (fun z14 => ?_)
    · refine m_iconst d_m_clear_21 ?_
      refine m_istore_n d_m_clear_22 (by decide) ?_
      refine m_aload_n d_m_clear_23 rfl ?_
      refine m_iload_n d_m_clear_24 rfl ?_
      refine m_if_ne (tgt := 32) d_m_clear_25 (by decide) (by first | assumption | exact hR _ _ (by decide) | (unfold R32; omega)) (fun z25 => ?_) (fun z25 => ?_)
      · exact absurd z25 (by decide)
      · refine m_iconst d_m_clear_28 ?_
        refine m_goto (tgt := 46) d_m_clear_29 (by decide) ?_
        refine m_callV d_m_clear_46 q_m_clear_109 s_m_holds v_m_holds rfl (t_m_holds ⟨by omega, by omega⟩) rfl rfl (Nat.le_of_ble_eq_true rfl) rfl rfl rfl ?_
        rintro _ _ _ ⟨rfl, rfl, rfl⟩
        refine m_if_ne (tgt := 54) d_m_clear_49 (by decide) (by first | assumption | exact hR _ _ (by decide) | (unfold R32; omega)) (fun z49 => ?_) (fun z49 => ?_)
        · exact absurd z49 (by decide)
        · refine m_iconst d_m_clear_52 ?_
          exact m_iret rfl d_m_clear_53 (opQ.bad (by unfold cd_clear; (repeat' split) <;> omega) (by decide))
    · refine m_iconst d_m_clear_17 ?_
      refine m_goto (tgt := 22) d_m_clear_18 (by decide) ?_
      refine m_istore_n d_m_clear_22 (by decide) ?_
      refine m_aload_n d_m_clear_23 rfl ?_
      refine m_iload_n d_m_clear_24 rfl ?_
      refine m_if_ne (tgt := 32) d_m_clear_25 (by decide) (by first | assumption | exact hR _ _ (by decide) | (unfold R32; omega)) (fun z25 => ?_) (fun z25 => ?_)
      · refine m_aload_n d_m_clear_32 rfl ?_
        refine mg_19 d_m_clear_33 rfl ?_
        refine m_iload_n d_m_clear_36 rfl ?_
        refine m_zld d_m_clear_37 (by omega) (by omega) ?_
        refine m_if_eq (tgt := 45) d_m_clear_38 (by decide) (by first | assumption | exact hR _ _ (by decide) | (unfold R32; omega)) (fun z38 => ?_) (fun z38 => ?_)
        · refine m_iconst d_m_clear_45 ?_
          refine m_callV d_m_clear_46 q_m_clear_109 s_m_holds v_m_holds rfl (t_m_holds ⟨by omega, by omega⟩) rfl rfl (Nat.le_of_ble_eq_true rfl) rfl rfl rfl ?_
          rintro _ _ _ ⟨rfl, rfl, rfl⟩
          refine m_if_ne (tgt := 54) d_m_clear_49 (by decide) (by first | assumption | exact hR _ _ (by decide) | (unfold R32; omega)) (fun z49 => ?_) (fun z49 => ?_)
          · refine m_iconst d_m_clear_54 ?_
            refine m_istore d_m_clear_55 (by decide) ?_
            refine m_iconst d_m_clear_57 ?_
            refine m_iload_n d_m_clear_58 rfl ?_
            refine m_imul d_m_clear_59 ?_
            refine m_istore d_m_clear_60 (by decide) ?_
            have hcd : cd_clear S i d = 0 := by unfold cd_clear; (repeat' split) <;> omega
            have := L1_m_clear (tt := 0) (g := g) (x0 := x0) (ad := ad) (h0 := h0) (u3 := some (.int (iI 1))) (u5 := none) hI (by omega) (by omega) (by omega) (by omega) hcd 5 0 (by omega) (by omega)
            rw [show ((4 : Int) * d + ((0 : Nat) : Int)) = 4 * d by omega] at this
            exact this
          · exact absurd z49 (by decide)
        · refine m_iconst d_m_clear_41 ?_
          refine m_goto (tgt := 46) d_m_clear_42 (by decide) ?_
          refine m_callV d_m_clear_46 q_m_clear_109 s_m_holds v_m_holds rfl (t_m_holds ⟨by omega, by omega⟩) rfl rfl (Nat.le_of_ble_eq_true rfl) rfl rfl rfl ?_
          rintro _ _ _ ⟨rfl, rfl, rfl⟩
          refine m_if_ne (tgt := 54) d_m_clear_49 (by decide) (by first | assumption | exact hR _ _ (by decide) | (unfold R32; omega)) (fun z49 => ?_) (fun z49 => ?_)
          · exact absurd z49 (by decide)
          · refine m_iconst d_m_clear_52 ?_
            exact m_iret rfl d_m_clear_53 (opQ.bad (by unfold cd_clear; (repeat' split) <;> omega) (by decide))
      · exact absurd z25 (by decide)
end
