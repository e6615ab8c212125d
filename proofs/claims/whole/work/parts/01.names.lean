-- ===== PART A: goes FIRST, ahead of the names: the tables' words, and 'selects' of the private methods out of them =====
/-- a private method of a class that the tables say can be made, by its rows of tables_1 -/
def lw_okq (q : MethodName × Nat) : Prop := (q.1.cls ≠ "java/lang/invoke/MethodHandle" ∧ q.1.cls ≠ "java/lang/invoke/VarHandle") ∧ Cond.instantiable q.1.cls q.2 ∈ tables_1 ∧ Cond.privateMethod q.1 ∈ tables_1 ∧ Cond.instanceMethod q.1 ∈ tables_1
theorem lw_p0 : lw_okq (⟨"QuernGrains$Scribe", "placeBehindItem", "(LQuernGrains$Text;I)I"⟩, 1) := ⟨⟨by decide +kernel, by decide +kernel⟩, List.mem_of_getElem? (i := 39) (by decide +kernel), List.mem_of_getElem? (i := 245) (by decide +kernel), List.mem_of_getElem? (i := 246) (by decide +kernel)⟩
theorem lw_p1 : lw_okq (⟨"QuernGrains$Quern", "takeSort", "([I)Z"⟩, 13) := ⟨⟨by decide +kernel, by decide +kernel⟩, List.mem_of_getElem? (i := 121) (by decide +kernel), List.mem_of_getElem? (i := 271) (by decide +kernel), List.mem_of_getElem? (i := 272) (by decide +kernel)⟩
theorem lw_p2 : lw_okq (⟨"QuernGrains$Quern", "takePatch", "([I)Z"⟩, 13) := ⟨⟨by decide +kernel, by decide +kernel⟩, List.mem_of_getElem? (i := 121) (by decide +kernel), List.mem_of_getElem? (i := 278) (by decide +kernel), List.mem_of_getElem? (i := 279) (by decide +kernel)⟩
theorem lw_p3 : lw_okq (⟨"QuernGrains$Quern", "takeUse", "(III)Z"⟩, 13) := ⟨⟨by decide +kernel, by decide +kernel⟩, List.mem_of_getElem? (i := 121) (by decide +kernel), List.mem_of_getElem? (i := 283) (by decide +kernel), List.mem_of_getElem? (i := 284) (by decide +kernel)⟩
theorem lw_p4 : lw_okq (⟨"QuernGrains$Quern", "takeBook", "(III)Z"⟩, 13) := ⟨⟨by decide +kernel, by decide +kernel⟩, List.mem_of_getElem? (i := 121) (by decide +kernel), List.mem_of_getElem? (i := 295) (by decide +kernel), List.mem_of_getElem? (i := 296) (by decide +kernel)⟩
theorem lw_p5 : lw_okq (⟨"QuernGrains$Quern", "takeWash", "(II)Z"⟩, 13) := ⟨⟨by decide +kernel, by decide +kernel⟩, List.mem_of_getElem? (i := 121) (by decide +kernel), List.mem_of_getElem? (i := 302) (by decide +kernel), List.mem_of_getElem? (i := 303) (by decide +kernel)⟩
theorem lw_p6 : lw_okq (⟨"QuernGrains$Quern", "takeHours", "(III)Z"⟩, 13) := ⟨⟨by decide +kernel, by decide +kernel⟩, List.mem_of_getElem? (i := 121) (by decide +kernel), List.mem_of_getElem? (i := 306) (by decide +kernel), List.mem_of_getElem? (i := 307) (by decide +kernel)⟩
theorem lw_p7 : lw_okq (⟨"QuernGrains$Quern", "takeSlip", "(III)Z"⟩, 13) := ⟨⟨by decide +kernel, by decide +kernel⟩, List.mem_of_getElem? (i := 121) (by decide +kernel), List.mem_of_getElem? (i := 310) (by decide +kernel), List.mem_of_getElem? (i := 311) (by decide +kernel)⟩
theorem lw_p8 : lw_okq (⟨"QuernGrains$Quern", "calledBy", "(II)I"⟩, 13) := ⟨⟨by decide +kernel, by decide +kernel⟩, List.mem_of_getElem? (i := 121) (by decide +kernel), List.mem_of_getElem? (i := 363) (by decide +kernel), List.mem_of_getElem? (i := 364) (by decide +kernel)⟩
theorem lw_p9 : lw_okq (⟨"QuernGrains$Heap", "productOfMix", "(I[II[I)J"⟩, 1) := ⟨⟨by decide +kernel, by decide +kernel⟩, List.mem_of_getElem? (i := 80) (by decide +kernel), List.mem_of_getElem? (i := 409) (by decide +kernel), List.mem_of_getElem? (i := 410) (by decide +kernel)⟩
theorem lw_p10 : lw_okq (⟨"QuernGrains$Quern", "nearOnes", "(II)I"⟩, 13) := ⟨⟨by decide +kernel, by decide +kernel⟩, List.mem_of_getElem? (i := 121) (by decide +kernel), List.mem_of_getElem? (i := 440) (by decide +kernel), List.mem_of_getElem? (i := 441) (by decide +kernel)⟩
theorem lw_p11 : lw_okq (⟨"QuernGrains$Quern", "differenceOfCooked", "(III)I"⟩, 13) := ⟨⟨by decide +kernel, by decide +kernel⟩, List.mem_of_getElem? (i := 121) (by decide +kernel), List.mem_of_getElem? (i := 444) (by decide +kernel), List.mem_of_getElem? (i := 445) (by decide +kernel)⟩
theorem lw_p12 : lw_okq (⟨"QuernGrains$Books", "boundSums", "(LQuernGrains$Quern;LQuernGrains$Finds;II)V"⟩, 7) := ⟨⟨by decide +kernel, by decide +kernel⟩, List.mem_of_getElem? (i := 49) (by decide +kernel), List.mem_of_getElem? (i := 488) (by decide +kernel), List.mem_of_getElem? (i := 489) (by decide +kernel)⟩
theorem lw_p13 : lw_okq (⟨"QuernGrains$Books", "boundSum", "(IIII)V"⟩, 7) := ⟨⟨by decide +kernel, by decide +kernel⟩, List.mem_of_getElem? (i := 49) (by decide +kernel), List.mem_of_getElem? (i := 494) (by decide +kernel), List.mem_of_getElem? (i := 495) (by decide +kernel)⟩
theorem lw_p14 : lw_okq (⟨"QuernGrains$Books", "greatestOf", "(I)I"⟩, 7) := ⟨⟨by decide +kernel, by decide +kernel⟩, List.mem_of_getElem? (i := 49) (by decide +kernel), List.mem_of_getElem? (i := 510) (by decide +kernel), List.mem_of_getElem? (i := 511) (by decide +kernel)⟩
theorem lw_p15 : lw_okq (⟨"QuernGrains$Books", "isFree", "(I)Z"⟩, 7) := ⟨⟨by decide +kernel, by decide +kernel⟩, List.mem_of_getElem? (i := 49) (by decide +kernel), List.mem_of_getElem? (i := 514) (by decide +kernel), List.mem_of_getElem? (i := 515) (by decide +kernel)⟩
def lw_privs_1 : List (MethodName × Nat) := [(⟨"QuernGrains$Scribe", "placeBehindItem", "(LQuernGrains$Text;I)I"⟩, 1), (⟨"QuernGrains$Quern", "takeSort", "([I)Z"⟩, 13), (⟨"QuernGrains$Quern", "takePatch", "([I)Z"⟩, 13), (⟨"QuernGrains$Quern", "takeUse", "(III)Z"⟩, 13), (⟨"QuernGrains$Quern", "takeBook", "(III)Z"⟩, 13), (⟨"QuernGrains$Quern", "takeWash", "(II)Z"⟩, 13), (⟨"QuernGrains$Quern", "takeHours", "(III)Z"⟩, 13), (⟨"QuernGrains$Quern", "takeSlip", "(III)Z"⟩, 13), (⟨"QuernGrains$Quern", "calledBy", "(II)I"⟩, 13), (⟨"QuernGrains$Heap", "productOfMix", "(I[II[I)J"⟩, 1), (⟨"QuernGrains$Quern", "nearOnes", "(II)I"⟩, 13), (⟨"QuernGrains$Quern", "differenceOfCooked", "(III)I"⟩, 13), (⟨"QuernGrains$Books", "boundSums", "(LQuernGrains$Quern;LQuernGrains$Finds;II)V"⟩, 7), (⟨"QuernGrains$Books", "boundSum", "(IIII)V"⟩, 7), (⟨"QuernGrains$Books", "greatestOf", "(I)I"⟩, 7), (⟨"QuernGrains$Books", "isFree", "(I)Z"⟩, 7)]
theorem lw_r1 : ∀ q ∈ lw_privs_1, lw_okq q := List.forall_mem_cons.mpr ⟨lw_p0, List.forall_mem_cons.mpr ⟨lw_p1, List.forall_mem_cons.mpr ⟨lw_p2, List.forall_mem_cons.mpr ⟨lw_p3, List.forall_mem_cons.mpr ⟨lw_p4, List.forall_mem_cons.mpr ⟨lw_p5, List.forall_mem_cons.mpr ⟨lw_p6, List.forall_mem_cons.mpr ⟨lw_p7, List.forall_mem_cons.mpr ⟨lw_p8, List.forall_mem_cons.mpr ⟨lw_p9, List.forall_mem_cons.mpr ⟨lw_p10, List.forall_mem_cons.mpr ⟨lw_p11, List.forall_mem_cons.mpr ⟨lw_p12, List.forall_mem_cons.mpr ⟨lw_p13, List.forall_mem_cons.mpr ⟨lw_p14, List.forall_mem_cons.mpr ⟨lw_p15, fun _ h => absurd h List.not_mem_nil⟩⟩⟩⟩⟩⟩⟩⟩⟩⟩⟩⟩⟩⟩⟩⟩
theorem lw_p16 : lw_okq (⟨"QuernGrains$Books", "leastOf", "(I)I"⟩, 7) := ⟨⟨by decide +kernel, by decide +kernel⟩, List.mem_of_getElem? (i := 49) (by decide +kernel), List.mem_of_getElem? (i := 518) (by decide +kernel), List.mem_of_getElem? (i := 519) (by decide +kernel)⟩
theorem lw_p17 : lw_okq (⟨"QuernGrains$Books", "addStep", "(II)V"⟩, 7) := ⟨⟨by decide +kernel, by decide +kernel⟩, List.mem_of_getElem? (i := 49) (by decide +kernel), List.mem_of_getElem? (i := 522) (by decide +kernel), List.mem_of_getElem? (i := 523) (by decide +kernel)⟩
theorem lw_p18 : lw_okq (⟨"QuernGrains$Books", "noteRange", "(III)V"⟩, 7) := ⟨⟨by decide +kernel, by decide +kernel⟩, List.mem_of_getElem? (i := 49) (by decide +kernel), List.mem_of_getElem? (i := 526) (by decide +kernel), List.mem_of_getElem? (i := 527) (by decide +kernel)⟩
theorem lw_p19 : lw_okq (⟨"QuernGrains$Books", "noteFreeSteps", "(I)V"⟩, 7) := ⟨⟨by decide +kernel, by decide +kernel⟩, List.mem_of_getElem? (i := 49) (by decide +kernel), List.mem_of_getElem? (i := 530) (by decide +kernel), List.mem_of_getElem? (i := 531) (by decide +kernel)⟩
theorem lw_p20 : lw_okq (⟨"QuernGrains", "groundOn", "(IIIZ)I"⟩, 9) := ⟨⟨by decide +kernel, by decide +kernel⟩, List.mem_of_getElem? (i := 15) (by decide +kernel), List.mem_of_getElem? (i := 538) (by decide +kernel), List.mem_of_getElem? (i := 539) (by decide +kernel)⟩
theorem lw_p21 : lw_okq (⟨"QuernGrains", "surelyGround", "(II)I"⟩, 9) := ⟨⟨by decide +kernel, by decide +kernel⟩, List.mem_of_getElem? (i := 15) (by decide +kernel), List.mem_of_getElem? (i := 547) (by decide +kernel), List.mem_of_getElem? (i := 548) (by decide +kernel)⟩
theorem lw_p22 : lw_okq (⟨"QuernGrains$Quern", "hoursSaved", "(I)I"⟩, 13) := ⟨⟨by decide +kernel, by decide +kernel⟩, List.mem_of_getElem? (i := 121) (by decide +kernel), List.mem_of_getElem? (i := 559) (by decide +kernel), List.mem_of_getElem? (i := 560) (by decide +kernel)⟩
theorem lw_p23 : lw_okq (⟨"QuernGrains", "readAreaOf", "(I)I"⟩, 9) := ⟨⟨by decide +kernel, by decide +kernel⟩, List.mem_of_getElem? (i := 15) (by decide +kernel), List.mem_of_getElem? (i := 608) (by decide +kernel), List.mem_of_getElem? (i := 609) (by decide +kernel)⟩
theorem lw_p24 : lw_okq (⟨"QuernGrainsModel", "noStones", "(I)V"⟩, 25) := ⟨⟨by decide +kernel, by decide +kernel⟩, List.mem_of_getElem? (i := 630) (by decide +kernel), List.mem_of_getElem? (i := 636) (by decide +kernel), List.mem_of_getElem? (i := 637) (by decide +kernel)⟩
theorem lw_p25 : lw_okq (⟨"QuernGrainsModel", "readAll", "()I"⟩, 25) := ⟨⟨by decide +kernel, by decide +kernel⟩, List.mem_of_getElem? (i := 630) (by decide +kernel), List.mem_of_getElem? (i := 733) (by decide +kernel), List.mem_of_getElem? (i := 734) (by decide +kernel)⟩
theorem lw_p26 : lw_okq (⟨"QuernGrainsModel", "item", "()Z"⟩, 25) := ⟨⟨by decide +kernel, by decide +kernel⟩, List.mem_of_getElem? (i := 630) (by decide +kernel), List.mem_of_getElem? (i := 737) (by decide +kernel), List.mem_of_getElem? (i := 738) (by decide +kernel)⟩
theorem lw_p27 : lw_okq (⟨"QuernGrainsModel", "byteAt", "(I)I"⟩, 25) := ⟨⟨by decide +kernel, by decide +kernel⟩, List.mem_of_getElem? (i := 630) (by decide +kernel), List.mem_of_getElem? (i := 741) (by decide +kernel), List.mem_of_getElem? (i := 742) (by decide +kernel)⟩
theorem lw_p28 : lw_okq (⟨"QuernGrainsModel", "sortItem", "()Z"⟩, 25) := ⟨⟨by decide +kernel, by decide +kernel⟩, List.mem_of_getElem? (i := 630) (by decide +kernel), List.mem_of_getElem? (i := 745) (by decide +kernel), List.mem_of_getElem? (i := 746) (by decide +kernel)⟩
theorem lw_p29 : lw_okq (⟨"QuernGrainsModel", "figures", "(I)Z"⟩, 25) := ⟨⟨by decide +kernel, by decide +kernel⟩, List.mem_of_getElem? (i := 630) (by decide +kernel), List.mem_of_getElem? (i := 749) (by decide +kernel), List.mem_of_getElem? (i := 750) (by decide +kernel)⟩
theorem lw_p30 : lw_okq (⟨"QuernGrainsModel", "faceItem", "()Z"⟩, 25) := ⟨⟨by decide +kernel, by decide +kernel⟩, List.mem_of_getElem? (i := 630) (by decide +kernel), List.mem_of_getElem? (i := 756) (by decide +kernel), List.mem_of_getElem? (i := 757) (by decide +kernel)⟩
theorem lw_p31 : lw_okq (⟨"QuernGrainsModel", "callItem", "()Z"⟩, 25) := ⟨⟨by decide +kernel, by decide +kernel⟩, List.mem_of_getElem? (i := 630) (by decide +kernel), List.mem_of_getElem? (i := 761) (by decide +kernel), List.mem_of_getElem? (i := 762) (by decide +kernel)⟩
def lw_privs_2 : List (MethodName × Nat) := [(⟨"QuernGrains$Books", "leastOf", "(I)I"⟩, 7), (⟨"QuernGrains$Books", "addStep", "(II)V"⟩, 7), (⟨"QuernGrains$Books", "noteRange", "(III)V"⟩, 7), (⟨"QuernGrains$Books", "noteFreeSteps", "(I)V"⟩, 7), (⟨"QuernGrains", "groundOn", "(IIIZ)I"⟩, 9), (⟨"QuernGrains", "surelyGround", "(II)I"⟩, 9), (⟨"QuernGrains$Quern", "hoursSaved", "(I)I"⟩, 13), (⟨"QuernGrains", "readAreaOf", "(I)I"⟩, 9), (⟨"QuernGrainsModel", "noStones", "(I)V"⟩, 25), (⟨"QuernGrainsModel", "readAll", "()I"⟩, 25), (⟨"QuernGrainsModel", "item", "()Z"⟩, 25), (⟨"QuernGrainsModel", "byteAt", "(I)I"⟩, 25), (⟨"QuernGrainsModel", "sortItem", "()Z"⟩, 25), (⟨"QuernGrainsModel", "figures", "(I)Z"⟩, 25), (⟨"QuernGrainsModel", "faceItem", "()Z"⟩, 25), (⟨"QuernGrainsModel", "callItem", "()Z"⟩, 25)]
theorem lw_r2 : ∀ q ∈ lw_privs_2, lw_okq q := List.forall_mem_cons.mpr ⟨lw_p16, List.forall_mem_cons.mpr ⟨lw_p17, List.forall_mem_cons.mpr ⟨lw_p18, List.forall_mem_cons.mpr ⟨lw_p19, List.forall_mem_cons.mpr ⟨lw_p20, List.forall_mem_cons.mpr ⟨lw_p21, List.forall_mem_cons.mpr ⟨lw_p22, List.forall_mem_cons.mpr ⟨lw_p23, List.forall_mem_cons.mpr ⟨lw_p24, List.forall_mem_cons.mpr ⟨lw_p25, List.forall_mem_cons.mpr ⟨lw_p26, List.forall_mem_cons.mpr ⟨lw_p27, List.forall_mem_cons.mpr ⟨lw_p28, List.forall_mem_cons.mpr ⟨lw_p29, List.forall_mem_cons.mpr ⟨lw_p30, List.forall_mem_cons.mpr ⟨lw_p31, fun _ h => absurd h List.not_mem_nil⟩⟩⟩⟩⟩⟩⟩⟩⟩⟩⟩⟩⟩⟩⟩⟩
theorem lw_p32 : lw_okq (⟨"QuernGrainsModel", "isFace", "(I)Z"⟩, 25) := ⟨⟨by decide +kernel, by decide +kernel⟩, List.mem_of_getElem? (i := 630) (by decide +kernel), List.mem_of_getElem? (i := 773) (by decide +kernel), List.mem_of_getElem? (i := 774) (by decide +kernel)⟩
theorem lw_p33 : lw_okq (⟨"QuernGrainsModel", "isSort", "(I)Z"⟩, 25) := ⟨⟨by decide +kernel, by decide +kernel⟩, List.mem_of_getElem? (i := 630) (by decide +kernel), List.mem_of_getElem? (i := 782) (by decide +kernel), List.mem_of_getElem? (i := 783) (by decide +kernel)⟩
theorem lw_p34 : lw_okq (⟨"QuernGrainsModel", "allOf", "(II)I"⟩, 25) := ⟨⟨by decide +kernel, by decide +kernel⟩, List.mem_of_getElem? (i := 630) (by decide +kernel), List.mem_of_getElem? (i := 787) (by decide +kernel), List.mem_of_getElem? (i := 788) (by decide +kernel)⟩
theorem lw_p35 : lw_okq (⟨"QuernGrainsModel", "liesOf", "(III)I"⟩, 25) := ⟨⟨by decide +kernel, by decide +kernel⟩, List.mem_of_getElem? (i := 630) (by decide +kernel), List.mem_of_getElem? (i := 791) (by decide +kernel), List.mem_of_getElem? (i := 792) (by decide +kernel)⟩
theorem lw_p36 : lw_okq (⟨"QuernGrainsModel", "calledBy", "(II)I"⟩, 25) := ⟨⟨by decide +kernel, by decide +kernel⟩, List.mem_of_getElem? (i := 630) (by decide +kernel), List.mem_of_getElem? (i := 811) (by decide +kernel), List.mem_of_getElem? (i := 812) (by decide +kernel)⟩
theorem lw_p37 : lw_okq (⟨"QuernGrainsModel", "isHeap", "(IIIII)Z"⟩, 25) := ⟨⟨by decide +kernel, by decide +kernel⟩, List.mem_of_getElem? (i := 630) (by decide +kernel), List.mem_of_getElem? (i := 845) (by decide +kernel), List.mem_of_getElem? (i := 846) (by decide +kernel)⟩
theorem lw_p38 : lw_okq (⟨"QuernGrainsModel", "likely", "(I)J"⟩, 25) := ⟨⟨by decide +kernel, by decide +kernel⟩, List.mem_of_getElem? (i := 630) (by decide +kernel), List.mem_of_getElem? (i := 849) (by decide +kernel), List.mem_of_getElem? (i := 850) (by decide +kernel)⟩
theorem lw_p39 : lw_okq (⟨"QuernGrainsModel", "areNear", "(III)Z"⟩, 25) := ⟨⟨by decide +kernel, by decide +kernel⟩, List.mem_of_getElem? (i := 630) (by decide +kernel), List.mem_of_getElem? (i := 867) (by decide +kernel), List.mem_of_getElem? (i := 868) (by decide +kernel)⟩
theorem lw_p40 : lw_okq (⟨"QuernGrainsModel", "apart", "(I[I)I"⟩, 25) := ⟨⟨by decide +kernel, by decide +kernel⟩, List.mem_of_getElem? (i := 630) (by decide +kernel), List.mem_of_getElem? (i := 871) (by decide +kernel), List.mem_of_getElem? (i := 872) (by decide +kernel)⟩
theorem lw_p41 : lw_okq (⟨"QuernGrainsModel", "fits", "(III)Z"⟩, 25) := ⟨⟨by decide +kernel, by decide +kernel⟩, List.mem_of_getElem? (i := 630) (by decide +kernel), List.mem_of_getElem? (i := 888) (by decide +kernel), List.mem_of_getElem? (i := 889) (by decide +kernel)⟩
theorem lw_p42 : lw_okq (⟨"QuernGrainsModel", "laidBy", "(II)I"⟩, 25) := ⟨⟨by decide +kernel, by decide +kernel⟩, List.mem_of_getElem? (i := 630) (by decide +kernel), List.mem_of_getElem? (i := 892) (by decide +kernel), List.mem_of_getElem? (i := 893) (by decide +kernel)⟩
theorem lw_p43 : lw_okq (⟨"QuernGrainsModel", "groundOf", "(IIIZ)I"⟩, 25) := ⟨⟨by decide +kernel, by decide +kernel⟩, List.mem_of_getElem? (i := 630) (by decide +kernel), List.mem_of_getElem? (i := 903) (by decide +kernel), List.mem_of_getElem? (i := 904) (by decide +kernel)⟩
theorem lw_p44 : lw_okq (⟨"QuernGrainsModel", "sureOf", "(II)I"⟩, 25) := ⟨⟨by decide +kernel, by decide +kernel⟩, List.mem_of_getElem? (i := 630) (by decide +kernel), List.mem_of_getElem? (i := 911) (by decide +kernel), List.mem_of_getElem? (i := 912) (by decide +kernel)⟩
theorem lw_p45 : lw_okq (⟨"QuernGrainsModel", "blindAll", "()I"⟩, 25) := ⟨⟨by decide +kernel, by decide +kernel⟩, List.mem_of_getElem? (i := 630) (by decide +kernel), List.mem_of_getElem? (i := 924) (by decide +kernel), List.mem_of_getElem? (i := 925) (by decide +kernel)⟩
theorem lw_p46 : lw_okq (⟨"QuernGrainsModel", "blindOf", "(IZ)I"⟩, 25) := ⟨⟨by decide +kernel, by decide +kernel⟩, List.mem_of_getElem? (i := 630) (by decide +kernel), List.mem_of_getElem? (i := 932) (by decide +kernel), List.mem_of_getElem? (i := 933) (by decide +kernel)⟩
theorem lw_p47 : lw_okq (⟨"QuernGrainsModel", "readArea", "(I)I"⟩, 25) := ⟨⟨by decide +kernel, by decide +kernel⟩, List.mem_of_getElem? (i := 630) (by decide +kernel), List.mem_of_getElem? (i := 957) (by decide +kernel), List.mem_of_getElem? (i := 958) (by decide +kernel)⟩
def lw_privs_3 : List (MethodName × Nat) := [(⟨"QuernGrainsModel", "isFace", "(I)Z"⟩, 25), (⟨"QuernGrainsModel", "isSort", "(I)Z"⟩, 25), (⟨"QuernGrainsModel", "allOf", "(II)I"⟩, 25), (⟨"QuernGrainsModel", "liesOf", "(III)I"⟩, 25), (⟨"QuernGrainsModel", "calledBy", "(II)I"⟩, 25), (⟨"QuernGrainsModel", "isHeap", "(IIIII)Z"⟩, 25), (⟨"QuernGrainsModel", "likely", "(I)J"⟩, 25), (⟨"QuernGrainsModel", "areNear", "(III)Z"⟩, 25), (⟨"QuernGrainsModel", "apart", "(I[I)I"⟩, 25), (⟨"QuernGrainsModel", "fits", "(III)Z"⟩, 25), (⟨"QuernGrainsModel", "laidBy", "(II)I"⟩, 25), (⟨"QuernGrainsModel", "groundOf", "(IIIZ)I"⟩, 25), (⟨"QuernGrainsModel", "sureOf", "(II)I"⟩, 25), (⟨"QuernGrainsModel", "blindAll", "()I"⟩, 25), (⟨"QuernGrainsModel", "blindOf", "(IZ)I"⟩, 25), (⟨"QuernGrainsModel", "readArea", "(I)I"⟩, 25)]
theorem lw_r3 : ∀ q ∈ lw_privs_3, lw_okq q := List.forall_mem_cons.mpr ⟨lw_p32, List.forall_mem_cons.mpr ⟨lw_p33, List.forall_mem_cons.mpr ⟨lw_p34, List.forall_mem_cons.mpr ⟨lw_p35, List.forall_mem_cons.mpr ⟨lw_p36, List.forall_mem_cons.mpr ⟨lw_p37, List.forall_mem_cons.mpr ⟨lw_p38, List.forall_mem_cons.mpr ⟨lw_p39, List.forall_mem_cons.mpr ⟨lw_p40, List.forall_mem_cons.mpr ⟨lw_p41, List.forall_mem_cons.mpr ⟨lw_p42, List.forall_mem_cons.mpr ⟨lw_p43, List.forall_mem_cons.mpr ⟨lw_p44, List.forall_mem_cons.mpr ⟨lw_p45, List.forall_mem_cons.mpr ⟨lw_p46, List.forall_mem_cons.mpr ⟨lw_p47, fun _ h => absurd h List.not_mem_nil⟩⟩⟩⟩⟩⟩⟩⟩⟩⟩⟩⟩⟩⟩⟩⟩
theorem lw_p48 : lw_okq (⟨"QuernGrainsModel", "copy", "(II)V"⟩, 25) := ⟨⟨by decide +kernel, by decide +kernel⟩, List.mem_of_getElem? (i := 630) (by decide +kernel), List.mem_of_getElem? (i := 965) (by decide +kernel), List.mem_of_getElem? (i := 966) (by decide +kernel)⟩
def lw_privs_4 : List (MethodName × Nat) := [(⟨"QuernGrainsModel", "copy", "(II)V"⟩, 25)]
theorem lw_r4 : ∀ q ∈ lw_privs_4, lw_okq q := List.forall_mem_cons.mpr ⟨lw_p48, fun _ h => absurd h List.not_mem_nil⟩
def lw_privs : List (MethodName × Nat) := lw_privs_1 ++ (lw_privs_2 ++ (lw_privs_3 ++ (lw_privs_4)))
def lw_tbl : List Cond := k2_sels lw_privs ++ tables_1
theorem lw_privs_ok : ∀ q ∈ lw_privs, lw_okq q := by
  show ∀ q ∈ lw_privs_1 ++ (lw_privs_2 ++ (lw_privs_3 ++ (lw_privs_4))), lw_okq q
  exact List.forall_mem_append.mpr ⟨lw_r1, List.forall_mem_append.mpr ⟨lw_r2, List.forall_mem_append.mpr ⟨lw_r3, lw_r4⟩⟩⟩

-- names: classes, fields
def R_Text : String := "QuernGrains$Text"
def F_Text : u_T := fun k => match k with
  | 0 => ("QuernGrains$Text", "bytes", "[I", true)
  | _ => ("QuernGrains$Text", "length", "I", false)
def t_Text : Nat → FieldType := fun k => match k with
  | 0 => .array .int
  | _ => .int
theorem n_Text : ∀ a, a < 2 → ∀ b, b < 2 → a ≠ b → (F_Text a).2.1 ≠ (F_Text b).2.1 := by decide +kernel
theorem t_Text_ok : ∀ k, k < 2 → parseFieldDescriptor (F_Text k).2.2.1 = some (t_Text k) := by decide +kernel
def R_Scribe : String := "QuernGrains$Scribe"
def F_Scribe : u_T := fun k => match k with
  | _ => ("QuernGrains$Scribe", "numbers", "[I", true)
def t_Scribe : Nat → FieldType := fun k => match k with
  | _ => .array .int
theorem n_Scribe : ∀ a, a < 1 → ∀ b, b < 1 → a ≠ b → (F_Scribe a).2.1 ≠ (F_Scribe b).2.1 := by decide +kernel
theorem t_Scribe_ok : ∀ k, k < 1 → parseFieldDescriptor (F_Scribe k).2.2.1 = some (t_Scribe k) := by decide +kernel
def R_Books : String := "QuernGrains$Books"
def F_Books : u_T := fun k => match k with
  | 0 => ("QuernGrains$Books", "low", "[I", true)
  | 1 => ("QuernGrains$Books", "high", "[I", true)
  | 2 => ("QuernGrains$Books", "sums", "[I", true)
  | 3 => ("QuernGrains$Books", "boundSteps", "I", false)
  | 4 => ("QuernGrains$Books", "fits", "I", false)
  | 5 => ("QuernGrains$Books", "leastSum", "I", false)
  | _ => ("QuernGrains$Books", "greatestSum", "I", false)
def t_Books : Nat → FieldType := fun k => match k with
  | 0 => .array .int
  | 1 => .array .int
  | 2 => .array .int
  | 3 => .int
  | 4 => .int
  | 5 => .int
  | _ => .int
theorem n_Books : ∀ a, a < 7 → ∀ b, b < 7 → a ≠ b → (F_Books a).2.1 ≠ (F_Books b).2.1 := by decide +kernel
theorem t_Books_ok : ∀ k, k < 7 → parseFieldDescriptor (F_Books k).2.2.1 = some (t_Books k) := by decide +kernel
def R_Heap : String := "QuernGrains$Heap"
def F_Heap : u_T := fun k => match k with
  | _ => ("QuernGrains$Heap", "high", "[I", true)
def t_Heap : Nat → FieldType := fun k => match k with
  | _ => .array .int
theorem n_Heap : ∀ a, a < 1 → ∀ b, b < 1 → a ≠ b → (F_Heap a).2.1 ≠ (F_Heap b).2.1 := by decide +kernel
theorem t_Heap_ok : ∀ k, k < 1 → parseFieldDescriptor (F_Heap k).2.2.1 = some (t_Heap k) := by decide +kernel
def R_Finds : String := "QuernGrains$Finds"
def F_Finds : u_T := fun k => match k with
  | 0 => ("QuernGrains$Finds", "counts", "[[I", true)
  | 1 => ("QuernGrains$Finds", "blindSo", "[[I", true)
  | 2 => ("QuernGrains$Finds", "readPatches", "I", false)
  | 3 => ("QuernGrains$Finds", "blindInAll", "I", false)
  | _ => ("QuernGrains$Finds", "shutIn", "I", false)
def t_Finds : Nat → FieldType := fun k => match k with
  | 0 => .array (.array .int)
  | 1 => .array (.array .int)
  | 2 => .int
  | 3 => .int
  | _ => .int
theorem n_Finds : ∀ a, a < 5 → ∀ b, b < 5 → a ≠ b → (F_Finds a).2.1 ≠ (F_Finds b).2.1 := by decide +kernel
theorem t_Finds_ok : ∀ k, k < 5 → parseFieldDescriptor (F_Finds k).2.2.1 = some (t_Finds k) := by decide +kernel
def R_Quern : String := "QuernGrains$Quern"
def F_Quern : u_T := fun k => match k with
  | 0 => ("QuernGrains$Quern", "sorts", "I", false)
  | 1 => ("QuernGrains$Quern", "patches", "I", false)
  | 2 => ("QuernGrains$Quern", "waves", "[[I", true)
  | 3 => ("QuernGrains$Quern", "stone", "[I", true)
  | 4 => ("QuernGrains$Quern", "kind", "[I", true)
  | 5 => ("QuernGrains$Quern", "area", "[I", true)
  | 6 => ("QuernGrains$Quern", "steps", "[I", true)
  | 7 => ("QuernGrains$Quern", "used", "[[I", true)
  | 8 => ("QuernGrains$Quern", "booked", "[[I", true)
  | 9 => ("QuernGrains$Quern", "washed", "[I", true)
  | 10 => ("QuernGrains$Quern", "hours", "[I", true)
  | 11 => ("QuernGrains$Quern", "mustBe", "I", false)
  | _ => ("QuernGrains$Quern", "slipping", "[[I", true)
def t_Quern : Nat → FieldType := fun k => match k with
  | 0 => .int
  | 1 => .int
  | 2 => .array (.array .int)
  | 3 => .array .int
  | 4 => .array .int
  | 5 => .array .int
  | 6 => .array .int
  | 7 => .array (.array .int)
  | 8 => .array (.array .int)
  | 9 => .array .int
  | 10 => .array .int
  | 11 => .int
  | _ => .array (.array .int)
theorem n_Quern : ∀ a, a < 13 → ∀ b, b < 13 → a ≠ b → (F_Quern a).2.1 ≠ (F_Quern b).2.1 := by decide +kernel
theorem t_Quern_ok : ∀ k, k < 13 → parseFieldDescriptor (F_Quern k).2.2.1 = some (t_Quern k) := by decide +kernel
def R_Main : String := "QuernGrains"
def F_Main : u_T := fun k => match k with
  | 0 => ("QuernGrains", "text", "LQuernGrains$Text;", true)
  | 1 => ("QuernGrains", "scribe", "LQuernGrains$Scribe;", true)
  | 2 => ("QuernGrains", "fitting", "LQuernGrains$Books;", true)
  | 3 => ("QuernGrains", "waveHeap", "LQuernGrains$Heap;", true)
  | 4 => ("QuernGrains", "finds", "LQuernGrains$Finds;", true)
  | 5 => ("QuernGrains", "kept", "[LQuernGrains$Finds;", true)
  | 6 => ("QuernGrains", "keptCount", "I", false)
  | 7 => ("QuernGrains", "laid", "LQuernGrains$Quern;", false)
  | _ => ("QuernGrains", "spare", "LQuernGrains$Quern;", false)
def t_Main : Nat → FieldType := fun k => match k with
  | 0 => .object "QuernGrains$Text"
  | 1 => .object "QuernGrains$Scribe"
  | 2 => .object "QuernGrains$Books"
  | 3 => .object "QuernGrains$Heap"
  | 4 => .object "QuernGrains$Finds"
  | 5 => .array (.object "QuernGrains$Finds")
  | 6 => .int
  | 7 => .object "QuernGrains$Quern"
  | _ => .object "QuernGrains$Quern"
theorem n_Main : ∀ a, a < 9 → ∀ b, b < 9 → a ≠ b → (F_Main a).2.1 ≠ (F_Main b).2.1 := by decide +kernel
theorem t_Main_ok : ∀ k, k < 9 → parseFieldDescriptor (F_Main k).2.2.1 = some (t_Main k) := by decide +kernel
def R_Model : String := "QuernGrainsModel"
def F_Model : u_T := fun k => match k with
  | 0 => ("QuernGrainsModel", "length", "I", false)
  | 1 => ("QuernGrainsModel", "text", "[I", true)
  | 2 => ("QuernGrainsModel", "sortMany", "[I", true)
  | 3 => ("QuernGrainsModel", "waves", "[I", true)
  | 4 => ("QuernGrainsModel", "faceMany", "[I", true)
  | 5 => ("QuernGrainsModel", "stones", "[I", true)
  | 6 => ("QuernGrainsModel", "kinds", "[I", true)
  | 7 => ("QuernGrainsModel", "areas", "[I", true)
  | 8 => ("QuernGrainsModel", "steps", "[I", true)
  | 9 => ("QuernGrainsModel", "uses", "[I", true)
  | 10 => ("QuernGrainsModel", "rains", "[I", true)
  | 11 => ("QuernGrainsModel", "washes", "[I", true)
  | 12 => ("QuernGrainsModel", "hours", "[I", true)
  | 13 => ("QuernGrainsModel", "musts", "[I", true)
  | 14 => ("QuernGrainsModel", "calls", "[I", true)
  | 15 => ("QuernGrainsModel", "counts", "[I", true)
  | 16 => ("QuernGrainsModel", "reads", "[I", true)
  | 17 => ("QuernGrainsModel", "blinds", "[I", true)
  | 18 => ("QuernGrainsModel", "shut", "[I", true)
  | 19 => ("QuernGrainsModel", "keptMany", "I", false)
  | 20 => ("QuernGrainsModel", "place", "I", false)
  | 21 => ("QuernGrainsModel", "told", "[I", true)
  | 22 => ("QuernGrainsModel", "pile", "[I", true)
  | 23 => ("QuernGrainsModel", "heads", "[I", true)
  | _ => ("QuernGrainsModel", "row", "[I", true)
def t_Model : Nat → FieldType := fun k => match k with
  | 0 => .int
  | 1 => .array .int
  | 2 => .array .int
  | 3 => .array .int
  | 4 => .array .int
  | 5 => .array .int
  | 6 => .array .int
  | 7 => .array .int
  | 8 => .array .int
  | 9 => .array .int
  | 10 => .array .int
  | 11 => .array .int
  | 12 => .array .int
  | 13 => .array .int
  | 14 => .array .int
  | 15 => .array .int
  | 16 => .array .int
  | 17 => .array .int
  | 18 => .array .int
  | 19 => .int
  | 20 => .int
  | 21 => .array .int
  | 22 => .array .int
  | 23 => .array .int
  | _ => .array .int
theorem n_Model : ∀ a, a < 25 → ∀ b, b < 25 → a ≠ b → (F_Model a).2.1 ≠ (F_Model b).2.1 := by decide +kernel
theorem t_Model_ok : ∀ k, k < 25 → parseFieldDescriptor (F_Model k).2.2.1 = some (t_Model k) := by decide +kernel
def R_Odds : String := "QuernGrains$Odds"
def R_Integer : String := "java/lang/Integer"
def R_Math : String := "java/lang/Math"
def R_Arrays : String := "java/util/Arrays"
abbrev classes : List vw_C := [(R_Text, F_Text, 2), (R_Scribe, F_Scribe, 1), (R_Books, F_Books, 7), (R_Heap, F_Heap, 1), (R_Finds, F_Finds, 5), (R_Quern, F_Quern, 13), (R_Main, F_Main, 9), (R_Model, F_Model, 25)]
def z_ok (w : Cond) : Bool := (w.onTables && w.keeps) || (match w with | .arrayClass _ => true | _ => false)
def zT : List Cond := lw_tbl.filter z_ok
theorem zT_in {w : Cond} (h : w ∈ lw_tbl) (g : z_ok w = true) : w ∈ zT := List.mem_filter.mpr ⟨h, g⟩
theorem zT_good : ∀ w ∈ zT, ((w.onTables && w.keeps) = true ∨ ∃ ty, w = .arrayClass ty) := by
  intro w hw
  have h1 := (List.mem_filter.mp hw).2
  unfold z_ok at h1
  rcases (Bool.or_eq_true _ _).mp h1 with h2 | h2
  · exact Or.inl h2
  · right
    cases w <;> first | exact ⟨_, rfl⟩ | cases h2
def z_nest : List Cond := [.methodLinkNest "QuernGrains" 9 ⟨"QuernGrains$Text", "<init>", "()V"⟩ "QuernGrains", .methodLinkNest "QuernGrains" 18 ⟨"QuernGrains$Scribe", "<init>", "()V"⟩ "QuernGrains", .methodLinkNest "QuernGrains" 25 ⟨"QuernGrains$Books", "<init>", "()V"⟩ "QuernGrains", .methodLinkNest "QuernGrains" 32 ⟨"QuernGrains$Heap", "<init>", "()V"⟩ "QuernGrains", .methodLinkNest "QuernGrains" 39 ⟨"QuernGrains$Finds", "<init>", "()V"⟩ "QuernGrains", .methodLinkNest "QuernGrains" 50 ⟨"QuernGrains$Quern", "<init>", "()V"⟩ "QuernGrains", .methodLinkNest "QuernGrains$Quern" 90 ⟨"QuernGrains", "within", "(III)Z"⟩ "QuernGrains", .methodLinkNest "QuernGrains$Heap" 15 ⟨"QuernGrains", "within", "(III)Z"⟩ "QuernGrains"]
theorem z_nest_in : ∀ w ∈ z_nest, w ∈ lw_tbl := by decide +kernel
theorem z_nest_t : ∀ w ∈ z_nest, w.onTables = true := by decide +kernel
theorem i_Text : ∀ w ∈ u_ws R_Text F_Text 2, w ∈ zT := fun w h => zT_in ((by decide +kernel : ∀ w ∈ u_ws R_Text F_Text 2, w ∈ lw_tbl) w h) ((by decide +kernel : ∀ w ∈ u_ws R_Text F_Text 2, z_ok w = true) w h)
theorem i_Scribe : ∀ w ∈ u_ws R_Scribe F_Scribe 1, w ∈ zT := fun w h => zT_in ((by decide +kernel : ∀ w ∈ u_ws R_Scribe F_Scribe 1, w ∈ lw_tbl) w h) ((by decide +kernel : ∀ w ∈ u_ws R_Scribe F_Scribe 1, z_ok w = true) w h)
theorem i_Books : ∀ w ∈ u_ws R_Books F_Books 7, w ∈ zT := fun w h => zT_in ((by decide +kernel : ∀ w ∈ u_ws R_Books F_Books 7, w ∈ lw_tbl) w h) ((by decide +kernel : ∀ w ∈ u_ws R_Books F_Books 7, z_ok w = true) w h)
theorem i_Heap : ∀ w ∈ u_ws R_Heap F_Heap 1, w ∈ zT := fun w h => zT_in ((by decide +kernel : ∀ w ∈ u_ws R_Heap F_Heap 1, w ∈ lw_tbl) w h) ((by decide +kernel : ∀ w ∈ u_ws R_Heap F_Heap 1, z_ok w = true) w h)
theorem i_Finds : ∀ w ∈ u_ws R_Finds F_Finds 5, w ∈ zT := fun w h => zT_in ((by decide +kernel : ∀ w ∈ u_ws R_Finds F_Finds 5, w ∈ lw_tbl) w h) ((by decide +kernel : ∀ w ∈ u_ws R_Finds F_Finds 5, z_ok w = true) w h)
theorem i_Quern : ∀ w ∈ u_ws R_Quern F_Quern 13, w ∈ zT := fun w h => zT_in ((by decide +kernel : ∀ w ∈ u_ws R_Quern F_Quern 13, w ∈ lw_tbl) w h) ((by decide +kernel : ∀ w ∈ u_ws R_Quern F_Quern 13, z_ok w = true) w h)
theorem i_Main : ∀ w ∈ u_ws R_Main F_Main 9, w ∈ zT := fun w h => zT_in ((by decide +kernel : ∀ w ∈ u_ws R_Main F_Main 9, w ∈ lw_tbl) w h) ((by decide +kernel : ∀ w ∈ u_ws R_Main F_Main 9, z_ok w = true) w h)
theorem i_Model : ∀ w ∈ u_ws R_Model F_Model 25, w ∈ zT := fun w h => zT_in ((by decide +kernel : ∀ w ∈ u_ws R_Model F_Model 25, w ∈ lw_tbl) w h) ((by decide +kernel : ∀ w ∈ u_ws R_Model F_Model 25, z_ok w = true) w h)
-- shapes of the cells: kind (0 ints, 1 rows of ints, 2 finds, 10 + class), length
def z_shl : List (Nat × Int) := [(99, 0), (16, 9), (10, 2), (0, 500), (11, 1), (0, 4), (12, 7), (0, 16), (0, 16), (0, 16), (13, 1), (0, 4), (14, 5), (1, 10), (0, 6), (0, 6), (0, 6), (0, 6), (0, 6), (0, 6), (0, 6), (0, 6), (0, 6), (0, 6), (1, 6), (0, 6), (0, 6), (0, 6), (0, 6), (0, 6), (0, 6), (2, 2), (15, 13), (1, 6), (0, 4), (0, 4), (0, 4), (0, 4), (0, 4), (0, 4), (0, 10), (0, 10), (0, 10), (0, 10), (1, 10), (0, 6), (0, 6), (0, 6), (0, 6), (0, 6), (0, 6), (0, 6), (0, 6), (0, 6), (0, 6), (1, 4), (0, 6), (0, 6), (0, 6), (0, 6), (0, 4), (0, 4), (1, 6), (0, 6), (0, 6), (0, 6), (0, 6), (0, 6), (0, 6), (15, 13), (1, 6), (0, 4), (0, 4), (0, 4), (0, 4), (0, 4), (0, 4), (0, 10), (0, 10), (0, 10), (0, 10), (1, 10), (0, 6), (0, 6), (0, 6), (0, 6), (0, 6), (0, 6), (0, 6), (0, 6), (0, 6), (0, 6), (1, 4), (0, 6), (0, 6), (0, 6), (0, 6), (0, 4), (0, 4), (1, 6), (0, 6), (0, 6), (0, 6), (0, 6), (0, 6), (0, 6), (14, 5), (1, 10), (0, 6), (0, 6), (0, 6), (0, 6), (0, 6), (0, 6), (0, 6), (0, 6), (0, 6), (0, 6), (1, 6), (0, 6), (0, 6), (0, 6), (0, 6), (0, 6), (0, 6), (14, 5), (1, 10), (0, 6), (0, 6), (0, 6), (0, 6), (0, 6), (0, 6), (0, 6), (0, 6), (0, 6), (0, 6), (1, 6), (0, 6), (0, 6), (0, 6), (0, 6), (0, 6), (0, 6), (17, 25), (0, 500), (0, 2), (0, 48), (0, 2), (0, 20), (0, 20), (0, 20), (0, 20), (0, 120), (0, 48), (0, 8), (0, 8), (0, 8), (0, 72), (0, 180), (0, 30), (0, 108), (0, 3), (0, 4), (0, 4), (0, 6), (0, 4)]
