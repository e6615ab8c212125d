section
-- ===== PART A: goes FIRST, ahead of the names: the tables' words, and 'selects' of the private methods out of them =====
/-- a private method of a class that the tables say can be made, by its rows of tables_1 -/
def lw_okq (q : MethodName × Nat) : Prop := (q.1.cls ≠ "java/lang/invoke/MethodHandle" ∧ q.1.cls ≠ "java/lang/invoke/VarHandle") ∧ Cond.instantiable q.1.cls q.2 ∈ tables_1 ∧ Cond.privateMethod q.1 ∈ tables_1 ∧ Cond.instanceMethod q.1 ∈ tables_1
theorem lw_p0 : lw_okq (⟨"QuernGrains$Scribe", "placeBehindItem", "(LQuernGrains$Text;I)I"⟩, 1) := ⟨⟨by decide +kernel, by decide +kernel⟩, List.mem_of_getElem? (i := 39) (by decide +kernel), List.mem_of_getElem? (i := 245) (by decide +kernel), List.mem_of_getElem? (i := 246) (by decide +kernel)⟩
theorem lw_p1 : lw_okq (⟨"QuernGrains$Quern", "takeSort", "([I)Z"⟩, 13) := ⟨⟨by decide +kernel, by decide +kernel⟩, List.mem_of_getElem? (i := 121) (by decide +kernel), List.mem_of_getElem? (i := 271) (by decide +kernel), List.mem_of_getElem? (i := 272) (by decide +kernel)⟩
theorem lw_p2 : lw_okq (⟨"QuernGrains$Quern", "takePatch", "([I)Z"⟩, 13) := ⟨⟨by decide +kernel, by decide +kernel⟩, List.mem_of_getElem? (i := 121) (by decide +kernel), List.mem_of_getElem? (i := 278) (by decide +kernel), List.mem_of_getElem? (i := 279) (by decide +kernel)⟩
theorem lw_p3 : lw_okq (⟨"QuernGrains$Quern", "takeUse", "(III)Z"⟩, 13) := ⟨⟨by decide +kernel, by decide +kernel⟩, List.mem_of_getElem? (i := 121) (by decide +kernel), List.mem_of_getElem? (i := 283) (by decide +kernel), List.mem_of_getElem? (i := 284) (by decide +kernel)⟩
theorem lw_p4 : lw_okq (⟨"QuernGrains$Quern", "takeBook", "(III)Z"⟩, 13) := ⟨⟨by decide +kernel, by decide +kernel⟩, List.mem_of_getElem? (i := 121) (by decide +kernel), List.mem_of_getElem? (i := 295) (by decide +kernel), List.mem_of_getElem? (i := 296) (by decide +kernel)⟩
theorem lw_p5 : lw_okq (⟨"QuernGrains$Quern", "takeWash", "(II)Z"⟩, 13) := ⟨⟨by decide +kernel, by decide +kernel⟩, List.mem_of_getElem? (i := 121) (by decide +kernel), List.mem_of_getElem? (i := 302) (by decide +kernel), List.mem_of_getElem? (i := 303) (by decide +kernel)⟩
theorem lw_p6 : lw_okq (⟨"QuernGrains$Quern", "takeHours", "(III)Z"⟩, 13) := ⟨⟨by decide +kernel, by decide +kernel⟩, List.mem_of_getElem? (i := 121) (by decide +kernel), List.mem_of_getElem? (i := 306) (by decide +kernel), List.mem_of_getElem? (i := 307) (by decide +kernel)⟩
theorem lw_p7 : lw_okq (⟨"QuernGrains$Quern", "takeSlip", "(III)Z"⟩, 13) := ⟨⟨by decide +kernel, by decide +kernel⟩, List.mem_of_getElem? (i := 121) (by decide +kernel), List.mem_of_getElem? (i := 310) (by decide +kernel), List.mem_of_getElem? (i := 311) (by decide +kernel)⟩
theorem lw_p8 : lw_okq (⟨"QuernGrains$Quern", "calledBy", "(II)I"⟩, 13) := ⟨⟨by decide +kernel, by decide +kernel⟩, List.mem_of_getElem? (i := 121) (by decide +kernel), List.mem_of_getElem? (i := 363) (by decide +kernel), List.mem_of_getElem? (i := 364) (by decide +kernel)⟩
theorem lw_p9 : lw_okq (⟨"QuernGrains$Heap", "productOfMix", "(I[II[I)J"⟩, 1) := ⟨⟨by decide +kernel, by decide +kernel⟩, List.mem_of_getElem? (i := 80) (by decide +kernel), List.mem_of_getElem? (i := 409) (by decide +kernel), List.mem_of_getElem? (i := 410) (by decide +kernel)⟩
theorem lw_p10 : lw_okq (⟨"QuernGrains$Quern", "nearOnes", "(II)I"⟩, 13) := ⟨⟨by decide +kernel, by decide +kernel⟩, List.mem_of_getElem? (i := 121) (by decide +kernel), List.mem_of_getElem? (i := 440) (by decide +kernel), List.mem_of_getElem? (i := 441) (by decide +kernel)⟩
theorem lw_p11 : lw_okq (⟨"QuernGrains$Quern", "differenceOfCooked", "(III)I"⟩, 13) := ⟨⟨by decide +kernel, by decide +kernel⟩, List.mem_of_getElem? (i := 121) (by decide +kernel), List.mem_of_getElem? (i := 444) (by decide +kernel), List.mem_of_getElem? (i := 445) (by decide +kernel)⟩
theorem lw_p12 : lw_okq (⟨"QuernGrains$Books", "boundSums", "(LQuernGrains$Quern;LQuernGrains$Finds;II)V"⟩, 7) := ⟨⟨by decide +kernel, by decide +kernel⟩, List.mem_of_getElem? (i := 49) (by decide +kernel), List.mem_of_getElem? (i := 488) (by decide +kernel), List.mem_of_getElem? (i := 489) (by decide +kernel)⟩
theorem lw_p13 : lw_okq (⟨"QuernGrains$Books", "boundSum", "(IIII)V"⟩, 7) := ⟨⟨by decide +kernel, by decide +kernel⟩, List.mem_of_getElem? (i := 49) (by decide +kernel), List.mem_of_getElem? (i := 494) (by decide +kernel), List.mem_of_getElem? (i := 495) (by decide +kernel)⟩
theorem lw_p14 : lw_okq (⟨"QuernGrains$Books", "greatestOf", "(I)I"⟩, 7) := ⟨⟨by decide +kernel, by decide +kernel⟩, List.mem_of_getElem? (i := 49) (by decide +kernel), List.mem_of_getElem? (i := 510) (by decide +kernel), List.mem_of_getElem? (i := 511) (by decide +kernel)⟩
theorem lw_p15 : lw_okq (⟨"QuernGrains$Books", "isFree", "(I)Z"⟩, 7) := ⟨⟨by decide +kernel, by decide +kernel⟩, List.mem_of_getElem? (i := 49) (by decide +kernel), List.mem_of_getElem? (i := 514) (by decide +kernel), List.mem_of_getElem? (i := 515) (by decide +kernel)⟩
def lw_privs_1 : List (MethodName × Nat) := [(⟨"QuernGrains$Scribe", "placeBehindItem", "(LQuernGrains$Text;I)I"⟩, 1), (⟨"QuernGrains$Quern", "takeSort", "([I)Z"⟩, 13), (⟨"QuernGrains$Quern", "takePatch", "([I)Z"⟩, 13), (⟨"QuernGrains$Quern", "takeUse", "(III)Z"⟩, 13), (⟨"QuernGrains$Quern", "takeBook", "(III)Z"⟩, 13), (⟨"QuernGrains$Quern", "takeWash", "(II)Z"⟩, 13), (⟨"QuernGrains$Quern", "takeHours", "(III)Z"⟩, 13), (⟨"QuernGrains$Quern", "takeSlip", "(III)Z"⟩, 13), (⟨"QuernGrains$Quern", "calledBy", "(II)I"⟩, 13), (⟨"QuernGrains$Heap", "productOfMix", "(I[II[I)J"⟩, 1), (⟨"QuernGrains$Quern", "nearOnes", "(II)I"⟩, 13), (⟨"QuernGrains$Quern", "differenceOfCooked", "(III)I"⟩, 13), (⟨"QuernGrains$Books", "boundSums", "(LQuernGrains$Quern;LQuernGrains$Finds;II)V"⟩, 7), (⟨"QuernGrains$Books", "boundSum", "(IIII)V"⟩, 7), (⟨"QuernGrains$Books", "greatestOf", "(I)I"⟩, 7), (⟨"QuernGrains$Books", "isFree", "(I)Z"⟩, 7)]
theorem lw_r1 : ∀ q ∈ lw_privs_1, lw_okq q := List.forall_mem_cons.mpr ⟨lw_p0, List.forall_mem_cons.mpr ⟨lw_p1, List.forall_mem_cons.mpr ⟨lw_p2, List.forall_mem_cons.mpr ⟨lw_p3, List.forall_mem_cons.mpr ⟨lw_p4, List.forall_mem_cons.mpr ⟨lw_p5, List.forall_mem_cons.mpr ⟨lw_p6, List.forall_mem_cons.mpr ⟨lw_p7, List.forall_mem_cons.mpr ⟨lw_p8, List.forall_mem_cons.mpr ⟨lw_p9, List.forall_mem_cons.mpr ⟨lw_p10, List.forall_mem_cons.mpr ⟨lw_p11, List.forall_mem_cons.mpr ⟨lw_p12, List.forall_mem_cons.mpr ⟨lw_p13, List.forall_mem_cons.mpr ⟨lw_p14, List.forall_mem_cons.mpr ⟨lw_p15, fun _ h => absurd h List.not_mem_nil⟩⟩⟩⟩⟩⟩⟩⟩⟩⟩⟩⟩⟩⟩⟩⟩
theorem lw_p16 : lw_okq (⟨"QuernGrains$Books", "leastOf", "(I)I"⟩, 7) := ⟨⟨by decide +kernel, by decide +kernel⟩, List.mem_of_getElem? (i := 49) (by decide +kernel), List.mem_of_getElem? (i := 518) (by decide +kernel), List.mem_of_getElem? (i := 519) (by decide +kernel)⟩
theorem lw_p17 : lw_okq (⟨"QuernGrains$Books", "addStep", "(II)V"⟩, 7) := ⟨⟨by decide +kernel, by decide +kernel⟩, List.mem_of_getElem? (i := 49) (by decide +kernel), List.mem_of_getElem? (i := 522) (by decide +kernel), List.mem_of_getElem? (i := 523) (by decide +kernel)⟩
theorem lw_p18 : lw_okq (⟨"QuernGrains$Books", "noteRange", "(III)V"⟩, 7) := ⟨⟨by decide +kernel, by decide +kernel⟩, List.mem_of_getElem? (i := 49) (by decide +kernel), List.mem_of_getElem? (i := 526) (by decide +kernel), List.mem_of_getElem? (i := 527) (by decide +kernel)⟩
theorem lw_p19 : lw_okq (⟨"QuernGrains$Books", "noteFreeSteps", "(I)V"⟩, 7) := ⟨⟨by decide +kernel, by decide +kernel⟩, List.mem_of_getElem? (i := 49) (by decide +kernel), List.mem_of_getElem? (i := 530) (by decide +kernel), List.mem_of_getElem? (i := 531) (by decide +kernel)⟩
theorem lw_p20 : lw_okq (⟨"QuernGrains", "groundOn", "(IIIZ)I"⟩, 9) := ⟨⟨by decide +kernel, by decide +kernel⟩, List.mem_of_getElem? (i := 15) (by decide +kernel), List.mem_of_getElem? (i := 538) (by decide +kernel), List.mem_of_getElem? (i := 539) (by decide +kernel)⟩
theorem lw_p21 : lw_okq (⟨"QuernGrains", "surelyGround", "(II)I"⟩, 9) := ⟨⟨by decide +kernel, by decide +kernel⟩, List.mem_of_getElem? (i := 15) (by decide +kernel), List.mem_of_getElem? (i := 547) (by decide +kernel), List.mem_of_getElem? (i := 548) (by decide +kernel)⟩
theorem lw_p22 : lw_okq (⟨"QuernGrains$Quern", "hoursSaved", "(I)I"⟩, 13) := ⟨⟨by decide +kernel, by decide +kernel⟩, List.mem_of_getElem? (i := 121) (by decide +kernel), List.mem_of_getElem? (i := 559) (by decide +kernel), List.mem_of_getElem? (i := 560) (by decide +kernel)⟩
theorem lw_p23 : lw_okq (⟨"QuernGrains", "readAreaOf", "(I)I"⟩, 9) := ⟨⟨by decide +kernel, by decide +kernel⟩, List.mem_of_getElem? (i := 15) (by decide +kernel), List.mem_of_getElem? (i := 608) (by decide +kernel), List.mem_of_getElem? (i := 609) (by decide +kernel)⟩
theorem lw_p24 : lw_okq (⟨"QuernGrainsModel", "noStones", "(I)V"⟩, 25) := ⟨⟨by decide +kernel, by decide +kernel⟩, List.mem_of_getElem? (i := 630) (by decide +kernel), List.mem_of_getElem? (i := 636) (by decide +kernel), List.mem_of_getElem? (i := 637) (by decide +kernel)⟩
theorem lw_p25 : lw_okq (⟨"QuernGrainsModel", "readAll", "()I"⟩, 25) := ⟨⟨by decide +kernel, by decide +kernel⟩, List.mem_of_getElem? (i := 630) (by decide +kernel), List.mem_of_getElem? (i := 733) (by decide +kernel), List.mem_of_getElem? (i := 734) (by decide +kernel)⟩
theorem lw_p26 : lw_okq (⟨"QuernGrainsModel", "item", "()Z"⟩, 25) := ⟨⟨by decide +kernel, by decide +kernel⟩, List.mem_of_getElem? (i := 630) (by decide +kernel), List.mem_of_getElem? (i := 737) (by decide +kernel), List.mem_of_getElem? (i := 738) (by decide +kernel)⟩
theorem lw_p27 : lw_okq (⟨"QuernGrainsModel", "byteAt", "(I)I"⟩, 25) := ⟨⟨by decide +kernel, by decide +kernel⟩, List.mem_of_getElem? (i := 630) (by decide +kernel), List.mem_of_getElem? (i := 741) (by decide +kernel), List.mem_of_getElem? (i := 742) (by decide +kernel)⟩
theorem lw_p28 : lw_okq (⟨"QuernGrainsModel", "sortItem", "()Z"⟩, 25) := ⟨⟨by decide +kernel, by decide +kernel⟩, List.mem_of_getElem? (i := 630) (by decide +kernel), List.mem_of_getElem? (i := 745) (by decide +kernel), List.mem_of_getElem? (i := 746) (by decide +kernel)⟩
theorem lw_p29 : lw_okq (⟨"QuernGrainsModel", "figures", "(I)Z"⟩, 25) := ⟨⟨by decide +kernel, by decide +kernel⟩, List.mem_of_getElem? (i := 630) (by decide +kernel), List.mem_of_getElem? (i := 749) (by decide +kernel), List.mem_of_getElem? (i := 750) (by decide +kernel)⟩
theorem lw_p30 : lw_okq (⟨"QuernGrainsModel", "faceItem", "()Z"⟩, 25) := ⟨⟨by decide +kernel, by decide +kernel⟩, List.mem_of_getElem? (i := 630) (by decide +kernel), List.mem_of_getElem? (i := 756) (by decide +kernel), List.mem_of_getElem? (i := 757) (by decide +kernel)⟩
theorem lw_p31 : lw_okq (⟨"QuernGrainsModel", "callItem", "()Z"⟩, 25) := ⟨⟨by decide +kernel, by decide +kernel⟩, List.mem_of_getElem? (i := 630) (by decide +kernel), List.mem_of_getElem? (i := 761) (by decide +kernel), List.mem_of_getElem? (i := 762) (by decide +kernel)⟩
def lw_privs_2 : List (MethodName × Nat) := [(⟨"QuernGrains$Books", "leastOf", "(I)I"⟩, 7), (⟨"QuernGrains$Books", "addStep", "(II)V"⟩, 7), (⟨"QuernGrains$Books", "noteRange", "(III)V"⟩, 7), (⟨"QuernGrains$Books", "noteFreeSteps", "(I)V"⟩, 7), (⟨"QuernGrains", "groundOn", "(IIIZ)I"⟩, 9), (⟨"QuernGrains", "surelyGround", "(II)I"⟩, 9), (⟨"QuernGrains$Quern", "hoursSaved", "(I)I"⟩, 13), (⟨"QuernGrains", "readAreaOf", "(I)I"⟩, 9), (⟨"QuernGrainsModel", "noStones", "(I)V"⟩, 25), (⟨"QuernGrainsModel", "readAll", "()I"⟩, 25), (⟨"QuernGrainsModel", "item", "()Z"⟩, 25), (⟨"QuernGrainsModel", "byteAt", "(I)I"⟩, 25), (⟨"QuernGrainsModel", "sortItem", "()Z"⟩, 25), (⟨"QuernGrainsModel", "figures", "(I)Z"⟩, 25), (⟨"QuernGrainsModel", "faceItem", "()Z"⟩, 25), (⟨"QuernGrainsModel", "callItem", "()Z"⟩, 25)]
theorem lw_r2 : ∀ q ∈ lw_privs_2, lw_okq q := List.forall_mem_cons.mpr ⟨lw_p16, List.forall_mem_cons.mpr ⟨lw_p17, List.forall_mem_cons.mpr ⟨lw_p18, List.forall_mem_cons.mpr ⟨lw_p19, List.forall_mem_cons.mpr ⟨lw_p20, List.forall_mem_cons.mpr ⟨lw_p21, List.forall_mem_cons.mpr ⟨lw_p22, List.forall_mem_cons.mpr ⟨lw_p23, List.forall_mem_cons.mpr ⟨lw_p24, List.forall_mem_cons.mpr ⟨lw_p25, List.forall_mem_cons.mpr ⟨lw_p26, List.forall_mem_cons.mpr ⟨lw_p27, List.forall_mem_cons.mpr ⟨lw_p28, List.forall_mem_cons.mpr ⟨lw_p29, List.forall_mem_cons.mpr ⟨lw_p30, List.forall_mem_cons.mpr ⟨lw_p31, fun _ h => absurd h List.not_mem_nil⟩⟩⟩⟩⟩⟩⟩⟩⟩⟩⟩⟩⟩⟩⟩⟩
theorem lw_p32 : lw_okq (⟨"QuernGrainsModel", "isFace", "(I)Z"⟩, 25) := ⟨⟨by decide +kernel, by decide +kernel⟩, List.mem_of_getElem? (i := 630) (by decide +kernel), List.mem_of_getElem? (i := 773) (by decide +kernel), List.mem_of_getElem? (i := 774) (by decide +kernel)⟩
theorem lw_p33 : lw_okq (⟨"QuernGrainsModel", "isSort", "(I)Z"⟩, 25) := ⟨⟨by decide +kernel, by decide +kernel⟩, List.mem_of_getElem? (i := 630) (by decide +kernel), List.mem_of_getElem? (i := 782) (by decide +kernel), List.mem_of_getElem? (i := 783) (by decide +kernel)⟩
theorem lw_p34 : lw_okq (⟨"QuernGrainsModel", "allOf", "(II)I"⟩, 25) := ⟨⟨by decide +kernel, by decide +kernel⟩, List.mem_of_getElem? (i := 630) (by decide +kernel), List.mem_of_getElem? (i := 787) (by decide +kernel), List.mem_of_getElem? (i := 788) (by decide +kernel)⟩
theorem lw_p35 : lw_okq (⟨"QuernGrainsModel", "liesOf", "(III)I"⟩, 25) := ⟨⟨by decide +kernel, by decide +kernel⟩, List.mem_of_getElem? (i := 630) (by decide +kernel), List.mem_of_getElem? (i := 791) (by decide +kernel), List.mem_of_getElem? (i := 792) (by decide +kernel)⟩
theorem lw_p36 : lw_okq (⟨"QuernGrainsModel", "calledBy", "(II)I"⟩, 25) := ⟨⟨by decide +kernel, by decide +kernel⟩, List.mem_of_getElem? (i := 630) (by decide +kernel), List.mem_of_getElem? (i := 811) (by decide +kernel), List.mem_of_getElem? (i := 812) (by decide +kernel)⟩
theorem lw_p37 : lw_okq (⟨"QuernGrainsModel", "isHeap", "(IIIII)Z"⟩, 25) := ⟨⟨by decide +kernel, by decide +kernel⟩, List.mem_of_getElem? (i := 630) (by decide +kernel), List.mem_of_getElem? (i := 845) (by decide +kernel), List.mem_of_getElem? (i := 846) (by decide +kernel)⟩
theorem lw_p38 : lw_okq (⟨"QuernGrainsModel", "likely", "(I)J"⟩, 25) := ⟨⟨by decide +kernel, by decide +kernel⟩, List.mem_of_getElem? (i := 630) (by decide +kernel), List.mem_of_getElem? (i := 849) (by decide +kernel), List.mem_of_getElem? (i := 850) (by decide +kernel)⟩
theorem lw_p39 : lw_okq (⟨"QuernGrainsModel", "areNear", "(III)Z"⟩, 25) := ⟨⟨by decide +kernel, by decide +kernel⟩, List.mem_of_getElem? (i := 630) (by decide +kernel), List.mem_of_getElem? (i := 867) (by decide +kernel), List.mem_of_getElem? (i := 868) (by decide +kernel)⟩
theorem lw_p40 : lw_okq (⟨"QuernGrainsModel", "apart", "(I[I)I"⟩, 25) := ⟨⟨by decide +kernel, by decide +kernel⟩, List.mem_of_getElem? (i := 630) (by decide +kernel), List.mem_of_getElem? (i := 871) (by decide +kernel), List.mem_of_getElem? (i := 872) (by decide +kernel)⟩
theorem lw_p41 : lw_okq (⟨"QuernGrainsModel", "fits", "(III)Z"⟩, 25) := ⟨⟨by decide +kernel, by decide +kernel⟩, List.mem_of_getElem? (i := 630) (by decide +kernel), List.mem_of_getElem? (i := 888) (by decide +kernel), List.mem_of_getElem? (i := 889) (by decide +kernel)⟩
theorem lw_p42 : lw_okq (⟨"QuernGrainsModel", "laidBy", "(II)I"⟩, 25) := ⟨⟨by decide +kernel, by decide +kernel⟩, List.mem_of_getElem? (i := 630) (by decide +kernel), List.mem_of_getElem? (i := 892) (by decide +kernel), List.mem_of_getElem? (i := 893) (by decide +kernel)⟩
theorem lw_p43 : lw_okq (⟨"QuernGrainsModel", "groundOf", "(IIIZ)I"⟩, 25) := ⟨⟨by decide +kernel, by decide +kernel⟩, List.mem_of_getElem? (i := 630) (by decide +kernel), List.mem_of_getElem? (i := 903) (by decide +kernel), List.mem_of_getElem? (i := 904) (by decide +kernel)⟩
theorem lw_p44 : lw_okq (⟨"QuernGrainsModel", "sureOf", "(II)I"⟩, 25) := ⟨⟨by decide +kernel, by decide +kernel⟩, List.mem_of_getElem? (i := 630) (by decide +kernel), List.mem_of_getElem? (i := 911) (by decide +kernel), List.mem_of_getElem? (i := 912) (by decide +kernel)⟩
theorem lw_p45 : lw_okq (⟨"QuernGrainsModel", "blindAll", "()I"⟩, 25) := ⟨⟨by decide +kernel, by decide +kernel⟩, List.mem_of_getElem? (i := 630) (by decide +kernel), List.mem_of_getElem? (i := 924) (by decide +kernel), List.mem_of_getElem? (i := 925) (by decide +kernel)⟩
theorem lw_p46 : lw_okq (⟨"QuernGrainsModel", "blindOf", "(IZ)I"⟩, 25) := ⟨⟨by decide +kernel, by decide +kernel⟩, List.mem_of_getElem? (i := 630) (by decide +kernel), List.mem_of_getElem? (i := 932) (by decide +kernel), List.mem_of_getElem? (i := 933) (by decide +kernel)⟩
theorem lw_p47 : lw_okq (⟨"QuernGrainsModel", "readArea", "(I)I"⟩, 25) := ⟨⟨by decide +kernel, by decide +kernel⟩, List.mem_of_getElem? (i := 630) (by decide +kernel), List.mem_of_getElem? (i := 957) (by decide +kernel), List.mem_of_getElem? (i := 958) (by decide +kernel)⟩
def lw_privs_3 : List (MethodName × Nat) := [(⟨"QuernGrainsModel", "isFace", "(I)Z"⟩, 25), (⟨"QuernGrainsModel", "isSort", "(I)Z"⟩, 25), (⟨"QuernGrainsModel", "allOf", "(II)I"⟩, 25), (⟨"QuernGrainsModel", "liesOf", "(III)I"⟩, 25), (⟨"QuernGrainsModel", "calledBy", "(II)I"⟩, 25), (⟨"QuernGrainsModel", "isHeap", "(IIIII)Z"⟩, 25), (⟨"QuernGrainsModel", "likely", "(I)J"⟩, 25), (⟨"QuernGrainsModel", "areNear", "(III)Z"⟩, 25), (⟨"QuernGrainsModel", "apart", "(I[I)I"⟩, 25), (⟨"QuernGrainsModel", "fits", "(III)Z"⟩, 25), (⟨"QuernGrainsModel", "laidBy", "(II)I"⟩, 25), (⟨"QuernGrainsModel", "groundOf", "(IIIZ)I"⟩, 25), (⟨"QuernGrainsModel", "sureOf", "(II)I"⟩, 25), (⟨"QuernGrainsModel", "blindAll", "()I"⟩, 25), (⟨"QuernGrainsModel", "blindOf", "(IZ)I"⟩, 25), (⟨"QuernGrainsModel", "readArea", "(I)I"⟩, 25)]
theorem lw_r3 : ∀ q ∈ lw_privs_3, lw_okq q := List.forall_mem_cons.mpr ⟨lw_p32, List.forall_mem_cons.mpr ⟨lw_p33, List.forall_mem_cons.mpr ⟨lw_p34, List.forall_mem_cons.mpr ⟨lw_p35, List.forall_mem_cons.mpr ⟨lw_p36, List.forall_mem_cons.mpr ⟨lw_p37, List.forall_mem_cons.mpr ⟨lw_p38, List.forall_mem_cons.mpr ⟨lw_p39, List.forall_mem_cons.mpr ⟨lw_p40, List.forall_mem_cons.mpr ⟨lw_p41, List.forall_mem_cons.mpr ⟨lw_p42, List.forall_mem_cons.mpr ⟨lw_p43, List.forall_mem_cons.mpr ⟨lw_p44, List.forall_mem_cons.mpr ⟨lw_p45, List.forall_mem_cons.mpr ⟨lw_p46, List.forall_mem_cons.mpr ⟨lw_p47, fun _ h => absurd h List.not_mem_nil⟩⟩⟩⟩⟩⟩⟩⟩⟩⟩⟩⟩⟩⟩⟩⟩
theorem lw_p48 : lw_okq (⟨"QuernGrainsModel", "copy", "(II)V"⟩, 25) := ⟨⟨by decide +kernel, by decide +kernel⟩, List.mem_of_getElem? (i := 630) (by decide +kernel), List.mem_of_getElem? (i := 965) (by decide +kernel), List.mem_of_getElem? (i := 966) (by decide +kernel)⟩
def lw_privs_4 : List (MethodName × Nat) := [(⟨"QuernGrainsModel", "copy", "(II)V"⟩, 25)]
theorem lw_r4 : ∀ q ∈ lw_privs_4, lw_okq q := List.forall_mem_cons.mpr ⟨lw_p48, fun _ h => absurd h List.not_mem_nil⟩
def lw_privs : List (MethodName × Nat) := lw_privs_1 ++ (lw_privs_2 ++ (lw_privs_3 ++ (lw_privs_4)))
def lw_tbl : List Cond := k2_sels lw_privs ++ tables_1
theorem lw_privs_ok : ∀ q ∈ lw_privs, lw_okq q := by
  show ∀ q ∈ lw_privs_1 ++ (lw_privs_2 ++ (lw_privs_3 ++ (lw_privs_4))), lw_okq q
  exact List.forall_mem_append.mpr ⟨lw_r1, List.forall_mem_append.mpr ⟨lw_r2, List.forall_mem_append.mpr ⟨lw_r3, lw_r4⟩⟩⟩

-- names: classes, fields
def R_Text : String := "QuernGrains$Text"
def F_Text : u_T := fun k => match k with
  | 0 => ("QuernGrains$Text", "bytes", "[I", true)
  | _ => ("QuernGrains$Text", "length", "I", false)
def t_Text : Nat → FieldType := fun k => match k with
  | 0 => .array .int
  | _ => .int
theorem n_Text : ∀ a, a < 2 → ∀ b, b < 2 → a ≠ b → (F_Text a).2.1 ≠ (F_Text b).2.1 := by decide +kernel
theorem t_Text_ok : ∀ k, k < 2 → parseFieldDescriptor (F_Text k).2.2.1 = some (t_Text k) := by decide +kernel
def R_Scribe : String := "QuernGrains$Scribe"
def F_Scribe : u_T := fun k => match k with
  | _ => ("QuernGrains$Scribe", "numbers", "[I", true)
def t_Scribe : Nat → FieldType := fun k => match k with
  | _ => .array .int
theorem n_Scribe : ∀ a, a < 1 → ∀ b, b < 1 → a ≠ b → (F_Scribe a).2.1 ≠ (F_Scribe b).2.1 := by decide +kernel
theorem t_Scribe_ok : ∀ k, k < 1 → parseFieldDescriptor (F_Scribe k).2.2.1 = some (t_Scribe k) := by decide +kernel
def R_Books : String := "QuernGrains$Books"
def F_Books : u_T := fun k => match k with
  | 0 => ("QuernGrains$Books", "low", "[I", true)
  | 1 => ("QuernGrains$Books", "high", "[I", true)
  | 2 => ("QuernGrains$Books", "sums", "[I", true)
  | 3 => ("QuernGrains$Books", "boundSteps", "I", false)
  | 4 => ("QuernGrains$Books", "fits", "I", false)
  | 5 => ("QuernGrains$Books", "leastSum", "I", false)
  | _ => ("QuernGrains$Books", "greatestSum", "I", false)
def t_Books : Nat → FieldType := fun k => match k with
  | 0 => .array .int
  | 1 => .array .int
  | 2 => .array .int
  | 3 => .int
  | 4 => .int
  | 5 => .int
  | _ => .int
theorem n_Books : ∀ a, a < 7 → ∀ b, b < 7 → a ≠ b → (F_Books a).2.1 ≠ (F_Books b).2.1 := by decide +kernel
theorem t_Books_ok : ∀ k, k < 7 → parseFieldDescriptor (F_Books k).2.2.1 = some (t_Books k) := by decide +kernel
def R_Heap : String := "QuernGrains$Heap"
def F_Heap : u_T := fun k => match k with
  | _ => ("QuernGrains$Heap", "high", "[I", true)
def t_Heap : Nat → FieldType := fun k => match k with
  | _ => .array .int
theorem n_Heap : ∀ a, a < 1 → ∀ b, b < 1 → a ≠ b → (F_Heap a).2.1 ≠ (F_Heap b).2.1 := by decide +kernel
theorem t_Heap_ok : ∀ k, k < 1 → parseFieldDescriptor (F_Heap k).2.2.1 = some (t_Heap k) := by decide +kernel
def R_Finds : String := "QuernGrains$Finds"
def F_Finds : u_T := fun k => match k with
  | 0 => ("QuernGrains$Finds", "counts", "[[I", true)
  | 1 => ("QuernGrains$Finds", "blindSo", "[[I", true)
  | 2 => ("QuernGrains$Finds", "readPatches", "I", false)
  | 3 => ("QuernGrains$Finds", "blindInAll", "I", false)
  | _ => ("QuernGrains$Finds", "shutIn", "I", false)
def t_Finds : Nat → FieldType := fun k => match k with
  | 0 => .array (.array .int)
  | 1 => .array (.array .int)
  | 2 => .int
  | 3 => .int
  | _ => .int
theorem n_Finds : ∀ a, a < 5 → ∀ b, b < 5 → a ≠ b → (F_Finds a).2.1 ≠ (F_Finds b).2.1 := by decide +kernel
theorem t_Finds_ok : ∀ k, k < 5 → parseFieldDescriptor (F_Finds k).2.2.1 = some (t_Finds k) := by decide +kernel
def R_Quern : String := "QuernGrains$Quern"
def F_Quern : u_T := fun k => match k with
  | 0 => ("QuernGrains$Quern", "sorts", "I", false)
  | 1 => ("QuernGrains$Quern", "patches", "I", false)
  | 2 => ("QuernGrains$Quern", "waves", "[[I", true)
  | 3 => ("QuernGrains$Quern", "stone", "[I", true)
  | 4 => ("QuernGrains$Quern", "kind", "[I", true)
  | 5 => ("QuernGrains$Quern", "area", "[I", true)
  | 6 => ("QuernGrains$Quern", "steps", "[I", true)
  | 7 => ("QuernGrains$Quern", "used", "[[I", true)
  | 8 => ("QuernGrains$Quern", "booked", "[[I", true)
  | 9 => ("QuernGrains$Quern", "washed", "[I", true)
  | 10 => ("QuernGrains$Quern", "hours", "[I", true)
  | 11 => ("QuernGrains$Quern", "mustBe", "I", false)
  | _ => ("QuernGrains$Quern", "slipping", "[[I", true)
def t_Quern : Nat → FieldType := fun k => match k with
  | 0 => .int
  | 1 => .int
  | 2 => .array (.array .int)
  | 3 => .array .int
  | 4 => .array .int
  | 5 => .array .int
  | 6 => .array .int
  | 7 => .array (.array .int)
  | 8 => .array (.array .int)
  | 9 => .array .int
  | 10 => .array .int
  | 11 => .int
  | _ => .array (.array .int)
theorem n_Quern : ∀ a, a < 13 → ∀ b, b < 13 → a ≠ b → (F_Quern a).2.1 ≠ (F_Quern b).2.1 := by decide +kernel
theorem t_Quern_ok : ∀ k, k < 13 → parseFieldDescriptor (F_Quern k).2.2.1 = some (t_Quern k) := by decide +kernel
def R_Main : String := "QuernGrains"
def F_Main : u_T := fun k => match k with
  | 0 => ("QuernGrains", "text", "LQuernGrains$Text;", true)
  | 1 => ("QuernGrains", "scribe", "LQuernGrains$Scribe;", true)
  | 2 => ("QuernGrains", "fitting", "LQuernGrains$Books;", true)
  | 3 => ("QuernGrains", "waveHeap", "LQuernGrains$Heap;", true)
  | 4 => ("QuernGrains", "finds", "LQuernGrains$Finds;", true)
  | 5 => ("QuernGrains", "kept", "[LQuernGrains$Finds;", true)
  | 6 => ("QuernGrains", "keptCount", "I", false)
  | 7 => ("QuernGrains", "laid", "LQuernGrains$Quern;", false)
  | _ => ("QuernGrains", "spare", "LQuernGrains$Quern;", false)
def t_Main : Nat → FieldType := fun k => match k with
  | 0 => .object "QuernGrains$Text"
  | 1 => .object "QuernGrains$Scribe"
  | 2 => .object "QuernGrains$Books"
  | 3 => .object "QuernGrains$Heap"
  | 4 => .object "QuernGrains$Finds"
  | 5 => .array (.object "QuernGrains$Finds")
  | 6 => .int
  | 7 => .object "QuernGrains$Quern"
  | _ => .object "QuernGrains$Quern"
theorem n_Main : ∀ a, a < 9 → ∀ b, b < 9 → a ≠ b → (F_Main a).2.1 ≠ (F_Main b).2.1 := by decide +kernel
theorem t_Main_ok : ∀ k, k < 9 → parseFieldDescriptor (F_Main k).2.2.1 = some (t_Main k) := by decide +kernel
def R_Model : String := "QuernGrainsModel"
def F_Model : u_T := fun k => match k with
  | 0 => ("QuernGrainsModel", "length", "I", false)
  | 1 => ("QuernGrainsModel", "text", "[I", true)
  | 2 => ("QuernGrainsModel", "sortMany", "[I", true)
  | 3 => ("QuernGrainsModel", "waves", "[I", true)
  | 4 => ("QuernGrainsModel", "faceMany", "[I", true)
  | 5 => ("QuernGrainsModel", "stones", "[I", true)
  | 6 => ("QuernGrainsModel", "kinds", "[I", true)
  | 7 => ("QuernGrainsModel", "areas", "[I", true)
  | 8 => ("QuernGrainsModel", "steps", "[I", true)
  | 9 => ("QuernGrainsModel", "uses", "[I", true)
  | 10 => ("QuernGrainsModel", "rains", "[I", true)
  | 11 => ("QuernGrainsModel", "washes", "[I", true)
  | 12 => ("QuernGrainsModel", "hours", "[I", true)
  | 13 => ("QuernGrainsModel", "musts", "[I", true)
  | 14 => ("QuernGrainsModel", "calls", "[I", true)
  | 15 => ("QuernGrainsModel", "counts", "[I", true)
  | 16 => ("QuernGrainsModel", "reads", "[I", true)
  | 17 => ("QuernGrainsModel", "blinds", "[I", true)
  | 18 => ("QuernGrainsModel", "shut", "[I", true)
  | 19 => ("QuernGrainsModel", "keptMany", "I", false)
  | 20 => ("QuernGrainsModel", "place", "I", false)
  | 21 => ("QuernGrainsModel", "told", "[I", true)
  | 22 => ("QuernGrainsModel", "pile", "[I", true)
  | 23 => ("QuernGrainsModel", "heads", "[I", true)
  | _ => ("QuernGrainsModel", "row", "[I", true)
def t_Model : Nat → FieldType := fun k => match k with
  | 0 => .int
  | 1 => .array .int
  | 2 => .array .int
  | 3 => .array .int
  | 4 => .array .int
  | 5 => .array .int
  | 6 => .array .int
  | 7 => .array .int
  | 8 => .array .int
  | 9 => .array .int
  | 10 => .array .int
  | 11 => .array .int
  | 12 => .array .int
  | 13 => .array .int
  | 14 => .array .int
  | 15 => .array .int
  | 16 => .array .int
  | 17 => .array .int
  | 18 => .array .int
  | 19 => .int
  | 20 => .int
  | 21 => .array .int
  | 22 => .array .int
  | 23 => .array .int
  | _ => .array .int
theorem n_Model : ∀ a, a < 25 → ∀ b, b < 25 → a ≠ b → (F_Model a).2.1 ≠ (F_Model b).2.1 := by decide +kernel
theorem t_Model_ok : ∀ k, k < 25 → parseFieldDescriptor (F_Model k).2.2.1 = some (t_Model k) := by decide +kernel
def R_Odds : String := "QuernGrains$Odds"
def R_Integer : String := "java/lang/Integer"
def R_Math : String := "java/lang/Math"
def R_Arrays : String := "java/util/Arrays"
abbrev classes : List vw_C := [(R_Text, F_Text, 2), (R_Scribe, F_Scribe, 1), (R_Books, F_Books, 7), (R_Heap, F_Heap, 1), (R_Finds, F_Finds, 5), (R_Quern, F_Quern, 13), (R_Main, F_Main, 9), (R_Model, F_Model, 25)]
def z_ok (w : Cond) : Bool := (w.onTables && w.keeps) || (match w with | .arrayClass _ => true | _ => false)
def zT : List Cond := lw_tbl.filter z_ok
theorem zT_in {w : Cond} (h : w ∈ lw_tbl) (g : z_ok w = true) : w ∈ zT := List.mem_filter.mpr ⟨h, g⟩
theorem zT_good : ∀ w ∈ zT, ((w.onTables && w.keeps) = true ∨ ∃ ty, w = .arrayClass ty) := by
  intro w hw
  have h1 := (List.mem_filter.mp hw).2
  unfold z_ok at h1
  rcases (Bool.or_eq_true _ _).mp h1 with h2 | h2
  · exact Or.inl h2
  · right
    cases w <;> first | exact ⟨_, rfl⟩ | cases h2
def z_nest : List Cond := [.methodLinkNest "QuernGrains" 9 ⟨"QuernGrains$Text", "<init>", "()V"⟩ "QuernGrains", .methodLinkNest "QuernGrains" 18 ⟨"QuernGrains$Scribe", "<init>", "()V"⟩ "QuernGrains", .methodLinkNest "QuernGrains" 25 ⟨"QuernGrains$Books", "<init>", "()V"⟩ "QuernGrains", .methodLinkNest "QuernGrains" 32 ⟨"QuernGrains$Heap", "<init>", "()V"⟩ "QuernGrains", .methodLinkNest "QuernGrains" 39 ⟨"QuernGrains$Finds", "<init>", "()V"⟩ "QuernGrains", .methodLinkNest "QuernGrains" 50 ⟨"QuernGrains$Quern", "<init>", "()V"⟩ "QuernGrains", .methodLinkNest "QuernGrains$Quern" 90 ⟨"QuernGrains", "within", "(III)Z"⟩ "QuernGrains", .methodLinkNest "QuernGrains$Heap" 15 ⟨"QuernGrains", "within", "(III)Z"⟩ "QuernGrains"]
theorem z_nest_in : ∀ w ∈ z_nest, w ∈ lw_tbl := by decide +kernel
theorem z_nest_t : ∀ w ∈ z_nest, w.onTables = true := by decide +kernel
theorem i_Text : ∀ w ∈ u_ws R_Text F_Text 2, w ∈ zT := fun w h => zT_in ((by decide +kernel : ∀ w ∈ u_ws R_Text F_Text 2, w ∈ lw_tbl) w h) ((by decide +kernel : ∀ w ∈ u_ws R_Text F_Text 2, z_ok w = true) w h)
theorem i_Scribe : ∀ w ∈ u_ws R_Scribe F_Scribe 1, w ∈ zT := fun w h => zT_in ((by decide +kernel : ∀ w ∈ u_ws R_Scribe F_Scribe 1, w ∈ lw_tbl) w h) ((by decide +kernel : ∀ w ∈ u_ws R_Scribe F_Scribe 1, z_ok w = true) w h)
theorem i_Books : ∀ w ∈ u_ws R_Books F_Books 7, w ∈ zT := fun w h => zT_in ((by decide +kernel : ∀ w ∈ u_ws R_Books F_Books 7, w ∈ lw_tbl) w h) ((by decide +kernel : ∀ w ∈ u_ws R_Books F_Books 7, z_ok w = true) w h)
theorem i_Heap : ∀ w ∈ u_ws R_Heap F_Heap 1, w ∈ zT := fun w h => zT_in ((by decide +kernel : ∀ w ∈ u_ws R_Heap F_Heap 1, w ∈ lw_tbl) w h) ((by decide +kernel : ∀ w ∈ u_ws R_Heap F_Heap 1, z_ok w = true) w h)
theorem i_Finds : ∀ w ∈ u_ws R_Finds F_Finds 5, w ∈ zT := fun w h => zT_in ((by decide +kernel : ∀ w ∈ u_ws R_Finds F_Finds 5, w ∈ lw_tbl) w h) ((by decide +kernel : ∀ w ∈ u_ws R_Finds F_Finds 5, z_ok w = true) w h)
theorem i_Quern : ∀ w ∈ u_ws R_Quern F_Quern 13, w ∈ zT := fun w h => zT_in ((by decide +kernel : ∀ w ∈ u_ws R_Quern F_Quern 13, w ∈ lw_tbl) w h) ((by decide +kernel : ∀ w ∈ u_ws R_Quern F_Quern 13, z_ok w = true) w h)
theorem i_Main : ∀ w ∈ u_ws R_Main F_Main 9, w ∈ zT := fun w h => zT_in ((by decide +kernel : ∀ w ∈ u_ws R_Main F_Main 9, w ∈ lw_tbl) w h) ((by decide +kernel : ∀ w ∈ u_ws R_Main F_Main 9, z_ok w = true) w h)
theorem i_Model : ∀ w ∈ u_ws R_Model F_Model 25, w ∈ zT := fun w h => zT_in ((by decide +kernel : ∀ w ∈ u_ws R_Model F_Model 25, w ∈ lw_tbl) w h) ((by decide +kernel : ∀ w ∈ u_ws R_Model F_Model 25, z_ok w = true) w h)
-- shapes of the cells: kind (0 ints, 1 rows of ints, 2 finds, 10 + class), length
def z_shl : List (Nat × Int) := [(99, 0), (16, 9), (10, 2), (0, 500), (11, 1), (0, 4), (12, 7), (0, 16), (0, 16), (0, 16), (13, 1), (0, 4), (14, 5), (1, 10), (0, 6), (0, 6), (0, 6), (0, 6), (0, 6), (0, 6), (0, 6), (0, 6), (0, 6), (0, 6), (1, 6), (0, 6), (0, 6), (0, 6), (0, 6), (0, 6), (0, 6), (2, 2), (15, 13), (1, 6), (0, 4), (0, 4), (0, 4), (0, 4), (0, 4), (0, 4), (0, 10), (0, 10), (0, 10), (0, 10), (1, 10), (0, 6), (0, 6), (0, 6), (0, 6), (0, 6), (0, 6), (0, 6), (0, 6), (0, 6), (0, 6), (1, 4), (0, 6), (0, 6), (0, 6), (0, 6), (0, 4), (0, 4), (1, 6), (0, 6), (0, 6), (0, 6), (0, 6), (0, 6), (0, 6), (15, 13), (1, 6), (0, 4), (0, 4), (0, 4), (0, 4), (0, 4), (0, 4), (0, 10), (0, 10), (0, 10), (0, 10), (1, 10), (0, 6), (0, 6), (0, 6), (0, 6), (0, 6), (0, 6), (0, 6), (0, 6), (0, 6), (0, 6), (1, 4), (0, 6), (0, 6), (0, 6), (0, 6), (0, 4), (0, 4), (1, 6), (0, 6), (0, 6), (0, 6), (0, 6), (0, 6), (0, 6), (14, 5), (1, 10), (0, 6), (0, 6), (0, 6), (0, 6), (0, 6), (0, 6), (0, 6), (0, 6), (0, 6), (0, 6), (1, 6), (0, 6), (0, 6), (0, 6), (0, 6), (0, 6), (0, 6), (14, 5), (1, 10), (0, 6), (0, 6), (0, 6), (0, 6), (0, 6), (0, 6), (0, 6), (0, 6), (0, 6), (0, 6), (1, 6), (0, 6), (0, 6), (0, 6), (0, 6), (0, 6), (0, 6), (17, 25), (0, 500), (0, 2), (0, 48), (0, 2), (0, 20), (0, 20), (0, 20), (0, 20), (0, 120), (0, 48), (0, 8), (0, 8), (0, 8), (0, 72), (0, 180), (0, 30), (0, 108), (0, 3), (0, 4), (0, 4), (0, 6), (0, 4)]
end
section
/-! MY LAYER: a flat memory D (cell, place -> number) laid over the heap; the judgement Zv: 'if the pure answer o is some r, the machine comes to Qf r'. -/
abbrev Mm : Type := Int → Int → Int
abbrev Zt : Type := va_G × (Nat → ClassId) × (Int → Nat) × Int × Nat
abbrev Gt : Type := Program × Launch × Env × Room × State × MethodId × Array Value × List Frame × Method × Code
def zI (x : Int) : Int32 := Int32.ofInt x
def zL (x : Int) : Int64 := Int64.ofInt x
def zi (x : Int) : Value := .int (zI x)
def zl (x : Int) : Value := .long (zL x)
def zr (Z : Zt) (a : Int) : Value := .ref (Z.2.2.1 a)
def sh (a : Int) : Nat × Int := z_shl.getD a.toNat (99, 0)
def Zin (Z : Zt) (a : Int) (k : Nat) (n : Int) : Prop := sh a = (k, n) ∧ 1 ≤ a ∧ a ≤ Z.2.2.2.1
def fl (ci : Nat) (Z : Zt) (D : Mm) (a : Int) : List Value := match ci with
  | 0 => [zr Z 3, zi (D a 1)]
  | 1 => [zr Z 5]
  | 2 => [zr Z 7, zr Z 8, zr Z 9, zi (D a 3), zi (D a 4), zi (D a 5), zi (D a 6)]
  | 3 => [zr Z 11]
  | 4 => [zr Z (a + 1), zr Z (a + 12), zi (D a 2), zi (D a 3), zi (D a 4)]
  | 5 => [zi (D a 0), zi (D a 1), zr Z (a + 1), zr Z (a + 8), zr Z (a + 9), zr Z (a + 10), zr Z (a + 11), zr Z (a + 12), zr Z (a + 23), zr Z (a + 28), zr Z (a + 29), zi (D a 11), zr Z (a + 30)]
  | 6 => [zr Z 2, zr Z 4, zr Z 6, zr Z 10, zr Z 12, zr Z 31, zi (D a 6), zr Z (D a 7), zr Z (D a 8)]
  | _ => [zi (D a 0), zr Z 145, zr Z 146, zr Z 147, zr Z 148, zr Z 149, zr Z 150, zr Z 151, zr Z 152, zr Z 153, zr Z 154, zr Z 155, zr Z 156, zr Z 157, zr Z 158, zr Z 159, zr Z 160, zr Z 161, zr Z 162, zi (D a 19), zi (D a 20), zr Z 163, zr Z 164, zr Z 165, zr Z 166]
def em (Z : Zt) (D : Mm) (a : Int) (s : Nat × Int) : va_E :=
  if s.1 = 0 then .inl (Z.2.1 0, (s.2.toNat, .inl (fun j => zI (D a (j : Int)))))
  else if s.1 = 1 then .inl (Z.2.1 1, (s.2.toNat, .inr (.inr (.inr (.inr (fun j => some (Z.2.2.1 (a + 1 + (j : Int)))))))))
  else if s.1 = 2 then .inl (Z.2.1 2, (s.2.toNat, .inr (.inr (.inr (.inr (fun j => some (Z.2.2.1 (106 + 19 * (j : Int)))))))))
  else .inr (s.1 - 10, fl (s.1 - 10) Z D a)
def wl (Z : Zt) (D : Mm) : va_W := (List.range Z.2.2.2.1.toNat).map (fun k : Nat => (Z.2.2.1 ((k : Int) + 1), em Z D ((k : Int) + 1) (sh ((k : Int) + 1))))
def zA (Z : Zt) : Nat → Prop := fun q => Z.2.2.2.2 ≤ q
def Zok (Z : Zt) : Prop := (∀ a b : Int, 1 ≤ a → a ≤ Z.2.2.2.1 → 1 ≤ b → b ≤ Z.2.2.2.1 → Z.2.2.1 a = Z.2.2.1 b → a = b) ∧ ∀ a : Int, 1 ≤ a → a ≤ Z.2.2.2.1 → Z.2.2.2.2 ≤ Z.2.2.1 a
def zty (Z : Zt) : List (ClassId × FieldType) := [(Z.2.1 0, .int), (Z.2.1 1, .array .int), (Z.2.1 2, .object "QuernGrains$Finds")]
def zK (Z : Zt) (U : State) : Prop := va_K Z.1 classes (zty Z) U ∧ ∀ w ∈ z_nest, va_Nw w U
def Wd (Z : Zt) (D : Mm) (H : Heap) : Prop := va_P Z.1 classes (wl Z D) H
def Cx (Γ : Gt) (Z : Zt) (cc : ByteArray) (own : String) (nL : Nat) (ret : Option FieldType) (R : Room) : Prop :=
  Γ.1.tables.exec = Jvm.exec ∧ Γ.2.2.2.2.2.2.2.2.2.code = cc ∧ Γ.2.2.2.2.2.2.2.2.2.maxLocals = nL ∧ Γ.2.2.2.2.1.vm.findClass own = some Γ.2.2.2.2.2.1.cls ∧ (∀ w ∈ zT, w.before Γ.2.2.2.2.2.2.1 Γ.2.2.2.2.1 = true) ∧
  zK Z Γ.2.2.2.2.1 ∧ Γ.2.2.2.2.2.2.2.2.1.locks = false ∧ Zok Z ∧ Γ.2.2.2.2.2.2.2.2.1.sig.returnType = ret ∧ Γ.2.2.2.1 = R
def zW (Γ : Gt) (H : Heap) (locs : List Loc) (Q : State → Prop) (pc : Nat) (ls : Array Slot) (st : List Value) : Prop :=
  W Γ.1 Γ.2.1 Γ.2.2.1 Γ.2.2.2.1 Γ.2.2.2.2.1 Γ.2.2.2.2.2.1 Γ.2.2.2.2.2.2.1 Γ.2.2.2.2.2.2.2.1 Γ.2.2.2.2.2.2.2.2.1 Γ.2.2.2.2.2.2.2.2.2 H locs 0 0 Q (F0 Γ.2.2.2.2.2.1 pc ls st)
def Zv {α : Type} (Γ : Gt) (Z : Zt) (nL : Nat) (Qf : α → State → Prop) (o : Option α) (D : Mm) (pc : Nat) (lv : List (Nat × Value)) (st : List Value) : Prop :=
  ∀ r, o = some r → ∀ (H : Heap) (locs : List Loc) (ls : Array Slot), Wd Z D H → va_S (zA Z) Γ.2.2.2.2.1.heap H locs → lv_has ls nL lv → zW Γ H locs (Qf r) pc ls st
-- numbers
theorem zI_add (a b : Int) : zI a + zI b = zI (a + b) := (Int32.ofInt_add a b).symm
theorem zI_sub (a b : Int) : zI a - zI b = zI (a - b) := (Int32.ofInt_sub a b).symm
theorem zI_mul (a b : Int) : zI a * zI b = zI (a * b) := (Int32.ofInt_mul a b).symm
theorem zI_neg (a : Int) : - zI a = zI (-a) := (Int32.ofInt_neg a).symm
theorem zL_add (a b : Int) : zL a + zL b = zL (a + b) := (Int64.ofInt_add a b).symm
theorem zL_sub (a b : Int) : zL a - zL b = zL (a - b) := (Int64.ofInt_sub a b).symm
theorem zL_mul (a b : Int) : zL a * zL b = zL (a * b) := (Int64.ofInt_mul a b).symm
theorem zI_of (x : Int32) : zI x.toInt = x := Int32.ofInt_toInt x
theorem zL_of (x : Int64) : zL x.toInt = x := Int64.ofInt_toInt x
theorem zI_toInt {x : Int} (h1 : -2147483648 ≤ x) (h2 : x < 2147483648) : (zI x).toInt = x := by
  unfold zI
  rw [Int32.toInt_ofInt]
  have e : ((Int32.size : Nat) : Int) = 4294967296 := rfl
  exact Int.bmod_eq_of_le (by omega) (by omega)
theorem zL_toInt {x : Int} (h1 : -9223372036854775808 ≤ x) (h2 : x < 9223372036854775808) : (zL x).toInt = x := by
  unfold zL
  rw [Int64.toInt_ofInt]
  have e : ((Int64.size : Nat) : Int) = 18446744073709551616 := rfl
  exact Int.bmod_eq_of_le (by omega) (by omega)
def jdiv (x y : Int) : Int := (zI x / zI y).toInt
def jrem (x y : Int) : Int := (zI x - zI x / zI y * zI y).toInt
def jand (x y : Int) : Int := (zI x &&& zI y).toInt
def jor (x y : Int) : Int := (zI x ||| zI y).toInt
def jxor (x y : Int) : Int := (zI x ^^^ zI y).toInt
def jshl (x y : Int) : Int := (zI x <<< (zI y &&& 31)).toInt
def jshr (x y : Int) : Int := (zI x >>> (zI y &&& 31)).toInt
def jushr (x y : Int) : Int := ((zI x).toUInt32 >>> ((zI y).toUInt32 &&& Int32.toUInt32 31)).toInt32.toInt
def jldiv (x y : Int) : Int := (zL x / zL y).toInt
def jlrem (x y : Int) : Int := (zL x - zL x / zL y * zL y).toInt
def jland (x y : Int) : Int := (zL x &&& zL y).toInt
def jlor (x y : Int) : Int := (zL x ||| zL y).toInt
def jlshl (x y : Int) : Int := (zL x <<< ((zI y).toInt64 &&& 63)).toInt
def jlshr (x y : Int) : Int := (zL x >>> ((zI y).toInt64 &&& 63)).toInt
def jlushr (x y : Int) : Int := ((zL x).toUInt64 >>> ((zI y).toInt64.toUInt64 &&& Int64.toUInt64 63)).toInt64.toInt
def ji2l (x : Int) : Int := (zI x).toInt64.toInt
def jl2i (x : Int) : Int := (zL x).toInt32.toInt
-- memory
def stm (D : Mm) (a i x : Int) : Mm := fun a' i' => if a' = a ∧ i' = i then x else D a' i'
def cpm (D : Mm) (s sp d dp n : Int) : Mm := fun a' i' => if a' = d ∧ dp ≤ i' ∧ i' < dp + n then D s (sp + (i' - dp)) else D a' i'
theorem wl_at {Z : Zt} {D : Mm} {a : Int} (h1 : 1 ≤ a) (h2 : a ≤ Z.2.2.2.1) : (wl Z D)[a.toNat - 1]? = some (Z.2.2.1 a, em Z D a (sh a)) := by
  have e : ((a.toNat - 1 : Nat) : Int) + 1 = a := by omega
  unfold wl
  rw [List.getElem?_map, List.getElem?_range (by omega)]
  simp only [Option.map_some, e]
theorem wl_D {Z : Zt} (hz : Zok Z) (D : Mm) : va_D (zA Z) (wl Z D) := by
  have g : ∀ (k : Nat) (p : Nat × va_E), (wl Z D)[k]? = some p → (k : Int) + 1 ≤ Z.2.2.2.1 ∧ p.1 = Z.2.2.1 ((k : Int) + 1) := by
    intro k p h
    unfold wl at h
    rw [List.getElem?_map] at h
    by_cases hk : k < Z.2.2.2.1.toNat
    · rw [List.getElem?_range hk] at h
      simp only [Option.map_some, Option.some.injEq] at h
      exact ⟨by omega, by rw [← h]⟩
    · rw [List.getElem?_eq_none (by simp; omega)] at h
      cases h
  refine ⟨fun i j p q h1 h2 e => ?_, fun k q h => ?_⟩
  · obtain ⟨a1, a2⟩ := g i p h1
    obtain ⟨b1, b2⟩ := g j q h2
    have := hz.1 ((i : Int) + 1) ((j : Int) + 1) (by omega) a1 (by omega) b1 (by rw [← a2, ← b2, e])
    omega
  · obtain ⟨a1, a2⟩ := g k q h
    rw [a2]
    exact hz.2 _ (by omega) a1
theorem wl_set {Z : Zt} {D D' : Mm} {a : Int} {e : va_E} (h1 : 1 ≤ a) (h2 : a ≤ Z.2.2.2.1) (he : em Z D' a (sh a) = e) (ho : ∀ b : Int, b ≠ a → em Z D' b (sh b) = em Z D b (sh b)) : (wl Z D).set (a.toNat - 1) (Z.2.2.1 a, e) = wl Z D' := by
  apply List.ext_getElem?
  intro k
  by_cases hk : k = a.toNat - 1
  · subst hk
    rw [wl_at h1 h2, he, List.getElem?_set_self (by unfold wl; simp; omega)]
  · rw [List.getElem?_set_ne (Ne.symm hk)]
    unfold wl
    rw [List.getElem?_map, List.getElem?_map]
    cases hr : (List.range Z.2.2.2.1.toNat)[k]? with
    | none => rfl
    | some j =>
      have hj : j = k := by
        have hlt := (List.getElem?_eq_some_iff.mp hr).1
        rw [List.getElem?_range (by simpa using hlt)] at hr
        exact (Option.some.inj hr).symm
      subst hj
      simp only [Option.map_some]
      rw [ho _ (by omega)]
theorem em_arr {Z : Zt} {D : Mm} {a n : Int} : em Z D a (0, n) = .inl (Z.2.1 0, (n.toNat, .inl (fun j => zI (D a (j : Int))))) := rfl
theorem em_row {Z : Zt} {D : Mm} {a n : Int} : em Z D a (1, n) = .inl (Z.2.1 1, (n.toNat, .inr (.inr (.inr (.inr (fun j => some (Z.2.2.1 (a + 1 + (j : Int))))))))) := rfl
theorem em_fnd {Z : Zt} {D : Mm} {a n : Int} : em Z D a (2, n) = .inl (Z.2.1 2, (n.toNat, .inr (.inr (.inr (.inr (fun j => some (Z.2.2.1 (106 + 19 * (j : Int))))))))) := rfl
theorem em_obj {Z : Zt} {D : Mm} {a n : Int} {ci : Nat} : em Z D a (10 + ci, n) = .inr (ci, fl ci Z D a) := by
  unfold em
  rw [if_neg (by show ¬ 10 + ci = 0; omega), if_neg (by show ¬ 10 + ci = 1; omega), if_neg (by show ¬ 10 + ci = 2; omega)]
  show Sum.inr (10 + ci - 10, fl (10 + ci - 10) Z D a) = _
  rw [Nat.add_sub_cancel_left]
theorem fl_oth {Z : Zt} {D : Mm} {a i x b : Int} (h : b ≠ a) (ci : Nat) : fl ci Z (stm D a i x) b = fl ci Z D b := by
  have e : ∀ j, stm D a i x b j = D b j := fun j => by unfold stm; rw [if_neg (fun q => h q.1)]
  unfold fl
  split <;> simp only [e]
theorem em_oth {Z : Zt} {D : Mm} {a i x b : Int} (h : b ≠ a) (s : Nat × Int) : em Z (stm D a i x) b s = em Z D b s := by
  have e : ∀ j, stm D a i x b j = D b j := fun j => by unfold stm; rw [if_neg (fun q => h q.1)]
  unfold em
  rw [fl_oth h]
  simp only [e]
theorem vp_in_z {i n : Int} (h1 : 0 ≤ i) (h2 : i < n) (h3 : n ≤ 2147483647) : vp_in (zI i) n.toNat ∧ (zI i).toNatClampNeg = i.toNat := by
  have e : (zI i).toInt = i := zI_toInt (by omega) (by omega)
  refine ⟨vp_in_iff.mpr ⟨by rw [e]; exact h1, by rw [e]; omega⟩, ?_⟩
  show (zI i).toInt.toNat = _
  rw [e]
end
section
section ZR
variable {α : Type} {Γ : Gt} {Z : Zt} {nL : Nat} {Qf : α → State → Prop} {o o1 o2 : Option α} {D : Mm} {pc : Nat} {lv lv2 : List (Nat × Value)} {st : List Value} {cc : ByteArray} {own : String} {ret : Option FieldType} {R : Room}
def wI (x : Int) : Int := (zI x).toInt
theorem zv_iconst (X : Cx Γ Z cc own nL ret R) {n : Int} (hdg : decode cc pc = .ok (.iconst n, 1)) (k : Zv Γ Z nL Qf o D (pc + 1) lv (zi n :: st)) : Zv Γ Z nL Qf o D pc lv st := by
  intro r hr H locs ls hw hs hl
  exact lv_iconst X.1 X.2.1 hdg rfl (k r hr H locs ls hw hs hl)
theorem zv_bipush (X : Cx Γ Z cc own nL ret R) {n : Int} (hdg : decode cc pc = .ok (.bipush n, 2)) (hv : (Int8.ofInt n).toInt32 = zI n) (k : Zv Γ Z nL Qf o D (pc + 2) lv (zi n :: st)) : Zv Γ Z nL Qf o D pc lv st := by
  intro r hr H locs ls hw hs hl
  exact lv_bipush X.1 X.2.1 hdg hv (k r hr H locs ls hw hs hl)
theorem zv_sipush (X : Cx Γ Z cc own nL ret R) {n : Int} (hdg : decode cc pc = .ok (.sipush n, 3)) (hv : (Int16.ofInt n).toInt32 = zI n) (k : Zv Γ Z nL Qf o D (pc + 3) lv (zi n :: st)) : Zv Γ Z nL Qf o D pc lv st := by
  intro r hr H locs ls hw hs hl
  exact lv_sipush X.1 X.2.1 hdg hv (k r hr H locs ls hw hs hl)
theorem zv_lconst (X : Cx Γ Z cc own nL ret R) {n : Fin 2} {x : Int} (hdg : decode cc pc = .ok (.lconst n, 1)) (hv : Int64.ofNat (n : Nat) = zL x) (k : Zv Γ Z nL Qf o D (pc + 1) lv (zl x :: st)) : Zv Γ Z nL Qf o D pc lv st := by
  intro r hr H locs ls hw hs hl
  exact lv_lconst X.1 X.2.1 hdg hv (k r hr H locs ls hw hs hl)
theorem zv_ldc2 (X : Cx Γ Z cc own nL ret R) {index : Nat} {v : Int64} (x : Int) (hc : Cond.constantLong own index v ∈ zT) (hv : v = zL x) (hdg : decode cc pc = .ok (.ldc2_w index, 3)) (k : Zv Γ Z nL Qf o D (pc + 3) lv (zl x :: st)) : Zv Γ Z nL Qf o D pc lv st := by
  intro r hr H locs ls hw hs hl
  subst hv
  exact lv_ldc2 X.1 X.2.1 X.2.2.2.1 (X.2.2.2.2.1 _ hc) hdg (k r hr H locs ls hw hs hl)
theorem zv_ldcw (X : Cx Γ Z cc own nL ret R) {index : Nat} {v : Int32} (x : Int) (hc : Cond.constant own index v ∈ zT) (hv : v = zI x) (hdg : decode cc pc = .ok (.ldc_w index, 3)) (k : Zv Γ Z nL Qf o D (pc + 3) lv (zi x :: st)) : Zv Γ Z nL Qf o D pc lv st := by
  intro r hr H locs ls hw hs hl
  subst hv
  exact lv_ldcw X.1 X.2.1 X.2.2.2.1 (X.2.2.2.2.1 _ hc) hdg (k r hr H locs ls hw hs hl)
theorem zv_ldc (X : Cx Γ Z cc own nL ret R) {index : Nat} {v : Int32} (x : Int) (hc : Cond.constant own index v ∈ zT) (hv : v = zI x) (hdg : decode cc pc = .ok (.ldc index, 2)) (k : Zv Γ Z nL Qf o D (pc + 2) lv (zi x :: st)) : Zv Γ Z nL Qf o D pc lv st := by
  intro r hr H locs ls hw hs hl
  subst hv
  exact lv_ldc X.1 X.2.1 X.2.2.2.1 (X.2.2.2.2.1 _ hc) hdg (k r hr H locs ls hw hs hl)
theorem zv_iload_n (X : Cx Γ Z cc own nL ret R) {k0 : Fin 4} {i : Nat} {x : Int} (hdg : decode cc pc = .ok (.iload_n k0, 1)) (hi : (k0 : Nat) = i) (q : Nat) (hq : lv[q]? = some (i, zi x)) (k : Zv Γ Z nL Qf o D (pc + 1) lv (zi x :: st)) : Zv Γ Z nL Qf o D pc lv st := by
  intro r hr H locs ls hw hs hl
  exact lv_iload_n X.1 X.2.1 hdg hi (lv_at hl q hq) (k r hr H locs ls hw hs hl)
theorem zv_iload (X : Cx Γ Z cc own nL ret R) {i : Nat} {x : Int} (hdg : decode cc pc = .ok (.iload i, 2)) (q : Nat) (hq : lv[q]? = some (i, zi x)) (k : Zv Γ Z nL Qf o D (pc + 2) lv (zi x :: st)) : Zv Γ Z nL Qf o D pc lv st := by
  intro r hr H locs ls hw hs hl
  exact lv_iload X.1 X.2.1 hdg (lv_at hl q hq) (k r hr H locs ls hw hs hl)
theorem zv_lload_n (X : Cx Γ Z cc own nL ret R) {k0 : Fin 4} {i : Nat} {x : Int} (hdg : decode cc pc = .ok (.lload_n k0, 1)) (hi : (k0 : Nat) = i) (q : Nat) (hq : lv[q]? = some (i, zl x)) (k : Zv Γ Z nL Qf o D (pc + 1) lv (zl x :: st)) : Zv Γ Z nL Qf o D pc lv st := by
  intro r hr H locs ls hw hs hl
  exact lv_lload_n X.1 X.2.1 hdg hi (lv_at hl q hq) (k r hr H locs ls hw hs hl)
theorem zv_lload (X : Cx Γ Z cc own nL ret R) {i : Nat} {x : Int} (hdg : decode cc pc = .ok (.lload i, 2)) (q : Nat) (hq : lv[q]? = some (i, zl x)) (k : Zv Γ Z nL Qf o D (pc + 2) lv (zl x :: st)) : Zv Γ Z nL Qf o D pc lv st := by
  intro r hr H locs ls hw hs hl
  exact lv_lload X.1 X.2.1 hdg (lv_at hl q hq) (k r hr H locs ls hw hs hl)
theorem zv_aload_n (X : Cx Γ Z cc own nL ret R) {k0 : Fin 4} {i : Nat} {x : Int} (hdg : decode cc pc = .ok (.aload_n k0, 1)) (hi : (k0 : Nat) = i) (q : Nat) (hq : lv[q]? = some (i, zr Z x)) (k : Zv Γ Z nL Qf o D (pc + 1) lv (zr Z x :: st)) : Zv Γ Z nL Qf o D pc lv st := by
  intro r hr H locs ls hw hs hl
  exact lv_aload_n X.1 X.2.1 hdg hi (lv_at hl q hq) (k r hr H locs ls hw hs hl)
theorem zv_aload (X : Cx Γ Z cc own nL ret R) {i : Nat} {x : Int} (hdg : decode cc pc = .ok (.aload i, 2)) (q : Nat) (hq : lv[q]? = some (i, zr Z x)) (k : Zv Γ Z nL Qf o D (pc + 2) lv (zr Z x :: st)) : Zv Γ Z nL Qf o D pc lv st := by
  intro r hr H locs ls hw hs hl
  exact lv_aload X.1 X.2.1 hdg (lv_at hl q hq) (k r hr H locs ls hw hs hl)
theorem zv_istore_n (X : Cx Γ Z cc own nL ret R) {k0 : Fin 4} {i : Nat} {x : Int} (hdg : decode cc pc = .ok (.istore_n k0, 1)) (hi : (k0 : Nat) = i) (hn : i < nL) (hf : (i, zi x) :: lv.filter (fun q => !(q.1 == i) && !(q.1 + 1 == i && q.2.category == 2)) = lv2) (k : Zv Γ Z nL Qf o D (pc + 1) lv2 st) : Zv Γ Z nL Qf o D pc lv (zi x :: st) := by
  intro r hr H locs ls hw hs hl
  exact lv_istore_n X.1 X.2.1 hdg hi hl hn hf (fun ls hl => k r hr H locs ls hw hs hl)
theorem zv_istore (X : Cx Γ Z cc own nL ret R) {i : Nat} {x : Int} (hdg : decode cc pc = .ok (.istore i, 2)) (hn : i < nL) (hf : (i, zi x) :: lv.filter (fun q => !(q.1 == i) && !(q.1 + 1 == i && q.2.category == 2)) = lv2) (k : Zv Γ Z nL Qf o D (pc + 2) lv2 st) : Zv Γ Z nL Qf o D pc lv (zi x :: st) := by
  intro r hr H locs ls hw hs hl
  exact lv_istore X.1 X.2.1 hdg hl hn hf (fun ls hl => k r hr H locs ls hw hs hl)
theorem zv_lstore_n (X : Cx Γ Z cc own nL ret R) {k0 : Fin 4} {i : Nat} {x : Int} (hdg : decode cc pc = .ok (.lstore_n k0, 1)) (hi : (k0 : Nat) = i) (hn : i + 1 < nL) (hf : (i, zl x) :: lv.filter (fun q => !(q.1 == i) && (!(q.1 == i + 1) && !(q.1 + 1 == i && q.2.category == 2))) = lv2) (k : Zv Γ Z nL Qf o D (pc + 1) lv2 st) : Zv Γ Z nL Qf o D pc lv (zl x :: st) := by
  intro r hr H locs ls hw hs hl
  exact lv_lstore_n X.1 X.2.1 hdg hi hl hn hf (fun ls hl => k r hr H locs ls hw hs hl)
theorem zv_lstore (X : Cx Γ Z cc own nL ret R) {i : Nat} {x : Int} (hdg : decode cc pc = .ok (.lstore i, 2)) (hn : i + 1 < nL) (hf : (i, zl x) :: lv.filter (fun q => !(q.1 == i) && (!(q.1 == i + 1) && !(q.1 + 1 == i && q.2.category == 2))) = lv2) (k : Zv Γ Z nL Qf o D (pc + 2) lv2 st) : Zv Γ Z nL Qf o D pc lv (zl x :: st) := by
  intro r hr H locs ls hw hs hl
  exact lv_lstore X.1 X.2.1 hdg hl hn hf (fun ls hl => k r hr H locs ls hw hs hl)
theorem zv_astore_n (X : Cx Γ Z cc own nL ret R) {k0 : Fin 4} {i : Nat} {x : Int} (hdg : decode cc pc = .ok (.astore_n k0, 1)) (hi : (k0 : Nat) = i) (hn : i < nL) (hf : (i, zr Z x) :: lv.filter (fun q => !(q.1 == i) && !(q.1 + 1 == i && q.2.category == 2)) = lv2) (k : Zv Γ Z nL Qf o D (pc + 1) lv2 st) : Zv Γ Z nL Qf o D pc lv (zr Z x :: st) := by
  intro r hr H locs ls hw hs hl
  exact lv_astore_n X.1 X.2.1 hdg hi hl hn hf (fun ls hl => k r hr H locs ls hw hs hl)
theorem zv_astore (X : Cx Γ Z cc own nL ret R) {i : Nat} {x : Int} (hdg : decode cc pc = .ok (.astore i, 2)) (hn : i < nL) (hf : (i, zr Z x) :: lv.filter (fun q => !(q.1 == i) && !(q.1 + 1 == i && q.2.category == 2)) = lv2) (k : Zv Γ Z nL Qf o D (pc + 2) lv2 st) : Zv Γ Z nL Qf o D pc lv (zr Z x :: st) := by
  intro r hr H locs ls hw hs hl
  exact lv_astore X.1 X.2.1 hdg hl hn hf (fun ls hl => k r hr H locs ls hw hs hl)
theorem zv_iinc (X : Cx Γ Z cc own nL ret R) {i : Nat} {n x : Int} (hdg : decode cc pc = .ok (.iinc i n, 3)) (q : Nat) (hq : lv[q]? = some (i, zi x)) (hn : i < nL) (hf : (i, zi (x + n)) :: lv.filter (fun q => !(q.1 == i) && !(q.1 + 1 == i && q.2.category == 2)) = lv2) (k : Zv Γ Z nL Qf o D (pc + 3) lv2 st) : Zv Γ Z nL Qf o D pc lv st := by
  intro r hr H locs ls hw hs hl
  exact lv_iinc (v := zI (x + n)) X.1 X.2.1 hdg hl hq (zI_add x n) hn hf (fun ls hl => k r hr H locs ls hw hs hl)
theorem zv_sub (X : Cx Γ Z cc own nL ret R)  (ks : List Nat) (hs0 : lv_pick lv ks = lv2) (k : Zv Γ Z nL Qf o D pc lv2 st) : Zv Γ Z nL Qf o D pc lv st := by
  intro r hr H locs ls hw hs hl
  exact k r hr H locs ls hw hs (lv_sub hl ks hs0)
theorem zv_iadd (X : Cx Γ Z cc own nL ret R) {a b : Int} (hdg : decode cc pc = .ok (.iadd, 1)) (k : Zv Γ Z nL Qf o D (pc + 1) lv (zi (a + b) :: st)) : Zv Γ Z nL Qf o D pc lv (zi b :: zi a :: st) := by
  intro r hr H locs ls hw hs hl
  refine lv_iadd X.1 X.2.1 hdg ?_
  rw [zI_add]
  exact k r hr H locs ls hw hs hl
theorem zv_isub (X : Cx Γ Z cc own nL ret R) {a b : Int} (hdg : decode cc pc = .ok (.isub, 1)) (k : Zv Γ Z nL Qf o D (pc + 1) lv (zi (a - b) :: st)) : Zv Γ Z nL Qf o D pc lv (zi b :: zi a :: st) := by
  intro r hr H locs ls hw hs hl
  refine lv_isub X.1 X.2.1 hdg ?_
  rw [zI_sub]
  exact k r hr H locs ls hw hs hl
theorem zv_imul (X : Cx Γ Z cc own nL ret R) {a b : Int} (hdg : decode cc pc = .ok (.imul, 1)) (k : Zv Γ Z nL Qf o D (pc + 1) lv (zi (a * b) :: st)) : Zv Γ Z nL Qf o D pc lv (zi b :: zi a :: st) := by
  intro r hr H locs ls hw hs hl
  refine lv_imul X.1 X.2.1 hdg ?_
  rw [zI_mul]
  exact k r hr H locs ls hw hs hl
theorem zv_ladd (X : Cx Γ Z cc own nL ret R) {a b : Int} (hdg : decode cc pc = .ok (.ladd, 1)) (k : Zv Γ Z nL Qf o D (pc + 1) lv (zl (a + b) :: st)) : Zv Γ Z nL Qf o D pc lv (zl b :: zl a :: st) := by
  intro r hr H locs ls hw hs hl
  refine lv_ladd X.1 X.2.1 hdg ?_
  rw [zL_add]
  exact k r hr H locs ls hw hs hl
theorem zv_lsub (X : Cx Γ Z cc own nL ret R) {a b : Int} (hdg : decode cc pc = .ok (.lsub, 1)) (k : Zv Γ Z nL Qf o D (pc + 1) lv (zl (a - b) :: st)) : Zv Γ Z nL Qf o D pc lv (zl b :: zl a :: st) := by
  intro r hr H locs ls hw hs hl
  refine lv_lsub X.1 X.2.1 hdg ?_
  rw [zL_sub]
  exact k r hr H locs ls hw hs hl
theorem zv_lmul (X : Cx Γ Z cc own nL ret R) {a b : Int} (hdg : decode cc pc = .ok (.lmul, 1)) (k : Zv Γ Z nL Qf o D (pc + 1) lv (zl (a * b) :: st)) : Zv Γ Z nL Qf o D pc lv (zl b :: zl a :: st) := by
  intro r hr H locs ls hw hs hl
  refine lv_lmul X.1 X.2.1 hdg ?_
  rw [zL_mul]
  exact k r hr H locs ls hw hs hl
theorem zv_iand (X : Cx Γ Z cc own nL ret R) {a b : Int} (hdg : decode cc pc = .ok (.iand, 1)) (k : Zv Γ Z nL Qf o D (pc + 1) lv (zi (jand a b) :: st)) : Zv Γ Z nL Qf o D pc lv (zi b :: zi a :: st) := by
  intro r hr H locs ls hw hs hl
  have k2 := k r hr H locs ls hw hs hl
  unfold zi jand at k2
  rw [zI_of] at k2
  exact lv_iand X.1 X.2.1 hdg k2
theorem zv_ior (X : Cx Γ Z cc own nL ret R) {a b : Int} (hdg : decode cc pc = .ok (.ior, 1)) (k : Zv Γ Z nL Qf o D (pc + 1) lv (zi (jor a b) :: st)) : Zv Γ Z nL Qf o D pc lv (zi b :: zi a :: st) := by
  intro r hr H locs ls hw hs hl
  have k2 := k r hr H locs ls hw hs hl
  unfold zi jor at k2
  rw [zI_of] at k2
  exact lv_ior X.1 X.2.1 hdg k2
theorem zv_ixor (X : Cx Γ Z cc own nL ret R) {a b : Int} (hdg : decode cc pc = .ok (.ixor, 1)) (k : Zv Γ Z nL Qf o D (pc + 1) lv (zi (jxor a b) :: st)) : Zv Γ Z nL Qf o D pc lv (zi b :: zi a :: st) := by
  intro r hr H locs ls hw hs hl
  have k2 := k r hr H locs ls hw hs hl
  unfold zi jxor at k2
  rw [zI_of] at k2
  exact lv_ixor X.1 X.2.1 hdg k2
theorem zv_ishl (X : Cx Γ Z cc own nL ret R) {a b : Int} (hdg : decode cc pc = .ok (.ishl, 1)) (k : Zv Γ Z nL Qf o D (pc + 1) lv (zi (jshl a b) :: st)) : Zv Γ Z nL Qf o D pc lv (zi b :: zi a :: st) := by
  intro r hr H locs ls hw hs hl
  have k2 := k r hr H locs ls hw hs hl
  unfold zi jshl at k2
  rw [zI_of] at k2
  exact lv_ishl X.1 X.2.1 hdg k2
theorem zv_ishr (X : Cx Γ Z cc own nL ret R) {a b : Int} (hdg : decode cc pc = .ok (.ishr, 1)) (k : Zv Γ Z nL Qf o D (pc + 1) lv (zi (jshr a b) :: st)) : Zv Γ Z nL Qf o D pc lv (zi b :: zi a :: st) := by
  intro r hr H locs ls hw hs hl
  have k2 := k r hr H locs ls hw hs hl
  unfold zi jshr at k2
  rw [zI_of] at k2
  exact lv_ishr X.1 X.2.1 hdg k2
theorem zv_land (X : Cx Γ Z cc own nL ret R) {a b : Int} (hdg : decode cc pc = .ok (.land, 1)) (k : Zv Γ Z nL Qf o D (pc + 1) lv (zl (jland a b) :: st)) : Zv Γ Z nL Qf o D pc lv (zl b :: zl a :: st) := by
  intro r hr H locs ls hw hs hl
  have k2 := k r hr H locs ls hw hs hl
  unfold zl jland at k2
  rw [zL_of] at k2
  exact lv_land X.1 X.2.1 hdg k2
theorem zv_lor (X : Cx Γ Z cc own nL ret R) {a b : Int} (hdg : decode cc pc = .ok (.lor, 1)) (k : Zv Γ Z nL Qf o D (pc + 1) lv (zl (jlor a b) :: st)) : Zv Γ Z nL Qf o D pc lv (zl b :: zl a :: st) := by
  intro r hr H locs ls hw hs hl
  have k2 := k r hr H locs ls hw hs hl
  unfold zl jlor at k2
  rw [zL_of] at k2
  exact lv_lor X.1 X.2.1 hdg k2
theorem zv_idivK (X : Cx Γ Z cc own nL ret R) {a b : Int} (hdg : decode cc pc = .ok (.idiv, 1)) (hne : ¬ zI b = 0) (k : Zv Γ Z nL Qf o D (pc + 1) lv (zi (jdiv a b) :: st)) : Zv Γ Z nL Qf o D pc lv (zi b :: zi a :: st) := by
  intro r hr H locs ls hw hs hl
  have k2 := k r hr H locs ls hw hs hl
  unfold zi jdiv at k2
  rw [zI_of] at k2
  exact lv_idiv X.1 X.2.1 hdg hne k2
theorem zv_idiv (X : Cx Γ Z cc own nL ret R) {a b : Int} {inst : Decidable (zI b = 0)} (hdg : decode cc pc = .ok (.idiv, 1)) (k : ¬ zI b = 0 → Zv Γ Z nL Qf o D (pc + 1) lv (zi (jdiv a b) :: st)) : Zv Γ Z nL Qf (@ite _ (zI b = 0) inst none o) D pc lv (zi b :: zi a :: st) := by
  by_cases hne : zI b = 0
  · rw [if_pos hne]
    intro r hr
    cases hr
  · rw [if_neg hne]
    exact zv_idivK X hdg hne (k hne)
theorem zv_iremK (X : Cx Γ Z cc own nL ret R) {a b : Int} (hdg : decode cc pc = .ok (.irem, 1)) (hne : ¬ zI b = 0) (k : Zv Γ Z nL Qf o D (pc + 1) lv (zi (jrem a b) :: st)) : Zv Γ Z nL Qf o D pc lv (zi b :: zi a :: st) := by
  intro r hr H locs ls hw hs hl
  have k2 := k r hr H locs ls hw hs hl
  unfold zi jrem at k2
  rw [zI_of] at k2
  exact lv_irem X.1 X.2.1 hdg hne k2
theorem zv_irem (X : Cx Γ Z cc own nL ret R) {a b : Int} {inst : Decidable (zI b = 0)} (hdg : decode cc pc = .ok (.irem, 1)) (k : ¬ zI b = 0 → Zv Γ Z nL Qf o D (pc + 1) lv (zi (jrem a b) :: st)) : Zv Γ Z nL Qf (@ite _ (zI b = 0) inst none o) D pc lv (zi b :: zi a :: st) := by
  by_cases hne : zI b = 0
  · rw [if_pos hne]
    intro r hr
    cases hr
  · rw [if_neg hne]
    exact zv_iremK X hdg hne (k hne)
theorem zv_ldivK (X : Cx Γ Z cc own nL ret R) {a b : Int} (hdg : decode cc pc = .ok (.ldiv, 1)) (hne : ¬ zL b = 0) (k : Zv Γ Z nL Qf o D (pc + 1) lv (zl (jldiv a b) :: st)) : Zv Γ Z nL Qf o D pc lv (zl b :: zl a :: st) := by
  intro r hr H locs ls hw hs hl
  have k2 := k r hr H locs ls hw hs hl
  unfold zl jldiv at k2
  rw [zL_of] at k2
  exact lv_ldiv X.1 X.2.1 hdg hne k2
theorem zv_ldiv (X : Cx Γ Z cc own nL ret R) {a b : Int} {inst : Decidable (zL b = 0)} (hdg : decode cc pc = .ok (.ldiv, 1)) (k : ¬ zL b = 0 → Zv Γ Z nL Qf o D (pc + 1) lv (zl (jldiv a b) :: st)) : Zv Γ Z nL Qf (@ite _ (zL b = 0) inst none o) D pc lv (zl b :: zl a :: st) := by
  by_cases hne : zL b = 0
  · rw [if_pos hne]
    intro r hr
    cases hr
  · rw [if_neg hne]
    exact zv_ldivK X hdg hne (k hne)
theorem zv_lremK (X : Cx Γ Z cc own nL ret R) {a b : Int} (hdg : decode cc pc = .ok (.lrem, 1)) (hne : ¬ zL b = 0) (k : Zv Γ Z nL Qf o D (pc + 1) lv (zl (jlrem a b) :: st)) : Zv Γ Z nL Qf o D pc lv (zl b :: zl a :: st) := by
  intro r hr H locs ls hw hs hl
  have k2 := k r hr H locs ls hw hs hl
  unfold zl jlrem at k2
  rw [zL_of] at k2
  exact lv_lrem X.1 X.2.1 hdg hne k2
theorem zv_lrem (X : Cx Γ Z cc own nL ret R) {a b : Int} {inst : Decidable (zL b = 0)} (hdg : decode cc pc = .ok (.lrem, 1)) (k : ¬ zL b = 0 → Zv Γ Z nL Qf o D (pc + 1) lv (zl (jlrem a b) :: st)) : Zv Γ Z nL Qf (@ite _ (zL b = 0) inst none o) D pc lv (zl b :: zl a :: st) := by
  by_cases hne : zL b = 0
  · rw [if_pos hne]
    intro r hr
    cases hr
  · rw [if_neg hne]
    exact zv_lremK X hdg hne (k hne)
theorem zv_iushr (X : Cx Γ Z cc own nL ret R) {a b : Int} (hdg : decode cc pc = .ok (.iushr, 1)) (k : Zv Γ Z nL Qf o D (pc + 1) lv (zi (jushr a b) :: st)) : Zv Γ Z nL Qf o D pc lv (zi b :: zi a :: st) := by
  intro r hr H locs ls hw hs hl
  exact lv_iushr X.1 X.2.1 hdg (by unfold jushr; rw [zI_of]) (k r hr H locs ls hw hs hl)
theorem zv_lushr (X : Cx Γ Z cc own nL ret R) {a b : Int} (hdg : decode cc pc = .ok (.lushr, 1)) (k : Zv Γ Z nL Qf o D (pc + 1) lv (zl (jlushr a b) :: st)) : Zv Γ Z nL Qf o D pc lv (zi b :: zl a :: st) := by
  intro r hr H locs ls hw hs hl
  exact lv_lushr X.1 X.2.1 hdg (by unfold jlushr; rw [zL_of]) (k r hr H locs ls hw hs hl)
theorem zv_lshl (X : Cx Γ Z cc own nL ret R) {a b : Int} (hdg : decode cc pc = .ok (.lshl, 1)) (k : Zv Γ Z nL Qf o D (pc + 1) lv (zl (jlshl a b) :: st)) : Zv Γ Z nL Qf o D pc lv (zi b :: zl a :: st) := by
  intro r hr H locs ls hw hs hl
  exact lv_lshl X.1 X.2.1 hdg (by unfold jlshl; rw [zL_of]) (k r hr H locs ls hw hs hl)
theorem zv_lshr (X : Cx Γ Z cc own nL ret R) {a b : Int} (hdg : decode cc pc = .ok (.lshr, 1)) (k : Zv Γ Z nL Qf o D (pc + 1) lv (zl (jlshr a b) :: st)) : Zv Γ Z nL Qf o D pc lv (zi b :: zl a :: st) := by
  intro r hr H locs ls hw hs hl
  exact lv_lshr X.1 X.2.1 hdg (by unfold jlshr; rw [zL_of]) (k r hr H locs ls hw hs hl)
theorem zv_ineg (X : Cx Γ Z cc own nL ret R) {a : Int} (hdg : decode cc pc = .ok (.ineg, 1)) (k : Zv Γ Z nL Qf o D (pc + 1) lv (zi (-a) :: st)) : Zv Γ Z nL Qf o D pc lv (zi a :: st) := by
  intro r hr H locs ls hw hs hl
  refine lv_ineg X.1 X.2.1 hdg ?_
  rw [zI_neg]
  exact k r hr H locs ls hw hs hl
theorem zv_i2l (X : Cx Γ Z cc own nL ret R) {a : Int} (hdg : decode cc pc = .ok (.i2l, 1)) (k : Zv Γ Z nL Qf o D (pc + 1) lv (zl (wI a) :: st)) : Zv Γ Z nL Qf o D pc lv (zi a :: st) := by
  intro r hr H locs ls hw hs hl
  exact lv_i2l X.1 X.2.1 hdg (Int64.toInt_inj.mp (by rw [Int32.toInt_toInt64]; unfold wI; exact (zL_toInt (by have := (zI a).le_toInt; omega) (by have := (zI a).toInt_lt; omega)).symm)) (k r hr H locs ls hw hs hl)
theorem zv_l2i (X : Cx Γ Z cc own nL ret R) {a : Int} (hdg : decode cc pc = .ok (.l2i, 1)) (k : Zv Γ Z nL Qf o D (pc + 1) lv (zi a :: st)) : Zv Γ Z nL Qf o D pc lv (zl a :: st) := by
  intro r hr H locs ls hw hs hl
  exact lv_l2i X.1 X.2.1 hdg Int64.toInt32_ofInt (k r hr H locs ls hw hs hl)
theorem zv_dup (X : Cx Γ Z cc own nL ret R) {v : Value} (hdg : decode cc pc = .ok (.dup, 1)) (hv : v.category = 1) (k : Zv Γ Z nL Qf o D (pc + 1) lv (v :: v :: st)) : Zv Γ Z nL Qf o D pc lv (v :: st) := by
  intro r hr H locs ls hw hs hl
  exact lv_dup X.1 X.2.1 hdg hv (k r hr H locs ls hw hs hl)
theorem zv_pop (X : Cx Γ Z cc own nL ret R) {v : Value} (hdg : decode cc pc = .ok (.pop, 1)) (hv : v.category = 1) (k : Zv Γ Z nL Qf o D (pc + 1) lv st) : Zv Γ Z nL Qf o D pc lv (v :: st) := by
  intro r hr H locs ls hw hs hl
  exact lv_pop X.1 X.2.1 hdg hv (k r hr H locs ls hw hs hl)
theorem zv_dup2 (X : Cx Γ Z cc own nL ret R) {v w : Value} (hdg : decode cc pc = .ok (.dup2, 1)) (hv : v.category = 1) (hw2 : w.category = 1) (k : Zv Γ Z nL Qf o D (pc + 1) lv (v :: w :: v :: w :: st)) : Zv Γ Z nL Qf o D pc lv (v :: w :: st) := by
  intro r hr H locs ls hw hs hl
  exact lv_dup2_11 X.1 X.2.1 hdg hv hw2 (k r hr H locs ls hw hs hl)
theorem zv_goto (X : Cx Γ Z cc own nL ret R) {off : Int} {tgt : Nat} (hdg : decode cc pc = .ok (.goto off, 3)) (ht : (pc : Int) + off = (tgt : Int)) (k : Zv Γ Z nL Qf o D tgt lv st) : Zv Γ Z nL Qf o D pc lv st := by
  intro r hr H locs ls hw hs hl
  exact lv_goto X.1 X.2.1 hdg ht (k r hr H locs ls hw hs hl)
theorem zv_icmp_eq (X : Cx Γ Z cc own nL ret R) {x y : Int} {off : Int} {tgt : Nat} {inst : Decidable (zI x = zI y)} (hdg : decode cc pc = .ok (.if_icmp .eq off, 3)) (ht : (pc : Int) + off = (tgt : Int)) (kt : zI x = zI y → Zv Γ Z nL Qf o1 D tgt lv st) (kf : ¬ zI x = zI y → Zv Γ Z nL Qf o2 D (pc + 3) lv st) : Zv Γ Z nL Qf (@ite _ (zI x = zI y) inst o1 o2) D pc lv (zi y :: zi x :: st) := by
  intro r hr H locs ls hw hs hl
  refine lv_icmp_eq X.1 X.2.1 hdg ht (fun h => ?_) (fun h => ?_)
  · rw [if_pos h] at hr; exact kt h r hr H locs ls hw hs hl
  · rw [if_neg h] at hr; exact kf h r hr H locs ls hw hs hl
theorem zv_icmp_ne (X : Cx Γ Z cc own nL ret R) {x y : Int} {off : Int} {tgt : Nat} {inst : Decidable (zI x = zI y)} (hdg : decode cc pc = .ok (.if_icmp .ne off, 3)) (ht : (pc : Int) + off = (tgt : Int)) (kt : ¬ zI x = zI y → Zv Γ Z nL Qf o1 D tgt lv st) (kf : zI x = zI y → Zv Γ Z nL Qf o2 D (pc + 3) lv st) : Zv Γ Z nL Qf (@ite _ (zI x = zI y) inst o2 o1) D pc lv (zi y :: zi x :: st) := by
  intro r hr H locs ls hw hs hl
  refine lv_icmp_ne X.1 X.2.1 hdg ht (fun h => ?_) (fun h => ?_)
  · rw [if_neg h] at hr; exact kt h r hr H locs ls hw hs hl
  · rw [if_pos h] at hr; exact kf h r hr H locs ls hw hs hl
theorem zv_icmp_lt (X : Cx Γ Z cc own nL ret R) {x y : Int} {off : Int} {tgt : Nat} {inst : Decidable (zI x < zI y)} (hdg : decode cc pc = .ok (.if_icmp .lt off, 3)) (ht : (pc : Int) + off = (tgt : Int)) (kt : zI x < zI y → Zv Γ Z nL Qf o1 D tgt lv st) (kf : ¬ zI x < zI y → Zv Γ Z nL Qf o2 D (pc + 3) lv st) : Zv Γ Z nL Qf (@ite _ (zI x < zI y) inst o1 o2) D pc lv (zi y :: zi x :: st) := by
  intro r hr H locs ls hw hs hl
  refine lv_icmp_lt X.1 X.2.1 hdg ht (fun h => ?_) (fun h => ?_)
  · rw [if_pos h] at hr; exact kt h r hr H locs ls hw hs hl
  · rw [if_neg h] at hr; exact kf h r hr H locs ls hw hs hl
theorem zv_icmp_ge (X : Cx Γ Z cc own nL ret R) {x y : Int} {off : Int} {tgt : Nat} {inst : Decidable (zI y ≤ zI x)} (hdg : decode cc pc = .ok (.if_icmp .ge off, 3)) (ht : (pc : Int) + off = (tgt : Int)) (kt : zI y ≤ zI x → Zv Γ Z nL Qf o1 D tgt lv st) (kf : ¬ zI y ≤ zI x → Zv Γ Z nL Qf o2 D (pc + 3) lv st) : Zv Γ Z nL Qf (@ite _ (zI y ≤ zI x) inst o1 o2) D pc lv (zi y :: zi x :: st) := by
  intro r hr H locs ls hw hs hl
  refine lv_icmp_ge X.1 X.2.1 hdg ht (fun h => ?_) (fun h => ?_)
  · rw [if_pos h] at hr; exact kt h r hr H locs ls hw hs hl
  · rw [if_neg h] at hr; exact kf h r hr H locs ls hw hs hl
theorem zv_icmp_gt (X : Cx Γ Z cc own nL ret R) {x y : Int} {off : Int} {tgt : Nat} {inst : Decidable (zI y < zI x)} (hdg : decode cc pc = .ok (.if_icmp .gt off, 3)) (ht : (pc : Int) + off = (tgt : Int)) (kt : zI y < zI x → Zv Γ Z nL Qf o1 D tgt lv st) (kf : ¬ zI y < zI x → Zv Γ Z nL Qf o2 D (pc + 3) lv st) : Zv Γ Z nL Qf (@ite _ (zI y < zI x) inst o1 o2) D pc lv (zi y :: zi x :: st) := by
  intro r hr H locs ls hw hs hl
  refine lv_icmp_gt X.1 X.2.1 hdg ht (fun h => ?_) (fun h => ?_)
  · rw [if_pos h] at hr; exact kt h r hr H locs ls hw hs hl
  · rw [if_neg h] at hr; exact kf h r hr H locs ls hw hs hl
theorem zv_icmp_le (X : Cx Γ Z cc own nL ret R) {x y : Int} {off : Int} {tgt : Nat} {inst : Decidable (zI x ≤ zI y)} (hdg : decode cc pc = .ok (.if_icmp .le off, 3)) (ht : (pc : Int) + off = (tgt : Int)) (kt : zI x ≤ zI y → Zv Γ Z nL Qf o1 D tgt lv st) (kf : ¬ zI x ≤ zI y → Zv Γ Z nL Qf o2 D (pc + 3) lv st) : Zv Γ Z nL Qf (@ite _ (zI x ≤ zI y) inst o1 o2) D pc lv (zi y :: zi x :: st) := by
  intro r hr H locs ls hw hs hl
  refine lv_icmp_le X.1 X.2.1 hdg ht (fun h => ?_) (fun h => ?_)
  · rw [if_pos h] at hr; exact kt h r hr H locs ls hw hs hl
  · rw [if_neg h] at hr; exact kf h r hr H locs ls hw hs hl
theorem zv_if_eq (X : Cx Γ Z cc own nL ret R) {x y : Int} {off : Int} {tgt : Nat} {inst : Decidable (zI x = 0)} (hdg : decode cc pc = .ok (.ifCond .eq off, 3)) (ht : (pc : Int) + off = (tgt : Int)) (kt : zI x = 0 → Zv Γ Z nL Qf o1 D tgt lv st) (kf : ¬ zI x = 0 → Zv Γ Z nL Qf o2 D (pc + 3) lv st) : Zv Γ Z nL Qf (@ite _ (zI x = 0) inst o1 o2) D pc lv (zi x :: st) := by
  intro r hr H locs ls hw hs hl
  refine lv_if_eq X.1 X.2.1 hdg ht (fun h => ?_) (fun h => ?_)
  · rw [if_pos h] at hr; exact kt h r hr H locs ls hw hs hl
  · rw [if_neg h] at hr; exact kf h r hr H locs ls hw hs hl
theorem zv_if_ne (X : Cx Γ Z cc own nL ret R) {x y : Int} {off : Int} {tgt : Nat} {inst : Decidable (zI x = 0)} (hdg : decode cc pc = .ok (.ifCond .ne off, 3)) (ht : (pc : Int) + off = (tgt : Int)) (kt : ¬ zI x = 0 → Zv Γ Z nL Qf o1 D tgt lv st) (kf : zI x = 0 → Zv Γ Z nL Qf o2 D (pc + 3) lv st) : Zv Γ Z nL Qf (@ite _ (zI x = 0) inst o2 o1) D pc lv (zi x :: st) := by
  intro r hr H locs ls hw hs hl
  refine lv_if_ne X.1 X.2.1 hdg ht (fun h => ?_) (fun h => ?_)
  · rw [if_neg h] at hr; exact kt h r hr H locs ls hw hs hl
  · rw [if_pos h] at hr; exact kf h r hr H locs ls hw hs hl
theorem zv_if_lt (X : Cx Γ Z cc own nL ret R) {x y : Int} {off : Int} {tgt : Nat} {inst : Decidable (zI x < 0)} (hdg : decode cc pc = .ok (.ifCond .lt off, 3)) (ht : (pc : Int) + off = (tgt : Int)) (kt : zI x < 0 → Zv Γ Z nL Qf o1 D tgt lv st) (kf : ¬ zI x < 0 → Zv Γ Z nL Qf o2 D (pc + 3) lv st) : Zv Γ Z nL Qf (@ite _ (zI x < 0) inst o1 o2) D pc lv (zi x :: st) := by
  intro r hr H locs ls hw hs hl
  refine lv_if_lt X.1 X.2.1 hdg ht (fun h => ?_) (fun h => ?_)
  · rw [if_pos h] at hr; exact kt h r hr H locs ls hw hs hl
  · rw [if_neg h] at hr; exact kf h r hr H locs ls hw hs hl
theorem zv_if_ge (X : Cx Γ Z cc own nL ret R) {x y : Int} {off : Int} {tgt : Nat} {inst : Decidable (0 ≤ zI x)} (hdg : decode cc pc = .ok (.ifCond .ge off, 3)) (ht : (pc : Int) + off = (tgt : Int)) (kt : 0 ≤ zI x → Zv Γ Z nL Qf o1 D tgt lv st) (kf : ¬ 0 ≤ zI x → Zv Γ Z nL Qf o2 D (pc + 3) lv st) : Zv Γ Z nL Qf (@ite _ (0 ≤ zI x) inst o1 o2) D pc lv (zi x :: st) := by
  intro r hr H locs ls hw hs hl
  refine lv_if_ge X.1 X.2.1 hdg ht (fun h => ?_) (fun h => ?_)
  · rw [if_pos h] at hr; exact kt h r hr H locs ls hw hs hl
  · rw [if_neg h] at hr; exact kf h r hr H locs ls hw hs hl
theorem zv_if_gt (X : Cx Γ Z cc own nL ret R) {x y : Int} {off : Int} {tgt : Nat} {inst : Decidable (0 < zI x)} (hdg : decode cc pc = .ok (.ifCond .gt off, 3)) (ht : (pc : Int) + off = (tgt : Int)) (kt : 0 < zI x → Zv Γ Z nL Qf o1 D tgt lv st) (kf : ¬ 0 < zI x → Zv Γ Z nL Qf o2 D (pc + 3) lv st) : Zv Γ Z nL Qf (@ite _ (0 < zI x) inst o1 o2) D pc lv (zi x :: st) := by
  intro r hr H locs ls hw hs hl
  refine lv_if_gt X.1 X.2.1 hdg ht (fun h => ?_) (fun h => ?_)
  · rw [if_pos h] at hr; exact kt h r hr H locs ls hw hs hl
  · rw [if_neg h] at hr; exact kf h r hr H locs ls hw hs hl
theorem zv_if_le (X : Cx Γ Z cc own nL ret R) {x y : Int} {off : Int} {tgt : Nat} {inst : Decidable (zI x ≤ 0)} (hdg : decode cc pc = .ok (.ifCond .le off, 3)) (ht : (pc : Int) + off = (tgt : Int)) (kt : zI x ≤ 0 → Zv Γ Z nL Qf o1 D tgt lv st) (kf : ¬ zI x ≤ 0 → Zv Γ Z nL Qf o2 D (pc + 3) lv st) : Zv Γ Z nL Qf (@ite _ (zI x ≤ 0) inst o1 o2) D pc lv (zi x :: st) := by
  intro r hr H locs ls hw hs hl
  refine lv_if_le X.1 X.2.1 hdg ht (fun h => ?_) (fun h => ?_)
  · rw [if_pos h] at hr; exact kt h r hr H locs ls hw hs hl
  · rw [if_neg h] at hr; exact kf h r hr H locs ls hw hs hl
end ZR
end
section
section ZM
variable {α : Type} {Γ : Gt} {Z : Zt} {nL : Nat} {Qf : α → State → Prop} {o o1 o2 : Option α} {D : Mm} {pc : Nat} {lv lv2 : List (Nat × Value)} {st : List Value} {cc : ByteArray} {own : String} {ret : Option FieldType} {R : Room}
theorem sh_le (a : Int) : (sh a).2 ≤ 2147483647 := by
  have h : z_shl.all (fun x => decide (x.2 ≤ 2147483647)) = true := by decide +kernel
  unfold sh
  rw [List.getD_eq_getElem?_getD]
  cases hx : z_shl[a.toNat]? with
  | none => decide
  | some y => exact of_decide_eq_true (List.all_eq_true.mp h y (List.mem_of_getElem? hx))
theorem Zin.le {a n : Int} {k : Nat} (h : Zin Z a k n) : n ≤ 2147483647 := by
  have := sh_le a
  rw [h.1] at this
  exact this
theorem zv_iald (X : Cx Γ Z cc own nL ret R) {a i n : Int} (ha : Zin Z a 0 n) {inst : Decidable (0 ≤ i ∧ i < n)} (hdg : decode cc pc = .ok (.iaload, 1)) (kk : 0 ≤ i → i < n → Zv Γ Z nL Qf o D (pc + 1) lv (zi (D a i) :: st)) : Zv Γ Z nL Qf (@ite _ (0 ≤ i ∧ i < n) inst o none) D pc lv (zi i :: zr Z a :: st) := by
  intro r hr H locs ls hw hs hl
  by_cases hc : 0 ≤ i ∧ i < n
  · rw [if_pos hc] at hr
    obtain ⟨g1, g2⟩ := vp_in_z hc.1 hc.2 ha.le
    have e0 := wl_at (D := D) ha.2.1 ha.2.2
    rw [ha.1, em_arr] at e0
    have e1 : ((i.toNat : Nat) : Int) = i := by omega
    have k2 := kk hc.1 hc.2 r hr H locs ls hw hs hl
    unfold zi at k2
    refine va_iald X.1 X.2.1 X.2.2.2.2.2.1.1 hw (a.toNat - 1) 0 e0 rfl g1 hdg ?_
    rw [g2, e1]
    exact k2
  · rw [if_neg hc] at hr
    cases hr
theorem stm_at {a i x : Int} : stm D a i x a i = x := by unfold stm; rw [if_pos ⟨rfl, rfl⟩]
theorem zv_iast (X : Cx Γ Z cc own nL ret R) {a i n x : Int} (ha : Zin Z a 0 n) {inst : Decidable (0 ≤ i ∧ i < n)} (hdg : decode cc pc = .ok (.iastore, 1)) (kk : 0 ≤ i → i < n → Zv Γ Z nL Qf o (stm D a i x) (pc + 1) lv st) : Zv Γ Z nL Qf (@ite _ (0 ≤ i ∧ i < n) inst o none) D pc lv (zi x :: zi i :: zr Z a :: st) := by
  intro r hr H locs ls hw hs hl
  by_cases hc : 0 ≤ i ∧ i < n
  · rw [if_pos hc] at hr
    obtain ⟨g1, g2⟩ := vp_in_z hc.1 hc.2 ha.le
    have e0 := wl_at (D := D) ha.2.1 ha.2.2
    rw [ha.1, em_arr] at e0
    refine va_iast X.1 X.2.1 X.2.2.2.2.2.1.1 hw (wl_D X.2.2.2.2.2.2.2.1 D) hs (a.toNat - 1) 0 e0 rfl g1 hdg (fun H1 locs1 h1 h2 h3 => ?_)
    refine kk hc.1 hc.2 r hr H1 locs1 ls ?_ h3 hl
    rw [wl_set (D' := stm D a i x) ha.2.1 ha.2.2 ?_ (fun b hb => em_oth hb _)] at h1
    · exact h1
    · rw [ha.1, em_arr, g2]
      congr 3
      congr 1
      funext j
      unfold upd stm
      by_cases hj : j = i.toNat
      · rw [if_pos hj, if_pos ⟨rfl, by omega⟩]
      · rw [if_neg hj, if_neg (fun q => hj (by omega))]
  · rw [if_neg hc] at hr
    cases hr
theorem zv_alen (X : Cx Γ Z cc own nL ret R) {a n : Int} (ha : Zin Z a 0 n) (hn : 0 ≤ n) (hdg : decode cc pc = .ok (.arraylength, 1)) (kk : Zv Γ Z nL Qf o D (pc + 1) lv (zi n :: st)) : Zv Γ Z nL Qf o D pc lv (zr Z a :: st) := by
  intro r hr H locs ls hw hs hl
  have e0 := wl_at (D := D) ha.2.1 ha.2.2
  rw [ha.1, em_arr] at e0
  have k2 := kk r hr H locs ls hw hs hl
  unfold zi at k2
  have e1 : zI n = nI n.toNat := by
    show Int32.ofInt n = Int32.ofNat n.toNat
    rw [← Int32.ofInt_eq_ofNat]
    congr 1
    omega
  rw [e1] at k2
  exact va_alen X.1 X.2.1 X.2.2.2.2.2.1.1 hw (a.toNat - 1) 0 e0 rfl rfl hdg k2
theorem zv_aald (X : Cx Γ Z cc own nL ret R) {a i n : Int} (b : Int) (ha : Zin Z a 1 n) {inst : Decidable (0 ≤ i ∧ i < n)} (hdg : decode cc pc = .ok (.aaload, 1)) (hb : a + 1 + i = b) (kk : 0 ≤ i → i < n → Zv Γ Z nL Qf o D (pc + 1) lv (zr Z b :: st)) : Zv Γ Z nL Qf (@ite _ (0 ≤ i ∧ i < n) inst o none) D pc lv (zi i :: zr Z a :: st) := by
  intro r hr H locs ls hw hs hl
  by_cases hc : 0 ≤ i ∧ i < n
  · rw [if_pos hc] at hr
    obtain ⟨g1, g2⟩ := vp_in_z hc.1 hc.2 ha.le
    have hlt : (zI i).toNatClampNeg < n.toNat := by rw [g2]; omega
    have e0 := wl_at (D := D) ha.2.1 ha.2.2
    rw [ha.1, em_row] at e0
    have e1 : a + 1 + ((i.toNat : Nat) : Int) = b := by omega
    have k2 := kk hc.1 hc.2 r hr H locs ls hw hs hl
    have h0 : H[Z.2.2.1 a]? = some (vp_cell (Z.2.1 1) (n.toNat, .inr (.inr (.inr (.inr (fun j => some (Z.2.2.1 (a + 1 + (j : Int))))))))) := hw (a.toNat - 1) _ e0
    refine W.aald (v := zr Z b) (ty := .array .int) X.1 X.2.1 h0 ((X.2.2.2.2.2.1.1.2 1 _ rfl).1 n.toNat (fun j => va_rf (some (Z.2.2.1 (a + 1 + (j : Int)))))) rfl (fun q => by cases q) ?_ ?_ rfl rfl hdg k2
    · show ¬ (_ ∨ (arrV _ _ _).slots.size ≤ _)
      rw [arrV_size]
      exact g1
    · show (arrV _ _ _).slots[_]? = _
      rw [arrV_read _ _ hlt, g2]
      show some (Value.ref (Z.2.2.1 _)) = some (Value.ref (Z.2.2.1 b))
      rw [e1]
  · rw [if_neg hc] at hr
    cases hr
theorem zv_fald (X : Cx Γ Z cc own nL ret R) {a i n : Int} (b : Int) (ha : Zin Z a 2 n) {inst : Decidable (0 ≤ i ∧ i < n)} (hdg : decode cc pc = .ok (.aaload, 1)) (hb : 106 + 19 * i = b) (kk : 0 ≤ i → i < n → Zv Γ Z nL Qf o D (pc + 1) lv (zr Z b :: st)) : Zv Γ Z nL Qf (@ite _ (0 ≤ i ∧ i < n) inst o none) D pc lv (zi i :: zr Z a :: st) := by
  intro r hr H locs ls hw hs hl
  by_cases hc : 0 ≤ i ∧ i < n
  · rw [if_pos hc] at hr
    obtain ⟨g1, g2⟩ := vp_in_z hc.1 hc.2 ha.le
    have hlt : (zI i).toNatClampNeg < n.toNat := by rw [g2]; omega
    have e0 := wl_at (D := D) ha.2.1 ha.2.2
    rw [ha.1, em_fnd] at e0
    have e1 : 106 + 19 * ((i.toNat : Nat) : Int) = b := by omega
    have k2 := kk hc.1 hc.2 r hr H locs ls hw hs hl
    have h0 : H[Z.2.2.1 a]? = some (vp_cell (Z.2.1 2) (n.toNat, .inr (.inr (.inr (.inr (fun j => some (Z.2.2.1 (106 + 19 * (j : Int))))))))) := hw (a.toNat - 1) _ e0
    refine W.aald (v := zr Z b) (ty := .object "QuernGrains$Finds") X.1 X.2.1 h0 ((X.2.2.2.2.2.1.1.2 2 _ rfl).1 n.toNat (fun j => va_rf (some (Z.2.2.1 (106 + 19 * (j : Int)))))) rfl (fun q => by cases q) ?_ ?_ rfl rfl hdg k2
    · show ¬ (_ ∨ (arrV _ _ _).slots.size ≤ _)
      rw [arrV_size]
      exact g1
    · show (arrV _ _ _).slots[_]? = _
      rw [arrV_read _ _ hlt, g2]
      show some (Value.ref (Z.2.2.1 _)) = some (Value.ref (Z.2.2.1 b))
      rw [e1]
  · rw [if_neg hc] at hr
    cases hr
theorem zv_get (X : Cx Γ Z cc own nL ret R) {ci N index : Nat} {C : String} {T : u_T} (hc : classes[ci]? = some (C, T, N)) (hin : ∀ w ∈ u_ws C T N, w ∈ zT) {a n : Int} (ha : Zin Z a (10 + ci) n) (k : Nat) (hk : k < N) (hlink : Cond.fieldLink own index C (T k).2.1 (T k).2.2.1 ∈ zT) (hcls : (T k).1 = C) {v : Value} (hv : (fl ci Z D a)[k]? = some v) (hdg : decode cc pc = .ok (.getfield index, 3)) (kk : Zv Γ Z nL Qf o D (pc + 3) lv (v :: st)) : Zv Γ Z nL Qf o D pc lv (zr Z a :: st) := by
  intro r hr H locs ls hw hs hl
  have e0 := wl_at (D := D) ha.2.1 ha.2.2
  rw [ha.1, em_obj] at e0
  exact va_get X.1 X.2.1 X.2.2.2.2.1 hin X.2.2.2.1 X.2.2.2.2.2.1.1 hw (a.toNat - 1) e0 hc k hk (X.2.2.2.2.1 _ hlink) (fun x h => by rw [hcls] at h; exact h) hv hdg (kk r hr H locs ls hw hs hl)
theorem zv_put (X : Cx Γ Z cc own nL ret R) {ci N index : Nat} {C : String} {T : u_T} (hc : classes[ci]? = some (C, T, N)) (hin : ∀ w ∈ u_ws C T N, w ∈ zT) (t0 : Nat → FieldType) (hty : ∀ k, k < N → parseFieldDescriptor (T k).2.2.1 = some (t0 k)) (hnm : ∀ a, a < N → ∀ b, b < N → a ≠ b → (T a).2.1 ≠ (T b).2.1) {a n x : Int} (ha : Zin Z a (10 + ci) n) (k : Nat) (hk : k < N) (hlink : Cond.fieldLink own index C (T k).2.1 (T k).2.2.1 ∈ zT) (hcls : (T k).1 = C) (hfin : (T k).2.2.2 = false) {v : Value} (hset : fl ci Z (stm D a k x) a = (fl ci Z D a).set k v) (hl0 : k < (fl ci Z D a).length) (hn : narrow (t0 k) v = v) (hfit : fits (t0 k) v = true) (hdg : decode cc pc = .ok (.putfield index, 3)) (kk : Zv Γ Z nL Qf o (stm D a k x) (pc + 3) lv st) : Zv Γ Z nL Qf o D pc lv (v :: zr Z a :: st) := by
  intro r hr H locs ls hw hs hl
  have e0 := wl_at (D := D) ha.2.1 ha.2.2
  rw [ha.1, em_obj] at e0
  refine va_put X.1 X.2.1 X.2.2.2.2.1 hin t0 hty hnm X.2.2.2.1 X.2.2.2.2.2.1.1 hw (wl_D X.2.2.2.2.2.2.2.1 D) hs (a.toNat - 1) e0 hc k hk (X.2.2.2.2.1 _ hlink) (fun x h => by rw [hcls] at h; exact h) hfin (hty k hk) hn hfit hl0 hdg (fun H1 locs1 h1 h2 h3 => ?_)
  refine kk r hr H1 locs1 ls ?_ h3 hl
  rw [wl_set (D' := stm D a k x) ha.2.1 ha.2.2 ?_ (fun b hb => em_oth hb _)] at h1
  · exact h1
  · rw [ha.1, em_obj, hset]
end ZM
end
section
section ZC
variable {α : Type} {Γ : Gt} {Z : Zt} {nL : Nat} {Qf : α → State → Prop} {o o1 o2 : Option α} {D : Mm} {pc : Nat} {lv lv2 : List (Nat × Value)} {st : List Value} {cc : ByteArray} {own : String} {ret : Option FieldType} {R : Room}
def zrv (rk : Nat) (r : Int) : Option Value := match rk with
  | 0 => none
  | 1 => some (zi r)
  | _ => some (zl r)
def Qz (rk : Nat) (r : Int) (Z : Zt) (D : Mm) : Array Value → State → Outcome → State → Prop := fun _ st oc t => oc = .returned (zrv rk r) ∧ Wd Z D t.heap ∧ va_F (zA Z) st t
def Pz (av : List Value) (Z : Zt) (D : Mm) : Array Value → State → Prop := va_Pc av (fun U => Wd Z D U.heap ∧ zK Z U)
def QfM (Γ : Gt) (Z : Zt) (rk : Nat) : Int × Mm → State → Prop := fun x => MQ Γ.2.2.2.2.2.2.2.1 (Qz rk x.1 Z x.2) Γ.2.2.2.2.2.2.1 Γ.2.2.2.2.1 0 0 (zA Z)
def QfP (Γ : Gt) (Z : Zt) (rk : Nat) (D : Mm) : Int → State → Prop := fun x => MQ Γ.2.2.2.2.2.2.2.1 (Qz rk x Z D) Γ.2.2.2.2.2.2.1 Γ.2.2.2.2.1 0 0 (zA Z)
def CtM (l : Launch) (Z : Zt) (y : MethodName) (bytes : ByteArray) (mL : Nat) (ret : Option FieldType) (rm : Room) (rk : Nat) (av : List Value) (D : Mm) (o : Option (Int × Mm)) : Prop :=
  ∀ x, o = some x → Met l y (Cond.code y bytes mL ret :: zT) rm (Pz av Z D) (Qz rk x.1 Z x.2) 0 0 (zA Z)
def CtP (l : Launch) (Z : Zt) (y : MethodName) (bytes : ByteArray) (mL : Nat) (ret : Option FieldType) (rm : Room) (rk : Nat) (av : List Value) (D : Mm) (o : Option Int) : Prop :=
  ∀ x, o = some x → Met l y (Cond.code y bytes mL ret :: zT) rm (Pz av Z D) (Qz rk x Z D) 0 0 (zA Z)
theorem zK.warm {s U : State} (h : zK Z s) (hW : s.WarmedH U.vm) : zK Z U := by
  refine ⟨va_K.moved hW.alike h.1, fun w hw => ?_⟩
  have h2 := h.2 w hw
  simp only [z_nest, List.mem_cons, List.not_mem_nil, or_false] at hw
  rcases hw with rfl | rfl | rfl | rfl | rfl | rfl | rfl | rfl <;> exact va_Nw.warmM hW h2
theorem zPz_blind {av : List Value} : FrameBlind (Pz av Z D) := by
  intro a U g mk q
  refine ⟨q.1, q.2.1, va_K.moved (u := U) (U := U.calling g mk a) (Vm.Alike.refl U.vm) q.2.2.1, fun w hw => ?_⟩
  exact va_Nw.same (u := U) (U := U.calling g mk a) (z_nest_t w hw) rfl (q.2.2.2 w hw)
-- returns
theorem zv_iretM (X : Cx Γ Z cc own nL (some .int) R) {x : Int} (hdg : decode cc pc = .ok (.ireturn, 1)) : Zv Γ Z nL (QfM Γ Z 1) (some (x, D)) D pc lv [zi x] := by
  intro r hr H locs ls hw hs hl
  cases hr
  exact W.iret X.1 X.2.1 X.2.2.2.2.2.2.2.2.1 (fun t ht hW => ⟨rfl, by rw [ht]; exact hw, hs.F ht⟩) hs.2.2 hdg X.2.2.2.2.2.2.1
theorem zv_iretP (X : Cx Γ Z cc own nL (some .int) R) {x : Int} (hdg : decode cc pc = .ok (.ireturn, 1)) : Zv Γ Z nL (QfP Γ Z 1 D) (some x) D pc lv [zi x] := by
  intro r hr H locs ls hw hs hl
  cases hr
  exact W.iret X.1 X.2.1 X.2.2.2.2.2.2.2.2.1 (fun t ht hW => ⟨rfl, by rw [ht]; exact hw, hs.F ht⟩) hs.2.2 hdg X.2.2.2.2.2.2.1
theorem zv_lretM (X : Cx Γ Z cc own nL (some .long) R) {x : Int} (hdg : decode cc pc = .ok (.lreturn, 1)) : Zv Γ Z nL (QfM Γ Z 2) (some (x, D)) D pc lv [zl x] := by
  intro r hr H locs ls hw hs hl
  cases hr
  exact W.lret X.1 X.2.1 X.2.2.2.2.2.2.2.2.1 (fun t ht hW => ⟨rfl, by rw [ht]; exact hw, hs.F ht⟩) hs.2.2 hdg X.2.2.2.2.2.2.1
theorem zv_lretP (X : Cx Γ Z cc own nL (some .long) R) {x : Int} (hdg : decode cc pc = .ok (.lreturn, 1)) : Zv Γ Z nL (QfP Γ Z 2 D) (some x) D pc lv [zl x] := by
  intro r hr H locs ls hw hs hl
  cases hr
  exact W.lret X.1 X.2.1 X.2.2.2.2.2.2.2.2.1 (fun t ht hW => ⟨rfl, by rw [ht]; exact hw, hs.F ht⟩) hs.2.2 hdg X.2.2.2.2.2.2.1
theorem zv_vretM (X : Cx Γ Z cc own nL none R) (hdg : decode cc pc = .ok (.return_, 1)) : Zv Γ Z nL (QfM Γ Z 0) (some (0, D)) D pc lv [] := by
  intro r hr H locs ls hw hs hl
  cases hr
  exact W.vret X.1 X.2.1 X.2.2.2.2.2.2.2.2.1 (fun t ht hW => ⟨rfl, by rw [ht]; exact hw, hs.F ht⟩) hs.2.2 hdg X.2.2.2.2.2.2.1
theorem z_bool {x : Int} (h : x = 0 ∨ x = 1) : narrow .boolean (.int (zI x)) = .int (zI x) := by
  rcases h with rfl | rfl <;> decide +kernel
theorem zv_zretMK (X : Cx Γ Z cc own nL (some .boolean) R) {x : Int} (hx : x = 0 ∨ x = 1) (hdg : decode cc pc = .ok (.ireturn, 1)) : Zv Γ Z nL (QfM Γ Z 1) (some (x, D)) D pc lv [zi x] := by
  intro r hr H locs ls hw hs hl
  cases hr
  exact W.zret X.1 X.2.1 X.2.2.2.2.2.2.2.2.1 (z_bool hx) (fun t ht hW => ⟨rfl, by rw [ht]; exact hw, hs.F ht⟩) hs.2.2 hdg X.2.2.2.2.2.2.1
theorem zv_zretPK (X : Cx Γ Z cc own nL (some .boolean) R) {x : Int} (hx : x = 0 ∨ x = 1) (hdg : decode cc pc = .ok (.ireturn, 1)) : Zv Γ Z nL (QfP Γ Z 1 D) (some x) D pc lv [zi x] := by
  intro r hr H locs ls hw hs hl
  cases hr
  exact W.zret X.1 X.2.1 X.2.2.2.2.2.2.2.2.1 (z_bool hx) (fun t ht hW => ⟨rfl, by rw [ht]; exact hw, hs.F ht⟩) hs.2.2 hdg X.2.2.2.2.2.2.1
theorem zv_zretM (X : Cx Γ Z cc own nL (some .boolean) R) {x : Int} {inst : Decidable (x = 0 ∨ x = 1)} (hdg : decode cc pc = .ok (.ireturn, 1)) : Zv Γ Z nL (QfM Γ Z 1) (@ite _ (x = 0 ∨ x = 1) inst (some (x, D)) none) D pc lv [zi x] := by
  by_cases hx : x = 0 ∨ x = 1
  · rw [if_pos hx]; exact zv_zretMK X hx hdg
  · rw [if_neg hx]; intro r hr; cases hr
theorem zv_zretP (X : Cx Γ Z cc own nL (some .boolean) R) {x : Int} {inst : Decidable (x = 0 ∨ x = 1)} (hdg : decode cc pc = .ok (.ireturn, 1)) : Zv Γ Z nL (QfP Γ Z 1 D) (@ite _ (x = 0 ∨ x = 1) inst (some x) none) D pc lv [zi x] := by
  by_cases hx : x = 0 ∨ x = 1
  · rw [if_pos hx]; exact zv_zretPK X hx hdg
  · rw [if_neg hx]; intro r hr; cases hr
-- splitting ahead of a switch, a dead end
theorem zv_none : Zv Γ Z nL Qf none D pc lv st := fun r hr => by cases hr
theorem zv_split {P : Prop} {inst : Decidable P} (h1 : P → Zv Γ Z nL Qf o1 D pc lv st) (h2 : ¬ P → Zv Γ Z nL Qf o2 D pc lv st) : Zv Γ Z nL Qf (@ite _ P inst o1 o2) D pc lv st := by
  by_cases h : P
  · rw [if_pos h]; exact h1 h
  · rw [if_neg h]; exact h2 h
theorem zv_guard {P : Prop} {inst : Decidable P} (h1 : P → Zv Γ Z nL Qf o D pc lv st) : Zv Γ Z nL Qf (@ite _ P inst o none) D pc lv st := zv_split h1 (fun _ => zv_none)
theorem zv_tin (X : Cx Γ Z cc own nL ret R) {dflt lo hi : Int} {offs : Array Int} {len : Nat} {x j : Int} {off : Int} {tgt : Nat} (hdg : decode cc pc = .ok (.tableswitch dflt lo hi offs, len)) (hx : zI x = zI j) (h : (¬ (zI j).toInt < lo) ∧ (¬ hi < (zI j).toInt) ∧ offs[((zI j).toInt - lo).toNat]? = some off) (ht : (pc : Int) + off = (tgt : Int)) (k : Zv Γ Z nL Qf o D tgt lv st) : Zv Γ Z nL Qf o D pc lv (zi x :: st) := by
  intro r hr H locs ls hw hs hl
  have k2 := k r hr H locs ls hw hs hl
  unfold zi
  rw [hx]
  exact lv_tableIn X.1 X.2.1 hdg h.1 h.2.1 h.2.2 ht k2
theorem zv_tout (X : Cx Γ Z cc own nL ret R) {dflt lo hi : Int} {offs : Array Int} {len : Nat} {x : Int} {tgt : Nat} (hdg : decode cc pc = .ok (.tableswitch dflt lo hi offs, len)) (h : (zI x).toInt < lo ∨ hi < (zI x).toInt) (ht : (pc : Int) + dflt = (tgt : Int)) (k : Zv Γ Z nL Qf o D tgt lv st) : Zv Γ Z nL Qf o D pc lv (zi x :: st) := by
  intro r hr H locs ls hw hs hl
  exact lv_tableOut X.1 X.2.1 hdg h ht (k r hr H locs ls hw hs hl)
theorem zI_ne {x j : Int} (h : ¬ zI x = zI j) : ¬ (zI x).toInt = (zI j).toInt := fun q => h (Int32.toInt_inj.mp q)
-- long compares
theorem lg_lt {x y : Int64} : lg_cmp x y < 0 ↔ x < y := by
  unfold lg_cmp
  by_cases h1 : y < x
  · simp only [h1, if_true]
    exact ⟨fun h => absurd h (by decide), fun h => absurd h (by rw [Int64.lt_iff_toInt_lt] at *; omega)⟩
  · by_cases h2 : x = y
    · subst h2; simp
    · simp only [h1, if_false, h2]
      have h3 : ¬ x.toInt = y.toInt := fun q => h2 (Int64.toInt_inj.mp q)
      rw [Int64.lt_iff_toInt_lt] at h1
      exact ⟨fun _ => by rw [Int64.lt_iff_toInt_lt]; omega, fun _ => by decide⟩
theorem lg_eq {x y : Int64} : lg_cmp x y = 0 ↔ x = y := by
  unfold lg_cmp
  by_cases h1 : y < x
  · simp only [h1, if_true]
    exact ⟨fun h => absurd h (by decide), fun h => absurd h (by rintro rfl; rw [Int64.lt_iff_toInt_lt] at h1; omega)⟩
  · by_cases h2 : x = y
    · subst h2; simp
    · simp only [h1, if_false, h2]
      exact ⟨fun h => absurd h (by decide), fun h => absurd h id⟩
theorem lg_gt {x y : Int64} : 0 < lg_cmp x y ↔ y < x := by
  unfold lg_cmp
  by_cases h1 : y < x
  · simp only [h1, if_true]
    exact ⟨fun _ => trivial, fun _ => by decide⟩
  · by_cases h2 : x = y
    · subst h2; simp
    · simp only [h1, if_false, h2]
      exact ⟨fun h => absurd h (by decide), fun h => absurd h id⟩
end ZC
end
section
section ZD
variable {α : Type} {Γ : Gt} {Z : Zt} {nL : Nat} {Qf : α → State → Prop} {o o1 o2 : Option α} {D : Mm} {pc : Nat} {lv lv2 : List (Nat × Value)} {st : List Value} {cc : ByteArray} {own : String} {ret : Option FieldType} {R : Room}
theorem zv_lcmp_eq (X : Cx Γ Z cc own nL ret R) {x y : Int} {off : Int} {tgt : Nat} {inst : Decidable (zL x = zL y)} (hd1 : decode cc pc = .ok (.lcmp, 1)) (hdg : decode cc (pc + 1) = .ok (.ifCond .eq off, 3)) (ht : ((pc + 1 : Nat) : Int) + off = (tgt : Int)) (kt : zL x = zL y → Zv Γ Z nL Qf o1 D tgt lv st) (kf : ¬ zL x = zL y → Zv Γ Z nL Qf o2 D (pc + 1 + 3) lv st) : Zv Γ Z nL Qf (@ite _ (zL x = zL y) inst o1 o2) D pc lv (zl y :: zl x :: st) := by
  intro r hr H locs ls hw hs hl
  refine W.lcmp X.1 X.2.1 hd1 ?_
  refine lv_if_eq X.1 X.2.1 hdg ht (fun h => ?_) (fun h => ?_)
  · rw [lg_eq] at h; rw [if_pos h] at hr; exact kt h r hr H locs ls hw hs hl
  · rw [lg_eq] at h; rw [if_neg h] at hr; exact kf h r hr H locs ls hw hs hl
theorem zv_lcmp_ne (X : Cx Γ Z cc own nL ret R) {x y : Int} {off : Int} {tgt : Nat} {inst : Decidable (zL x = zL y)} (hd1 : decode cc pc = .ok (.lcmp, 1)) (hdg : decode cc (pc + 1) = .ok (.ifCond .ne off, 3)) (ht : ((pc + 1 : Nat) : Int) + off = (tgt : Int)) (kt : ¬ zL x = zL y → Zv Γ Z nL Qf o1 D tgt lv st) (kf : zL x = zL y → Zv Γ Z nL Qf o2 D (pc + 1 + 3) lv st) : Zv Γ Z nL Qf (@ite _ (zL x = zL y) inst o2 o1) D pc lv (zl y :: zl x :: st) := by
  intro r hr H locs ls hw hs hl
  refine W.lcmp X.1 X.2.1 hd1 ?_
  refine lv_if_ne X.1 X.2.1 hdg ht (fun h => ?_) (fun h => ?_)
  · rw [lg_eq] at h; rw [if_neg h] at hr; exact kt h r hr H locs ls hw hs hl
  · rw [lg_eq] at h; rw [if_pos h] at hr; exact kf h r hr H locs ls hw hs hl
theorem zv_lcmp_lt (X : Cx Γ Z cc own nL ret R) {x y : Int} {off : Int} {tgt : Nat} {inst : Decidable (zL x < zL y)} (hd1 : decode cc pc = .ok (.lcmp, 1)) (hdg : decode cc (pc + 1) = .ok (.ifCond .lt off, 3)) (ht : ((pc + 1 : Nat) : Int) + off = (tgt : Int)) (kt : zL x < zL y → Zv Γ Z nL Qf o1 D tgt lv st) (kf : ¬ zL x < zL y → Zv Γ Z nL Qf o2 D (pc + 1 + 3) lv st) : Zv Γ Z nL Qf (@ite _ (zL x < zL y) inst o1 o2) D pc lv (zl y :: zl x :: st) := by
  intro r hr H locs ls hw hs hl
  refine W.lcmp X.1 X.2.1 hd1 ?_
  refine lv_if_lt X.1 X.2.1 hdg ht (fun h => ?_) (fun h => ?_)
  · rw [lg_lt] at h; rw [if_pos h] at hr; exact kt h r hr H locs ls hw hs hl
  · rw [lg_lt] at h; rw [if_neg h] at hr; exact kf h r hr H locs ls hw hs hl
theorem lg_ge {x y : Int64} : 0 ≤ lg_cmp x y ↔ y ≤ x := by
  rw [← Int32.not_lt, ← Int64.not_lt]; exact not_congr lg_lt
theorem zv_lcmp_ge (X : Cx Γ Z cc own nL ret R) {x y : Int} {off : Int} {tgt : Nat} {inst : Decidable (zL y ≤ zL x)} (hd1 : decode cc pc = .ok (.lcmp, 1)) (hdg : decode cc (pc + 1) = .ok (.ifCond .ge off, 3)) (ht : ((pc + 1 : Nat) : Int) + off = (tgt : Int)) (kt : zL y ≤ zL x → Zv Γ Z nL Qf o1 D tgt lv st) (kf : ¬ zL y ≤ zL x → Zv Γ Z nL Qf o2 D (pc + 1 + 3) lv st) : Zv Γ Z nL Qf (@ite _ (zL y ≤ zL x) inst o1 o2) D pc lv (zl y :: zl x :: st) := by
  intro r hr H locs ls hw hs hl
  refine W.lcmp X.1 X.2.1 hd1 ?_
  refine lv_if_ge X.1 X.2.1 hdg ht (fun h => ?_) (fun h => ?_)
  · rw [lg_ge] at h; rw [if_pos h] at hr; exact kt h r hr H locs ls hw hs hl
  · rw [lg_ge] at h; rw [if_neg h] at hr; exact kf h r hr H locs ls hw hs hl
theorem zv_lcmp_gt (X : Cx Γ Z cc own nL ret R) {x y : Int} {off : Int} {tgt : Nat} {inst : Decidable (zL y < zL x)} (hd1 : decode cc pc = .ok (.lcmp, 1)) (hdg : decode cc (pc + 1) = .ok (.ifCond .gt off, 3)) (ht : ((pc + 1 : Nat) : Int) + off = (tgt : Int)) (kt : zL y < zL x → Zv Γ Z nL Qf o1 D tgt lv st) (kf : ¬ zL y < zL x → Zv Γ Z nL Qf o2 D (pc + 1 + 3) lv st) : Zv Γ Z nL Qf (@ite _ (zL y < zL x) inst o1 o2) D pc lv (zl y :: zl x :: st) := by
  intro r hr H locs ls hw hs hl
  refine W.lcmp X.1 X.2.1 hd1 ?_
  refine lv_if_gt X.1 X.2.1 hdg ht (fun h => ?_) (fun h => ?_)
  · rw [lg_gt] at h; rw [if_pos h] at hr; exact kt h r hr H locs ls hw hs hl
  · rw [lg_gt] at h; rw [if_neg h] at hr; exact kf h r hr H locs ls hw hs hl
theorem lg_le {x y : Int64} : lg_cmp x y ≤ 0 ↔ x ≤ y := by
  rw [← Int32.not_lt, ← Int64.not_lt]; exact not_congr lg_gt
theorem zv_lcmp_le (X : Cx Γ Z cc own nL ret R) {x y : Int} {off : Int} {tgt : Nat} {inst : Decidable (zL x ≤ zL y)} (hd1 : decode cc pc = .ok (.lcmp, 1)) (hdg : decode cc (pc + 1) = .ok (.ifCond .le off, 3)) (ht : ((pc + 1 : Nat) : Int) + off = (tgt : Int)) (kt : zL x ≤ zL y → Zv Γ Z nL Qf o1 D tgt lv st) (kf : ¬ zL x ≤ zL y → Zv Γ Z nL Qf o2 D (pc + 1 + 3) lv st) : Zv Γ Z nL Qf (@ite _ (zL x ≤ zL y) inst o1 o2) D pc lv (zl y :: zl x :: st) := by
  intro r hr H locs ls hw hs hl
  refine W.lcmp X.1 X.2.1 hd1 ?_
  refine lv_if_le X.1 X.2.1 hdg ht (fun h => ?_) (fun h => ?_)
  · rw [lg_le] at h; rw [if_pos h] at hr; exact kt h r hr H locs ls hw hs hl
  · rw [lg_le] at h; rw [if_neg h] at hr; exact kf h r hr H locs ls hw hs hl
def zb {α : Type} (o : Option (Int × Mm)) (k : Int → Mm → Option α) : Option α := o.bind (fun x => k x.1 x.2)
theorem zT_sub {y : MethodName} {bytes : ByteArray} {mL : Nat} {ret : Option FieldType} (h : Cond.code y bytes mL ret ∈ zT) : GoodIn zT (Cond.code y bytes mL ret :: zT) := fun w hw => by
  rcases List.mem_cons.mp hw with rfl | h2
  · exact ⟨h, zT_good _ h⟩
  · exact ⟨h2, zT_good _ h2⟩
def zD (y : MethodName) (n : Nat) : Prop := y.cls ≠ "java/lang/invoke/MethodHandle" ∧ y.cls ≠ "java/lang/invoke/VarHandle" ∧ (parseMethodDescriptor y.desc).map (fun d => d.parameters.length) = some n
def zSt (own : String) (idx : Nat) (y : MethodName) (bytes : ByteArray) (mL : Nat) (ret : Option FieldType) (n : Nat) : Prop := Cond.methodLink own idx y ∈ zT ∧ Cond.static y ∈ zT ∧ Cond.initialized y.cls ∈ zT ∧ Cond.code y bytes mL ret ∈ zT ∧ zD y n
def zSn (own : String) (idx : Nat) (y : MethodName) (bytes : ByteArray) (mL : Nat) (ret : Option FieldType) (n : Nat) (host : String) : Prop := Cond.methodLinkNest own idx y host ∈ z_nest ∧ Cond.static y ∈ zT ∧ Cond.initialized y.cls ∈ zT ∧ Cond.code y bytes mL ret ∈ zT ∧ zD y n
def zVt (own : String) (idx : Nat) (y : MethodName) (bytes : ByteArray) (mL : Nat) (ret : Option FieldType) (n : Nat) : Prop := Cond.methodLink own idx y ∈ zT ∧ Cond.instanceMethod y ∈ zT ∧ Cond.selects y.cls y y ∈ zT ∧ Cond.initialized y.cls ∈ zT ∧ Cond.code y bytes mL ret ∈ zT ∧ zD y n
def zRm (rm R : Room) (mL : Nat) : Prop := rm.cells = 0 ∧ rm.slots = 0 ∧ rm.frames + 1 ≤ R.frames ∧ 8 + (mL + 11) + rm.locals ≤ R.locals
theorem zc_go {p : Program} {l : Launch} {e : Env} {s : State} {m : MethodId} {args : Array Value} {below : List Frame} {meth : Method} {c : Code} {H : Heap} {locs : List Loc} {Q : State → Prop} {ls : Array Slot} {rest st0 : List Value} {a : Array Value} {rk : Nat} {r : Int} {D1 : Mm}
    (hr : va_Run p l e R s m args below meth c H locs 0 0 0 0 (F0 m pc ls st0) rest (Qz rk r Z D1 a) (zA Z)) (hS : va_S (zA Z) s.heap H locs)
    (kk : ∀ (H1 : Heap) (locs1 : List Loc), Wd Z D1 H1 → va_S (zA Z) s.heap H1 locs1 → W p l e R s m args below meth c H1 locs1 0 0 Q (F0 m (pc + 3) ls ((zrv rk r).toList ++ rest))) : W p l e R s m args below meth c H locs 0 0 Q (F0 m pc ls st0) := by
  intro T hT X
  obtain ⟨v, st₀, t, T', L, h0, X', hL, e1, e2, ⟨hv, hp, hz, hk⟩, st⟩ := hr T hT X
  cases hv
  rw [h0] at hz hk
  obtain ⟨t2, a1, b1⟩ := kk T'.heap (locs ++ L) (by rw [e1]; exact hp)
    ⟨Nat.le_trans hS.1 (by rw [e1]; exact hz), fun q h1 h2 => by rw [e1, hk q (Nat.lt_of_lt_of_le h1 hS.1) h2]; exact hS.2.1 q h1 h2, fun q hq => by
      rcases List.mem_append.mp hq with h | h
      · exact hS.2.2 q h
      · exact hL q h⟩ T' rfl X'
  exact ⟨t2, st t2 a1, b1⟩
theorem zc_S (X : Cx Γ Z cc own nL ret R) {y : MethodName} {bytes : ByteArray} {mL idx : Nat} {retc : Option FieldType} {rm : Room} {rk : Nat} {av st0 : List Value} {r : Int} {D1 : Mm} {Q : State → Prop} {H : Heap} {locs : List Loc} {ls : Array Slot}
    (hM : Met Γ.2.1 y (Cond.code y bytes mL retc :: zT) rm (Pz av Z D) (Qz rk r Z D1) 0 0 (zA Z)) (hw : zSt own idx y bytes mL retc av.length) (hR : zRm rm R mL) (hst : st0 = av.reverse ++ st) (hcat : (st.map fun v => v.category).sum ≤ 8) (hdg : decode cc pc = .ok (.invokestatic idx, 3))
    (hd : Wd Z D H) (hS : va_S (zA Z) Γ.2.2.2.2.1.heap H locs) (hl : lv_has ls nL lv) (kk : ∀ (H1 : Heap) (locs1 : List Loc), Wd Z D1 H1 → va_S (zA Z) Γ.2.2.2.2.1.heap H1 locs1 → zW Γ H1 locs1 Q (pc + 3) ls ((zrv rk r).toList ++ st)) : zW Γ H locs Q pc ls st0 := by
  obtain ⟨p, l, e, R', s, m, args, below, meth, c⟩ := Γ
  obtain ⟨hx, hb, hml, hown, hts, hK, hlk, hz, hrt, rfl⟩ := X
  obtain ⟨w1, w2, w3, w4, w5⟩ := hw
  obtain ⟨r1, r2, r3, r4⟩ := hR
  subst hst
  refine zc_go (va_runS (As := av) (rest := st) (n := av.length) ⟨hx, hb, hml, hown, hts⟩ hM ⟨callB_of av.length hts (zT_sub w4) rfl r1 r2 (hts _ w3) (hts _ w1) w5 ⟨r3, r4⟩, hts _ w2⟩ ⟨zPz_blind, fun U hU hW => ⟨rfl, by rw [hU]; exact hd, hK.warm hW⟩⟩ rfl rfl hl.1 rfl (lv_room hcat) hdg ⟨Nat.zero_le _, Nat.zero_le _⟩) hS kk
theorem zc_N (X : Cx Γ Z cc own nL ret R) {y : MethodName} {host : String} {bytes : ByteArray} {mL idx : Nat} {retc : Option FieldType} {rm : Room} {rk : Nat} {av st0 : List Value} {r : Int} {D1 : Mm} {Q : State → Prop} {H : Heap} {locs : List Loc} {ls : Array Slot}
    (hM : Met Γ.2.1 y (Cond.code y bytes mL retc :: zT) rm (Pz av Z D) (Qz rk r Z D1) 0 0 (zA Z)) (hw : zSn own idx y bytes mL retc av.length host) (hR : zRm rm R mL) (hst : st0 = av.reverse ++ st) (hcat : (st.map fun v => v.category).sum ≤ 8) (hdg : decode cc pc = .ok (.invokestatic idx, 3))
    (hd : Wd Z D H) (hS : va_S (zA Z) Γ.2.2.2.2.1.heap H locs) (hl : lv_has ls nL lv) (kk : ∀ (H1 : Heap) (locs1 : List Loc), Wd Z D1 H1 → va_S (zA Z) Γ.2.2.2.2.1.heap H1 locs1 → zW Γ H1 locs1 Q (pc + 3) ls ((zrv rk r).toList ++ st)) : zW Γ H locs Q pc ls st0 := by
  obtain ⟨p, l, e, R', s, m, args, below, meth, c⟩ := Γ
  obtain ⟨hx, hb, hml, hown, hts, hK, hlk, hz, hrt, rfl⟩ := X
  obtain ⟨w1, w2, w3, w4, w5⟩ := hw
  obtain ⟨r1, r2, r3, r4⟩ := hR
  subst hst
  refine zc_go (va_runSN (As := av) (rest := st) (n := av.length) ⟨hx, hb, hml, hown, hts⟩ hM ⟨va_cnB av.length hts (zT_sub w4) rfl r1 r2 (hK.2 _ w1) (hts _ w3) w5 ⟨r3, r4⟩, hts _ w2, trivial⟩ ⟨zPz_blind, fun U hU hW => ⟨rfl, by rw [hU]; exact hd, hK.warm hW⟩⟩ rfl rfl hl.1 rfl (lv_room hcat) hdg ⟨Nat.zero_le _, Nat.zero_le _⟩) hS kk
theorem zc_V (X : Cx Γ Z cc own nL ret R) {y : MethodName} {bytes : ByteArray} {mL idx : Nat} {retc : Option FieldType} {rm : Room} {rk : Nat} {av st0 : List Value} {r a n : Int} {D1 : Mm} {Q : State → Prop} {H : Heap} {locs : List Loc} {ls : Array Slot} {ci N : Nat} {T : u_T}
    (hM : Met Γ.2.1 y (Cond.code y bytes mL retc :: zT) rm (Pz (zr Z a :: av) Z D) (Qz rk r Z D1) 0 0 (zA Z)) (hw : zVt own idx y bytes mL retc av.length) (hc : classes[ci]? = some (y.cls, T, N)) (ha : Zin Z a (10 + ci) n) (hR : zRm rm R mL) (hst : st0 = av.reverse ++ zr Z a :: st) (hcat : (st.map fun v => v.category).sum ≤ 8) (hdg : decode cc pc = .ok (.invokevirtual idx, 3))
    (hd : Wd Z D H) (hS : va_S (zA Z) Γ.2.2.2.2.1.heap H locs) (hl : lv_has ls nL lv) (kk : ∀ (H1 : Heap) (locs1 : List Loc), Wd Z D1 H1 → va_S (zA Z) Γ.2.2.2.2.1.heap H1 locs1 → zW Γ H1 locs1 Q (pc + 3) ls ((zrv rk r).toList ++ st)) : zW Γ H locs Q pc ls st0 := by
  obtain ⟨p, l, e, R', s, m, args, below, meth, c⟩ := Γ
  obtain ⟨hx, hb, hml, hown, hts, hK, hlk, hz, hrt, rfl⟩ := X
  obtain ⟨w1, w2, w3, w4, w5, w6⟩ := hw
  obtain ⟨r1, r2, r3, r4⟩ := hR
  subst hst
  have e0 := wl_at (D := D) ha.2.1 ha.2.2
  rw [ha.1, em_obj] at e0
  refine zc_go (va_runV (As := av) (rest := st) (n := av.length) (C := y.cls) ⟨hx, hb, hml, hown, hts⟩ hM ⟨callB_of av.length hts (zT_sub w5) rfl r1 r2 (hts _ w4) (hts _ w1) w6 ⟨r3, r4⟩, hts _ w2, hts _ w3⟩ ⟨zPz_blind, va_recv hK.1 hd hc e0, fun U hU hW => ⟨rfl, by rw [hU]; exact hd, hK.warm hW⟩⟩ rfl rfl hl.1 rfl (lv_room hcat) hdg ⟨Nat.zero_le _, Nat.zero_le _⟩) hS kk
theorem zv_cSM0 (X : Cx Γ Z cc own nL ret R) {y : MethodName} {bytes : ByteArray} {mL idx : Nat} {retc : Option FieldType} {rm : Room} {av st0 : List Value} {oc : Option (Int × Mm)} {kf : Int → Mm → Option α}  (hC : CtM Γ.2.1 Z y bytes mL retc rm 0 av D oc) (hw : zSt own idx y bytes mL retc av.length)  (hR : zRm rm R mL) (hst : st0 = av.reverse ++ st) (hcat : (st.map fun v => v.category).sum ≤ 8) (hdg : decode cc pc = .ok (.invokestatic idx, 3)) (kk : ∀ r D1, oc = some (r, D1) → Zv Γ Z nL Qf (kf r D1) D1 (pc + 3) lv st) : Zv Γ Z nL Qf (zb oc kf) D pc lv st0 := by
  intro r hr H locs ls hd hS hl
  obtain ⟨x, hx, hk⟩ := Option.bind_eq_some_iff.mp hr
  exact zc_S X (hC x hx) hw hR hst hcat hdg hd hS hl (fun H1 locs1 h1 h2 => kk x.1 x.2 hx r hk H1 locs1 ls h1 h2 hl)
theorem zv_cSP1 (X : Cx Γ Z cc own nL ret R) {y : MethodName} {bytes : ByteArray} {mL idx : Nat} {retc : Option FieldType} {rm : Room} {av st0 : List Value} {oc : Option Int} {kf : Int → Option α}  (hC : CtP Γ.2.1 Z y bytes mL retc rm 1 av D oc) (hw : zSt own idx y bytes mL retc av.length)  (hR : zRm rm R mL) (hst : st0 = av.reverse ++ st) (hcat : (st.map fun v => v.category).sum ≤ 8) (hdg : decode cc pc = .ok (.invokestatic idx, 3)) (kk : ∀ r, oc = some r → Zv Γ Z nL Qf (kf r) D (pc + 3) lv (zi r :: st)) : Zv Γ Z nL Qf (oc.bind kf) D pc lv st0 := by
  intro r hr H locs ls hd hS hl
  obtain ⟨x, hx, hk⟩ := Option.bind_eq_some_iff.mp hr
  exact zc_S X (hC x hx) hw hR hst hcat hdg hd hS hl (fun H1 locs1 h1 h2 => kk x hx r hk H1 locs1 ls h1 h2 hl)
theorem zv_cSM1 (X : Cx Γ Z cc own nL ret R) {y : MethodName} {bytes : ByteArray} {mL idx : Nat} {retc : Option FieldType} {rm : Room} {av st0 : List Value} {oc : Option (Int × Mm)} {kf : Int → Mm → Option α}  (hC : CtM Γ.2.1 Z y bytes mL retc rm 1 av D oc) (hw : zSt own idx y bytes mL retc av.length)  (hR : zRm rm R mL) (hst : st0 = av.reverse ++ st) (hcat : (st.map fun v => v.category).sum ≤ 8) (hdg : decode cc pc = .ok (.invokestatic idx, 3)) (kk : ∀ r D1, oc = some (r, D1) → Zv Γ Z nL Qf (kf r D1) D1 (pc + 3) lv (zi r :: st)) : Zv Γ Z nL Qf (zb oc kf) D pc lv st0 := by
  intro r hr H locs ls hd hS hl
  obtain ⟨x, hx, hk⟩ := Option.bind_eq_some_iff.mp hr
  exact zc_S X (hC x hx) hw hR hst hcat hdg hd hS hl (fun H1 locs1 h1 h2 => kk x.1 x.2 hx r hk H1 locs1 ls h1 h2 hl)
theorem zv_cSP2 (X : Cx Γ Z cc own nL ret R) {y : MethodName} {bytes : ByteArray} {mL idx : Nat} {retc : Option FieldType} {rm : Room} {av st0 : List Value} {oc : Option Int} {kf : Int → Option α}  (hC : CtP Γ.2.1 Z y bytes mL retc rm 2 av D oc) (hw : zSt own idx y bytes mL retc av.length)  (hR : zRm rm R mL) (hst : st0 = av.reverse ++ st) (hcat : (st.map fun v => v.category).sum ≤ 8) (hdg : decode cc pc = .ok (.invokestatic idx, 3)) (kk : ∀ r, oc = some r → Zv Γ Z nL Qf (kf r) D (pc + 3) lv (zl r :: st)) : Zv Γ Z nL Qf (oc.bind kf) D pc lv st0 := by
  intro r hr H locs ls hd hS hl
  obtain ⟨x, hx, hk⟩ := Option.bind_eq_some_iff.mp hr
  exact zc_S X (hC x hx) hw hR hst hcat hdg hd hS hl (fun H1 locs1 h1 h2 => kk x hx r hk H1 locs1 ls h1 h2 hl)
theorem zv_cSM2 (X : Cx Γ Z cc own nL ret R) {y : MethodName} {bytes : ByteArray} {mL idx : Nat} {retc : Option FieldType} {rm : Room} {av st0 : List Value} {oc : Option (Int × Mm)} {kf : Int → Mm → Option α}  (hC : CtM Γ.2.1 Z y bytes mL retc rm 2 av D oc) (hw : zSt own idx y bytes mL retc av.length)  (hR : zRm rm R mL) (hst : st0 = av.reverse ++ st) (hcat : (st.map fun v => v.category).sum ≤ 8) (hdg : decode cc pc = .ok (.invokestatic idx, 3)) (kk : ∀ r D1, oc = some (r, D1) → Zv Γ Z nL Qf (kf r D1) D1 (pc + 3) lv (zl r :: st)) : Zv Γ Z nL Qf (zb oc kf) D pc lv st0 := by
  intro r hr H locs ls hd hS hl
  obtain ⟨x, hx, hk⟩ := Option.bind_eq_some_iff.mp hr
  exact zc_S X (hC x hx) hw hR hst hcat hdg hd hS hl (fun H1 locs1 h1 h2 => kk x.1 x.2 hx r hk H1 locs1 ls h1 h2 hl)
theorem zv_cNM0 (X : Cx Γ Z cc own nL ret R) {y : MethodName} {bytes : ByteArray} {mL idx : Nat} {retc : Option FieldType} {rm : Room} {av st0 : List Value} {oc : Option (Int × Mm)} {kf : Int → Mm → Option α} {host : String} (hC : CtM Γ.2.1 Z y bytes mL retc rm 0 av D oc) (hw : zSn own idx y bytes mL retc av.length host)  (hR : zRm rm R mL) (hst : st0 = av.reverse ++ st) (hcat : (st.map fun v => v.category).sum ≤ 8) (hdg : decode cc pc = .ok (.invokestatic idx, 3)) (kk : ∀ r D1, oc = some (r, D1) → Zv Γ Z nL Qf (kf r D1) D1 (pc + 3) lv st) : Zv Γ Z nL Qf (zb oc kf) D pc lv st0 := by
  intro r hr H locs ls hd hS hl
  obtain ⟨x, hx, hk⟩ := Option.bind_eq_some_iff.mp hr
  exact zc_N X (hC x hx) hw hR hst hcat hdg hd hS hl (fun H1 locs1 h1 h2 => kk x.1 x.2 hx r hk H1 locs1 ls h1 h2 hl)
theorem zv_cNP1 (X : Cx Γ Z cc own nL ret R) {y : MethodName} {bytes : ByteArray} {mL idx : Nat} {retc : Option FieldType} {rm : Room} {av st0 : List Value} {oc : Option Int} {kf : Int → Option α} {host : String} (hC : CtP Γ.2.1 Z y bytes mL retc rm 1 av D oc) (hw : zSn own idx y bytes mL retc av.length host)  (hR : zRm rm R mL) (hst : st0 = av.reverse ++ st) (hcat : (st.map fun v => v.category).sum ≤ 8) (hdg : decode cc pc = .ok (.invokestatic idx, 3)) (kk : ∀ r, oc = some r → Zv Γ Z nL Qf (kf r) D (pc + 3) lv (zi r :: st)) : Zv Γ Z nL Qf (oc.bind kf) D pc lv st0 := by
  intro r hr H locs ls hd hS hl
  obtain ⟨x, hx, hk⟩ := Option.bind_eq_some_iff.mp hr
  exact zc_N X (hC x hx) hw hR hst hcat hdg hd hS hl (fun H1 locs1 h1 h2 => kk x hx r hk H1 locs1 ls h1 h2 hl)
theorem zv_cNM1 (X : Cx Γ Z cc own nL ret R) {y : MethodName} {bytes : ByteArray} {mL idx : Nat} {retc : Option FieldType} {rm : Room} {av st0 : List Value} {oc : Option (Int × Mm)} {kf : Int → Mm → Option α} {host : String} (hC : CtM Γ.2.1 Z y bytes mL retc rm 1 av D oc) (hw : zSn own idx y bytes mL retc av.length host)  (hR : zRm rm R mL) (hst : st0 = av.reverse ++ st) (hcat : (st.map fun v => v.category).sum ≤ 8) (hdg : decode cc pc = .ok (.invokestatic idx, 3)) (kk : ∀ r D1, oc = some (r, D1) → Zv Γ Z nL Qf (kf r D1) D1 (pc + 3) lv (zi r :: st)) : Zv Γ Z nL Qf (zb oc kf) D pc lv st0 := by
  intro r hr H locs ls hd hS hl
  obtain ⟨x, hx, hk⟩ := Option.bind_eq_some_iff.mp hr
  exact zc_N X (hC x hx) hw hR hst hcat hdg hd hS hl (fun H1 locs1 h1 h2 => kk x.1 x.2 hx r hk H1 locs1 ls h1 h2 hl)
theorem zv_cNP2 (X : Cx Γ Z cc own nL ret R) {y : MethodName} {bytes : ByteArray} {mL idx : Nat} {retc : Option FieldType} {rm : Room} {av st0 : List Value} {oc : Option Int} {kf : Int → Option α} {host : String} (hC : CtP Γ.2.1 Z y bytes mL retc rm 2 av D oc) (hw : zSn own idx y bytes mL retc av.length host)  (hR : zRm rm R mL) (hst : st0 = av.reverse ++ st) (hcat : (st.map fun v => v.category).sum ≤ 8) (hdg : decode cc pc = .ok (.invokestatic idx, 3)) (kk : ∀ r, oc = some r → Zv Γ Z nL Qf (kf r) D (pc + 3) lv (zl r :: st)) : Zv Γ Z nL Qf (oc.bind kf) D pc lv st0 := by
  intro r hr H locs ls hd hS hl
  obtain ⟨x, hx, hk⟩ := Option.bind_eq_some_iff.mp hr
  exact zc_N X (hC x hx) hw hR hst hcat hdg hd hS hl (fun H1 locs1 h1 h2 => kk x hx r hk H1 locs1 ls h1 h2 hl)
theorem zv_cNM2 (X : Cx Γ Z cc own nL ret R) {y : MethodName} {bytes : ByteArray} {mL idx : Nat} {retc : Option FieldType} {rm : Room} {av st0 : List Value} {oc : Option (Int × Mm)} {kf : Int → Mm → Option α} {host : String} (hC : CtM Γ.2.1 Z y bytes mL retc rm 2 av D oc) (hw : zSn own idx y bytes mL retc av.length host)  (hR : zRm rm R mL) (hst : st0 = av.reverse ++ st) (hcat : (st.map fun v => v.category).sum ≤ 8) (hdg : decode cc pc = .ok (.invokestatic idx, 3)) (kk : ∀ r D1, oc = some (r, D1) → Zv Γ Z nL Qf (kf r D1) D1 (pc + 3) lv (zl r :: st)) : Zv Γ Z nL Qf (zb oc kf) D pc lv st0 := by
  intro r hr H locs ls hd hS hl
  obtain ⟨x, hx, hk⟩ := Option.bind_eq_some_iff.mp hr
  exact zc_N X (hC x hx) hw hR hst hcat hdg hd hS hl (fun H1 locs1 h1 h2 => kk x.1 x.2 hx r hk H1 locs1 ls h1 h2 hl)
theorem zv_cVM0 (X : Cx Γ Z cc own nL ret R) {y : MethodName} {bytes : ByteArray} {mL idx : Nat} {retc : Option FieldType} {rm : Room} {av st0 : List Value} {oc : Option (Int × Mm)} {kf : Int → Mm → Option α} {a n : Int} {ci N : Nat} {T : u_T} (hC : CtM Γ.2.1 Z y bytes mL retc rm 0 (zr Z a :: av) D oc) (hw : zVt own idx y bytes mL retc av.length) (hc : classes[ci]? = some (y.cls, T, N)) (ha : Zin Z a (10 + ci) n) (hR : zRm rm R mL) (hst : st0 = av.reverse ++ zr Z a :: st) (hcat : (st.map fun v => v.category).sum ≤ 8) (hdg : decode cc pc = .ok (.invokevirtual idx, 3)) (kk : ∀ r D1, oc = some (r, D1) → Zv Γ Z nL Qf (kf r D1) D1 (pc + 3) lv st) : Zv Γ Z nL Qf (zb oc kf) D pc lv st0 := by
  intro r hr H locs ls hd hS hl
  obtain ⟨x, hx, hk⟩ := Option.bind_eq_some_iff.mp hr
  exact zc_V X (hC x hx) hw hc ha hR hst hcat hdg hd hS hl (fun H1 locs1 h1 h2 => kk x.1 x.2 hx r hk H1 locs1 ls h1 h2 hl)
theorem zv_cVP1 (X : Cx Γ Z cc own nL ret R) {y : MethodName} {bytes : ByteArray} {mL idx : Nat} {retc : Option FieldType} {rm : Room} {av st0 : List Value} {oc : Option Int} {kf : Int → Option α} {a n : Int} {ci N : Nat} {T : u_T} (hC : CtP Γ.2.1 Z y bytes mL retc rm 1 (zr Z a :: av) D oc) (hw : zVt own idx y bytes mL retc av.length) (hc : classes[ci]? = some (y.cls, T, N)) (ha : Zin Z a (10 + ci) n) (hR : zRm rm R mL) (hst : st0 = av.reverse ++ zr Z a :: st) (hcat : (st.map fun v => v.category).sum ≤ 8) (hdg : decode cc pc = .ok (.invokevirtual idx, 3)) (kk : ∀ r, oc = some r → Zv Γ Z nL Qf (kf r) D (pc + 3) lv (zi r :: st)) : Zv Γ Z nL Qf (oc.bind kf) D pc lv st0 := by
  intro r hr H locs ls hd hS hl
  obtain ⟨x, hx, hk⟩ := Option.bind_eq_some_iff.mp hr
  exact zc_V X (hC x hx) hw hc ha hR hst hcat hdg hd hS hl (fun H1 locs1 h1 h2 => kk x hx r hk H1 locs1 ls h1 h2 hl)
theorem zv_cVM1 (X : Cx Γ Z cc own nL ret R) {y : MethodName} {bytes : ByteArray} {mL idx : Nat} {retc : Option FieldType} {rm : Room} {av st0 : List Value} {oc : Option (Int × Mm)} {kf : Int → Mm → Option α} {a n : Int} {ci N : Nat} {T : u_T} (hC : CtM Γ.2.1 Z y bytes mL retc rm 1 (zr Z a :: av) D oc) (hw : zVt own idx y bytes mL retc av.length) (hc : classes[ci]? = some (y.cls, T, N)) (ha : Zin Z a (10 + ci) n) (hR : zRm rm R mL) (hst : st0 = av.reverse ++ zr Z a :: st) (hcat : (st.map fun v => v.category).sum ≤ 8) (hdg : decode cc pc = .ok (.invokevirtual idx, 3)) (kk : ∀ r D1, oc = some (r, D1) → Zv Γ Z nL Qf (kf r D1) D1 (pc + 3) lv (zi r :: st)) : Zv Γ Z nL Qf (zb oc kf) D pc lv st0 := by
  intro r hr H locs ls hd hS hl
  obtain ⟨x, hx, hk⟩ := Option.bind_eq_some_iff.mp hr
  exact zc_V X (hC x hx) hw hc ha hR hst hcat hdg hd hS hl (fun H1 locs1 h1 h2 => kk x.1 x.2 hx r hk H1 locs1 ls h1 h2 hl)
theorem zv_cVP2 (X : Cx Γ Z cc own nL ret R) {y : MethodName} {bytes : ByteArray} {mL idx : Nat} {retc : Option FieldType} {rm : Room} {av st0 : List Value} {oc : Option Int} {kf : Int → Option α} {a n : Int} {ci N : Nat} {T : u_T} (hC : CtP Γ.2.1 Z y bytes mL retc rm 2 (zr Z a :: av) D oc) (hw : zVt own idx y bytes mL retc av.length) (hc : classes[ci]? = some (y.cls, T, N)) (ha : Zin Z a (10 + ci) n) (hR : zRm rm R mL) (hst : st0 = av.reverse ++ zr Z a :: st) (hcat : (st.map fun v => v.category).sum ≤ 8) (hdg : decode cc pc = .ok (.invokevirtual idx, 3)) (kk : ∀ r, oc = some r → Zv Γ Z nL Qf (kf r) D (pc + 3) lv (zl r :: st)) : Zv Γ Z nL Qf (oc.bind kf) D pc lv st0 := by
  intro r hr H locs ls hd hS hl
  obtain ⟨x, hx, hk⟩ := Option.bind_eq_some_iff.mp hr
  exact zc_V X (hC x hx) hw hc ha hR hst hcat hdg hd hS hl (fun H1 locs1 h1 h2 => kk x hx r hk H1 locs1 ls h1 h2 hl)
theorem zv_cVM2 (X : Cx Γ Z cc own nL ret R) {y : MethodName} {bytes : ByteArray} {mL idx : Nat} {retc : Option FieldType} {rm : Room} {av st0 : List Value} {oc : Option (Int × Mm)} {kf : Int → Mm → Option α} {a n : Int} {ci N : Nat} {T : u_T} (hC : CtM Γ.2.1 Z y bytes mL retc rm 2 (zr Z a :: av) D oc) (hw : zVt own idx y bytes mL retc av.length) (hc : classes[ci]? = some (y.cls, T, N)) (ha : Zin Z a (10 + ci) n) (hR : zRm rm R mL) (hst : st0 = av.reverse ++ zr Z a :: st) (hcat : (st.map fun v => v.category).sum ≤ 8) (hdg : decode cc pc = .ok (.invokevirtual idx, 3)) (kk : ∀ r D1, oc = some (r, D1) → Zv Γ Z nL Qf (kf r D1) D1 (pc + 3) lv (zl r :: st)) : Zv Γ Z nL Qf (zb oc kf) D pc lv st0 := by
  intro r hr H locs ls hd hS hl
  obtain ⟨x, hx, hk⟩ := Option.bind_eq_some_iff.mp hr
  exact zc_V X (hC x hx) hw hc ha hR hst hcat hdg hd hS hl (fun H1 locs1 h1 h2 => kk x.1 x.2 hx r hk H1 locs1 ls h1 h2 hl)
theorem zm_M {l : Launch} {y : MethodName} {rm : Room} {rk : Nat} {av : List Value} {om : Option (Int × Mm)} (hZ : Zok Z) (hy : plainName y.cls = true) (hcls : y.cls = own) (hlen : (lg_sl av).length ≤ nL) (hlv : lv_args 0 av = lv) (body : ∀ Γ, Γ.2.1 = l → Cx Γ Z cc own nL ret rm → Zv Γ Z nL (QfM Γ Z rk) om D 0 lv []) : CtM l Z y cc nL ret rm rk av D om := by
  intro x hx
  refine Met.ofW (cc := cc) (maxL := nL) (ret := ret) hy rfl ?_
  intro p e s m args below meth c s₁ B hml hv
  obtain ⟨rfl, hd, hK⟩ := hv
  have hts := atoms_spec (ws := Cond.code y cc nL ret :: zT) B.pre
  have hown : s.vm.findClass y.cls = some m.cls := findClass_of_methodNamed B.named
  rw [hcls] at hown
  have hl := lv_entry av (n := nL) hlen
  rw [lg_entry_eq]
  rw [hlv] at hl
  exact body (p, l, e, rm, s, m, av.toArray, below, meth, c) rfl ⟨B.exec, B.bytes, hml, hown, fun w hw => hts w (List.mem_cons_of_mem _ hw), hK, B.notSynchronized, hZ, B.returns, rfl⟩ x hx s.heap [] _ hd va_S.rf hl
theorem zm_P {l : Launch} {y : MethodName} {rm : Room} {rk : Nat} {av : List Value} {om : Option Int} (hZ : Zok Z) (hy : plainName y.cls = true) (hcls : y.cls = own) (hlen : (lg_sl av).length ≤ nL) (hlv : lv_args 0 av = lv) (body : ∀ Γ, Γ.2.1 = l → Cx Γ Z cc own nL ret rm → Zv Γ Z nL (QfP Γ Z rk D) om D 0 lv []) : CtP l Z y cc nL ret rm rk av D om := by
  intro x hx
  refine Met.ofW (cc := cc) (maxL := nL) (ret := ret) hy rfl ?_
  intro p e s m args below meth c s₁ B hml hv
  obtain ⟨rfl, hd, hK⟩ := hv
  have hts := atoms_spec (ws := Cond.code y cc nL ret :: zT) B.pre
  have hown : s.vm.findClass y.cls = some m.cls := findClass_of_methodNamed B.named
  rw [hcls] at hown
  have hl := lv_entry av (n := nL) hlen
  rw [lg_entry_eq]
  rw [hlv] at hl
  exact body (p, l, e, rm, s, m, av.toArray, below, meth, c) rfl ⟨B.exec, B.bytes, hml, hown, fun w hw => hts w (List.mem_cons_of_mem _ hw), hK, B.notSynchronized, hZ, B.returns, rfl⟩ x hx s.heap [] _ hd va_S.rf hl
end ZD
end
section
def isQ (q : Int) : Prop := q = 32 ∨ q = 69
def isF (f : Int) : Prop := f = 12 ∨ f = 106 ∨ f = 125
def zF : Nat := 1000000
def zst {α : Type} (D : Mm) (a i x : Int) (k : Mm → Option α) : Option α := k (stm D a i x)
def zcp {α : Type} (D : Mm) (s sp d dp n : Int) (k : Mm → Option α) : Option α := k (cpm D s sp d dp n)
def zlt {α : Type} (e : Int) (k : Int → Option α) : Option α := k e
section ZE
variable {α : Type} {Γ : Gt} {Z : Zt} {nL : Nat} {Qf : α → State → Prop} {o o1 o2 : Option α} {D : Mm} {pc : Nat} {lv lv2 : List (Nat × Value)} {st : List Value} {cc : ByteArray} {own : String} {ret : Option FieldType} {R : Room} {kf : Mm → Option α}
theorem zv_iastC (X : Cx Γ Z cc own nL ret R) {a i n x : Int} (ha : Zin Z a 0 n) {inst : Decidable (0 ≤ i ∧ i < n)} (hdg : decode cc pc = .ok (.iastore, 1)) (kk : 0 ≤ i → i < n → ∀ D1 : Mm, Zv Γ Z nL Qf (kf D1) D1 (pc + 1) lv st) : Zv Γ Z nL Qf (@ite _ (0 ≤ i ∧ i < n) inst (zst D a i x kf) none) D pc lv (zi x :: zi i :: zr Z a :: st) := zv_iast X ha hdg (fun h1 h2 => kk h1 h2 _)
theorem zv_iastK (X : Cx Γ Z cc own nL ret R) {a i n x : Int} (ha : Zin Z a 0 n) (h1 : 0 ≤ i) (h2 : i < n) (hdg : decode cc pc = .ok (.iastore, 1)) (kk : ∀ D1 : Mm, Zv Γ Z nL Qf (kf D1) D1 (pc + 1) lv st) : Zv Γ Z nL Qf (zst D a i x kf) D pc lv (zi x :: zi i :: zr Z a :: st) := by
  have h := zv_iast (n := n) (inst := inferInstance) (o := kf (stm D a i x)) X ha hdg (fun _ _ => kk (stm D a i x))
  rw [if_pos ⟨h1, h2⟩] at h
  exact h
theorem zv_ialdK (X : Cx Γ Z cc own nL ret R) {a i n : Int} (ha : Zin Z a 0 n) (h1 : 0 ≤ i) (h2 : i < n) (hdg : decode cc pc = .ok (.iaload, 1)) (kk : Zv Γ Z nL Qf o D (pc + 1) lv (zi (D a i) :: st)) : Zv Γ Z nL Qf o D pc lv (zi i :: zr Z a :: st) := by
  have h := zv_iald (n := n) (inst := inferInstance) (o := o) X ha hdg (fun _ _ => kk)
  rw [if_pos ⟨h1, h2⟩] at h
  exact h
theorem zv_aaldK (X : Cx Γ Z cc own nL ret R) {a i n : Int} (b : Int) (ha : Zin Z a 1 n) (h1 : 0 ≤ i) (h2 : i < n) (hdg : decode cc pc = .ok (.aaload, 1)) (hb : a + 1 + i = b) (kk : Zv Γ Z nL Qf o D (pc + 1) lv (zr Z b :: st)) : Zv Γ Z nL Qf o D pc lv (zi i :: zr Z a :: st) := by
  have h := zv_aald (n := n) (inst := inferInstance) (o := o) X b ha hdg hb (fun _ _ => kk)
  rw [if_pos ⟨h1, h2⟩] at h
  exact h
theorem zv_faldK (X : Cx Γ Z cc own nL ret R) {a i n : Int} (b : Int) (ha : Zin Z a 2 n) (h1 : 0 ≤ i) (h2 : i < n) (hdg : decode cc pc = .ok (.aaload, 1)) (hb : 106 + 19 * i = b) (kk : Zv Γ Z nL Qf o D (pc + 1) lv (zr Z b :: st)) : Zv Γ Z nL Qf o D pc lv (zi i :: zr Z a :: st) := by
  have h := zv_fald (n := n) (inst := inferInstance) (o := o) X b ha hdg hb (fun _ _ => kk)
  rw [if_pos ⟨h1, h2⟩] at h
  exact h
theorem zv_putC (X : Cx Γ Z cc own nL ret R) {ci N index : Nat} {C : String} {T : u_T} (hc : classes[ci]? = some (C, T, N)) (hin : ∀ w ∈ u_ws C T N, w ∈ zT) (t0 : Nat → FieldType) (hty : ∀ k, k < N → parseFieldDescriptor (T k).2.2.1 = some (t0 k)) (hnm : ∀ a, a < N → ∀ b, b < N → a ≠ b → (T a).2.1 ≠ (T b).2.1) {a n x : Int} (ha : Zin Z a (10 + ci) n) (k : Nat) {kz : Int} (hkz : (k : Int) = kz) (hk : k < N) (hlink : Cond.fieldLink own index C (T k).2.1 (T k).2.2.1 ∈ zT) (hcls : (T k).1 = C) (hfin : (T k).2.2.2 = false) {v : Value} (hset : fl ci Z (stm D a kz x) a = (fl ci Z D a).set k v) (hl0 : k < (fl ci Z D a).length) (hn : narrow (t0 k) v = v) (hfit : fits (t0 k) v = true) (hdg : decode cc pc = .ok (.putfield index, 3)) (kk : ∀ D1 : Mm, Zv Γ Z nL Qf (kf D1) D1 (pc + 3) lv st) : Zv Γ Z nL Qf (zst D a kz x kf) D pc lv (v :: zr Z a :: st) := by
  subst hkz
  exact zv_put X hc hin t0 hty hnm ha k hk hlink hcls hfin hset hl0 hn hfit hdg (kk (stm D a k x))
theorem zv_let {e : Int} {kf : Int → Option α} (k : ∀ x : Int, Zv Γ Z nL Qf (kf x) D pc lv (zi x :: st)) : Zv Γ Z nL Qf (zlt e kf) D pc lv (zi e :: st) := k e
theorem zv_letl {e : Int} {kf : Int → Option α} (k : ∀ x : Int, Zv Γ Z nL Qf (kf x) D pc lv (zl x :: st)) : Zv Γ Z nL Qf (zlt e kf) D pc lv (zl e :: st) := k e
theorem zt_def {lo hi dflt : Int} {offs : Array Int} {cs : List Int} (hall : (List.range offs.size).all (fun k => cs.contains (lo + (k : Int)) || offs[k]? == some dflt) = true) (hsz : hi - lo + 1 = (offs.size : Int)) {v : Int} (hv : ∀ c ∈ cs, v ≠ c) : (v < lo ∨ hi < v) ∨ ((¬ v < lo) ∧ (¬ hi < v) ∧ offs[(v - lo).toNat]? = some dflt) := by
  by_cases h1 : v < lo
  · exact Or.inl (Or.inl h1)
  · by_cases h2 : hi < v
    · exact Or.inl (Or.inr h2)
    · refine Or.inr ⟨h1, h2, ?_⟩
      have hk : (v - lo).toNat < offs.size := by omega
      have h3 := List.all_eq_true.mp hall _ (List.mem_range.mpr hk)
      rcases (Bool.or_eq_true _ _).mp h3 with h4 | h4
      · have h5 : lo + ((v - lo).toNat : Int) ∈ cs := by simpa using h4
        exact absurd (show v = lo + ((v - lo).toNat : Int) by omega) (hv _ h5)
      · exact eq_of_beq h4
theorem zv_tdef (X : Cx Γ Z cc own nL ret R) {dflt lo hi : Int} {offs : Array Int} {len : Nat} {x : Int} {tgt : Nat} (hdg : decode cc pc = .ok (.tableswitch dflt lo hi offs, len)) (h : ((zI x).toInt < lo ∨ hi < (zI x).toInt) ∨ ((¬ (zI x).toInt < lo) ∧ (¬ hi < (zI x).toInt) ∧ offs[((zI x).toInt - lo).toNat]? = some dflt)) (ht : (pc : Int) + dflt = (tgt : Int)) (k : Zv Γ Z nL Qf o D tgt lv st) : Zv Γ Z nL Qf o D pc lv (zi x :: st) := by
  rcases h with h | h
  · exact zv_tout X hdg h ht k
  · exact zv_tin X hdg (j := (zI x).toInt) (zI_of _).symm (by rw [zI_of]; exact h) ht k
theorem zI_nek {x j : Int} (h : ¬ zI x = zI j) (hj : (zI j).toInt = j) : (zI x).toInt ≠ j := fun q => h (Int32.toInt_inj.mp (by rw [hj]; exact q))
theorem em_cp {a n b : Int} (hb : b ≠ a) {s sp dp : Int} (sx : Nat × Int) : em Z (cpm D s sp a dp n) b sx = em Z D b sx := by
  have e : ∀ j, cpm D s sp a dp n b j = D b j := fun j => by unfold cpm; rw [if_neg (fun q => hb q.1)]
  unfold em fl
  simp only [e]
theorem zv_copyK (X : Cx Γ Z cc own nL ret R) {idx : Nat} {s sp d dp n ns nd : Int} (hs0 : Zin Z s 0 ns) (hd0 : Zin Z d 0 nd) (hw : Cond.methodLink own idx arraycopyName ∈ zT ∧ Cond.native arraycopyName ∈ zT ∧ Cond.static arraycopyName ∈ zT ∧ Cond.initialized "java/lang/System" ∈ zT) (h1 : 0 ≤ sp) (h2 : 0 ≤ dp) (h3 : 0 ≤ n) (h4 : sp + n ≤ ns) (h5 : dp + n ≤ nd) (hR : 1 ≤ R.frames ∧ (st.map fun v => v.category).sum + (nativeFrameWords "java/lang/System" "arraycopy" 5 + 11) ≤ R.locals) (hdg : decode cc pc = .ok (.invokestatic idx, 3)) (kk : ∀ D1 : Mm, Zv Γ Z nL Qf (kf D1) D1 (pc + 3) lv st) : Zv Γ Z nL Qf (zcp D s sp d dp n kf) D pc lv (zi n :: zi dp :: zr Z d :: zi sp :: zr Z s :: st) := by
  intro r hr H locs ls hd hS hl
  have l1 := hs0.le
  have l2 := hd0.le
  have e0 := wl_at (D := D) hs0.2.1 hs0.2.2
  rw [hs0.1, em_arr] at e0
  have e1 := wl_at (D := D) hd0.2.1 hd0.2.2
  rw [hd0.1, em_arr] at e1
  have t : ∀ {x : Int}, 0 ≤ x → x ≤ 2147483647 → (¬ zI x < 0) ∧ (zI x).toNatClampNeg = x.toNat := by
    intro x a1 a2
    have e : (zI x).toInt = x := zI_toInt (by omega) (by omega)
    refine ⟨?_, ?_⟩
    · rw [Int32.lt_iff_toInt_lt, e]
      show ¬ x < 0
      omega
    · show (zI x).toInt.toNat = _
      rw [e]
  obtain ⟨a1, a2⟩ := t h1 (by omega)
  obtain ⟨b1, b2⟩ := t h2 (by omega)
  obtain ⟨c1, c2⟩ := t h3 (by omega)
  obtain ⟨w1, w2, w3, w4⟩ := hw
  have hR2 := X.2.2.2.2.2.2.2.2.2
  refine va_copyi (ty := .int) X.1 X.2.1 (by rw [X.2.2.1]; exact hl.1.symm) X.2.2.2.1 (X.2.2.2.2.1 _ w1) (X.2.2.2.2.1 _ w2) (X.2.2.2.2.1 _ w3) (X.2.2.2.2.1 _ w4) X.2.2.2.2.2.1.1 hd (wl_D X.2.2.2.2.2.2.2.1 D) hS (s.toNat - 1) (d.toNat - 1) 0 0 e0 e1 rfl rfl rfl a1 b1 c1 (by rw [a2, c2]; omega) (by rw [b2, c2]; omega) (fun _ _ => rfl) (by rw [hR2]; exact hR.1) (by rw [hR2]; exact hR.2) hdg (fun H1 locs1 k1 k2 k3 => ?_)
  refine kk (cpm D s sp d dp n) r hr H1 locs1 ls ?_ k3 hl
  rw [wl_set (D' := cpm D s sp d dp n) hd0.2.1 hd0.2.2 ?_ (fun b hb => em_cp hb _)] at k1
  · exact k1
  · rw [hd0.1, em_arr, a2, b2, c2]
    congr 3
    congr 1
    funext j
    unfold va_cpy cpm
    by_cases hj : dp.toNat ≤ j ∧ j < dp.toNat + n.toNat
    · rw [if_pos hj, if_pos ⟨rfl, by omega, by omega⟩]
      congr 2
      omega
    · rw [if_neg hj, if_neg (fun q => hj ⟨by omega, by omega⟩)]
end ZE
end
