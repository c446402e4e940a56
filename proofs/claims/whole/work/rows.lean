section
-- ===== PART A: goes FIRST, ahead of the names: the tables' words, and 'selects' of the private methods out of them =====
/-- a private method of a class that the tables say can be made, by its rows of tables_1 -/
def lw_okq (q : MethodName × Nat) : Prop := (q.1.cls ≠ "java/lang/invoke/MethodHandle" ∧ q.1.cls ≠ "java/lang/invoke/VarHandle") ∧ Cond.instantiable q.1.cls q.2 ∈ tables_1 ∧ Cond.privateMethod q.1 ∈ tables_1 ∧ Cond.instanceMethod q.1 ∈ tables_1
theorem lw_p0 : lw_okq (⟨"LeafTable$Text", "fitsHead", "(I)Z"⟩, 2) := ⟨⟨by decide +kernel, by decide +kernel⟩, List.mem_of_getElem? (i := 21) (by decide +kernel), List.mem_of_getElem? (i := 246) (by decide +kernel), List.mem_of_getElem? (i := 247) (by decide +kernel)⟩
theorem lw_p1 : lw_okq (⟨"LeafTable$Text", "isLetter", "(IC)Z"⟩, 2) := ⟨⟨by decide +kernel, by decide +kernel⟩, List.mem_of_getElem? (i := 21) (by decide +kernel), List.mem_of_getElem? (i := 254) (by decide +kernel), List.mem_of_getElem? (i := 255) (by decide +kernel)⟩
theorem lw_p2 : lw_okq (⟨"LeafTable$Text", "fitsGuest", "(I)Z"⟩, 2) := ⟨⟨by decide +kernel, by decide +kernel⟩, List.mem_of_getElem? (i := 21) (by decide +kernel), List.mem_of_getElem? (i := 262) (by decide +kernel), List.mem_of_getElem? (i := 263) (by decide +kernel)⟩
theorem lw_p3 : lw_okq (⟨"LeafTable$Text", "isAnyFree", "(II)Z"⟩, 2) := ⟨⟨by decide +kernel, by decide +kernel⟩, List.mem_of_getElem? (i := 21) (by decide +kernel), List.mem_of_getElem? (i := 266) (by decide +kernel), List.mem_of_getElem? (i := 267) (by decide +kernel)⟩
theorem lw_p4 : lw_okq (⟨"LeafTable$Text", "isFree", "(II)Z"⟩, 2) := ⟨⟨by decide +kernel, by decide +kernel⟩, List.mem_of_getElem? (i := 21) (by decide +kernel), List.mem_of_getElem? (i := 270) (by decide +kernel), List.mem_of_getElem? (i := 271) (by decide +kernel)⟩
theorem lw_p5 : lw_okq (⟨"LeafTable$Table", "nextFrom", "(LLeafTable$Seats;I)I"⟩, 6) := ⟨⟨by decide +kernel, by decide +kernel⟩, List.mem_of_getElem? (i := 36) (by decide +kernel), List.mem_of_getElem? (i := 316) (by decide +kernel), List.mem_of_getElem? (i := 317) (by decide +kernel)⟩
theorem lw_p6 : lw_okq (⟨"LeafTable$Table", "growthOf", "(I)I"⟩, 6) := ⟨⟨by decide +kernel, by decide +kernel⟩, List.mem_of_getElem? (i := 36) (by decide +kernel), List.mem_of_getElem? (i := 329) (by decide +kernel), List.mem_of_getElem? (i := 330) (by decide +kernel)⟩
theorem lw_p7 : lw_okq (⟨"LeafTable$Table", "isTaken", "(LLeafTable$Seats;I)Z"⟩, 6) := ⟨⟨by decide +kernel, by decide +kernel⟩, List.mem_of_getElem? (i := 36) (by decide +kernel), List.mem_of_getElem? (i := 335) (by decide +kernel), List.mem_of_getElem? (i := 336) (by decide +kernel)⟩
theorem lw_p8 : lw_okq (⟨"LeafTable$Acts", "forgetFirst", "()V"⟩, 2) := ⟨⟨by decide +kernel, by decide +kernel⟩, List.mem_of_getElem? (i := 107) (by decide +kernel), List.mem_of_getElem? (i := 343) (by decide +kernel), List.mem_of_getElem? (i := 344) (by decide +kernel)⟩
theorem lw_p9 : lw_okq (⟨"LeafTable$Plans", "takePasses", "(II)V"⟩, 5) := ⟨⟨by decide +kernel, by decide +kernel⟩, List.mem_of_getElem? (i := 154) (by decide +kernel), List.mem_of_getElem? (i := 411) (by decide +kernel), List.mem_of_getElem? (i := 412) (by decide +kernel)⟩
theorem lw_p10 : lw_okq (⟨"LeafTable$Plans", "isReached", "(LLeafTable$Seats;I)Z"⟩, 5) := ⟨⟨by decide +kernel, by decide +kernel⟩, List.mem_of_getElem? (i := 154) (by decide +kernel), List.mem_of_getElem? (i := 427) (by decide +kernel), List.mem_of_getElem? (i := 428) (by decide +kernel)⟩
theorem lw_p11 : lw_okq (⟨"LeafTable$Plans", "happens", "(LLeafTable$Seats;I)Z"⟩, 5) := ⟨⟨by decide +kernel, by decide +kernel⟩, List.mem_of_getElem? (i := 154) (by decide +kernel), List.mem_of_getElem? (i := 469) (by decide +kernel), List.mem_of_getElem? (i := 470) (by decide +kernel)⟩
theorem lw_p12 : lw_okq (⟨"LeafTable$Chances", "mostOf", "(LLeafTable$Seats;I)I"⟩, 2) := ⟨⟨by decide +kernel, by decide +kernel⟩, List.mem_of_getElem? (i := 182) (by decide +kernel), List.mem_of_getElem? (i := 487) (by decide +kernel), List.mem_of_getElem? (i := 488) (by decide +kernel)⟩
theorem lw_p13 : lw_okq (⟨"LeafTable$Chances", "ordersWith", "(I)I"⟩, 2) := ⟨⟨by decide +kernel, by decide +kernel⟩, List.mem_of_getElem? (i := 182) (by decide +kernel), List.mem_of_getElem? (i := 493) (by decide +kernel), List.mem_of_getElem? (i := 494) (by decide +kernel)⟩
theorem lw_p14 : lw_okq (⟨"LeafTable$Dinners", "holds", "(I)Z"⟩, 6) := ⟨⟨by decide +kernel, by decide +kernel⟩, List.mem_of_getElem? (i := 124) (by decide +kernel), List.mem_of_getElem? (i := 553) (by decide +kernel), List.mem_of_getElem? (i := 554) (by decide +kernel)⟩
theorem lw_p15 : lw_okq (⟨"LeafTable$Dinners", "takeLaw", "(I)V"⟩, 6) := ⟨⟨by decide +kernel, by decide +kernel⟩, List.mem_of_getElem? (i := 124) (by decide +kernel), List.mem_of_getElem? (i := 558) (by decide +kernel), List.mem_of_getElem? (i := 559) (by decide +kernel)⟩
def lw_privs_1 : List (MethodName × Nat) := [(⟨"LeafTable$Text", "fitsHead", "(I)Z"⟩, 2), (⟨"LeafTable$Text", "isLetter", "(IC)Z"⟩, 2), (⟨"LeafTable$Text", "fitsGuest", "(I)Z"⟩, 2), (⟨"LeafTable$Text", "isAnyFree", "(II)Z"⟩, 2), (⟨"LeafTable$Text", "isFree", "(II)Z"⟩, 2), (⟨"LeafTable$Table", "nextFrom", "(LLeafTable$Seats;I)I"⟩, 6), (⟨"LeafTable$Table", "growthOf", "(I)I"⟩, 6), (⟨"LeafTable$Table", "isTaken", "(LLeafTable$Seats;I)Z"⟩, 6), (⟨"LeafTable$Acts", "forgetFirst", "()V"⟩, 2), (⟨"LeafTable$Plans", "takePasses", "(II)V"⟩, 5), (⟨"LeafTable$Plans", "isReached", "(LLeafTable$Seats;I)Z"⟩, 5), (⟨"LeafTable$Plans", "happens", "(LLeafTable$Seats;I)Z"⟩, 5), (⟨"LeafTable$Chances", "mostOf", "(LLeafTable$Seats;I)I"⟩, 2), (⟨"LeafTable$Chances", "ordersWith", "(I)I"⟩, 2), (⟨"LeafTable$Dinners", "holds", "(I)Z"⟩, 6), (⟨"LeafTable$Dinners", "takeLaw", "(I)V"⟩, 6)]
theorem lw_r1 : ∀ q ∈ lw_privs_1, lw_okq q := List.forall_mem_cons.mpr ⟨lw_p0, List.forall_mem_cons.mpr ⟨lw_p1, List.forall_mem_cons.mpr ⟨lw_p2, List.forall_mem_cons.mpr ⟨lw_p3, List.forall_mem_cons.mpr ⟨lw_p4, List.forall_mem_cons.mpr ⟨lw_p5, List.forall_mem_cons.mpr ⟨lw_p6, List.forall_mem_cons.mpr ⟨lw_p7, List.forall_mem_cons.mpr ⟨lw_p8, List.forall_mem_cons.mpr ⟨lw_p9, List.forall_mem_cons.mpr ⟨lw_p10, List.forall_mem_cons.mpr ⟨lw_p11, List.forall_mem_cons.mpr ⟨lw_p12, List.forall_mem_cons.mpr ⟨lw_p13, List.forall_mem_cons.mpr ⟨lw_p14, List.forall_mem_cons.mpr ⟨lw_p15, fun _ h => absurd h List.not_mem_nil⟩⟩⟩⟩⟩⟩⟩⟩⟩⟩⟩⟩⟩⟩⟩⟩
theorem lw_p16 : lw_okq (⟨"LeafTable$Chances", "lengthBy", "(LLeafTable$Seats;I)I"⟩, 2) := ⟨⟨by decide +kernel, by decide +kernel⟩, List.mem_of_getElem? (i := 182) (by decide +kernel), List.mem_of_getElem? (i := 581) (by decide +kernel), List.mem_of_getElem? (i := 582) (by decide +kernel)⟩
theorem lw_p17 : lw_okq (⟨"LeafTable$Chances", "weightOf", "(II)I"⟩, 2) := ⟨⟨by decide +kernel, by decide +kernel⟩, List.mem_of_getElem? (i := 182) (by decide +kernel), List.mem_of_getElem? (i := 587) (by decide +kernel), List.mem_of_getElem? (i := 588) (by decide +kernel)⟩
theorem lw_p18 : lw_okq (⟨"LeafTableModel", "readText", "()I"⟩, 31) := ⟨⟨by decide +kernel, by decide +kernel⟩, List.mem_of_getElem? (i := 618) (by decide +kernel), List.mem_of_getElem? (i := 734) (by decide +kernel), List.mem_of_getElem? (i := 735) (by decide +kernel)⟩
theorem lw_p19 : lw_okq (⟨"LeafTableModel", "figure", "(II)I"⟩, 31) := ⟨⟨by decide +kernel, by decide +kernel⟩, List.mem_of_getElem? (i := 618) (by decide +kernel), List.mem_of_getElem? (i := 738) (by decide +kernel), List.mem_of_getElem? (i := 739) (by decide +kernel)⟩
theorem lw_p20 : lw_okq (⟨"LeafTableModel", "readGuest", "()V"⟩, 31) := ⟨⟨by decide +kernel, by decide +kernel⟩, List.mem_of_getElem? (i := 618) (by decide +kernel), List.mem_of_getElem? (i := 742) (by decide +kernel), List.mem_of_getElem? (i := 743) (by decide +kernel)⟩
theorem lw_p21 : lw_okq (⟨"LeafTableModel", "leafFigure", "(I)I"⟩, 31) := ⟨⟨by decide +kernel, by decide +kernel⟩, List.mem_of_getElem? (i := 618) (by decide +kernel), List.mem_of_getElem? (i := 746) (by decide +kernel), List.mem_of_getElem? (i := 747) (by decide +kernel)⟩
theorem lw_p22 : lw_okq (⟨"LeafTableModel", "isFreeIn", "(I)Z"⟩, 31) := ⟨⟨by decide +kernel, by decide +kernel⟩, List.mem_of_getElem? (i := 618) (by decide +kernel), List.mem_of_getElem? (i := 751) (by decide +kernel), List.mem_of_getElem? (i := 752) (by decide +kernel)⟩
theorem lw_p23 : lw_okq (⟨"LeafTableModel", "isFree", "(I)Z"⟩, 31) := ⟨⟨by decide +kernel, by decide +kernel⟩, List.mem_of_getElem? (i := 618) (by decide +kernel), List.mem_of_getElem? (i := 755) (by decide +kernel), List.mem_of_getElem? (i := 756) (by decide +kernel)⟩
theorem lw_p24 : lw_okq (⟨"LeafTableModel", "isGuest", "(I)Z"⟩, 31) := ⟨⟨by decide +kernel, by decide +kernel⟩, List.mem_of_getElem? (i := 618) (by decide +kernel), List.mem_of_getElem? (i := 767) (by decide +kernel), List.mem_of_getElem? (i := 768) (by decide +kernel)⟩
theorem lw_p25 : lw_okq (⟨"LeafTableModel", "hears", "(I)I"⟩, 31) := ⟨⟨by decide +kernel, by decide +kernel⟩, List.mem_of_getElem? (i := 618) (by decide +kernel), List.mem_of_getElem? (i := 771) (by decide +kernel), List.mem_of_getElem? (i := 772) (by decide +kernel)⟩
theorem lw_p26 : lw_okq (⟨"LeafTableModel", "nextOf", "(III)I"⟩, 31) := ⟨⟨by decide +kernel, by decide +kernel⟩, List.mem_of_getElem? (i := 618) (by decide +kernel), List.mem_of_getElem? (i := 775) (by decide +kernel), List.mem_of_getElem? (i := 776) (by decide +kernel)⟩
theorem lw_p27 : lw_okq (⟨"LeafTableModel", "canSay", "(II)Z"⟩, 31) := ⟨⟨by decide +kernel, by decide +kernel⟩, List.mem_of_getElem? (i := 618) (by decide +kernel), List.mem_of_getElem? (i := 786) (by decide +kernel), List.mem_of_getElem? (i := 787) (by decide +kernel)⟩
theorem lw_p28 : lw_okq (⟨"LeafTableModel", "isTaken", "(II)Z"⟩, 31) := ⟨⟨by decide +kernel, by decide +kernel⟩, List.mem_of_getElem? (i := 618) (by decide +kernel), List.mem_of_getElem? (i := 790) (by decide +kernel), List.mem_of_getElem? (i := 791) (by decide +kernel)⟩
theorem lw_p29 : lw_okq (⟨"LeafTableModel", "growth", "(I)I"⟩, 31) := ⟨⟨by decide +kernel, by decide +kernel⟩, List.mem_of_getElem? (i := 618) (by decide +kernel), List.mem_of_getElem? (i := 794) (by decide +kernel), List.mem_of_getElem? (i := 795) (by decide +kernel)⟩
theorem lw_p30 : lw_okq (⟨"LeafTableModel", "keepAct", "()V"⟩, 31) := ⟨⟨by decide +kernel, by decide +kernel⟩, List.mem_of_getElem? (i := 618) (by decide +kernel), List.mem_of_getElem? (i := 798) (by decide +kernel), List.mem_of_getElem? (i := 799) (by decide +kernel)⟩
theorem lw_p31 : lw_okq (⟨"LeafTableModel", "sayOn", "(II)V"⟩, 31) := ⟨⟨by decide +kernel, by decide +kernel⟩, List.mem_of_getElem? (i := 618) (by decide +kernel), List.mem_of_getElem? (i := 802) (by decide +kernel), List.mem_of_getElem? (i := 803) (by decide +kernel)⟩
def lw_privs_2 : List (MethodName × Nat) := [(⟨"LeafTable$Chances", "lengthBy", "(LLeafTable$Seats;I)I"⟩, 2), (⟨"LeafTable$Chances", "weightOf", "(II)I"⟩, 2), (⟨"LeafTableModel", "readText", "()I"⟩, 31), (⟨"LeafTableModel", "figure", "(II)I"⟩, 31), (⟨"LeafTableModel", "readGuest", "()V"⟩, 31), (⟨"LeafTableModel", "leafFigure", "(I)I"⟩, 31), (⟨"LeafTableModel", "isFreeIn", "(I)Z"⟩, 31), (⟨"LeafTableModel", "isFree", "(I)Z"⟩, 31), (⟨"LeafTableModel", "isGuest", "(I)Z"⟩, 31), (⟨"LeafTableModel", "hears", "(I)I"⟩, 31), (⟨"LeafTableModel", "nextOf", "(III)I"⟩, 31), (⟨"LeafTableModel", "canSay", "(II)Z"⟩, 31), (⟨"LeafTableModel", "isTaken", "(II)Z"⟩, 31), (⟨"LeafTableModel", "growth", "(I)I"⟩, 31), (⟨"LeafTableModel", "keepAct", "()V"⟩, 31), (⟨"LeafTableModel", "sayOn", "(II)V"⟩, 31)]
theorem lw_r2 : ∀ q ∈ lw_privs_2, lw_okq q := List.forall_mem_cons.mpr ⟨lw_p16, List.forall_mem_cons.mpr ⟨lw_p17, List.forall_mem_cons.mpr ⟨lw_p18, List.forall_mem_cons.mpr ⟨lw_p19, List.forall_mem_cons.mpr ⟨lw_p20, List.forall_mem_cons.mpr ⟨lw_p21, List.forall_mem_cons.mpr ⟨lw_p22, List.forall_mem_cons.mpr ⟨lw_p23, List.forall_mem_cons.mpr ⟨lw_p24, List.forall_mem_cons.mpr ⟨lw_p25, List.forall_mem_cons.mpr ⟨lw_p26, List.forall_mem_cons.mpr ⟨lw_p27, List.forall_mem_cons.mpr ⟨lw_p28, List.forall_mem_cons.mpr ⟨lw_p29, List.forall_mem_cons.mpr ⟨lw_p30, List.forall_mem_cons.mpr ⟨lw_p31, fun _ h => absurd h List.not_mem_nil⟩⟩⟩⟩⟩⟩⟩⟩⟩⟩⟩⟩⟩⟩⟩⟩
theorem lw_p32 : lw_okq (⟨"LeafTableModel", "passOn", "(II)V"⟩, 31) := ⟨⟨by decide +kernel, by decide +kernel⟩, List.mem_of_getElem? (i := 618) (by decide +kernel), List.mem_of_getElem? (i := 810) (by decide +kernel), List.mem_of_getElem? (i := 811) (by decide +kernel)⟩
theorem lw_p33 : lw_okq (⟨"LeafTableModel", "fetchOn", "(I)V"⟩, 31) := ⟨⟨by decide +kernel, by decide +kernel⟩, List.mem_of_getElem? (i := 618) (by decide +kernel), List.mem_of_getElem? (i := 818) (by decide +kernel), List.mem_of_getElem? (i := 819) (by decide +kernel)⟩
theorem lw_p34 : lw_okq (⟨"LeafTableModel", "mostBy", "(II)I"⟩, 31) := ⟨⟨by decide +kernel, by decide +kernel⟩, List.mem_of_getElem? (i := 618) (by decide +kernel), List.mem_of_getElem? (i := 830) (by decide +kernel), List.mem_of_getElem? (i := 831) (by decide +kernel)⟩
theorem lw_p35 : lw_okq (⟨"LeafTableModel", "layTrial", "()V"⟩, 31) := ⟨⟨by decide +kernel, by decide +kernel⟩, List.mem_of_getElem? (i := 618) (by decide +kernel), List.mem_of_getElem? (i := 840) (by decide +kernel), List.mem_of_getElem? (i := 841) (by decide +kernel)⟩
theorem lw_p36 : lw_okq (⟨"LeafTableModel", "fewest", "(IZ)I"⟩, 31) := ⟨⟨by decide +kernel, by decide +kernel⟩, List.mem_of_getElem? (i := 618) (by decide +kernel), List.mem_of_getElem? (i := 855) (by decide +kernel), List.mem_of_getElem? (i := 856) (by decide +kernel)⟩
theorem lw_p37 : lw_okq (⟨"LeafTableModel", "sayRow", "(II)Z"⟩, 31) := ⟨⟨by decide +kernel, by decide +kernel⟩, List.mem_of_getElem? (i := 618) (by decide +kernel), List.mem_of_getElem? (i := 859) (by decide +kernel), List.mem_of_getElem? (i := 860) (by decide +kernel)⟩
theorem lw_p38 : lw_okq (⟨"LeafTableModel", "tryThing", "(I)Z"⟩, 31) := ⟨⟨by decide +kernel, by decide +kernel⟩, List.mem_of_getElem? (i := 618) (by decide +kernel), List.mem_of_getElem? (i := 872) (by decide +kernel), List.mem_of_getElem? (i := 873) (by decide +kernel)⟩
theorem lw_p39 : lw_okq (⟨"LeafTableModel", "farthest", "(I)I"⟩, 31) := ⟨⟨by decide +kernel, by decide +kernel⟩, List.mem_of_getElem? (i := 618) (by decide +kernel), List.mem_of_getElem? (i := 876) (by decide +kernel), List.mem_of_getElem? (i := 877) (by decide +kernel)⟩
theorem lw_p40 : lw_okq (⟨"LeafTableModel", "ears", "()I"⟩, 31) := ⟨⟨by decide +kernel, by decide +kernel⟩, List.mem_of_getElem? (i := 618) (by decide +kernel), List.mem_of_getElem? (i := 897) (by decide +kernel), List.mem_of_getElem? (i := 898) (by decide +kernel)⟩
theorem lw_p41 : lw_okq (⟨"LeafTableModel", "isLaw", "(I)Z"⟩, 31) := ⟨⟨by decide +kernel, by decide +kernel⟩, List.mem_of_getElem? (i := 618) (by decide +kernel), List.mem_of_getElem? (i := 924) (by decide +kernel), List.mem_of_getElem? (i := 925) (by decide +kernel)⟩
theorem lw_p42 : lw_okq (⟨"LeafTableModel", "lengthBy", "(II)I"⟩, 31) := ⟨⟨by decide +kernel, by decide +kernel⟩, List.mem_of_getElem? (i := 618) (by decide +kernel), List.mem_of_getElem? (i := 936) (by decide +kernel), List.mem_of_getElem? (i := 937) (by decide +kernel)⟩
theorem lw_p43 : lw_okq (⟨"LeafTableModel", "choice", "(IZ)I"⟩, 31) := ⟨⟨by decide +kernel, by decide +kernel⟩, List.mem_of_getElem? (i := 618) (by decide +kernel), List.mem_of_getElem? (i := 940) (by decide +kernel), List.mem_of_getElem? (i := 941) (by decide +kernel)⟩
def lw_privs_3 : List (MethodName × Nat) := [(⟨"LeafTableModel", "passOn", "(II)V"⟩, 31), (⟨"LeafTableModel", "fetchOn", "(I)V"⟩, 31), (⟨"LeafTableModel", "mostBy", "(II)I"⟩, 31), (⟨"LeafTableModel", "layTrial", "()V"⟩, 31), (⟨"LeafTableModel", "fewest", "(IZ)I"⟩, 31), (⟨"LeafTableModel", "sayRow", "(II)Z"⟩, 31), (⟨"LeafTableModel", "tryThing", "(I)Z"⟩, 31), (⟨"LeafTableModel", "farthest", "(I)I"⟩, 31), (⟨"LeafTableModel", "ears", "()I"⟩, 31), (⟨"LeafTableModel", "isLaw", "(I)Z"⟩, 31), (⟨"LeafTableModel", "lengthBy", "(II)I"⟩, 31), (⟨"LeafTableModel", "choice", "(IZ)I"⟩, 31)]
theorem lw_r3 : ∀ q ∈ lw_privs_3, lw_okq q := List.forall_mem_cons.mpr ⟨lw_p32, List.forall_mem_cons.mpr ⟨lw_p33, List.forall_mem_cons.mpr ⟨lw_p34, List.forall_mem_cons.mpr ⟨lw_p35, List.forall_mem_cons.mpr ⟨lw_p36, List.forall_mem_cons.mpr ⟨lw_p37, List.forall_mem_cons.mpr ⟨lw_p38, List.forall_mem_cons.mpr ⟨lw_p39, List.forall_mem_cons.mpr ⟨lw_p40, List.forall_mem_cons.mpr ⟨lw_p41, List.forall_mem_cons.mpr ⟨lw_p42, List.forall_mem_cons.mpr ⟨lw_p43, fun _ h => absurd h List.not_mem_nil⟩⟩⟩⟩⟩⟩⟩⟩⟩⟩⟩⟩
def lw_privs : List (MethodName × Nat) := lw_privs_1 ++ (lw_privs_2 ++ (lw_privs_3))
def lw_tbl : List Cond := k2_sels lw_privs ++ tables_1
theorem lw_privs_ok : ∀ q ∈ lw_privs, lw_okq q := by
  show ∀ q ∈ lw_privs_1 ++ (lw_privs_2 ++ (lw_privs_3)), lw_okq q
  exact List.forall_mem_append.mpr ⟨lw_r1, List.forall_mem_append.mpr ⟨lw_r2, lw_r3⟩⟩
-- ===== end of PART A; then your names; then what follows =====
/-! ===== BEGIN printed: names, fields, word lists, decode rows ===== -/
def RX0 : String := "LeafTable$Acts"
def TX0 : u_T := fun k => match k with
  | 0 => ("LeafTable$Acts", "before", "[LLeafTable$Seats;", true)
  | _ => ("LeafTable$Acts", "number", "I", false)
def tyX0 : Nat → FieldType := fun k => match k with
  | 0 => .array (.object "LeafTable$Seats")
  | _ => .int
abbrev wsX00 : List Cond := u_ws RX0 TX0 2
theorem nmX0 : ∀ a, a < 2 → ∀ b, b < 2 → a ≠ b → (TX0 a).2.1 ≠ (TX0 b).2.1 := by decide +kernel
theorem tyX0_ok : ∀ k, k < 2 → parseFieldDescriptor (TX0 k).2.2.1 = some (tyX0 k) := by decide +kernel
abbrev cX0_init : ByteArray := prog_2_method_1_code
def yX0_init : MethodName := ⟨RX0, "<init>", "()V"⟩
abbrev cX0_remember : ByteArray := prog_2_method_2_code
def yX0_remember : MethodName := ⟨RX0, "remember", "(LLeafTable$Seats;)V"⟩
abbrev cX0_takeBack : ByteArray := prog_2_method_3_code
def yX0_takeBack : MethodName := ⟨RX0, "takeBack", "(LLeafTable$Seats;)V"⟩
abbrev cX0_forgetFirst : ByteArray := prog_2_method_4_code
def yX0_forgetFirst : MethodName := ⟨RX0, "forgetFirst", "()V"⟩
def RX1 : String := "LeafTable$Chances"
def TX1 : u_T := fun k => match k with
  | 0 => ("LeafTable$Chances", "table", "LLeafTable$Table;", true)
  | _ => ("LeafTable$Chances", "plans", "LLeafTable$Plans;", true)
def tyX1 : Nat → FieldType := fun k => match k with
  | 0 => .object "LeafTable$Table"
  | _ => .object "LeafTable$Plans"
abbrev wsX10 : List Cond := u_ws RX1 TX1 2
theorem nmX1 : ∀ a, a < 2 → ∀ b, b < 2 → a ≠ b → (TX1 a).2.1 ≠ (TX1 b).2.1 := by decide +kernel
theorem tyX1_ok : ∀ k, k < 2 → parseFieldDescriptor (TX1 k).2.2.1 = some (tyX1 k) := by decide +kernel
abbrev cX1_init : ByteArray := prog_3_method_1_code
def yX1_init : MethodName := ⟨RX1, "<init>", "(LLeafTable$Table;LLeafTable$Plans;)V"⟩
abbrev cX1_shareOf : ByteArray := prog_3_method_2_code
def yX1_shareOf : MethodName := ⟨RX1, "shareOf", "(LLeafTable$Seats;IZ)I"⟩
abbrev cX1_ordersWith : ByteArray := prog_3_method_3_code
def yX1_ordersWith : MethodName := ⟨RX1, "ordersWith", "(I)I"⟩
abbrev cX1_mostOf : ByteArray := prog_3_method_4_code
def yX1_mostOf : MethodName := ⟨RX1, "mostOf", "(LLeafTable$Seats;I)I"⟩
abbrev cX1_chanceOfLength : ByteArray := prog_3_method_5_code
def yX1_chanceOfLength : MethodName := ⟨RX1, "chanceOfLength", "(LLeafTable$Seats;IIZ)I"⟩
abbrev cX1_lengthBy : ByteArray := prog_3_method_6_code
def yX1_lengthBy : MethodName := ⟨RX1, "lengthBy", "(LLeafTable$Seats;I)I"⟩
abbrev cX1_weightOf : ByteArray := prog_3_method_7_code
def yX1_weightOf : MethodName := ⟨RX1, "weightOf", "(II)I"⟩
abbrev cX1_leastTerms : ByteArray := prog_3_method_8_code
def yX1_leastTerms : MethodName := ⟨RX1, "leastTerms", "(IIZ)I"⟩
abbrev cX1_greatestDivisor : ByteArray := prog_3_method_9_code
def yX1_greatestDivisor : MethodName := ⟨RX1, "greatestDivisor", "(II)I"⟩
def RX2 : String := "LeafTable$Dinners"
def TX2 : u_T := fun k => match k with
  | 0 => ("LeafTable$Dinners", "spoke", "[I", true)
  | 1 => ("LeafTable$Dinners", "more", "[I", true)
  | 2 => ("LeafTable$Dinners", "number", "I", false)
  | 3 => ("LeafTable$Dinners", "lawsFound", "I", false)
  | 4 => ("LeafTable$Dinners", "firstLaw", "I", false)
  | _ => ("LeafTable$Dinners", "sameKinds", "I", false)
def tyX2 : Nat → FieldType := fun k => match k with
  | 0 => .array .int
  | 1 => .array .int
  | 2 => .int
  | 3 => .int
  | 4 => .int
  | _ => .int
abbrev wsX20 : List Cond := u_ws RX2 TX2 6
theorem nmX2 : ∀ a, a < 6 → ∀ b, b < 6 → a ≠ b → (TX2 a).2.1 ≠ (TX2 b).2.1 := by decide +kernel
theorem tyX2_ok : ∀ k, k < 6 → parseFieldDescriptor (TX2 k).2.2.1 = some (tyX2 k) := by decide +kernel
abbrev cX2_init : ByteArray := prog_4_method_1_code
def yX2_init : MethodName := ⟨RX2, "<init>", "()V"⟩
abbrev cX2_append : ByteArray := prog_4_method_2_code
def yX2_append : MethodName := ⟨RX2, "append", "(II)Z"⟩
abbrev cX2_findLaws : ByteArray := prog_4_method_3_code
def yX2_findLaws : MethodName := ⟨RX2, "findLaws", "()V"⟩
abbrev cX2_takeLaw : ByteArray := prog_4_method_4_code
def yX2_takeLaw : MethodName := ⟨RX2, "takeLaw", "(I)V"⟩
abbrev cX2_figuresOfLaw : ByteArray := prog_4_method_5_code
def yX2_figuresOfLaw : MethodName := ⟨RX2, "figuresOfLaw", "(I)I"⟩
abbrev cX2_holds : ByteArray := prog_4_method_6_code
def yX2_holds : MethodName := ⟨RX2, "holds", "(I)Z"⟩
def RX3 : String := "LeafTable$Plans"
def TX3 : u_T := fun k => match k with
  | 0 => ("LeafTable$Plans", "table", "LLeafTable$Table;", true)
  | 1 => ("LeafTable$Plans", "trials", "[LLeafTable$Seats;", true)
  | 2 => ("LeafTable$Plans", "mostServed", "I", false)
  | 3 => ("LeafTable$Plans", "firstPasses", "I", false)
  | _ => ("LeafTable$Plans", "opening", "I", false)
def tyX3 : Nat → FieldType := fun k => match k with
  | 0 => .object "LeafTable$Table"
  | 1 => .array (.object "LeafTable$Seats")
  | 2 => .int
  | 3 => .int
  | _ => .int
abbrev wsX30 : List Cond := u_ws RX3 TX3 5
theorem nmX3 : ∀ a, a < 5 → ∀ b, b < 5 → a ≠ b → (TX3 a).2.1 ≠ (TX3 b).2.1 := by decide +kernel
theorem tyX3_ok : ∀ k, k < 5 → parseFieldDescriptor (TX3 k).2.2.1 = some (tyX3 k) := by decide +kernel
abbrev cX3_init : ByteArray := prog_5_method_1_code
def yX3_init : MethodName := ⟨RX3, "<init>", "(LLeafTable$Table;)V"⟩
abbrev cX3_trialFrom : ByteArray := prog_5_method_2_code
def yX3_trialFrom : MethodName := ⟨RX3, "trialFrom", "(LLeafTable$Seats;)LLeafTable$Seats;"⟩
abbrev cX3_planPasses : ByteArray := prog_5_method_3_code
def yX3_planPasses : MethodName := ⟨RX3, "planPasses", "(LLeafTable$Seats;II)V"⟩
abbrev cX3_tryPasses : ByteArray := prog_5_method_4_code
def yX3_tryPasses : MethodName := ⟨RX3, "tryPasses", "(LLeafTable$Plans;III)V"⟩
abbrev cX3_takePasses : ByteArray := prog_5_method_5_code
def yX3_takePasses : MethodName := ⟨RX3, "takePasses", "(II)V"⟩
abbrev cX3_fewestSayings : ByteArray := prog_5_method_6_code
def yX3_fewestSayings : MethodName := ⟨RX3, "fewestSayings", "(LLeafTable$Seats;I)I"⟩
abbrev cX3_trySayings : ByteArray := prog_5_method_7_code
def yX3_trySayings : MethodName := ⟨RX3, "trySayings", "(LLeafTable$Plans;IIII)I"⟩
abbrev cX3_isReached : ByteArray := prog_5_method_8_code
def yX3_isReached : MethodName := ⟨RX3, "isReached", "(LLeafTable$Seats;I)Z"⟩
abbrev cX3_firstWrong : ByteArray := prog_5_method_9_code
def yX3_firstWrong : MethodName := ⟨RX3, "firstWrong", "(LLeafTable$Seats;II)I"⟩
abbrev cX3_happens : ByteArray := prog_5_method_10_code
def yX3_happens : MethodName := ⟨RX3, "happens", "(LLeafTable$Seats;I)Z"⟩
abbrev cX3_lengthByTurns : ByteArray := prog_5_method_11_code
def yX3_lengthByTurns : MethodName := ⟨RX3, "lengthByTurns", "(LLeafTable$Seats;I)I"⟩
abbrev cX3_tryTurn : ByteArray := prog_5_method_12_code
def yX3_tryTurn : MethodName := ⟨RX3, "tryTurn", "(LLeafTable$Plans;II)I"⟩
def RX4 : String := "LeafTable$Seats"
def TX4 : u_T := fun k => match k with
  | 0 => ("LeafTable$Seats", "leaves", "[I", true)
  | 1 => ("LeafTable$Seats", "length", "I", false)
  | 2 => ("LeafTable$Seats", "soup", "I", false)
  | 3 => ("LeafTable$Seats", "warmth", "I", false)
  | _ => ("LeafTable$Seats", "served", "I", false)
def tyX4 : Nat → FieldType := fun k => match k with
  | 0 => .array .int
  | 1 => .int
  | 2 => .int
  | 3 => .int
  | _ => .int
abbrev wsX40 : List Cond := u_ws RX4 TX4 5
theorem nmX4 : ∀ a, a < 5 → ∀ b, b < 5 → a ≠ b → (TX4 a).2.1 ≠ (TX4 b).2.1 := by decide +kernel
theorem tyX4_ok : ∀ k, k < 5 → parseFieldDescriptor (TX4 k).2.2.1 = some (tyX4 k) := by decide +kernel
abbrev cX4_init : ByteArray := prog_6_method_1_code
def yX4_init : MethodName := ⟨RX4, "<init>", "()V"⟩
abbrev cX4_become : ByteArray := prog_6_method_2_code
def yX4_become : MethodName := ⟨RX4, "become", "(LLeafTable$Seats;)V"⟩
abbrev cX4_readFrom : ByteArray := prog_6_method_3_code
def yX4_readFrom : MethodName := ⟨RX4, "readFrom", "(LLeafTable$Text;LLeafTable$Table;)V"⟩
def RX5 : String := "LeafTable$Table"
def TX5 : u_T := fun k => match k with
  | 0 => ("LeafTable$Table", "kinds", "[I", true)
  | 1 => ("LeafTable$Table", "wants", "[I", true)
  | 2 => ("LeafTable$Table", "ears", "[I", true)
  | 3 => ("LeafTable$Table", "number", "I", false)
  | 4 => ("LeafTable$Table", "warm", "I", false)
  | _ => ("LeafTable$Table", "reach", "I", false)
def tyX5 : Nat → FieldType := fun k => match k with
  | 0 => .array .int
  | 1 => .array .int
  | 2 => .array .int
  | 3 => .int
  | 4 => .int
  | _ => .int
abbrev wsX50 : List Cond := u_ws RX5 TX5 6
theorem nmX5 : ∀ a, a < 6 → ∀ b, b < 6 → a ≠ b → (TX5 a).2.1 ≠ (TX5 b).2.1 := by decide +kernel
theorem tyX5_ok : ∀ k, k < 6 → parseFieldDescriptor (TX5 k).2.2.1 = some (tyX5 k) := by decide +kernel
abbrev cX5_init : ByteArray := prog_7_method_1_code
def yX5_init : MethodName := ⟨RX5, "<init>", "()V"⟩
abbrev cX5_readFrom : ByteArray := prog_7_method_2_code
def yX5_readFrom : MethodName := ⟨RX5, "readFrom", "(LLeafTable$Text;)V"⟩
abbrev cX5_knows : ByteArray := prog_7_method_3_code
def yX5_knows : MethodName := ⟨RX5, "knows", "(I)Z"⟩
abbrev cX5_everybody : ByteArray := prog_7_method_4_code
def yX5_everybody : MethodName := ⟨RX5, "everybody", "()I"⟩
abbrev cX5_canSpeak : ByteArray := prog_7_method_5_code
def yX5_canSpeak : MethodName := ⟨RX5, "canSpeak", "(LLeafTable$Seats;I)Z"⟩
abbrev cX5_speak : ByteArray := prog_7_method_6_code
def yX5_speak : MethodName := ⟨RX5, "speak", "(LLeafTable$Seats;I)V"⟩
abbrev cX5_speakIfCan : ByteArray := prog_7_method_7_code
def yX5_speakIfCan : MethodName := ⟨RX5, "speakIfCan", "(LLeafTable$Seats;I)Z"⟩
abbrev cX5_hand : ByteArray := prog_7_method_8_code
def yX5_hand : MethodName := ⟨RX5, "hand", "(LLeafTable$Seats;I)V"⟩
abbrev cX5_refill : ByteArray := prog_7_method_9_code
def yX5_refill : MethodName := ⟨RX5, "refill", "(LLeafTable$Seats;)V"⟩
abbrev cX5_hearers : ByteArray := prog_7_method_10_code
def yX5_hearers : MethodName := ⟨RX5, "hearers", "(LLeafTable$Seats;)I"⟩
abbrev cX5_doAllHear : ByteArray := prog_7_method_11_code
def yX5_doAllHear : MethodName := ⟨RX5, "doAllHear", "(LLeafTable$Seats;)Z"⟩
abbrev cX5_turnOfEars : ByteArray := prog_7_method_12_code
def yX5_turnOfEars : MethodName := ⟨RX5, "turnOfEars", "(LLeafTable$Seats;)I"⟩
abbrev cX5_farthest : ByteArray := prog_7_method_13_code
def yX5_farthest : MethodName := ⟨RX5, "farthest", "(LLeafTable$Seats;)I"⟩
abbrev cX5_nextFrom : ByteArray := prog_7_method_14_code
def yX5_nextFrom : MethodName := ⟨RX5, "nextFrom", "(LLeafTable$Seats;I)I"⟩
abbrev cX5_isTaken : ByteArray := prog_7_method_15_code
def yX5_isTaken : MethodName := ⟨RX5, "isTaken", "(LLeafTable$Seats;I)Z"⟩
abbrev cX5_growthOf : ByteArray := prog_7_method_16_code
def yX5_growthOf : MethodName := ⟨RX5, "growthOf", "(I)I"⟩
def RX6 : String := "LeafTable$Text"
def TX6 : u_T := fun k => match k with
  | 0 => ("LeafTable$Text", "letters", "[I", true)
  | _ => ("LeafTable$Text", "size", "I", false)
def tyX6 : Nat → FieldType := fun k => match k with
  | 0 => .array .int
  | _ => .int
abbrev wsX60 : List Cond := u_ws RX6 TX6 2
theorem nmX6 : ∀ a, a < 2 → ∀ b, b < 2 → a ≠ b → (TX6 a).2.1 ≠ (TX6 b).2.1 := by decide +kernel
theorem tyX6_ok : ∀ k, k < 2 → parseFieldDescriptor (TX6 k).2.2.1 = some (tyX6 k) := by decide +kernel
abbrev cX6_init : ByteArray := prog_8_method_1_code
def yX6_init : MethodName := ⟨RX6, "<init>", "()V"⟩
abbrev cX6_append : ByteArray := prog_8_method_2_code
def yX6_append : MethodName := ⟨RX6, "append", "(I)Z"⟩
abbrev cX6_firstFault : ByteArray := prog_8_method_3_code
def yX6_firstFault : MethodName := ⟨RX6, "firstFault", "()I"⟩
abbrev cX6_guestsTold : ByteArray := prog_8_method_4_code
def yX6_guestsTold : MethodName := ⟨RX6, "guestsTold", "()I"⟩
abbrev cX6_lengthTold : ByteArray := prog_8_method_5_code
def yX6_lengthTold : MethodName := ⟨RX6, "lengthTold", "()I"⟩
abbrev cX6_leafTold : ByteArray := prog_8_method_6_code
def yX6_leafTold : MethodName := ⟨RX6, "leafTold", "(I)I"⟩
abbrev cX6_partTold : ByteArray := prog_8_method_7_code
def yX6_partTold : MethodName := ⟨RX6, "partTold", "(II)I"⟩
abbrev cX6_figureTold : ByteArray := prog_8_method_8_code
def yX6_figureTold : MethodName := ⟨RX6, "figureTold", "(I)I"⟩
abbrev cX6_isLetter : ByteArray := prog_8_method_9_code
def yX6_isLetter : MethodName := ⟨RX6, "isLetter", "(IC)Z"⟩
abbrev cX6_fitsHead : ByteArray := prog_8_method_10_code
def yX6_fitsHead : MethodName := ⟨RX6, "fitsHead", "(I)Z"⟩
abbrev cX6_fitsGuest : ByteArray := prog_8_method_11_code
def yX6_fitsGuest : MethodName := ⟨RX6, "fitsGuest", "(I)Z"⟩
abbrev cX6_isAnyFree : ByteArray := prog_8_method_12_code
def yX6_isAnyFree : MethodName := ⟨RX6, "isAnyFree", "(II)Z"⟩
abbrev cX6_isFree : ByteArray := prog_8_method_13_code
def yX6_isFree : MethodName := ⟨RX6, "isFree", "(II)Z"⟩
def RX7 : String := "LeafTable"
def TX7 : u_T := fun k => match k with
  | 0 => ("LeafTable", "text", "LLeafTable$Text;", true)
  | 1 => ("LeafTable", "table", "LLeafTable$Table;", true)
  | 2 => ("LeafTable", "now", "LLeafTable$Seats;", true)
  | 3 => ("LeafTable", "acts", "LLeafTable$Acts;", true)
  | 4 => ("LeafTable", "kept", "[LLeafTable$Seats;", true)
  | 5 => ("LeafTable", "isKept", "[Z", true)
  | 6 => ("LeafTable", "dinners", "LLeafTable$Dinners;", true)
  | 7 => ("LeafTable", "plans", "LLeafTable$Plans;", true)
  | 8 => ("LeafTable", "chances", "LLeafTable$Chances;", true)
  | _ => ("LeafTable", "seedNow", "J", false)
def tyX7 : Nat → FieldType := fun k => match k with
  | 0 => .object "LeafTable$Text"
  | 1 => .object "LeafTable$Table"
  | 2 => .object "LeafTable$Seats"
  | 3 => .object "LeafTable$Acts"
  | 4 => .array (.object "LeafTable$Seats")
  | 5 => .array .boolean
  | 6 => .object "LeafTable$Dinners"
  | 7 => .object "LeafTable$Plans"
  | 8 => .object "LeafTable$Chances"
  | _ => .long
abbrev wsX70 : List Cond := u_ws RX7 TX7 10
theorem nmX7 : ∀ a, a < 10 → ∀ b, b < 10 → a ≠ b → (TX7 a).2.1 ≠ (TX7 b).2.1 := by decide +kernel
theorem tyX7_ok : ∀ k, k < 10 → parseFieldDescriptor (TX7 k).2.2.1 = some (tyX7 k) := by decide +kernel
abbrev cX7_init : ByteArray := prog_1_method_1_code
def yX7_init : MethodName := ⟨RX7, "<init>", "()V"⟩
abbrev cX7_write : ByteArray := prog_1_method_2_code
def yX7_write : MethodName := ⟨RX7, "write", "(I)I"⟩
abbrev cX7_wipe : ByteArray := prog_1_method_3_code
def yX7_wipe : MethodName := ⟨RX7, "wipe", "()I"⟩
abbrev cX7_fault : ByteArray := prog_1_method_4_code
def yX7_fault : MethodName := ⟨RX7, "fault", "()I"⟩
abbrev cX7_lay : ByteArray := prog_1_method_5_code
def yX7_lay : MethodName := ⟨RX7, "lay", "()I"⟩
abbrev cX7_guest : ByteArray := prog_1_method_6_code
def yX7_guest : MethodName := ⟨RX7, "guest", "(II)I"⟩
abbrev cX7_say : ByteArray := prog_1_method_7_code
def yX7_say : MethodName := ⟨RX7, "say", "(I)I"⟩
abbrev cX7_pass : ByteArray := prog_1_method_8_code
def yX7_pass : MethodName := ⟨RX7, "pass", "(I)I"⟩
abbrev cX7_fetch : ByteArray := prog_1_method_9_code
def yX7_fetch : MethodName := ⟨RX7, "fetch", "()I"⟩
abbrev cX7_undo : ByteArray := prog_1_method_10_code
def yX7_undo : MethodName := ⟨RX7, "undo", "()I"⟩
abbrev cX7_passes : ByteArray := prog_1_method_11_code
def yX7_passes : MethodName := ⟨RX7, "passes", "(Z)I"⟩
abbrev cX7_longBy : ByteArray := prog_1_method_12_code
def yX7_longBy : MethodName := ⟨RX7, "longBy", "(IZ)I"⟩
abbrev cX7_together : ByteArray := prog_1_method_13_code
def yX7_together : MethodName := ⟨RX7, "together", "(Z)I"⟩
abbrev cX7_judge : ByteArray := prog_1_method_14_code
def yX7_judge : MethodName := ⟨RX7, "judge", "(II)I"⟩
abbrev cX7_share : ByteArray := prog_1_method_15_code
def yX7_share : MethodName := ⟨RX7, "share", "(IZ)I"⟩
abbrev cX7_comes : ByteArray := prog_1_method_16_code
def yX7_comes : MethodName := ⟨RX7, "comes", "(II)I"⟩
abbrev cX7_spoken : ByteArray := prog_1_method_17_code
def yX7_spoken : MethodName := ⟨RX7, "spoken", "(II)I"⟩
abbrev cX7_dine : ByteArray := prog_1_method_18_code
def yX7_dine : MethodName := ⟨RX7, "dine", "(II)I"⟩
abbrev cX7_clear : ByteArray := prog_1_method_19_code
def yX7_clear : MethodName := ⟨RX7, "clear", "()I"⟩
abbrev cX7_laws : ByteArray := prog_1_method_20_code
def yX7_laws : MethodName := ⟨RX7, "laws", "(I)I"⟩
abbrev cX7_hosts : ByteArray := prog_1_method_21_code
def yX7_hosts : MethodName := ⟨RX7, "hosts", "(IZ)I"⟩
abbrev cX7_come : ByteArray := prog_1_method_22_code
def yX7_come : MethodName := ⟨RX7, "come", "(IIZ)I"⟩
abbrev cX7_seed : ByteArray := prog_1_method_23_code
def yX7_seed : MethodName := ⟨RX7, "seed", "(J)J"⟩
abbrev cX7_dinner : ByteArray := prog_1_method_24_code
def yX7_dinner : MethodName := ⟨RX7, "dinner", "(I)I"⟩
abbrev cX7_keep : ByteArray := prog_1_method_25_code
def yX7_keep : MethodName := ⟨RX7, "keep", "(I)I"⟩
abbrev cX7_again : ByteArray := prog_1_method_26_code
def yX7_again : MethodName := ⟨RX7, "again", "(I)I"⟩
abbrev cX7_count : ByteArray := prog_1_method_27_code
def yX7_count : MethodName := ⟨RX7, "count", "(I)I"⟩
abbrev cX7_told : ByteArray := prog_1_method_28_code
def yX7_told : MethodName := ⟨RX7, "told", "(IZ)I"⟩
abbrev cX7_figuresOf : ByteArray := prog_1_method_29_code
def yX7_figuresOf : MethodName := ⟨RX7, "figuresOf", "(I)I"⟩
abbrev cX7_isRow : ByteArray := prog_1_method_30_code
def yX7_isRow : MethodName := ⟨RX7, "isRow", "(II)Z"⟩
abbrev cX7_figureAt : ByteArray := prog_1_method_31_code
def yX7_figureAt : MethodName := ⟨RX7, "figureAt", "(III)I"⟩
abbrev cX7_isWord : ByteArray := prog_1_method_32_code
def yX7_isWord : MethodName := ⟨RX7, "isWord", "(II)Z"⟩
abbrev cX7_turned : ByteArray := prog_1_method_33_code
def yX7_turned : MethodName := ⟨RX7, "turned", "(III)I"⟩
def RX8 : String := "LeafTableModel"
def TX8 : u_T := fun k => match k with
  | 0 => ("LeafTableModel", "guests", "I", false)
  | 1 => ("LeafTableModel", "warm", "I", false)
  | 2 => ("LeafTableModel", "reach", "I", false)
  | 3 => ("LeafTableModel", "kind", "[I", true)
  | 4 => ("LeafTableModel", "wants", "[I", true)
  | 5 => ("LeafTableModel", "ear", "[I", true)
  | 6 => ("LeafTableModel", "now", "[I", true)
  | 7 => ("LeafTableModel", "readLength", "I", false)
  | 8 => ("LeafTableModel", "readWarm", "I", false)
  | 9 => ("LeafTableModel", "readReach", "I", false)
  | 10 => ("LeafTableModel", "readGuests", "I", false)
  | 11 => ("LeafTableModel", "readLeaf", "[I", true)
  | 12 => ("LeafTableModel", "readKind", "[I", true)
  | 13 => ("LeafTableModel", "readWants", "[I", true)
  | 14 => ("LeafTableModel", "readEar", "[I", true)
  | 15 => ("LeafTableModel", "text", "[I", true)
  | 16 => ("LeafTableModel", "length", "I", false)
  | 17 => ("LeafTableModel", "at", "I", false)
  | 18 => ("LeafTableModel", "faultAt", "I", false)
  | 19 => ("LeafTableModel", "acts", "I", false)
  | 20 => ("LeafTableModel", "next", "I", false)
  | 21 => ("LeafTableModel", "row", "[I", true)
  | 22 => ("LeafTableModel", "firstRow", "I", false)
  | 23 => ("LeafTableModel", "mosts", "[I", true)
  | 24 => ("LeafTableModel", "dinners", "I", false)
  | 25 => ("LeafTableModel", "spoke", "[I", true)
  | 26 => ("LeafTableModel", "grew", "[I", true)
  | 27 => ("LeafTableModel", "values", "[I", true)
  | 28 => ("LeafTableModel", "seed", "J", false)
  | 29 => ("LeafTableModel", "isKept", "[Z", true)
  | _ => ("LeafTableModel", "kept", "[I", true)
def tyX8 : Nat → FieldType := fun k => match k with
  | 0 => .int
  | 1 => .int
  | 2 => .int
  | 3 => .array .int
  | 4 => .array .int
  | 5 => .array .int
  | 6 => .array .int
  | 7 => .int
  | 8 => .int
  | 9 => .int
  | 10 => .int
  | 11 => .array .int
  | 12 => .array .int
  | 13 => .array .int
  | 14 => .array .int
  | 15 => .array .int
  | 16 => .int
  | 17 => .int
  | 18 => .int
  | 19 => .int
  | 20 => .int
  | 21 => .array .int
  | 22 => .int
  | 23 => .array .int
  | 24 => .int
  | 25 => .array .int
  | 26 => .array .int
  | 27 => .array .int
  | 28 => .long
  | 29 => .array .boolean
  | _ => .array .int
abbrev wsX80 : List Cond := u_ws RX8 TX8 31
theorem nmX8 : ∀ a, a < 31 → ∀ b, b < 31 → a ≠ b → (TX8 a).2.1 ≠ (TX8 b).2.1 := by decide +kernel
theorem tyX8_ok : ∀ k, k < 31 → parseFieldDescriptor (TX8 k).2.2.1 = some (tyX8 k) := by decide +kernel
abbrev cX8_init : ByteArray := prog_10_method_1_code
def yX8_init : MethodName := ⟨RX8, "<init>", "()V"⟩
abbrev cX8_in : ByteArray := prog_10_method_3_code
def yX8_in : MethodName := ⟨RX8, "in", "(JJJ)Z"⟩
abbrev cX8_has : ByteArray := prog_10_method_4_code
def yX8_has : MethodName := ⟨RX8, "has", "(II)Z"⟩
abbrev cX8_ones : ByteArray := prog_10_method_5_code
def yX8_ones : MethodName := ⟨RX8, "ones", "(I)I"⟩
abbrev cX8_write : ByteArray := prog_10_method_6_code
def yX8_write : MethodName := ⟨RX8, "write", "(I)I"⟩
abbrev cX8_wipe : ByteArray := prog_10_method_7_code
def yX8_wipe : MethodName := ⟨RX8, "wipe", "()I"⟩
abbrev cX8_figure : ByteArray := prog_10_method_8_code
def yX8_figure : MethodName := ⟨RX8, "figure", "(II)I"⟩
abbrev cX8_isFree : ByteArray := prog_10_method_9_code
def yX8_isFree : MethodName := ⟨RX8, "isFree", "(I)Z"⟩
abbrev cX8_isFreeIn : ByteArray := prog_10_method_10_code
def yX8_isFreeIn : MethodName := ⟨RX8, "isFreeIn", "(I)Z"⟩
abbrev cX8_leafFigure : ByteArray := prog_10_method_11_code
def yX8_leafFigure : MethodName := ⟨RX8, "leafFigure", "(I)I"⟩
abbrev cX8_readText : ByteArray := prog_10_method_12_code
def yX8_readText : MethodName := ⟨RX8, "readText", "()I"⟩
abbrev cX8_readGuest : ByteArray := prog_10_method_13_code
def yX8_readGuest : MethodName := ⟨RX8, "readGuest", "()V"⟩
abbrev cX8_fault : ByteArray := prog_10_method_14_code
def yX8_fault : MethodName := ⟨RX8, "fault", "()I"⟩
abbrev cX8_lay : ByteArray := prog_10_method_15_code
def yX8_lay : MethodName := ⟨RX8, "lay", "()I"⟩
abbrev cX8_isGuest : ByteArray := prog_10_method_16_code
def yX8_isGuest : MethodName := ⟨RX8, "isGuest", "(I)Z"⟩
abbrev cX8_nextOf : ByteArray := prog_10_method_17_code
def yX8_nextOf : MethodName := ⟨RX8, "nextOf", "(III)I"⟩
abbrev cX8_hears : ByteArray := prog_10_method_18_code
def yX8_hears : MethodName := ⟨RX8, "hears", "(I)I"⟩
abbrev cX8_guest : ByteArray := prog_10_method_19_code
def yX8_guest : MethodName := ⟨RX8, "guest", "(II)I"⟩
abbrev cX8_isTaken : ByteArray := prog_10_method_20_code
def yX8_isTaken : MethodName := ⟨RX8, "isTaken", "(II)Z"⟩
abbrev cX8_growth : ByteArray := prog_10_method_21_code
def yX8_growth : MethodName := ⟨RX8, "growth", "(I)I"⟩
abbrev cX8_canSay : ByteArray := prog_10_method_22_code
def yX8_canSay : MethodName := ⟨RX8, "canSay", "(II)Z"⟩
abbrev cX8_sayOn : ByteArray := prog_10_method_23_code
def yX8_sayOn : MethodName := ⟨RX8, "sayOn", "(II)V"⟩
abbrev cX8_passOn : ByteArray := prog_10_method_24_code
def yX8_passOn : MethodName := ⟨RX8, "passOn", "(II)V"⟩
abbrev cX8_fetchOn : ByteArray := prog_10_method_25_code
def yX8_fetchOn : MethodName := ⟨RX8, "fetchOn", "(I)V"⟩
abbrev cX8_keepAct : ByteArray := prog_10_method_26_code
def yX8_keepAct : MethodName := ⟨RX8, "keepAct", "()V"⟩
abbrev cX8_say : ByteArray := prog_10_method_27_code
def yX8_say : MethodName := ⟨RX8, "say", "(I)I"⟩
abbrev cX8_pass : ByteArray := prog_10_method_28_code
def yX8_pass : MethodName := ⟨RX8, "pass", "(I)I"⟩
abbrev cX8_fetch : ByteArray := prog_10_method_29_code
def yX8_fetch : MethodName := ⟨RX8, "fetch", "()I"⟩
abbrev cX8_undo : ByteArray := prog_10_method_30_code
def yX8_undo : MethodName := ⟨RX8, "undo", "()I"⟩
abbrev cX8_layTrial : ByteArray := prog_10_method_31_code
def yX8_layTrial : MethodName := ⟨RX8, "layTrial", "()V"⟩
abbrev cX8_power : ByteArray := prog_10_method_32_code
def yX8_power : MethodName := ⟨RX8, "power", "(II)I"⟩
abbrev cX8_figureOf : ByteArray := prog_10_method_33_code
def yX8_figureOf : MethodName := ⟨RX8, "figureOf", "(III)I"⟩
abbrev cX8_told : ByteArray := prog_10_method_34_code
def yX8_told : MethodName := ⟨RX8, "told", "(II)I"⟩
abbrev cX8_mostBy : ByteArray := prog_10_method_35_code
def yX8_mostBy : MethodName := ⟨RX8, "mostBy", "(II)I"⟩
abbrev cX8_passes : ByteArray := prog_10_method_36_code
def yX8_passes : MethodName := ⟨RX8, "passes", "(Z)I"⟩
abbrev cX8_sayRow : ByteArray := prog_10_method_37_code
def yX8_sayRow : MethodName := ⟨RX8, "sayRow", "(II)Z"⟩
abbrev cX8_fewest : ByteArray := prog_10_method_38_code
def yX8_fewest : MethodName := ⟨RX8, "fewest", "(IZ)I"⟩
abbrev cX8_longBy : ByteArray := prog_10_method_39_code
def yX8_longBy : MethodName := ⟨RX8, "longBy", "(IZ)I"⟩
abbrev cX8_together : ByteArray := prog_10_method_40_code
def yX8_together : MethodName := ⟨RX8, "together", "(Z)I"⟩
abbrev cX8_farthest : ByteArray := prog_10_method_41_code
def yX8_farthest : MethodName := ⟨RX8, "farthest", "(I)I"⟩
abbrev cX8_tryThing : ByteArray := prog_10_method_42_code
def yX8_tryThing : MethodName := ⟨RX8, "tryThing", "(I)Z"⟩
abbrev cX8_judge : ByteArray := prog_10_method_43_code
def yX8_judge : MethodName := ⟨RX8, "judge", "(II)I"⟩
abbrev cX8_factorial : ByteArray := prog_10_method_44_code
def yX8_factorial : MethodName := ⟨RX8, "factorial", "(I)I"⟩
abbrev cX8_common : ByteArray := prog_10_method_45_code
def yX8_common : MethodName := ⟨RX8, "common", "(II)I"⟩
abbrev cX8_share : ByteArray := prog_10_method_46_code
def yX8_share : MethodName := ⟨RX8, "share", "(IZ)I"⟩
abbrev cX8_isWord : ByteArray := prog_10_method_47_code
def yX8_isWord : MethodName := ⟨RX8, "isWord", "(II)Z"⟩
abbrev cX8_ears : ByteArray := prog_10_method_48_code
def yX8_ears : MethodName := ⟨RX8, "ears", "()I"⟩
abbrev cX8_turned : ByteArray := prog_10_method_49_code
def yX8_turned : MethodName := ⟨RX8, "turned", "(III)I"⟩
abbrev cX8_comes : ByteArray := prog_10_method_50_code
def yX8_comes : MethodName := ⟨RX8, "comes", "(II)I"⟩
abbrev cX8_spoken : ByteArray := prog_10_method_51_code
def yX8_spoken : MethodName := ⟨RX8, "spoken", "(II)I"⟩
abbrev cX8_dine : ByteArray := prog_10_method_52_code
def yX8_dine : MethodName := ⟨RX8, "dine", "(II)I"⟩
abbrev cX8_clear : ByteArray := prog_10_method_53_code
def yX8_clear : MethodName := ⟨RX8, "clear", "()I"⟩
abbrev cX8_changeOf : ByteArray := prog_10_method_54_code
def yX8_changeOf : MethodName := ⟨RX8, "changeOf", "(II)I"⟩
abbrev cX8_isLaw : ByteArray := prog_10_method_55_code
def yX8_isLaw : MethodName := ⟨RX8, "isLaw", "(I)Z"⟩
abbrev cX8_laws : ByteArray := prog_10_method_56_code
def yX8_laws : MethodName := ⟨RX8, "laws", "(I)I"⟩
abbrev cX8_lengthBy : ByteArray := prog_10_method_57_code
def yX8_lengthBy : MethodName := ⟨RX8, "lengthBy", "(II)I"⟩
abbrev cX8_choice : ByteArray := prog_10_method_58_code
def yX8_choice : MethodName := ⟨RX8, "choice", "(IZ)I"⟩
abbrev cX8_hosts : ByteArray := prog_10_method_59_code
def yX8_hosts : MethodName := ⟨RX8, "hosts", "(IZ)I"⟩
abbrev cX8_come : ByteArray := prog_10_method_60_code
def yX8_come : MethodName := ⟨RX8, "come", "(IIZ)I"⟩
abbrev cX8_seed : ByteArray := prog_10_method_61_code
def yX8_seed : MethodName := ⟨RX8, "seed", "(J)J"⟩
abbrev cX8_dinner : ByteArray := prog_10_method_62_code
def yX8_dinner : MethodName := ⟨RX8, "dinner", "(I)I"⟩
abbrev cX8_keep : ByteArray := prog_10_method_63_code
def yX8_keep : MethodName := ⟨RX8, "keep", "(I)I"⟩
abbrev cX8_again : ByteArray := prog_10_method_64_code
def yX8_again : MethodName := ⟨RX8, "again", "(I)I"⟩
abbrev cX8_count : ByteArray := prog_10_method_65_code
def yX8_count : MethodName := ⟨RX8, "count", "(I)I"⟩
def RJ6 : String := "java/lang/Integer"
def TJ6 : u_T := fun k => match k with
  | _ => ("", "", "", false)
def tyJ6 : Nat → FieldType := fun k => match k with
  | _ => .int
abbrev wsJ60 : List Cond := u_ws RJ6 TJ6 0
theorem nmJ6 : ∀ a, a < 0 → ∀ b, b < 0 → a ≠ b → (TJ6 a).2.1 ≠ (TJ6 b).2.1 := by decide +kernel
theorem tyJ6_ok : ∀ k, k < 0 → parseFieldDescriptor (TJ6 k).2.2.1 = some (tyJ6 k) := by decide +kernel
abbrev cJ6_bitCount_0f7a4 : ByteArray := prog_11_method_49_code
def yJ6_bitCount_0f7a4 : MethodName := ⟨RJ6, "bitCount", "(I)I"⟩
def RJ9 : String := "java/lang/Math"
def TJ9 : u_T := fun k => match k with
  | _ => ("", "", "", false)
def tyJ9 : Nat → FieldType := fun k => match k with
  | _ => .int
abbrev wsJ90 : List Cond := u_ws RJ9 TJ9 0
theorem nmJ9 : ∀ a, a < 0 → ∀ b, b < 0 → a ≠ b → (TJ9 a).2.1 ≠ (TJ9 b).2.1 := by decide +kernel
theorem tyJ9_ok : ∀ k, k < 0 → parseFieldDescriptor (TJ9 k).2.2.1 = some (tyJ9 k) := by decide +kernel
abbrev cJ9_floorMod_7cf53 : ByteArray := prog_12_method_50_code
def yJ9_floorMod_7cf53 : MethodName := ⟨RJ9, "floorMod", "(II)I"⟩
abbrev cJ9_abs_0f7a4 : ByteArray := prog_12_method_59_code
def yJ9_abs_0f7a4 : MethodName := ⟨RJ9, "abs", "(I)I"⟩
abbrev cJ9_max_7cf53 : ByteArray := prog_12_method_65_code
def yJ9_max_7cf53 : MethodName := ⟨RJ9, "max", "(II)I"⟩
abbrev cJ9_min_7cf53 : ByteArray := prog_12_method_69_code
def yJ9_min_7cf53 : MethodName := ⟨RJ9, "min", "(II)I"⟩
def RL : String := "LeafTableLaw"
abbrev cL_law : ByteArray := code
def yL_law : MethodName := ⟨RL, "law", "([I)Z"⟩
abbrev vwCl : List vw_C := [(RX0, TX0, 2), (RX1, TX1, 2), (RX2, TX2, 6), (RX3, TX3, 5), (RX4, TX4, 5), (RX5, TX5, 6), (RX6, TX6, 2), (RX7, TX7, 10), (RX8, TX8, 31)]
/-- all good words, for every method -/
def wAll : List Cond := lw_tbl.filter goodWord
theorem wIn {w : Cond} (i : Nat) (h : lw_tbl[i]? = some w) (hg : goodWord w = true) : w ∈ wAll := List.mem_filter.mpr ⟨List.mem_of_getElem? h, hg⟩
theorem wAll_tbl : ∀ w ∈ wAll, w ∈ lw_tbl := fun w h => (List.mem_filter.mp h).1
theorem wAll_good : ∀ w ∈ wAll, (w.onTables && w.keeps) = true ∨ ∃ ty, w = .arrayClass ty := fun w h => good_of_word (List.mem_filter.mp h).2
theorem wlX0_0 : u_lay RX0 TX0 0 ∈ wAll := wIn 162 (by decide +kernel) (by decide +kernel)
theorem wlX0_1 : u_lay RX0 TX0 1 ∈ wAll := wIn 164 (by decide +kernel) (by decide +kernel)
theorem wlkX0 : ∀ k, k < 2 → u_lay RX0 TX0 k ∈ wAll
  | 0, _ => wlX0_0
  | 1, _ => wlX0_1
  | k + 2, h => absurd h (by omega)
theorem wiX0 : ∀ w ∈ u_ws RX0 TX0 2, w ∈ wAll := fun w h => by
  obtain ⟨k, hk, rfl⟩ := List.mem_map.mp h
  exact wlkX0 k (List.mem_range.mp hk)
theorem wlX1_0 : u_lay RX1 TX1 0 ∈ wAll := wIn 233 (by decide +kernel) (by decide +kernel)
theorem wlX1_1 : u_lay RX1 TX1 1 ∈ wAll := wIn 235 (by decide +kernel) (by decide +kernel)
theorem wlkX1 : ∀ k, k < 2 → u_lay RX1 TX1 k ∈ wAll
  | 0, _ => wlX1_0
  | 1, _ => wlX1_1
  | k + 2, h => absurd h (by omega)
theorem wiX1 : ∀ w ∈ u_ws RX1 TX1 2, w ∈ wAll := fun w h => by
  obtain ⟨k, hk, rfl⟩ := List.mem_map.mp h
  exact wlkX1 k (List.mem_range.mp hk)
theorem wlX2_0 : u_lay RX2 TX2 0 ∈ wAll := wIn 183 (by decide +kernel) (by decide +kernel)
theorem wlX2_1 : u_lay RX2 TX2 1 ∈ wAll := wIn 185 (by decide +kernel) (by decide +kernel)
theorem wlX2_2 : u_lay RX2 TX2 2 ∈ wAll := wIn 187 (by decide +kernel) (by decide +kernel)
theorem wlX2_3 : u_lay RX2 TX2 3 ∈ wAll := wIn 189 (by decide +kernel) (by decide +kernel)
theorem wlX2_4 : u_lay RX2 TX2 4 ∈ wAll := wIn 191 (by decide +kernel) (by decide +kernel)
theorem wlX2_5 : u_lay RX2 TX2 5 ∈ wAll := wIn 193 (by decide +kernel) (by decide +kernel)
theorem wlkX2 : ∀ k, k < 6 → u_lay RX2 TX2 k ∈ wAll
  | 0, _ => wlX2_0
  | 1, _ => wlX2_1
  | 2, _ => wlX2_2
  | 3, _ => wlX2_3
  | 4, _ => wlX2_4
  | 5, _ => wlX2_5
  | k + 6, h => absurd h (by omega)
theorem wiX2 : ∀ w ∈ u_ws RX2 TX2 6, w ∈ wAll := fun w h => by
  obtain ⟨k, hk, rfl⟩ := List.mem_map.mp h
  exact wlkX2 k (List.mem_range.mp hk)
theorem wlX3_0 : u_lay RX3 TX3 0 ∈ wAll := wIn 214 (by decide +kernel) (by decide +kernel)
theorem wlX3_1 : u_lay RX3 TX3 1 ∈ wAll := wIn 216 (by decide +kernel) (by decide +kernel)
theorem wlX3_2 : u_lay RX3 TX3 2 ∈ wAll := wIn 218 (by decide +kernel) (by decide +kernel)
theorem wlX3_3 : u_lay RX3 TX3 3 ∈ wAll := wIn 220 (by decide +kernel) (by decide +kernel)
theorem wlX3_4 : u_lay RX3 TX3 4 ∈ wAll := wIn 222 (by decide +kernel) (by decide +kernel)
theorem wlkX3 : ∀ k, k < 5 → u_lay RX3 TX3 k ∈ wAll
  | 0, _ => wlX3_0
  | 1, _ => wlX3_1
  | 2, _ => wlX3_2
  | 3, _ => wlX3_3
  | 4, _ => wlX3_4
  | k + 5, h => absurd h (by omega)
theorem wiX3 : ∀ w ∈ u_ws RX3 TX3 5, w ∈ wAll := fun w h => by
  obtain ⟨k, hk, rfl⟩ := List.mem_map.mp h
  exact wlkX3 k (List.mem_range.mp hk)
theorem wlX4_0 : u_lay RX4 TX4 0 ∈ wAll := wIn 139 (by decide +kernel) (by decide +kernel)
theorem wlX4_1 : u_lay RX4 TX4 1 ∈ wAll := wIn 141 (by decide +kernel) (by decide +kernel)
theorem wlX4_2 : u_lay RX4 TX4 2 ∈ wAll := wIn 143 (by decide +kernel) (by decide +kernel)
theorem wlX4_3 : u_lay RX4 TX4 3 ∈ wAll := wIn 145 (by decide +kernel) (by decide +kernel)
theorem wlX4_4 : u_lay RX4 TX4 4 ∈ wAll := wIn 147 (by decide +kernel) (by decide +kernel)
theorem wlkX4 : ∀ k, k < 5 → u_lay RX4 TX4 k ∈ wAll
  | 0, _ => wlX4_0
  | 1, _ => wlX4_1
  | 2, _ => wlX4_2
  | 3, _ => wlX4_3
  | 4, _ => wlX4_4
  | k + 5, h => absurd h (by omega)
theorem wiX4 : ∀ w ∈ u_ws RX4 TX4 5, w ∈ wAll := fun w h => by
  obtain ⟨k, hk, rfl⟩ := List.mem_map.mp h
  exact wlkX4 k (List.mem_range.mp hk)
theorem wlX5_0 : u_lay RX5 TX5 0 ∈ wAll := wIn 101 (by decide +kernel) (by decide +kernel)
theorem wlX5_1 : u_lay RX5 TX5 1 ∈ wAll := wIn 103 (by decide +kernel) (by decide +kernel)
theorem wlX5_2 : u_lay RX5 TX5 2 ∈ wAll := wIn 105 (by decide +kernel) (by decide +kernel)
theorem wlX5_3 : u_lay RX5 TX5 3 ∈ wAll := wIn 107 (by decide +kernel) (by decide +kernel)
theorem wlX5_4 : u_lay RX5 TX5 4 ∈ wAll := wIn 109 (by decide +kernel) (by decide +kernel)
theorem wlX5_5 : u_lay RX5 TX5 5 ∈ wAll := wIn 111 (by decide +kernel) (by decide +kernel)
theorem wlkX5 : ∀ k, k < 6 → u_lay RX5 TX5 k ∈ wAll
  | 0, _ => wlX5_0
  | 1, _ => wlX5_1
  | 2, _ => wlX5_2
  | 3, _ => wlX5_3
  | 4, _ => wlX5_4
  | 5, _ => wlX5_5
  | k + 6, h => absurd h (by omega)
theorem wiX5 : ∀ w ∈ u_ws RX5 TX5 6, w ∈ wAll := fun w h => by
  obtain ⟨k, hk, rfl⟩ := List.mem_map.mp h
  exact wlkX5 k (List.mem_range.mp hk)
theorem wlX6_0 : u_lay RX6 TX6 0 ∈ wAll := wIn 73 (by decide +kernel) (by decide +kernel)
theorem wlX6_1 : u_lay RX6 TX6 1 ∈ wAll := wIn 75 (by decide +kernel) (by decide +kernel)
theorem wlkX6 : ∀ k, k < 2 → u_lay RX6 TX6 k ∈ wAll
  | 0, _ => wlX6_0
  | 1, _ => wlX6_1
  | k + 2, h => absurd h (by omega)
theorem wiX6 : ∀ w ∈ u_ws RX6 TX6 2, w ∈ wAll := fun w h => by
  obtain ⟨k, hk, rfl⟩ := List.mem_map.mp h
  exact wlkX6 k (List.mem_range.mp hk)
theorem wlX7_0 : u_lay RX7 TX7 0 ∈ wAll := wIn 248 (by decide +kernel) (by decide +kernel)
theorem wlX7_1 : u_lay RX7 TX7 1 ∈ wAll := wIn 250 (by decide +kernel) (by decide +kernel)
theorem wlX7_2 : u_lay RX7 TX7 2 ∈ wAll := wIn 252 (by decide +kernel) (by decide +kernel)
theorem wlX7_3 : u_lay RX7 TX7 3 ∈ wAll := wIn 254 (by decide +kernel) (by decide +kernel)
theorem wlX7_4 : u_lay RX7 TX7 4 ∈ wAll := wIn 256 (by decide +kernel) (by decide +kernel)
theorem wlX7_5 : u_lay RX7 TX7 5 ∈ wAll := wIn 258 (by decide +kernel) (by decide +kernel)
theorem wlX7_6 : u_lay RX7 TX7 6 ∈ wAll := wIn 260 (by decide +kernel) (by decide +kernel)
theorem wlX7_7 : u_lay RX7 TX7 7 ∈ wAll := wIn 262 (by decide +kernel) (by decide +kernel)
theorem wlX7_8 : u_lay RX7 TX7 8 ∈ wAll := wIn 264 (by decide +kernel) (by decide +kernel)
theorem wlX7_9 : u_lay RX7 TX7 9 ∈ wAll := wIn 266 (by decide +kernel) (by decide +kernel)
theorem wlkX7 : ∀ k, k < 10 → u_lay RX7 TX7 k ∈ wAll
  | 0, _ => wlX7_0
  | 1, _ => wlX7_1
  | 2, _ => wlX7_2
  | 3, _ => wlX7_3
  | 4, _ => wlX7_4
  | 5, _ => wlX7_5
  | 6, _ => wlX7_6
  | 7, _ => wlX7_7
  | 8, _ => wlX7_8
  | 9, _ => wlX7_9
  | k + 10, h => absurd h (by omega)
theorem wiX7 : ∀ w ∈ u_ws RX7 TX7 10, w ∈ wAll := fun w h => by
  obtain ⟨k, hk, rfl⟩ := List.mem_map.mp h
  exact wlkX7 k (List.mem_range.mp hk)
theorem wlX8_0 : u_lay RX8 TX8 0 ∈ wAll := wIn 698 (by decide +kernel) (by decide +kernel)
theorem wlX8_1 : u_lay RX8 TX8 1 ∈ wAll := wIn 700 (by decide +kernel) (by decide +kernel)
theorem wlX8_2 : u_lay RX8 TX8 2 ∈ wAll := wIn 702 (by decide +kernel) (by decide +kernel)
theorem wlX8_3 : u_lay RX8 TX8 3 ∈ wAll := wIn 704 (by decide +kernel) (by decide +kernel)
theorem wlX8_4 : u_lay RX8 TX8 4 ∈ wAll := wIn 706 (by decide +kernel) (by decide +kernel)
theorem wlX8_5 : u_lay RX8 TX8 5 ∈ wAll := wIn 708 (by decide +kernel) (by decide +kernel)
theorem wlX8_6 : u_lay RX8 TX8 6 ∈ wAll := wIn 710 (by decide +kernel) (by decide +kernel)
theorem wlX8_7 : u_lay RX8 TX8 7 ∈ wAll := wIn 712 (by decide +kernel) (by decide +kernel)
theorem wlX8_8 : u_lay RX8 TX8 8 ∈ wAll := wIn 714 (by decide +kernel) (by decide +kernel)
theorem wlX8_9 : u_lay RX8 TX8 9 ∈ wAll := wIn 716 (by decide +kernel) (by decide +kernel)
theorem wlX8_10 : u_lay RX8 TX8 10 ∈ wAll := wIn 718 (by decide +kernel) (by decide +kernel)
theorem wlX8_11 : u_lay RX8 TX8 11 ∈ wAll := wIn 720 (by decide +kernel) (by decide +kernel)
theorem wlX8_12 : u_lay RX8 TX8 12 ∈ wAll := wIn 722 (by decide +kernel) (by decide +kernel)
theorem wlX8_13 : u_lay RX8 TX8 13 ∈ wAll := wIn 724 (by decide +kernel) (by decide +kernel)
theorem wlX8_14 : u_lay RX8 TX8 14 ∈ wAll := wIn 726 (by decide +kernel) (by decide +kernel)
theorem wlX8_15 : u_lay RX8 TX8 15 ∈ wAll := wIn 728 (by decide +kernel) (by decide +kernel)
theorem wlX8_16 : u_lay RX8 TX8 16 ∈ wAll := wIn 730 (by decide +kernel) (by decide +kernel)
theorem wlX8_17 : u_lay RX8 TX8 17 ∈ wAll := wIn 732 (by decide +kernel) (by decide +kernel)
theorem wlX8_18 : u_lay RX8 TX8 18 ∈ wAll := wIn 734 (by decide +kernel) (by decide +kernel)
theorem wlX8_19 : u_lay RX8 TX8 19 ∈ wAll := wIn 736 (by decide +kernel) (by decide +kernel)
theorem wlX8_20 : u_lay RX8 TX8 20 ∈ wAll := wIn 738 (by decide +kernel) (by decide +kernel)
theorem wlX8_21 : u_lay RX8 TX8 21 ∈ wAll := wIn 740 (by decide +kernel) (by decide +kernel)
theorem wlX8_22 : u_lay RX8 TX8 22 ∈ wAll := wIn 742 (by decide +kernel) (by decide +kernel)
theorem wlX8_23 : u_lay RX8 TX8 23 ∈ wAll := wIn 744 (by decide +kernel) (by decide +kernel)
theorem wlX8_24 : u_lay RX8 TX8 24 ∈ wAll := wIn 746 (by decide +kernel) (by decide +kernel)
theorem wlX8_25 : u_lay RX8 TX8 25 ∈ wAll := wIn 748 (by decide +kernel) (by decide +kernel)
theorem wlX8_26 : u_lay RX8 TX8 26 ∈ wAll := wIn 750 (by decide +kernel) (by decide +kernel)
theorem wlX8_27 : u_lay RX8 TX8 27 ∈ wAll := wIn 752 (by decide +kernel) (by decide +kernel)
theorem wlX8_28 : u_lay RX8 TX8 28 ∈ wAll := wIn 754 (by decide +kernel) (by decide +kernel)
theorem wlX8_29 : u_lay RX8 TX8 29 ∈ wAll := wIn 756 (by decide +kernel) (by decide +kernel)
theorem wlX8_30 : u_lay RX8 TX8 30 ∈ wAll := wIn 758 (by decide +kernel) (by decide +kernel)
theorem wlkX8 : ∀ k, k < 31 → u_lay RX8 TX8 k ∈ wAll
  | 0, _ => wlX8_0
  | 1, _ => wlX8_1
  | 2, _ => wlX8_2
  | 3, _ => wlX8_3
  | 4, _ => wlX8_4
  | 5, _ => wlX8_5
  | 6, _ => wlX8_6
  | 7, _ => wlX8_7
  | 8, _ => wlX8_8
  | 9, _ => wlX8_9
  | 10, _ => wlX8_10
  | 11, _ => wlX8_11
  | 12, _ => wlX8_12
  | 13, _ => wlX8_13
  | 14, _ => wlX8_14
  | 15, _ => wlX8_15
  | 16, _ => wlX8_16
  | 17, _ => wlX8_17
  | 18, _ => wlX8_18
  | 19, _ => wlX8_19
  | 20, _ => wlX8_20
  | 21, _ => wlX8_21
  | 22, _ => wlX8_22
  | 23, _ => wlX8_23
  | 24, _ => wlX8_24
  | 25, _ => wlX8_25
  | 26, _ => wlX8_26
  | 27, _ => wlX8_27
  | 28, _ => wlX8_28
  | 29, _ => wlX8_29
  | 30, _ => wlX8_30
  | k + 31, h => absurd h (by omega)
theorem wiX8 : ∀ w ∈ u_ws RX8 TX8 31, w ∈ wAll := fun w h => by
  obtain ⟨k, hk, rfl⟩ := List.mem_map.mp h
  exact wlkX8 k (List.mem_range.mp hk)
end
section
/-! ===== THE PURE MACHINE: values, worlds, instructions as closures, runs ===== -/
/-- a value: an int, a long, or an object by kind and number -/
abbrev pm_V : Type := Int32 ⊕ (Int64 ⊕ (Nat × Nat))
/-- a world: ints by kind, number, slot; longs by kind; the order of the seats in Acts.before -/
abbrev pm_W : Type := (Nat → Nat → Nat → Int32) × ((Nat → Int64) × (Nat → Nat))
abbrev pm_L : Type := List (Option pm_V)
abbrev pm_K : Type := Nat → pm_L → List pm_V → pm_W → Prop
abbrev pm_Q : Type := Option pm_V → pm_W → Prop
abbrev pm_C : Type := Nat → List pm_V → pm_W → Option pm_V → pm_W → Prop
abbrev pm_Op : Type := Nat → pm_L → List pm_V → pm_W → pm_K → pm_Q → pm_C → Prop
def pm_nth {α : Type} (d : α) : List α → Nat → α
  | [], _ => d
  | a :: _, 0 => a
  | _ :: t, n + 1 => pm_nth d t n
/-- how many of a kind there are: 0 LeafTable 1 Text 2 letters 3 Table 4 kinds 5 wants 6 ears 7 Seats 8 leaves 9 Acts 10 before 11 kept 12 isKept 13 Dinners 14 spoke 15 more 16 Plans 17 trials 18 Chances 19 LeafTableModel 20 kind 21 wants 22 ear 23 now 24 readLeaf 25 readKind 26 readWants 27 readEar 28 text 29 row 30 mosts 31 spoke 32 grew 33 values 34 isKept 35 kept 36 GROWTH 37 TENS 38 FACTORIALS 39 the script -/
def pm_cnts : List Nat := [1, 1, 1, 1, 1, 1, 1, 23, 23, 1, 1, 1, 1, 1, 1, 1, 1, 1, 1, 1, 1, 1, 1, 1, 1, 1, 1, 1, 1, 1, 1, 1, 1, 1, 1, 1, 1, 1, 1, 1]
def pm_cnt (k : Nat) : Nat := pm_nth 0 pm_cnts k
/-- class numbers (one more; 0: no object) -/
def pm_kcs : List Nat := [8, 7, 0, 6, 0, 0, 0, 5, 0, 1, 0, 0, 0, 3, 0, 0, 4, 0, 2, 9]
def pm_kc (k : Nat) : Nat := pm_nth 0 pm_kcs k
/-- the kinds of fields: 0 int, 1 long, t + 2 an object of kind t -/
def pm_fts : List (List Nat) := [[3, 5, 9, 11, 13, 14, 15, 18, 20, 1], [4, 0], [], [6, 7, 8, 0, 0, 0], [], [], [], [10, 0, 0, 0, 0], [], [12, 0], [], [], [], [16, 17, 0, 0, 0, 0], [], [], [5, 19, 0, 0, 0], [], [5, 18], [0, 0, 0, 22, 23, 24, 25, 0, 0, 0, 0, 26, 27, 28, 29, 30, 0, 0, 0, 0, 0, 31, 0, 32, 0, 33, 34, 35, 1, 36, 37]]
def pm_ftl (k : Nat) : List Nat := pm_nth [] pm_fts k
def pm_ft (k f : Nat) : Nat := pm_nth 0 (pm_ftl k) f
/-- arrays: 0 none, 1 ints, 2 booleans, 3 seats; and how long -/
def pm_ats : List Nat := [0, 0, 1, 0, 1, 1, 1, 0, 1, 0, 3, 3, 2, 0, 1, 1, 0, 3, 0, 0, 1, 1, 1, 1, 1, 1, 1, 1, 1, 1, 1, 1, 1, 1, 2, 1, 1, 1, 1, 0]
def pm_at (k : Nat) : Nat := pm_nth 0 pm_ats k
def pm_als : List Nat := [0, 0, 40, 0, 5, 5, 5, 0, 5, 0, 14, 2, 2, 0, 6, 6, 0, 6, 0, 0, 5, 5, 5, 18, 5, 5, 5, 5, 40, 126, 32, 6, 6, 1296, 2, 18, 4, 7, 6, 0]
def pm_al (k : Nat) : Nat := pm_nth 0 pm_als k
def pm_stG : List Int32 := [1, -1, 2, 0]
def pm_stT : List Int32 := [1, 10, 100, 1000, 10000, 100000, 1000000]
def pm_stF : List Int32 := [1, 1, 2, 6, 24, 120]
def pm_sts : List (List Int32) := [pm_stG, pm_stT, pm_stF]
/-- what stands in a static table -/
def pm_st (k n : Nat) : Int32 := pm_nth 0 (pm_nth [] pm_sts (k - 36)) n
/-- a field read -/
def pm_fvt (w : pm_W) (k j f : Nat) : Nat → pm_V
  | 0 => .inl (w.1 k j f)
  | 1 => .inr (.inl (w.2.1 k))
  | t + 2 => .inr (.inr (t, j))
def pm_fv (w : pm_W) (k j f : Nat) : pm_V := pm_fvt w k j f (pm_ft k f)
/-- which seat stands in an array of seats -/
def pm_ri (w : pm_W) (k n : Nat) : Nat := cond (Nat.beq k 10) (w.2.2 n) (cond (Nat.beq k 11) (15 + n) (17 + n))
def pm_rd (w : pm_W) (k j n : Nat) : Int32 := cond (Nat.ble 36 k) (pm_st k n) (w.1 k j n)
def pm_setI (w : pm_W) (k j f : Nat) (x : Int32) : pm_W := (fun a b c => if a = k ∧ b = j ∧ c = f then x else w.1 a b c, w.2)
def pm_setJ (w : pm_W) (k : Nat) (x : Int64) : pm_W := (w.1, (fun a => if a = k then x else w.2.1 a), w.2.2)
def pm_setB (w : pm_W) (n q : Nat) : pm_W := (w.1, w.2.1, fun a => if a = n then q else w.2.2 a)
-- instructions
def pm_push (c : Int32) : pm_Op := fun i ls st w X _ _ => X (i + 1) ls (.inl c :: st) w
def pm_pushl (c : Int64) : pm_Op := fun i ls st w X _ _ => X (i + 1) ls (.inr (.inl c) :: st) w
def pm_iload (k : Nat) : pm_Op := fun i ls st w X _ _ => match pm_nth none ls k with
  | some (.inl x) => X (i + 1) ls (.inl x :: st) w
  | _ => False
def pm_lload (k : Nat) : pm_Op := fun i ls st w X _ _ => match pm_nth none ls k with
  | some (.inr (.inl x)) => X (i + 1) ls (.inr (.inl x) :: st) w
  | _ => False
def pm_aload (k : Nat) : pm_Op := fun i ls st w X _ _ => match pm_nth none ls k with
  | some (.inr (.inr x)) => X (i + 1) ls (.inr (.inr x) :: st) w
  | _ => False
def pm_isl : Option pm_V → Bool
  | some (.inr (.inl _)) => true
  | _ => false
def pm_okst (ls : pm_L) (k : Nat) : Bool := Nat.blt k ls.length && (Nat.beq k 0 || !(pm_isl (pm_nth none ls (k - 1))))
def pm_istore (k : Nat) : pm_Op := fun i ls st w X _ _ => match st with
  | .inl x :: t => cond (pm_okst ls k) (X (i + 1) (ls.set k (some (.inl x))) t w) False
  | _ => False
def pm_astore (k : Nat) : pm_Op := fun i ls st w X _ _ => match st with
  | .inr (.inr x) :: t => cond (pm_okst ls k) (X (i + 1) (ls.set k (some (.inr (.inr x)))) t w) False
  | _ => False
def pm_lstore (k : Nat) : pm_Op := fun i ls st w X _ _ => match st with
  | .inr (.inl x) :: t => cond (pm_okst ls k && Nat.blt (k + 1) ls.length) (X (i + 1) ((ls.set k (some (.inr (.inl x)))).set (k + 1) none) t w) False
  | _ => False
def pm_iinc (k : Nat) (c : Int32) : pm_Op := fun i ls st w X _ _ => match pm_nth none ls k with
  | some (.inl x) => cond (pm_okst ls k) (X (i + 1) (ls.set k (some (.inl (x + c)))) st w) False
  | _ => False
def pm_bin (f : Int32 → Int32 → Int32) : pm_Op := fun i ls st w X _ _ => match st with
  | .inl y :: .inl x :: t => X (i + 1) ls (.inl (f x y) :: t) w
  | _ => False
def pm_idiv : pm_Op := fun i ls st w X _ _ => match st with
  | .inl y :: .inl x :: t => ¬ y = 0 ∧ X (i + 1) ls (.inl (x / y) :: t) w
  | _ => False
def pm_irem : pm_Op := fun i ls st w X _ _ => match st with
  | .inl y :: .inl x :: t => ¬ y = 0 ∧ X (i + 1) ls (.inl (x - x / y * y) :: t) w
  | _ => False
def pm_ineg : pm_Op := fun i ls st w X _ _ => match st with
  | .inl x :: t => X (i + 1) ls (.inl (-x) :: t) w
  | _ => False
def pm_bil (f : Int64 → Int64 → Int64) : pm_Op := fun i ls st w X _ _ => match st with
  | .inr (.inl y) :: .inr (.inl x) :: t => X (i + 1) ls (.inr (.inl (f x y)) :: t) w
  | _ => False
def pm_lrem : pm_Op := fun i ls st w X _ _ => match st with
  | .inr (.inl y) :: .inr (.inl x) :: t => ¬ y = 0 ∧ X (i + 1) ls (.inr (.inl (x - x / y * y)) :: t) w
  | _ => False
def pm_lsh (f : Int64 → Int32 → Int64) : pm_Op := fun i ls st w X _ _ => match st with
  | .inl y :: .inr (.inl x) :: t => X (i + 1) ls (.inr (.inl (f x y)) :: t) w
  | _ => False
def pm_lcmp : pm_Op := fun i ls st w X _ _ => match st with
  | .inr (.inl y) :: .inr (.inl x) :: t => X (i + 1) ls (.inl (lg_cmp x y) :: t) w
  | _ => False
def pm_i2l : pm_Op := fun i ls st w X _ _ => match st with
  | .inl x :: t => X (i + 1) ls (.inr (.inl x.toInt64) :: t) w
  | _ => False
def pm_l2i : pm_Op := fun i ls st w X _ _ => match st with
  | .inr (.inl x) :: t => X (i + 1) ls (.inl x.toInt32 :: t) w
  | _ => False
def pm_c1 (v : pm_V) : Bool := !(pm_isl (some v))
def pm_dup : pm_Op := fun i ls st w X _ _ => match st with
  | v :: t => cond (pm_c1 v) (X (i + 1) ls (v :: v :: t) w) False
  | _ => False
def pm_dup2 : pm_Op := fun i ls st w X _ _ => match st with
  | v :: u :: t => cond (pm_c1 v && pm_c1 u) (X (i + 1) ls (v :: u :: v :: u :: t) w) False
  | _ => False
def pm_pop : pm_Op := fun i ls st w X _ _ => match st with
  | v :: t => cond (pm_c1 v) (X (i + 1) ls t w) False
  | _ => False
def pm_goto (g : Nat) : pm_Op := fun _ ls st w X _ _ => X g ls st w
def pm_ifeq (g : Nat) : pm_Op := fun i ls st w X _ _ => match st with
  | .inl x :: t => if x = 0 then X g ls t w else X (i + 1) ls t w
  | _ => False
def pm_ifne (g : Nat) : pm_Op := fun i ls st w X _ _ => match st with
  | .inl x :: t => if x = 0 then X (i + 1) ls t w else X g ls t w
  | _ => False
def pm_iflt (g : Nat) : pm_Op := fun i ls st w X _ _ => match st with
  | .inl x :: t => if x < 0 then X g ls t w else X (i + 1) ls t w
  | _ => False
def pm_ifge (g : Nat) : pm_Op := fun i ls st w X _ _ => match st with
  | .inl x :: t => if 0 ≤ x then X g ls t w else X (i + 1) ls t w
  | _ => False
def pm_ifgt (g : Nat) : pm_Op := fun i ls st w X _ _ => match st with
  | .inl x :: t => if 0 < x then X g ls t w else X (i + 1) ls t w
  | _ => False
def pm_ifle (g : Nat) : pm_Op := fun i ls st w X _ _ => match st with
  | .inl x :: t => if x ≤ 0 then X g ls t w else X (i + 1) ls t w
  | _ => False
def pm_cmpeq (g : Nat) : pm_Op := fun i ls st w X _ _ => match st with
  | .inl y :: .inl x :: t => if x = y then X g ls t w else X (i + 1) ls t w
  | _ => False
def pm_cmpne (g : Nat) : pm_Op := fun i ls st w X _ _ => match st with
  | .inl y :: .inl x :: t => if x = y then X (i + 1) ls t w else X g ls t w
  | _ => False
def pm_cmplt (g : Nat) : pm_Op := fun i ls st w X _ _ => match st with
  | .inl y :: .inl x :: t => if x < y then X g ls t w else X (i + 1) ls t w
  | _ => False
def pm_cmpge (g : Nat) : pm_Op := fun i ls st w X _ _ => match st with
  | .inl y :: .inl x :: t => if y ≤ x then X g ls t w else X (i + 1) ls t w
  | _ => False
def pm_cmpgt (g : Nat) : pm_Op := fun i ls st w X _ _ => match st with
  | .inl y :: .inl x :: t => if y < x then X g ls t w else X (i + 1) ls t w
  | _ => False
def pm_cmple (g : Nat) : pm_Op := fun i ls st w X _ _ => match st with
  | .inl y :: .inl x :: t => if x ≤ y then X g ls t w else X (i + 1) ls t w
  | _ => False
/-- a switch: by its numbers, one behind the other -/
def pm_sw (x : Int32) (Y : Nat → Prop) (d : Nat) : List (Int32 × Nat) → Prop
  | [] => Y d
  | (c, g) :: r => if x = c then Y g else pm_sw x Y d r
def pm_tsw (d : Nat) (cs : List (Int32 × Nat)) : pm_Op := fun _ ls st w X _ _ => match st with
  | .inl x :: t => pm_sw x (fun g => X g ls t w) d cs
  | _ => False
def pm_getf (ci f : Nat) : pm_Op := fun i ls st w X _ _ => match st with
  | .inr (.inr (k, j)) :: t => cond (Nat.beq (pm_kc k) (ci + 1)) (X (i + 1) ls (pm_fv w k j f :: t) w) False
  | _ => False
def pm_putf (ci f : Nat) : pm_Op := fun i ls st w X _ _ => match st with
  | .inl x :: .inr (.inr (k, j)) :: t => cond (Nat.beq (pm_kc k) (ci + 1) && Nat.beq (pm_ft k f) 0) (X (i + 1) ls t (pm_setI w k j f x)) False
  | _ => False
def pm_putj (ci f : Nat) : pm_Op := fun i ls st w X _ _ => match st with
  | .inr (.inl x) :: .inr (.inr (k, _)) :: t => cond (Nat.beq (pm_kc k) (ci + 1) && Nat.beq (pm_ft k f) 1) (X (i + 1) ls t (pm_setJ w k x)) False
  | _ => False
def pm_gets (k : Nat) : pm_Op := fun i ls st w X _ _ => X (i + 1) ls (.inr (.inr (k, 0)) :: st) w
def pm_iald : pm_Op := fun i ls st w X _ _ => match st with
  | .inl x :: .inr (.inr (k, j)) :: t => cond (Nat.beq (pm_at k) 1) (vp_in x (pm_al k) ∧ X (i + 1) ls (.inl (pm_rd w k j x.toNatClampNeg) :: t) w) False
  | _ => False
def pm_iast : pm_Op := fun i ls st w X _ _ => match st with
  | .inl v :: .inl x :: .inr (.inr (k, j)) :: t => cond (Nat.beq (pm_at k) 1 && Nat.blt k 36) (vp_in x (pm_al k) ∧ X (i + 1) ls t (pm_setI w k j x.toNatClampNeg v)) False
  | _ => False
def pm_zald : pm_Op := fun i ls st w X _ _ => match st with
  | .inl x :: .inr (.inr (k, j)) :: t => cond (Nat.beq (pm_at k) 2) (vp_in x (pm_al k) ∧ X (i + 1) ls (.inl (w.1 k j x.toNatClampNeg) :: t) w) False
  | _ => False
def pm_zast : pm_Op := fun i ls st w X _ _ => match st with
  | .inl v :: .inl x :: .inr (.inr (k, j)) :: t => cond (Nat.beq (pm_at k) 2) (vp_in x (pm_al k) ∧ X (i + 1) ls t (pm_setI w k j x.toNatClampNeg (vp_nar .boolean v))) False
  | _ => False
def pm_aald : pm_Op := fun i ls st w X _ _ => match st with
  | .inl x :: .inr (.inr (k, _)) :: t => cond (Nat.beq (pm_at k) 3) (vp_in x (pm_al k) ∧ X (i + 1) ls (.inr (.inr (7, pm_ri w k x.toNatClampNeg)) :: t) w) False
  | _ => False
def pm_aast : pm_Op := fun i ls st w X _ _ => match st with
  | .inr (.inr (q, n)) :: .inl x :: .inr (.inr (k, _)) :: t => cond (Nat.beq k 10 && Nat.beq q 7) (vp_in x 14 ∧ X (i + 1) ls t (pm_setB w x.toNatClampNeg n)) False
  | _ => False
/-- the law's script: its length, its ints -/
def pm_slen (L : Nat) : pm_Op := fun i ls st w X _ _ => match st with
  | .inr (.inr (k, _)) :: t => cond (Nat.beq k 39) (X (i + 1) ls (.inl (Int32.ofNat L) :: t) w) False
  | _ => False
def pm_sald (L : Nat) (xs : Nat → Int32) : pm_Op := fun i ls st w X _ _ => match st with
  | .inl x :: .inr (.inr (k, _)) :: t => cond (Nat.beq k 39) (vp_in x L ∧ X (i + 1) ls (.inl (xs x.toNatClampNeg) :: t) w) False
  | _ => False
def pm_popn : Nat → List pm_V → List pm_V → Option (List pm_V × List pm_V)
  | 0, st, a => some (a, st)
  | _ + 1, [], _ => none
  | n + 1, v :: st, a => pm_popn n st (v :: a)
def pm_cat1 (v : pm_V) : Nat := cond (pm_isl (some v)) 2 1
def pm_cat : List pm_V → Nat
  | [] => 0
  | v :: t => pm_cat1 v + pm_cat t
def pm_rets : Option pm_V → List pm_V → List pm_V
  | none, t => t
  | some v, t => v :: t
/-- a static call of method y with n arguments -/
def pm_callS (y n : Nat) : pm_Op := fun i ls st w X _ K => match pm_popn n st [] with
  | some (as, t) => cond (Nat.ble (pm_cat t) 8) (∃ r w1, K y as w r w1 ∧ X (i + 1) ls (pm_rets r t) w1) False
  | none => False
def pm_hd (ci : Nat) : List pm_V → Bool
  | .inr (.inr (k, _)) :: _ => Nat.beq (pm_kc k) (ci + 1)
  | _ => false
/-- a call of an object's method, its class' number being ci; n counts the object, too -/
def pm_callV (ci y n : Nat) : pm_Op := fun i ls st w X _ K => match pm_popn n st [] with
  | some (as, t) => cond (pm_hd ci as && Nat.ble (pm_cat t) 8) (∃ r w1, K y as w r w1 ∧ X (i + 1) ls (pm_rets r t) w1) False
  | none => False
def pm_iret : pm_Op := fun _ _ st w _ Q _ => match st with
  | [.inl x] => Q (some (.inl x)) w
  | _ => False
def pm_zret : pm_Op := fun _ _ st w _ Q _ => match st with
  | [.inl x] => narrow .boolean (.int x) = .int x ∧ Q (some (.inl x)) w
  | _ => False
def pm_lret : pm_Op := fun _ _ st w _ Q _ => match st with
  | [.inr (.inl x)] => Q (some (.inr (.inl x))) w
  | _ => False
def pm_aret : pm_Op := fun _ _ st w _ Q _ => match st with
  | [.inr (.inr x)] => Q (some (.inr (.inr x))) w
  | _ => False
def pm_vret : pm_Op := fun _ _ st w _ Q _ => match st with
  | [] => Q none w
  | _ => False
def pm_bad : pm_Op := fun _ _ _ _ _ _ _ => False
/-- n steps from here, then F -/
def pm_Gn (K : pm_C) (c : List pm_Op) (Q : pm_Q) (F : pm_K) : Nat → pm_K
  | 0 => F
  | n + 1 => fun i ls st w => pm_nth pm_bad c i i ls st w (pm_Gn K c Q F n) Q K
/-- the same locals, of some of them nothing known -/
def pm_le : pm_L → pm_L → Prop
  | [], [] => True
  | a :: t, b :: u => (a = none ∨ a = b) ∧ pm_le t u
  | _, _ => False
/-- the method ends from here as Q says: in all that is closed under steps and under knowing more of the locals -/
def pm_Gx (K : pm_C) (c : List pm_Op) (i : Nat) (ls : pm_L) (st : List pm_V) (w : pm_W) (Q : pm_Q) : Prop := ∀ F : pm_K, (∀ n i ls st w, pm_Gn K c Q F n i ls st w → F i ls st w) → (∀ i ls ls2 st w, pm_le ls ls2 → F i ls st w → F i ls2 st w) → F i ls st w
/-- the locals at a method's start -/
def pm_ents : List pm_V → pm_L
  | [] => []
  | .inr (.inl x) :: t => some (.inr (.inl x)) :: none :: pm_ents t
  | v :: t => some v :: pm_ents t
def pm_pad : Nat → pm_L → pm_L
  | 0, l => l
  | n + 1, [] => none :: pm_pad n []
  | n + 1, a :: t => a :: pm_pad n t
def pm_ent (nL : Nat) (as : List pm_V) : pm_L := pm_pad nL (pm_ents as)
-- steps
theorem pm_go {K : pm_C} {c : List pm_Op} {i i2 : Nat} {ls ls2 : pm_L} {st st2 : List pm_V} {w w2 : pm_W} {Q : pm_Q} (k : Nat) (h : ∀ F : pm_K, F i2 ls2 st2 w2 → pm_Gn K c Q F k i ls st w) (g : pm_Gx K c i2 ls2 st2 w2 Q) : pm_Gx K c i ls st w Q := fun F hF hM => hF k i ls st w (h F (g F hF hM))
theorem pm_if {K : pm_C} {c : List pm_Op} {i i2 i3 : Nat} {ls ls2 : pm_L} {st st2 : List pm_V} {w w2 : pm_W} {Q : pm_Q} {P : Prop} [Decidable P] (k : Nat) (h : ∀ F : pm_K, (if P then F i2 ls2 st2 w2 else F i3 ls2 st2 w2) → pm_Gn K c Q F k i ls st w) (ht : P → pm_Gx K c i2 ls2 st2 w2 Q) (hf : ¬ P → pm_Gx K c i3 ls2 st2 w2 Q) : pm_Gx K c i ls st w Q := fun F hF hM => hF k i ls st w (h F (by
  by_cases p : P
  · rw [if_pos p]; exact ht p F hF hM
  · rw [if_neg p]; exact hf p F hF hM))
theorem pm_ca {K : pm_C} {c : List pm_Op} {i i2 : Nat} {ls ls2 : pm_L} {st t : List pm_V} {w w2 w1 : pm_W} {Q : pm_Q} {y : Nat} {as : List pm_V} {r : Option pm_V} (k : Nat) (hK : K y as w2 r w1) (h : ∀ F : pm_K, (∃ r1 w3, K y as w2 r1 w3 ∧ F i2 ls2 (pm_rets r1 t) w3) → pm_Gn K c Q F k i ls st w) (g : pm_Gx K c i2 ls2 (pm_rets r t) w1 Q) : pm_Gx K c i ls st w Q := fun F hF hM => hF k i ls st w (h F ⟨r, w1, hK, g F hF hM⟩)
theorem pm_re {K : pm_C} {c : List pm_Op} {i : Nat} {ls : pm_L} {st : List pm_V} {w w2 : pm_W} {Q : pm_Q} {r : Option pm_V} (k : Nat) (h : ∀ F : pm_K, Q r w2 → pm_Gn K c Q F k i ls st w) (q : Q r w2) : pm_Gx K c i ls st w Q := fun F hF _ => hF k i ls st w (h F q)
theorem pm_wk {K : pm_C} {c : List pm_Op} {i : Nat} {ls ls2 : pm_L} {st : List pm_V} {w : pm_W} {Q : pm_Q} (h : pm_le ls ls2) (g : pm_Gx K c i ls st w Q) : pm_Gx K c i ls2 st w Q := fun F hF hM => hM i ls ls2 st w h (g F hF hM)
end
section
/-! ===== the methods, the words on nest mates ===== -/
abbrev pm_I : Type := MethodName × (ByteArray × (Nat × Option FieldType))
def pm_mt : List pm_I := [
  (yX0_remember, cX0_remember, 2, none),
  (yX0_takeBack, cX0_takeBack, 2, none),
  (yX0_forgetFirst, cX0_forgetFirst, 3, none),
  (yX1_shareOf, cX1_shareOf, 8, (some .int)),
  (yX1_ordersWith, cX1_ordersWith, 4, (some .int)),
  (yX1_mostOf, cX1_mostOf, 3, (some .int)),
  (yX1_chanceOfLength, cX1_chanceOfLength, 7, (some .int)),
  (yX1_lengthBy, cX1_lengthBy, 5, (some .int)),
  (yX1_weightOf, cX1_weightOf, 5, (some .int)),
  (yX1_leastTerms, cX1_leastTerms, 4, (some .int)),
  (yX1_greatestDivisor, cX1_greatestDivisor, 4, (some .int)),
  (yX2_append, cX2_append, 3, (some .boolean)),
  (yX2_findLaws, cX2_findLaws, 3, none),
  (yX2_takeLaw, cX2_takeLaw, 3, none),
  (yX2_figuresOfLaw, cX2_figuresOfLaw, 4, (some .int)),
  (yX2_holds, cX2_holds, 6, (some .boolean)),
  (yX3_trialFrom, cX3_trialFrom, 2, (some (.object "LeafTable$Seats"))),
  (yX3_planPasses, cX3_planPasses, 4, none),
  (yX3_tryPasses, cX3_tryPasses, 7, none),
  (yX3_takePasses, cX3_takePasses, 3, none),
  (yX3_fewestSayings, cX3_fewestSayings, 5, (some .int)),
  (yX3_trySayings, cX3_trySayings, 9, (some .int)),
  (yX3_isReached, cX3_isReached, 3, (some .boolean)),
  (yX3_firstWrong, cX3_firstWrong, 6, (some .int)),
  (yX3_happens, cX3_happens, 3, (some .boolean)),
  (yX3_lengthByTurns, cX3_lengthByTurns, 3, (some .int)),
  (yX3_tryTurn, cX3_tryTurn, 9, (some .int)),
  (yX4_become, cX4_become, 3, none),
  (yX4_readFrom, cX4_readFrom, 4, none),
  (yX5_readFrom, cX5_readFrom, 3, none),
  (yX5_knows, cX5_knows, 2, (some .boolean)),
  (yX5_everybody, cX5_everybody, 1, (some .int)),
  (yX5_canSpeak, cX5_canSpeak, 5, (some .boolean)),
  (yX5_speak, cX5_speak, 6, none),
  (yX5_speakIfCan, cX5_speakIfCan, 3, (some .boolean)),
  (yX5_hand, cX5_hand, 4, none),
  (yX5_refill, cX5_refill, 2, none),
  (yX5_hearers, cX5_hearers, 7, (some .int)),
  (yX5_doAllHear, cX5_doAllHear, 2, (some .boolean)),
  (yX5_turnOfEars, cX5_turnOfEars, 5, (some .int)),
  (yX5_farthest, cX5_farthest, 5, (some .int)),
  (yX5_nextFrom, cX5_nextFrom, 6, (some .int)),
  (yX5_isTaken, cX5_isTaken, 4, (some .boolean)),
  (yX5_growthOf, cX5_growthOf, 3, (some .int)),
  (yX6_append, cX6_append, 2, (some .boolean)),
  (yX6_firstFault, cX6_firstFault, 2, (some .int)),
  (yX6_guestsTold, cX6_guestsTold, 1, (some .int)),
  (yX6_lengthTold, cX6_lengthTold, 1, (some .int)),
  (yX6_leafTold, cX6_leafTold, 3, (some .int)),
  (yX6_partTold, cX6_partTold, 3, (some .int)),
  (yX6_figureTold, cX6_figureTold, 3, (some .int)),
  (yX6_isLetter, cX6_isLetter, 3, (some .boolean)),
  (yX6_fitsHead, cX6_fitsHead, 3, (some .boolean)),
  (yX6_fitsGuest, cX6_fitsGuest, 4, (some .boolean)),
  (yX6_isAnyFree, cX6_isAnyFree, 4, (some .boolean)),
  (yX6_isFree, cX6_isFree, 4, (some .boolean)),
  (yX7_write, cX7_write, 2, (some .int)),
  (yX7_wipe, cX7_wipe, 2, (some .int)),
  (yX7_fault, cX7_fault, 1, (some .int)),
  (yX7_lay, cX7_lay, 2, (some .int)),
  (yX7_guest, cX7_guest, 3, (some .int)),
  (yX7_say, cX7_say, 2, (some .int)),
  (yX7_pass, cX7_pass, 2, (some .int)),
  (yX7_fetch, cX7_fetch, 2, (some .int)),
  (yX7_undo, cX7_undo, 1, (some .int)),
  (yX7_passes, cX7_passes, 2, (some .int)),
  (yX7_longBy, cX7_longBy, 3, (some .int)),
  (yX7_together, cX7_together, 2, (some .int)),
  (yX7_judge, cX7_judge, 3, (some .int)),
  (yX7_share, cX7_share, 3, (some .int)),
  (yX7_comes, cX7_comes, 3, (some .int)),
  (yX7_spoken, cX7_spoken, 3, (some .int)),
  (yX7_dine, cX7_dine, 3, (some .int)),
  (yX7_clear, cX7_clear, 2, (some .int)),
  (yX7_laws, cX7_laws, 2, (some .int)),
  (yX7_hosts, cX7_hosts, 4, (some .int)),
  (yX7_come, cX7_come, 4, (some .int)),
  (yX7_seed, cX7_seed, 5, (some .long)),
  (yX7_dinner, cX7_dinner, 4, (some .int)),
  (yX7_keep, cX7_keep, 2, (some .int)),
  (yX7_again, cX7_again, 2, (some .int)),
  (yX7_count, cX7_count, 2, (some .int)),
  (yX7_told, cX7_told, 2, (some .int)),
  (yX7_figuresOf, cX7_figuresOf, 2, (some .int)),
  (yX7_isRow, cX7_isRow, 2, (some .boolean)),
  (yX7_figureAt, cX7_figureAt, 4, (some .int)),
  (yX7_isWord, cX7_isWord, 3, (some .boolean)),
  (yX7_turned, cX7_turned, 5, (some .int)),
  (yX8_in, cX8_in, 6, (some .boolean)),
  (yX8_has, cX8_has, 2, (some .boolean)),
  (yX8_ones, cX8_ones, 3, (some .int)),
  (yX8_write, cX8_write, 2, (some .int)),
  (yX8_wipe, cX8_wipe, 2, (some .int)),
  (yX8_figure, cX8_figure, 4, (some .int)),
  (yX8_isFree, cX8_isFree, 4, (some .boolean)),
  (yX8_isFreeIn, cX8_isFreeIn, 4, (some .boolean)),
  (yX8_leafFigure, cX8_leafFigure, 4, (some .int)),
  (yX8_readText, cX8_readText, 2, (some .int)),
  (yX8_readGuest, cX8_readGuest, 6, none),
  (yX8_fault, cX8_fault, 1, (some .int)),
  (yX8_lay, cX8_lay, 2, (some .int)),
  (yX8_isGuest, cX8_isGuest, 2, (some .boolean)),
  (yX8_nextOf, cX8_nextOf, 7, (some .int)),
  (yX8_hears, cX8_hears, 5, (some .int)),
  (yX8_guest, cX8_guest, 3, (some .int)),
  (yX8_isTaken, cX8_isTaken, 5, (some .boolean)),
  (yX8_growth, cX8_growth, 2, (some .int)),
  (yX8_canSay, cX8_canSay, 4, (some .boolean)),
  (yX8_sayOn, cX8_sayOn, 7, none),
  (yX8_passOn, cX8_passOn, 6, none),
  (yX8_fetchOn, cX8_fetchOn, 2, none),
  (yX8_keepAct, cX8_keepAct, 2, none),
  (yX8_say, cX8_say, 2, (some .int)),
  (yX8_pass, cX8_pass, 2, (some .int)),
  (yX8_fetch, cX8_fetch, 2, (some .int)),
  (yX8_undo, cX8_undo, 2, (some .int)),
  (yX8_layTrial, cX8_layTrial, 2, none),
  (yX8_power, cX8_power, 4, (some .int)),
  (yX8_figureOf, cX8_figureOf, 3, (some .int)),
  (yX8_told, cX8_told, 4, (some .int)),
  (yX8_mostBy, cX8_mostBy, 10, (some .int)),
  (yX8_passes, cX8_passes, 3, (some .int)),
  (yX8_sayRow, cX8_sayRow, 6, (some .boolean)),
  (yX8_fewest, cX8_fewest, 6, (some .int)),
  (yX8_longBy, cX8_longBy, 3, (some .int)),
  (yX8_together, cX8_together, 2, (some .int)),
  (yX8_farthest, cX8_farthest, 4, (some .int)),
  (yX8_tryThing, cX8_tryThing, 4, (some .boolean)),
  (yX8_judge, cX8_judge, 4, (some .int)),
  (yX8_factorial, cX8_factorial, 3, (some .int)),
  (yX8_common, cX8_common, 5, (some .int)),
  (yX8_share, cX8_share, 6, (some .int)),
  (yX8_isWord, cX8_isWord, 4, (some .boolean)),
  (yX8_ears, cX8_ears, 3, (some .int)),
  (yX8_turned, cX8_turned, 5, (some .int)),
  (yX8_comes, cX8_comes, 3, (some .int)),
  (yX8_spoken, cX8_spoken, 3, (some .int)),
  (yX8_dine, cX8_dine, 3, (some .int)),
  (yX8_clear, cX8_clear, 2, (some .int)),
  (yX8_changeOf, cX8_changeOf, 2, (some .int)),
  (yX8_isLaw, cX8_isLaw, 6, (some .boolean)),
  (yX8_laws, cX8_laws, 7, (some .int)),
  (yX8_lengthBy, cX8_lengthBy, 5, (some .int)),
  (yX8_choice, cX8_choice, 7, (some .int)),
  (yX8_hosts, cX8_hosts, 7, (some .int)),
  (yX8_come, cX8_come, 9, (some .int)),
  (yX8_seed, cX8_seed, 5, (some .long)),
  (yX8_dinner, cX8_dinner, 4, (some .int)),
  (yX8_keep, cX8_keep, 3, (some .int)),
  (yX8_again, cX8_again, 3, (some .int)),
  (yX8_count, cX8_count, 2, (some .int)),
  (yJ6_bitCount_0f7a4, cJ6_bitCount_0f7a4, 1, (some .int)),
  (yJ9_floorMod_7cf53, cJ9_floorMod_7cf53, 3, (some .int)),
  (yJ9_abs_0f7a4, cJ9_abs_0f7a4, 1, (some .int)),
  (yJ9_max_7cf53, cJ9_max_7cf53, 2, (some .int)),
  (yJ9_min_7cf53, cJ9_min_7cf53, 2, (some .int))]
def pm_m (y : Nat) : pm_I := pm_nth (yX5_knows, cX5_knows, 2, some .boolean) pm_mt y
def pm_nF : List (String × (Nat × (String × (String × (String × String))))) := [
  ("LeafTable", 74, "LeafTable$Text", "size", "I", "LeafTable"),
  ("LeafTable", 100, "LeafTable$Table", "kinds", "[I", "LeafTable"),
  ("LeafTable", 103, "LeafTable$Table", "wants", "[I", "LeafTable"),
  ("LeafTable", 106, "LeafTable$Table", "ears", "[I", "LeafTable"),
  ("LeafTable$Chances", 42, "LeafTable$Table", "number", "I", "LeafTable"),
  ("LeafTable$Seats", 34, "LeafTable$Table", "number", "I", "LeafTable"),
  ("LeafTable$Plans", 54, "LeafTable$Table", "number", "I", "LeafTable"),
  ("LeafTable", 92, "LeafTable$Table", "number", "I", "LeafTable"),
  ("LeafTable$Seats", 43, "LeafTable$Table", "warm", "I", "LeafTable"),
  ("LeafTable", 240, "LeafTable$Table", "warm", "I", "LeafTable"),
  ("LeafTable", 234, "LeafTable$Table", "reach", "I", "LeafTable"),
  ("LeafTable$Table", 57, "LeafTable$Seats", "leaves", "[I", "LeafTable"),
  ("LeafTable", 96, "LeafTable$Seats", "leaves", "[I", "LeafTable"),
  ("LeafTable$Table", 52, "LeafTable$Seats", "length", "I", "LeafTable"),
  ("LeafTable$Chances", 82, "LeafTable$Seats", "length", "I", "LeafTable"),
  ("LeafTable", 128, "LeafTable$Seats", "length", "I", "LeafTable"),
  ("LeafTable$Plans", 78, "LeafTable$Seats", "length", "I", "LeafTable"),
  ("LeafTable$Table", 64, "LeafTable$Seats", "soup", "I", "LeafTable"),
  ("LeafTable", 237, "LeafTable$Seats", "soup", "I", "LeafTable"),
  ("LeafTable$Table", 74, "LeafTable$Seats", "warmth", "I", "LeafTable"),
  ("LeafTable", 134, "LeafTable$Seats", "warmth", "I", "LeafTable"),
  ("LeafTable$Plans", 88, "LeafTable$Seats", "warmth", "I", "LeafTable"),
  ("LeafTable$Plans", 30, "LeafTable$Seats", "served", "I", "LeafTable"),
  ("LeafTable", 109, "LeafTable$Seats", "served", "I", "LeafTable"),
  ("LeafTable$Table", 85, "LeafTable$Seats", "served", "I", "LeafTable"),
  ("LeafTable", 89, "LeafTable$Acts", "number", "I", "LeafTable"),
  ("LeafTable", 191, "LeafTable$Dinners", "number", "I", "LeafTable"),
  ("LeafTable", 195, "LeafTable$Dinners", "lawsFound", "I", "LeafTable"),
  ("LeafTable", 198, "LeafTable$Dinners", "firstLaw", "I", "LeafTable"),
  ("LeafTable", 201, "LeafTable$Dinners", "sameKinds", "I", "LeafTable"),
  ("LeafTable$Chances", 62, "LeafTable$Plans", "mostServed", "I", "LeafTable"),
  ("LeafTable", 153, "LeafTable$Plans", "mostServed", "I", "LeafTable"),
  ("LeafTable", 150, "LeafTable$Plans", "firstPasses", "I", "LeafTable"),
  ("LeafTable", 207, "LeafTable$Plans", "opening", "I", "LeafTable"),
  ("LeafTable$Table", 99, "LeafTable", "GROWTH", "[I", "LeafTable"),
  ("LeafTable$Chances", 38, "LeafTable", "FACTORIALS", "[I", "LeafTable"),
  ("LeafTable$Dinners", 47, "LeafTable", "TENS", "[I", "LeafTable"),
  ("LeafTable$Chances", 71, "LeafTable", "TENS", "[I", "LeafTable")]
def pm_nM : List (String × (Nat × (MethodName × String))) := [
  ("LeafTable", 9, (⟨"LeafTable$Text", "<init>", "()V"⟩ : MethodName), "LeafTable"),
  ("LeafTable", 18, (⟨"LeafTable$Table", "<init>", "()V"⟩ : MethodName), "LeafTable"),
  ("LeafTable", 25, (⟨"LeafTable$Seats", "<init>", "()V"⟩ : MethodName), "LeafTable"),
  ("LeafTable$Acts", 17, (⟨"LeafTable$Seats", "<init>", "()V"⟩ : MethodName), "LeafTable"),
  ("LeafTable", 47, (⟨"LeafTable$Dinners", "<init>", "()V"⟩ : MethodName), "LeafTable"),
  ("LeafTable$Plans", 21, (⟨"LeafTable$Seats", "<init>", "()V"⟩ : MethodName), "LeafTable"),
  ("LeafTable$Plans", 81, (⟨"LeafTable", "figureAt", "(III)I"⟩ : MethodName), "LeafTable"),
  ("LeafTable$Dinners", 43, (⟨"LeafTable", "figureAt", "(III)I"⟩ : MethodName), "LeafTable")]
set_option maxRecDepth 20000 in
theorem pm_cw0 : Cond.code (pm_m 0).1 (pm_m 0).2.1 (pm_m 0).2.2.1 (pm_m 0).2.2.2 ∈ wAll := wIn 385 rfl rfl
set_option maxRecDepth 20000 in
theorem pm_cw1 : Cond.code (pm_m 1).1 (pm_m 1).2.1 (pm_m 1).2.2.1 (pm_m 1).2.2.2 ∈ wAll := wIn 427 rfl rfl
set_option maxRecDepth 20000 in
theorem pm_cw2 : Cond.code (pm_m 2).1 (pm_m 2).2.1 (pm_m 2).2.2.1 (pm_m 2).2.2.2 ∈ wAll := wIn 389 rfl rfl
set_option maxRecDepth 20000 in
theorem pm_cw3 : Cond.code (pm_m 3).1 (pm_m 3).2.1 (pm_m 3).2.2.1 (pm_m 3).2.2.2 ∈ wAll := wIn 528 rfl rfl
set_option maxRecDepth 20000 in
theorem pm_cw4 : Cond.code (pm_m 4).1 (pm_m 4).2.1 (pm_m 4).2.2.1 (pm_m 4).2.2.2 ∈ wAll := wIn 539 rfl rfl
set_option maxRecDepth 20000 in
theorem pm_cw5 : Cond.code (pm_m 5).1 (pm_m 5).2.1 (pm_m 5).2.2.1 (pm_m 5).2.2.2 ∈ wAll := wIn 533 rfl rfl
set_option maxRecDepth 20000 in
theorem pm_cw6 : Cond.code (pm_m 6).1 (pm_m 6).2.1 (pm_m 6).2.2.1 (pm_m 6).2.2.2 ∈ wAll := wIn 623 rfl rfl
set_option maxRecDepth 20000 in
theorem pm_cw7 : Cond.code (pm_m 7).1 (pm_m 7).2.1 (pm_m 7).2.2.1 (pm_m 7).2.2.2 ∈ wAll := wIn 627 rfl rfl
set_option maxRecDepth 20000 in
theorem pm_cw8 : Cond.code (pm_m 8).1 (pm_m 8).2.1 (pm_m 8).2.2.1 (pm_m 8).2.2.2 ∈ wAll := wIn 633 rfl rfl
set_option maxRecDepth 20000 in
theorem pm_cw9 : Cond.code (pm_m 9).1 (pm_m 9).2.1 (pm_m 9).2.2.1 (pm_m 9).2.2.2 ∈ wAll := wIn 545 rfl rfl
set_option maxRecDepth 20000 in
theorem pm_cw10 : Cond.code (pm_m 10).1 (pm_m 10).2.1 (pm_m 10).2.2.1 (pm_m 10).2.2.2 ∈ wAll := wIn 549 rfl rfl
set_option maxRecDepth 20000 in
theorem pm_cw11 : Cond.code (pm_m 11).1 (pm_m 11).2.1 (pm_m 11).2.2.1 (pm_m 11).2.2.2 ∈ wAll := wIn 579 rfl rfl
set_option maxRecDepth 20000 in
theorem pm_cw12 : Cond.code (pm_m 12).1 (pm_m 12).2.1 (pm_m 12).2.2.1 (pm_m 12).2.2.2 ∈ wAll := wIn 591 rfl rfl
set_option maxRecDepth 20000 in
theorem pm_cw13 : Cond.code (pm_m 13).1 (pm_m 13).2.1 (pm_m 13).2.2.1 (pm_m 13).2.2.2 ∈ wAll := wIn 604 rfl rfl
set_option maxRecDepth 20000 in
theorem pm_cw14 : Cond.code (pm_m 14).1 (pm_m 14).2.1 (pm_m 14).2.2.1 (pm_m 14).2.2.2 ∈ wAll := wIn 594 rfl rfl
set_option maxRecDepth 20000 in
theorem pm_cw15 : Cond.code (pm_m 15).1 (pm_m 15).2.1 (pm_m 15).2.2.1 (pm_m 15).2.2.2 ∈ wAll := wIn 599 rfl rfl
set_option maxRecDepth 20000 in
theorem pm_cw16 : Cond.code (pm_m 16).1 (pm_m 16).2.1 (pm_m 16).2.2.1 (pm_m 16).2.2.2 ∈ wAll := wIn 443 rfl rfl
set_option maxRecDepth 20000 in
theorem pm_cw17 : Cond.code (pm_m 17).1 (pm_m 17).2.1 (pm_m 17).2.2.1 (pm_m 17).2.2.2 ∈ wAll := wIn 439 rfl rfl
set_option maxRecDepth 20000 in
theorem pm_cw18 : Cond.code (pm_m 18).1 (pm_m 18).2.1 (pm_m 18).2.2.1 (pm_m 18).2.2.2 ∈ wAll := wIn 447 rfl rfl
set_option maxRecDepth 20000 in
theorem pm_cw19 : Cond.code (pm_m 19).1 (pm_m 19).2.1 (pm_m 19).2.2.1 (pm_m 19).2.2.2 ∈ wAll := wIn 457 rfl rfl
set_option maxRecDepth 20000 in
theorem pm_cw20 : Cond.code (pm_m 20).1 (pm_m 20).2.1 (pm_m 20).2.2.1 (pm_m 20).2.2.2 ∈ wAll := wIn 466 rfl rfl
set_option maxRecDepth 20000 in
theorem pm_cw21 : Cond.code (pm_m 21).1 (pm_m 21).2.1 (pm_m 21).2.2.1 (pm_m 21).2.2.2 ∈ wAll := wIn 469 rfl rfl
set_option maxRecDepth 20000 in
theorem pm_cw22 : Cond.code (pm_m 22).1 (pm_m 22).2.1 (pm_m 22).2.2.1 (pm_m 22).2.2.2 ∈ wAll := wIn 473 rfl rfl
set_option maxRecDepth 20000 in
theorem pm_cw23 : Cond.code (pm_m 23).1 (pm_m 23).2.1 (pm_m 23).2.2.1 (pm_m 23).2.2.2 ∈ wAll := wIn 508 rfl rfl
set_option maxRecDepth 20000 in
theorem pm_cw24 : Cond.code (pm_m 24).1 (pm_m 24).2.1 (pm_m 24).2.2.1 (pm_m 24).2.2.2 ∈ wAll := wIn 515 rfl rfl
set_option maxRecDepth 20000 in
theorem pm_cw25 : Cond.code (pm_m 25).1 (pm_m 25).2.1 (pm_m 25).2.2.1 (pm_m 25).2.2.2 ∈ wAll := wIn 612 rfl rfl
set_option maxRecDepth 20000 in
theorem pm_cw26 : Cond.code (pm_m 26).1 (pm_m 26).2.1 (pm_m 26).2.2.1 (pm_m 26).2.2.2 ∈ wAll := wIn 615 rfl rfl
set_option maxRecDepth 20000 in
theorem pm_cw27 : Cond.code (pm_m 27).1 (pm_m 27).2.1 (pm_m 27).2.2.1 (pm_m 27).2.2.2 ∈ wAll := wIn 393 rfl rfl
set_option maxRecDepth 20000 in
theorem pm_cw28 : Cond.code (pm_m 28).1 (pm_m 28).2.1 (pm_m 28).2.2.1 (pm_m 28).2.2.2 ∈ wAll := wIn 344 rfl rfl
set_option maxRecDepth 20000 in
theorem pm_cw29 : Cond.code (pm_m 29).1 (pm_m 29).2.1 (pm_m 29).2.2.1 (pm_m 29).2.2.2 ∈ wAll := wIn 328 rfl rfl
set_option maxRecDepth 20000 in
theorem pm_cw30 : Cond.code (pm_m 30).1 (pm_m 30).2.1 (pm_m 30).2.2.1 (pm_m 30).2.2.2 ∈ wAll := wIn 354 rfl rfl
set_option maxRecDepth 20000 in
theorem pm_cw31 : Cond.code (pm_m 31).1 (pm_m 31).2.1 (pm_m 31).2.2.1 (pm_m 31).2.2.2 ∈ wAll := wIn 435 rfl rfl
set_option maxRecDepth 20000 in
theorem pm_cw32 : Cond.code (pm_m 32).1 (pm_m 32).2.1 (pm_m 32).2.2.1 (pm_m 32).2.2.2 ∈ wAll := wIn 370 rfl rfl
set_option maxRecDepth 20000 in
theorem pm_cw33 : Cond.code (pm_m 33).1 (pm_m 33).2.1 (pm_m 33).2.2.1 (pm_m 33).2.2.2 ∈ wAll := wIn 397 rfl rfl
set_option maxRecDepth 20000 in
theorem pm_cw34 : Cond.code (pm_m 34).1 (pm_m 34).2.1 (pm_m 34).2.2.1 (pm_m 34).2.2.2 ∈ wAll := wIn 483 rfl rfl
set_option maxRecDepth 20000 in
theorem pm_cw35 : Cond.code (pm_m 35).1 (pm_m 35).2.1 (pm_m 35).2.2.1 (pm_m 35).2.2.2 ∈ wAll := wIn 405 rfl rfl
set_option maxRecDepth 20000 in
theorem pm_cw36 : Cond.code (pm_m 36).1 (pm_m 36).2.1 (pm_m 36).2.2.1 (pm_m 36).2.2.2 ∈ wAll := wIn 419 rfl rfl
set_option maxRecDepth 20000 in
theorem pm_cw37 : Cond.code (pm_m 37).1 (pm_m 37).2.1 (pm_m 37).2.2.1 (pm_m 37).2.2.2 ∈ wAll := wIn 358 rfl rfl
set_option maxRecDepth 20000 in
theorem pm_cw38 : Cond.code (pm_m 38).1 (pm_m 38).2.1 (pm_m 38).2.2.1 (pm_m 38).2.2.2 ∈ wAll := wIn 477 rfl rfl
set_option maxRecDepth 20000 in
theorem pm_cw39 : Cond.code (pm_m 39).1 (pm_m 39).2.1 (pm_m 39).2.2.1 (pm_m 39).2.2.2 ∈ wAll := wIn 561 rfl rfl
set_option maxRecDepth 20000 in
theorem pm_cw40 : Cond.code (pm_m 40).1 (pm_m 40).2.1 (pm_m 40).2.2.1 (pm_m 40).2.2.2 ∈ wAll := wIn 519 rfl rfl
set_option maxRecDepth 20000 in
theorem pm_cw41 : Cond.code (pm_m 41).1 (pm_m 41).2.1 (pm_m 41).2.2.1 (pm_m 41).2.2.2 ∈ wAll := wIn 362 rfl rfl
set_option maxRecDepth 20000 in
theorem pm_cw42 : Cond.code (pm_m 42).1 (pm_m 42).2.1 (pm_m 42).2.2.1 (pm_m 42).2.2.2 ∈ wAll := wIn 381 rfl rfl
set_option maxRecDepth 20000 in
theorem pm_cw43 : Cond.code (pm_m 43).1 (pm_m 43).2.1 (pm_m 43).2.2.1 (pm_m 43).2.2.2 ∈ wAll := wIn 375 rfl rfl
set_option maxRecDepth 20000 in
theorem pm_cw44 : Cond.code (pm_m 44).1 (pm_m 44).2.1 (pm_m 44).2.2.1 (pm_m 44).2.2.2 ∈ wAll := wIn 276 rfl rfl
set_option maxRecDepth 20000 in
theorem pm_cw45 : Cond.code (pm_m 45).1 (pm_m 45).2.1 (pm_m 45).2.2.1 (pm_m 45).2.2.2 ∈ wAll := wIn 288 rfl rfl
set_option maxRecDepth 20000 in
theorem pm_cw46 : Cond.code (pm_m 46).1 (pm_m 46).2.1 (pm_m 46).2.2.1 (pm_m 46).2.2.2 ∈ wAll := wIn 333 rfl rfl
set_option maxRecDepth 20000 in
theorem pm_cw47 : Cond.code (pm_m 47).1 (pm_m 47).2.1 (pm_m 47).2.2.1 (pm_m 47).2.2.2 ∈ wAll := wIn 304 rfl rfl
set_option maxRecDepth 20000 in
theorem pm_cw48 : Cond.code (pm_m 48).1 (pm_m 48).2.1 (pm_m 48).2.2.1 (pm_m 48).2.2.2 ∈ wAll := wIn 320 rfl rfl
set_option maxRecDepth 20000 in
theorem pm_cw49 : Cond.code (pm_m 49).1 (pm_m 49).2.1 (pm_m 49).2.2.1 (pm_m 49).2.2.2 ∈ wAll := wIn 340 rfl rfl
set_option maxRecDepth 20000 in
theorem pm_cw50 : Cond.code (pm_m 50).1 (pm_m 50).2.1 (pm_m 50).2.2.1 (pm_m 50).2.2.2 ∈ wAll := wIn 296 rfl rfl
set_option maxRecDepth 20000 in
theorem pm_cw51 : Cond.code (pm_m 51).1 (pm_m 51).2.1 (pm_m 51).2.2.1 (pm_m 51).2.2.2 ∈ wAll := wIn 300 rfl rfl
set_option maxRecDepth 20000 in
theorem pm_cw52 : Cond.code (pm_m 52).1 (pm_m 52).2.1 (pm_m 52).2.2.1 (pm_m 52).2.2.2 ∈ wAll := wIn 292 rfl rfl
set_option maxRecDepth 20000 in
theorem pm_cw53 : Cond.code (pm_m 53).1 (pm_m 53).2.1 (pm_m 53).2.2.1 (pm_m 53).2.2.2 ∈ wAll := wIn 308 rfl rfl
set_option maxRecDepth 20000 in
theorem pm_cw54 : Cond.code (pm_m 54).1 (pm_m 54).2.1 (pm_m 54).2.2.1 (pm_m 54).2.2.2 ∈ wAll := wIn 312 rfl rfl
set_option maxRecDepth 20000 in
theorem pm_cw55 : Cond.code (pm_m 55).1 (pm_m 55).2.1 (pm_m 55).2.2.1 (pm_m 55).2.2.2 ∈ wAll := wIn 316 rfl rfl
set_option maxRecDepth 20000 in
theorem pm_cw56 : Cond.code (pm_m 56).1 (pm_m 56).2.1 (pm_m 56).2.2.1 (pm_m 56).2.2.2 ∈ wAll := wIn 272 rfl rfl
set_option maxRecDepth 20000 in
theorem pm_cw57 : Cond.code (pm_m 57).1 (pm_m 57).2.1 (pm_m 57).2.2.1 (pm_m 57).2.2.2 ∈ wAll := wIn 280 rfl rfl
set_option maxRecDepth 20000 in
theorem pm_cw58 : Cond.code (pm_m 58).1 (pm_m 58).2.1 (pm_m 58).2.2.1 (pm_m 58).2.2.2 ∈ wAll := wIn 284 rfl rfl
set_option maxRecDepth 20000 in
theorem pm_cw59 : Cond.code (pm_m 59).1 (pm_m 59).2.1 (pm_m 59).2.2.1 (pm_m 59).2.2.2 ∈ wAll := wIn 324 rfl rfl
set_option maxRecDepth 20000 in
theorem pm_cw60 : Cond.code (pm_m 60).1 (pm_m 60).2.1 (pm_m 60).2.2.1 (pm_m 60).2.2.2 ∈ wAll := wIn 350 rfl rfl
set_option maxRecDepth 20000 in
theorem pm_cw61 : Cond.code (pm_m 61).1 (pm_m 61).2.1 (pm_m 61).2.2.1 (pm_m 61).2.2.2 ∈ wAll := wIn 366 rfl rfl
set_option maxRecDepth 20000 in
theorem pm_cw62 : Cond.code (pm_m 62).1 (pm_m 62).2.1 (pm_m 62).2.2.1 (pm_m 62).2.2.2 ∈ wAll := wIn 401 rfl rfl
set_option maxRecDepth 20000 in
theorem pm_cw63 : Cond.code (pm_m 63).1 (pm_m 63).2.1 (pm_m 63).2.2.1 (pm_m 63).2.2.2 ∈ wAll := wIn 415 rfl rfl
set_option maxRecDepth 20000 in
theorem pm_cw64 : Cond.code (pm_m 64).1 (pm_m 64).2.1 (pm_m 64).2.2.1 (pm_m 64).2.2.2 ∈ wAll := wIn 423 rfl rfl
set_option maxRecDepth 20000 in
theorem pm_cw65 : Cond.code (pm_m 65).1 (pm_m 65).2.1 (pm_m 65).2.2.1 (pm_m 65).2.2.2 ∈ wAll := wIn 431 rfl rfl
set_option maxRecDepth 20000 in
theorem pm_cw66 : Cond.code (pm_m 66).1 (pm_m 66).2.1 (pm_m 66).2.2.1 (pm_m 66).2.2.2 ∈ wAll := wIn 462 rfl rfl
set_option maxRecDepth 20000 in
theorem pm_cw67 : Cond.code (pm_m 67).1 (pm_m 67).2.1 (pm_m 67).2.2.1 (pm_m 67).2.2.2 ∈ wAll := wIn 497 rfl rfl
set_option maxRecDepth 20000 in
theorem pm_cw68 : Cond.code (pm_m 68).1 (pm_m 68).2.1 (pm_m 68).2.2.1 (pm_m 68).2.2.2 ∈ wAll := wIn 501 rfl rfl
set_option maxRecDepth 20000 in
theorem pm_cw69 : Cond.code (pm_m 69).1 (pm_m 69).2.1 (pm_m 69).2.2.1 (pm_m 69).2.2.2 ∈ wAll := wIn 524 rfl rfl
set_option maxRecDepth 20000 in
theorem pm_cw70 : Cond.code (pm_m 70).1 (pm_m 70).2.1 (pm_m 70).2.2.1 (pm_m 70).2.2.2 ∈ wAll := wIn 553 rfl rfl
set_option maxRecDepth 20000 in
theorem pm_cw71 : Cond.code (pm_m 71).1 (pm_m 71).2.1 (pm_m 71).2.2.1 (pm_m 71).2.2.2 ∈ wAll := wIn 571 rfl rfl
set_option maxRecDepth 20000 in
theorem pm_cw72 : Cond.code (pm_m 72).1 (pm_m 72).2.1 (pm_m 72).2.2.1 (pm_m 72).2.2.2 ∈ wAll := wIn 575 rfl rfl
set_option maxRecDepth 20000 in
theorem pm_cw73 : Cond.code (pm_m 73).1 (pm_m 73).2.1 (pm_m 73).2.2.1 (pm_m 73).2.2.2 ∈ wAll := wIn 583 rfl rfl
set_option maxRecDepth 20000 in
theorem pm_cw74 : Cond.code (pm_m 74).1 (pm_m 74).2.1 (pm_m 74).2.2.1 (pm_m 74).2.2.2 ∈ wAll := wIn 587 rfl rfl
set_option maxRecDepth 20000 in
theorem pm_cw75 : Cond.code (pm_m 75).1 (pm_m 75).2.1 (pm_m 75).2.2.1 (pm_m 75).2.2.2 ∈ wAll := wIn 608 rfl rfl
set_option maxRecDepth 20000 in
theorem pm_cw76 : Cond.code (pm_m 76).1 (pm_m 76).2.1 (pm_m 76).2.2.1 (pm_m 76).2.2.2 ∈ wAll := wIn 619 rfl rfl
set_option maxRecDepth 20000 in
theorem pm_cw77 : Cond.code (pm_m 77).1 (pm_m 77).2.1 (pm_m 77).2.2.1 (pm_m 77).2.2.2 ∈ wAll := wIn 638 rfl rfl
set_option maxRecDepth 20000 in
theorem pm_cw78 : Cond.code (pm_m 78).1 (pm_m 78).2.1 (pm_m 78).2.2.1 (pm_m 78).2.2.2 ∈ wAll := wIn 642 rfl rfl
set_option maxRecDepth 20000 in
theorem pm_cw79 : Cond.code (pm_m 79).1 (pm_m 79).2.1 (pm_m 79).2.2.1 (pm_m 79).2.2.2 ∈ wAll := wIn 651 rfl rfl
set_option maxRecDepth 20000 in
theorem pm_cw80 : Cond.code (pm_m 80).1 (pm_m 80).2.1 (pm_m 80).2.2.1 (pm_m 80).2.2.2 ∈ wAll := wIn 656 rfl rfl
set_option maxRecDepth 20000 in
theorem pm_cw81 : Cond.code (pm_m 81).1 (pm_m 81).2.1 (pm_m 81).2.2.1 (pm_m 81).2.2.2 ∈ wAll := wIn 660 rfl rfl
set_option maxRecDepth 20000 in
theorem pm_cw82 : Cond.code (pm_m 82).1 (pm_m 82).2.1 (pm_m 82).2.2.1 (pm_m 82).2.2.2 ∈ wAll := wIn 488 rfl rfl
set_option maxRecDepth 20000 in
theorem pm_cw83 : Cond.code (pm_m 83).1 (pm_m 83).2.1 (pm_m 83).2.2.1 (pm_m 83).2.2.2 ∈ wAll := wIn 491 rfl rfl
set_option maxRecDepth 20000 in
theorem pm_cw84 : Cond.code (pm_m 84).1 (pm_m 84).2.1 (pm_m 84).2.2.1 (pm_m 84).2.2.2 ∈ wAll := wIn 504 rfl rfl
set_option maxRecDepth 20000 in
theorem pm_cw85 : Cond.code (pm_m 85).1 (pm_m 85).2.1 (pm_m 85).2.2.1 (pm_m 85).2.2.2 ∈ wAll := wIn 511 rfl rfl
set_option maxRecDepth 20000 in
theorem pm_cw86 : Cond.code (pm_m 86).1 (pm_m 86).2.1 (pm_m 86).2.2.1 (pm_m 86).2.2.2 ∈ wAll := wIn 556 rfl rfl
set_option maxRecDepth 20000 in
theorem pm_cw87 : Cond.code (pm_m 87).1 (pm_m 87).2.1 (pm_m 87).2.2.1 (pm_m 87).2.2.2 ∈ wAll := wIn 564 rfl rfl
set_option maxRecDepth 20000 in
theorem pm_cw88 : Cond.code (pm_m 88).1 (pm_m 88).2.1 (pm_m 88).2.2.1 (pm_m 88).2.2.2 ∈ wAll := wIn 768 rfl rfl
set_option maxRecDepth 20000 in
theorem pm_cw89 : Cond.code (pm_m 89).1 (pm_m 89).2.1 (pm_m 89).2.2.1 (pm_m 89).2.2.2 ∈ wAll := wIn 824 rfl rfl
set_option maxRecDepth 20000 in
theorem pm_cw90 : Cond.code (pm_m 90).1 (pm_m 90).2.1 (pm_m 90).2.2.1 (pm_m 90).2.2.2 ∈ wAll := wIn 879 rfl rfl
set_option maxRecDepth 20000 in
theorem pm_cw91 : Cond.code (pm_m 91).1 (pm_m 91).2.1 (pm_m 91).2.2.1 (pm_m 91).2.2.2 ∈ wAll := wIn 764 rfl rfl
set_option maxRecDepth 20000 in
theorem pm_cw92 : Cond.code (pm_m 92).1 (pm_m 92).2.1 (pm_m 92).2.2.1 (pm_m 92).2.2.2 ∈ wAll := wIn 772 rfl rfl
set_option maxRecDepth 20000 in
theorem pm_cw93 : Cond.code (pm_m 93).1 (pm_m 93).2.1 (pm_m 93).2.2.1 (pm_m 93).2.2.2 ∈ wAll := wIn 784 rfl rfl
set_option maxRecDepth 20000 in
theorem pm_cw94 : Cond.code (pm_m 94).1 (pm_m 94).2.1 (pm_m 94).2.2.1 (pm_m 94).2.2.2 ∈ wAll := wIn 801 rfl rfl
set_option maxRecDepth 20000 in
theorem pm_cw95 : Cond.code (pm_m 95).1 (pm_m 95).2.1 (pm_m 95).2.2.1 (pm_m 95).2.2.2 ∈ wAll := wIn 797 rfl rfl
set_option maxRecDepth 20000 in
theorem pm_cw96 : Cond.code (pm_m 96).1 (pm_m 96).2.1 (pm_m 96).2.2.1 (pm_m 96).2.2.2 ∈ wAll := wIn 792 rfl rfl
set_option maxRecDepth 20000 in
theorem pm_cw97 : Cond.code (pm_m 97).1 (pm_m 97).2.1 (pm_m 97).2.2.1 (pm_m 97).2.2.2 ∈ wAll := wIn 780 rfl rfl
set_option maxRecDepth 20000 in
theorem pm_cw98 : Cond.code (pm_m 98).1 (pm_m 98).2.1 (pm_m 98).2.2.1 (pm_m 98).2.2.2 ∈ wAll := wIn 788 rfl rfl
set_option maxRecDepth 20000 in
theorem pm_cw99 : Cond.code (pm_m 99).1 (pm_m 99).2.1 (pm_m 99).2.2.1 (pm_m 99).2.2.2 ∈ wAll := wIn 776 rfl rfl
set_option maxRecDepth 20000 in
theorem pm_cw100 : Cond.code (pm_m 100).1 (pm_m 100).2.1 (pm_m 100).2.2.1 (pm_m 100).2.2.2 ∈ wAll := wIn 805 rfl rfl
set_option maxRecDepth 20000 in
theorem pm_cw101 : Cond.code (pm_m 101).1 (pm_m 101).2.1 (pm_m 101).2.2.1 (pm_m 101).2.2.2 ∈ wAll := wIn 813 rfl rfl
set_option maxRecDepth 20000 in
theorem pm_cw102 : Cond.code (pm_m 102).1 (pm_m 102).2.1 (pm_m 102).2.2.1 (pm_m 102).2.2.2 ∈ wAll := wIn 821 rfl rfl
set_option maxRecDepth 20000 in
theorem pm_cw103 : Cond.code (pm_m 103).1 (pm_m 103).2.1 (pm_m 103).2.2.1 (pm_m 103).2.2.2 ∈ wAll := wIn 817 rfl rfl
set_option maxRecDepth 20000 in
theorem pm_cw104 : Cond.code (pm_m 104).1 (pm_m 104).2.1 (pm_m 104).2.2.1 (pm_m 104).2.2.2 ∈ wAll := wIn 809 rfl rfl
set_option maxRecDepth 20000 in
theorem pm_cw105 : Cond.code (pm_m 105).1 (pm_m 105).2.1 (pm_m 105).2.2.1 (pm_m 105).2.2.2 ∈ wAll := wIn 836 rfl rfl
set_option maxRecDepth 20000 in
theorem pm_cw106 : Cond.code (pm_m 106).1 (pm_m 106).2.1 (pm_m 106).2.2.1 (pm_m 106).2.2.2 ∈ wAll := wIn 840 rfl rfl
set_option maxRecDepth 20000 in
theorem pm_cw107 : Cond.code (pm_m 107).1 (pm_m 107).2.1 (pm_m 107).2.2.1 (pm_m 107).2.2.2 ∈ wAll := wIn 832 rfl rfl
set_option maxRecDepth 20000 in
theorem pm_cw108 : Cond.code (pm_m 108).1 (pm_m 108).2.1 (pm_m 108).2.2.1 (pm_m 108).2.2.2 ∈ wAll := wIn 848 rfl rfl
set_option maxRecDepth 20000 in
theorem pm_cw109 : Cond.code (pm_m 109).1 (pm_m 109).2.1 (pm_m 109).2.2.1 (pm_m 109).2.2.2 ∈ wAll := wIn 856 rfl rfl
set_option maxRecDepth 20000 in
theorem pm_cw110 : Cond.code (pm_m 110).1 (pm_m 110).2.1 (pm_m 110).2.2.1 (pm_m 110).2.2.2 ∈ wAll := wIn 864 rfl rfl
set_option maxRecDepth 20000 in
theorem pm_cw111 : Cond.code (pm_m 111).1 (pm_m 111).2.1 (pm_m 111).2.2.1 (pm_m 111).2.2.2 ∈ wAll := wIn 844 rfl rfl
set_option maxRecDepth 20000 in
theorem pm_cw112 : Cond.code (pm_m 112).1 (pm_m 112).2.1 (pm_m 112).2.2.1 (pm_m 112).2.2.2 ∈ wAll := wIn 828 rfl rfl
set_option maxRecDepth 20000 in
theorem pm_cw113 : Cond.code (pm_m 113).1 (pm_m 113).2.1 (pm_m 113).2.2.1 (pm_m 113).2.2.2 ∈ wAll := wIn 852 rfl rfl
set_option maxRecDepth 20000 in
theorem pm_cw114 : Cond.code (pm_m 114).1 (pm_m 114).2.1 (pm_m 114).2.2.1 (pm_m 114).2.2.2 ∈ wAll := wIn 860 rfl rfl
set_option maxRecDepth 20000 in
theorem pm_cw115 : Cond.code (pm_m 115).1 (pm_m 115).2.1 (pm_m 115).2.2.1 (pm_m 115).2.2.2 ∈ wAll := wIn 868 rfl rfl
set_option maxRecDepth 20000 in
theorem pm_cw116 : Cond.code (pm_m 116).1 (pm_m 116).2.1 (pm_m 116).2.2.1 (pm_m 116).2.2.2 ∈ wAll := wIn 886 rfl rfl
set_option maxRecDepth 20000 in
theorem pm_cw117 : Cond.code (pm_m 117).1 (pm_m 117).2.1 (pm_m 117).2.2.1 (pm_m 117).2.2.2 ∈ wAll := wIn 882 rfl rfl
set_option maxRecDepth 20000 in
theorem pm_cw118 : Cond.code (pm_m 118).1 (pm_m 118).2.1 (pm_m 118).2.2.1 (pm_m 118).2.2.2 ∈ wAll := wIn 889 rfl rfl
set_option maxRecDepth 20000 in
theorem pm_cw119 : Cond.code (pm_m 119).1 (pm_m 119).2.1 (pm_m 119).2.2.1 (pm_m 119).2.2.2 ∈ wAll := wIn 892 rfl rfl
set_option maxRecDepth 20000 in
theorem pm_cw120 : Cond.code (pm_m 120).1 (pm_m 120).2.1 (pm_m 120).2.2.1 (pm_m 120).2.2.2 ∈ wAll := wIn 876 rfl rfl
set_option maxRecDepth 20000 in
theorem pm_cw121 : Cond.code (pm_m 121).1 (pm_m 121).2.1 (pm_m 121).2.2.1 (pm_m 121).2.2.2 ∈ wAll := wIn 872 rfl rfl
set_option maxRecDepth 20000 in
theorem pm_cw122 : Cond.code (pm_m 122).1 (pm_m 122).2.1 (pm_m 122).2.2.1 (pm_m 122).2.2.2 ∈ wAll := wIn 905 rfl rfl
set_option maxRecDepth 20000 in
theorem pm_cw123 : Cond.code (pm_m 123).1 (pm_m 123).2.1 (pm_m 123).2.2.1 (pm_m 123).2.2.2 ∈ wAll := wIn 901 rfl rfl
set_option maxRecDepth 20000 in
theorem pm_cw124 : Cond.code (pm_m 124).1 (pm_m 124).2.1 (pm_m 124).2.2.1 (pm_m 124).2.2.2 ∈ wAll := wIn 896 rfl rfl
set_option maxRecDepth 20000 in
theorem pm_cw125 : Cond.code (pm_m 125).1 (pm_m 125).2.1 (pm_m 125).2.2.1 (pm_m 125).2.2.2 ∈ wAll := wIn 909 rfl rfl
set_option maxRecDepth 20000 in
theorem pm_cw126 : Cond.code (pm_m 126).1 (pm_m 126).2.1 (pm_m 126).2.2.1 (pm_m 126).2.2.2 ∈ wAll := wIn 922 rfl rfl
set_option maxRecDepth 20000 in
theorem pm_cw127 : Cond.code (pm_m 127).1 (pm_m 127).2.1 (pm_m 127).2.2.1 (pm_m 127).2.2.2 ∈ wAll := wIn 918 rfl rfl
set_option maxRecDepth 20000 in
theorem pm_cw128 : Cond.code (pm_m 128).1 (pm_m 128).2.1 (pm_m 128).2.2.1 (pm_m 128).2.2.2 ∈ wAll := wIn 913 rfl rfl
set_option maxRecDepth 20000 in
theorem pm_cw129 : Cond.code (pm_m 129).1 (pm_m 129).2.1 (pm_m 129).2.2.1 (pm_m 129).2.2.2 ∈ wAll := wIn 929 rfl rfl
set_option maxRecDepth 20000 in
theorem pm_cw130 : Cond.code (pm_m 130).1 (pm_m 130).2.1 (pm_m 130).2.2.1 (pm_m 130).2.2.2 ∈ wAll := wIn 932 rfl rfl
set_option maxRecDepth 20000 in
theorem pm_cw131 : Cond.code (pm_m 131).1 (pm_m 131).2.1 (pm_m 131).2.2.1 (pm_m 131).2.2.2 ∈ wAll := wIn 926 rfl rfl
set_option maxRecDepth 20000 in
theorem pm_cw132 : Cond.code (pm_m 132).1 (pm_m 132).2.1 (pm_m 132).2.2.1 (pm_m 132).2.2.2 ∈ wAll := wIn 939 rfl rfl
set_option maxRecDepth 20000 in
theorem pm_cw133 : Cond.code (pm_m 133).1 (pm_m 133).2.1 (pm_m 133).2.2.1 (pm_m 133).2.2.2 ∈ wAll := wIn 943 rfl rfl
set_option maxRecDepth 20000 in
theorem pm_cw134 : Cond.code (pm_m 134).1 (pm_m 134).2.1 (pm_m 134).2.2.1 (pm_m 134).2.2.2 ∈ wAll := wIn 946 rfl rfl
set_option maxRecDepth 20000 in
theorem pm_cw135 : Cond.code (pm_m 135).1 (pm_m 135).2.1 (pm_m 135).2.2.1 (pm_m 135).2.2.2 ∈ wAll := wIn 936 rfl rfl
set_option maxRecDepth 20000 in
theorem pm_cw136 : Cond.code (pm_m 136).1 (pm_m 136).2.1 (pm_m 136).2.2.1 (pm_m 136).2.2.2 ∈ wAll := wIn 950 rfl rfl
set_option maxRecDepth 20000 in
theorem pm_cw137 : Cond.code (pm_m 137).1 (pm_m 137).2.1 (pm_m 137).2.2.1 (pm_m 137).2.2.2 ∈ wAll := wIn 954 rfl rfl
set_option maxRecDepth 20000 in
theorem pm_cw138 : Cond.code (pm_m 138).1 (pm_m 138).2.1 (pm_m 138).2.2.1 (pm_m 138).2.2.2 ∈ wAll := wIn 961 rfl rfl
set_option maxRecDepth 20000 in
theorem pm_cw139 : Cond.code (pm_m 139).1 (pm_m 139).2.1 (pm_m 139).2.2.1 (pm_m 139).2.2.2 ∈ wAll := wIn 973 rfl rfl
set_option maxRecDepth 20000 in
theorem pm_cw140 : Cond.code (pm_m 140).1 (pm_m 140).2.1 (pm_m 140).2.2.1 (pm_m 140).2.2.2 ∈ wAll := wIn 970 rfl rfl
set_option maxRecDepth 20000 in
theorem pm_cw141 : Cond.code (pm_m 141).1 (pm_m 141).2.1 (pm_m 141).2.2.1 (pm_m 141).2.2.2 ∈ wAll := wIn 965 rfl rfl
set_option maxRecDepth 20000 in
theorem pm_cw142 : Cond.code (pm_m 142).1 (pm_m 142).2.1 (pm_m 142).2.2.1 (pm_m 142).2.2.2 ∈ wAll := wIn 982 rfl rfl
set_option maxRecDepth 20000 in
theorem pm_cw143 : Cond.code (pm_m 143).1 (pm_m 143).2.1 (pm_m 143).2.2.1 (pm_m 143).2.2.2 ∈ wAll := wIn 986 rfl rfl
set_option maxRecDepth 20000 in
theorem pm_cw144 : Cond.code (pm_m 144).1 (pm_m 144).2.1 (pm_m 144).2.2.1 (pm_m 144).2.2.2 ∈ wAll := wIn 977 rfl rfl
set_option maxRecDepth 20000 in
theorem pm_cw145 : Cond.code (pm_m 145).1 (pm_m 145).2.1 (pm_m 145).2.2.1 (pm_m 145).2.2.2 ∈ wAll := wIn 990 rfl rfl
set_option maxRecDepth 20000 in
theorem pm_cw146 : Cond.code (pm_m 146).1 (pm_m 146).2.1 (pm_m 146).2.2.1 (pm_m 146).2.2.2 ∈ wAll := wIn 995 rfl rfl
set_option maxRecDepth 20000 in
theorem pm_cw147 : Cond.code (pm_m 147).1 (pm_m 147).2.1 (pm_m 147).2.2.1 (pm_m 147).2.2.2 ∈ wAll := wIn 999 rfl rfl
set_option maxRecDepth 20000 in
theorem pm_cw148 : Cond.code (pm_m 148).1 (pm_m 148).2.1 (pm_m 148).2.2.1 (pm_m 148).2.2.2 ∈ wAll := wIn 1006 rfl rfl
set_option maxRecDepth 20000 in
theorem pm_cw149 : Cond.code (pm_m 149).1 (pm_m 149).2.1 (pm_m 149).2.2.1 (pm_m 149).2.2.2 ∈ wAll := wIn 1010 rfl rfl
set_option maxRecDepth 20000 in
theorem pm_cw150 : Cond.code (pm_m 150).1 (pm_m 150).2.1 (pm_m 150).2.2.1 (pm_m 150).2.2.2 ∈ wAll := wIn 1014 rfl rfl
set_option maxRecDepth 20000 in
theorem pm_cw151 : Cond.code (pm_m 151).1 (pm_m 151).2.1 (pm_m 151).2.2.1 (pm_m 151).2.2.2 ∈ wAll := wIn 450 rfl rfl
set_option maxRecDepth 20000 in
theorem pm_cw152 : Cond.code (pm_m 152).1 (pm_m 152).2.1 (pm_m 152).2.2.1 (pm_m 152).2.2.2 ∈ wAll := wIn 567 rfl rfl
set_option maxRecDepth 20000 in
theorem pm_cw153 : Cond.code (pm_m 153).1 (pm_m 153).2.1 (pm_m 153).2.2.1 (pm_m 153).2.2.2 ∈ wAll := wIn 408 rfl rfl
set_option maxRecDepth 20000 in
theorem pm_cw154 : Cond.code (pm_m 154).1 (pm_m 154).2.1 (pm_m 154).2.2.1 (pm_m 154).2.2.2 ∈ wAll := wIn 411 rfl rfl
set_option maxRecDepth 20000 in
theorem pm_cw155 : Cond.code (pm_m 155).1 (pm_m 155).2.1 (pm_m 155).2.2.1 (pm_m 155).2.2.2 ∈ wAll := wIn 336 rfl rfl
end
section
/-! ===== the pure world in the machine's heap ===== -/
def pm_tv (ad : Nat → Nat → Nat) : pm_V → Value
  | .inl x => .int x
  | .inr (.inl x) => .long x
  | .inr (.inr q) => .ref (ad q.1 q.2)
def pm_keys : List (Nat × Nat) := (List.range 36).flatMap (fun k => (List.range (pm_cnt k)).map (fun j => (k, j)))
def pm_fs (ad : Nat → Nat → Nat) (w : pm_W) (k j : Nat) : List Value := (List.range (pm_ftl k).length).map (fun f => pm_tv ad (pm_fv w k j f))
abbrev pm_Cs : Type := ClassId × (ClassId × ClassId)
def pm_cellt (ad : Nat → Nat → Nat) (cs : pm_Cs) (w : pm_W) (k j : Nat) : Nat → va_E
  | 0 => .inr (pm_kc k - 1, pm_fs ad w k j)
  | 1 => .inl (cs.1, pm_al k, .inl (fun n => w.1 k j n))
  | 2 => .inl (cs.2.1, pm_al k, .inl (fun n => w.1 k j n))
  | _ => .inl (cs.2.2, pm_al k, .inr (.inr (.inr (.inr (fun n => some (ad 7 (pm_ri w k n)))))))
def pm_cell (ad : Nat → Nat → Nat) (cs : pm_Cs) (w : pm_W) (k j : Nat) : va_E := pm_cellt ad cs w k j (pm_at k)
def pm_wl (ad : Nat → Nat → Nat) (cs : pm_Cs) (w : pm_W) : va_W := pm_keys.map (fun q => (ad q.1 q.2, pm_cell ad cs w q.1 q.2))
def pm_okv : pm_V → Prop
  | .inr (.inr q) => q.2 < pm_cnt q.1
  | _ => True
def pm_okS (st : List pm_V) : Prop := ∀ v ∈ st, pm_okv v
def pm_okL (ls : pm_L) : Prop := ∀ v, some v ∈ ls → pm_okv v
def pm_okR (r : Option pm_V) : Prop := ∀ v, r = some v → pm_okv v
def pm_wok (w : pm_W) : Prop := ∀ n, n < 14 → w.2.2 n < 23
theorem pm_key_iff (k j : Nat) : (k, j) ∈ pm_keys ↔ k < 36 ∧ j < pm_cnt k := by
  simp [pm_keys, List.mem_flatMap, List.mem_map, List.mem_range]
theorem pm_keys_nd : pm_keys.Nodup := by decide +kernel
theorem pm_inj_pos {a b : Nat} {q : Nat × Nat} (ha : pm_keys[a]? = some q) (hb : pm_keys[b]? = some q) : a = b := by
  obtain ⟨h1, e1⟩ := List.getElem?_eq_some_iff.mp ha
  exact (List.getElem?_inj h1 pm_keys_nd).mp (ha.trans hb.symm)
theorem pm_wl_at {ad : Nat → Nat → Nat} {cs : pm_Cs} {w : pm_W} {k j : Nat} (hk : k < 36) (hj : j < pm_cnt k) : ∃ q0 : Nat, pm_keys[q0]? = some (k, j) ∧ (pm_wl ad cs w)[q0]? = some (ad k j, pm_cell ad cs w k j) := by
  obtain ⟨q0, h⟩ := List.getElem?_of_mem ((pm_key_iff k j).mpr ⟨hk, hj⟩)
  exact ⟨q0, h, by simp [pm_wl, List.getElem?_map, h]⟩
/-- one cell changes -/
theorem pm_wl_set {ad : Nat → Nat → Nat} {cs : pm_Cs} {w w2 : pm_W} {k j q0 : Nat} (hq : pm_keys[q0]? = some (k, j)) (ho : ∀ a b, b < pm_cnt a → ¬ (a = k ∧ b = j) → pm_cell ad cs w2 a b = pm_cell ad cs w a b) : (pm_wl ad cs w).set q0 (ad k j, pm_cell ad cs w2 k j) = pm_wl ad cs w2 := by
  apply List.ext_getElem?
  intro n
  have hl : q0 < (pm_wl ad cs w).length := by
    have := (List.getElem?_eq_some_iff.mp hq).1
    simpa [pm_wl] using this
  by_cases hn : n = q0
  · subst hn
    rw [List.getElem?_set_self hl]
    simp [pm_wl, List.getElem?_map, hq]
  · rw [List.getElem?_set_ne (Ne.symm hn)]
    simp only [pm_wl, List.getElem?_map]
    cases hk : pm_keys[n]? with
    | none => rfl
    | some q =>
      obtain ⟨a, b⟩ := q
      have hne : ¬ (a = k ∧ b = j) := by
        rintro ⟨rfl, rfl⟩
        exact hn (pm_inj_pos hk hq)
      simp [ho a b ((pm_key_iff a b).mp (List.mem_of_getElem? hk)).2 hne]
def pm_GA (ad : Nat → Nat → Nat) (sz : Nat) : Prop := (∀ a ∈ pm_keys, ∀ b ∈ pm_keys, ad a.1 a.2 = ad b.1 b.2 → a = b) ∧ ∀ a ∈ pm_keys, sz ≤ ad a.1 a.2
def pm_A (sz : Nat) : Nat → Prop := fun q => sz ≤ q
theorem pm_wl_D {ad : Nat → Nat → Nat} {sz : Nat} {cs : pm_Cs} (G : pm_GA ad sz) (w : pm_W) : va_D (pm_A sz) (pm_wl ad cs w) := by
  have key : ∀ (n : Nat) (x : Nat × va_E), (pm_wl ad cs w)[n]? = some x → ∃ q, pm_keys[n]? = some q ∧ x.1 = ad q.1 q.2 := by
    intro n x h
    simp only [pm_wl, List.getElem?_map] at h
    cases hk : pm_keys[n]? with
    | none => rw [hk] at h; cases h
    | some q =>
      rw [hk] at h
      cases h
      exact ⟨q, rfl, rfl⟩
  refine ⟨fun a b x y hx hy hxy => ?_, fun n x hx => ?_⟩
  · obtain ⟨q1, h1, e1⟩ := key a x hx
    obtain ⟨q2, h2, e2⟩ := key b y hy
    have := G.1 q1 (List.mem_of_getElem? h1) q2 (List.mem_of_getElem? h2) (by rw [← e1, ← e2]; exact hxy)
    subst this
    exact pm_inj_pos h1 h2
  · obtain ⟨q1, h1, e1⟩ := key n x hx
    rw [e1]
    exact G.2 q1 (List.mem_of_getElem? h1)
-- what a change leaves as it was
theorem pm_fvt_I {w : pm_W} {k j f a b c t : Nat} {x : Int32} (h : ¬ (a = k ∧ b = j ∧ c = f)) : pm_fvt (pm_setI w k j f x) a b c t = pm_fvt w a b c t := by
  match t with
  | 0 => simp [pm_fvt, pm_setI, h]
  | 1 => rfl
  | t + 2 => rfl
theorem pm_cell_I {ad : Nat → Nat → Nat} {cs : pm_Cs} {w : pm_W} {k j f : Nat} {x : Int32} (a b : Nat) (h : ¬ (a = k ∧ b = j)) : pm_cell ad cs (pm_setI w k j f x) a b = pm_cell ad cs w a b := by
  have e1 : ∀ n, (pm_setI w k j f x).1 a b n = w.1 a b n := fun n => by
    simp only [pm_setI]
    rw [if_neg (fun z => h ⟨z.1, z.2.1⟩)]
  have e2 : pm_fs ad (pm_setI w k j f x) a b = pm_fs ad w a b := by
    unfold pm_fs
    apply List.map_congr_left
    intro c _
    show pm_tv ad (pm_fvt _ _ _ _ _) = pm_tv ad (pm_fvt _ _ _ _ _)
    rw [pm_fvt_I (fun z => h ⟨z.1, z.2.1⟩)]
  unfold pm_cell
  match pm_at a with
  | 0 => simp [pm_cellt, e2]
  | 1 => simp [pm_cellt, e1]
  | 2 => simp [pm_cellt, e1]
  | n + 3 => rfl
theorem pm_fvt_J {w : pm_W} {k a b c t : Nat} {x : Int64} (h : ¬ a = k) : pm_fvt (pm_setJ w k x) a b c t = pm_fvt w a b c t := by
  match t with
  | 0 => rfl
  | 1 => simp [pm_fvt, pm_setJ, h]
  | t + 2 => rfl
theorem pm_cell_J {ad : Nat → Nat → Nat} {cs : pm_Cs} {w : pm_W} {k : Nat} {x : Int64} (a b : Nat) (h : ¬ a = k) : pm_cell ad cs (pm_setJ w k x) a b = pm_cell ad cs w a b := by
  have e2 : pm_fs ad (pm_setJ w k x) a b = pm_fs ad w a b := by
    unfold pm_fs
    apply List.map_congr_left
    intro c _
    show pm_tv ad (pm_fvt _ _ _ _ _) = pm_tv ad (pm_fvt _ _ _ _ _)
    rw [pm_fvt_J h]
  unfold pm_cell
  match pm_at a with
  | 0 => simp [pm_cellt, e2]
  | 1 => rfl
  | 2 => rfl
  | n + 3 => rfl
theorem pm_cell_B {ad : Nat → Nat → Nat} {cs : pm_Cs} {w : pm_W} {n q : Nat} (a b : Nat) (h : ¬ a = 10) : pm_cell ad cs (pm_setB w n q) a b = pm_cell ad cs w a b := by
  have e2 : pm_fs ad (pm_setB w n q) a b = pm_fs ad w a b := by
    unfold pm_fs
    apply List.map_congr_left
    intro c _
    show pm_tv ad (pm_fvt _ _ _ _ _) = pm_tv ad (pm_fvt _ _ _ _ _)
    match pm_ft a c with
    | 0 => rfl
    | 1 => rfl
    | t + 2 => rfl
  have e3 : ∀ z, pm_ri (pm_setB w n q) a z = pm_ri w a z := fun z => by
    unfold pm_ri
    rw [show Nat.beq a 10 = false from Bool.eq_false_iff.mpr (fun y => h (Nat.eq_of_beq_eq_true y))]
    rfl
  unfold pm_cell
  match pm_at a with
  | 0 => simp [pm_cellt, e2]
  | 1 => rfl
  | 2 => rfl
  | n + 3 => simp [pm_cellt, e3]
-- locals
theorem pm_nth_set {α : Type} (d : α) (l : List α) (i : Nat) (a : α) (k : Nat) : pm_nth d (l.set i a) k = if k = i ∧ i < l.length then a else pm_nth d l k := by
  induction l generalizing i k with
  | nil => simp [pm_nth]
  | cons b t ih =>
    cases i with
    | zero =>
      cases k with
      | zero => simp [pm_nth]
      | succ k => simp [pm_nth]
    | succ i =>
      cases k with
      | zero => simp [pm_nth]
      | succ k =>
        simp only [List.set_cons_succ, pm_nth, ih, List.length_cons]
        by_cases h : k = i ∧ i < t.length
        · rw [if_pos h, if_pos ⟨by omega, by omega⟩]
        · rw [if_neg h, if_neg (fun z => h ⟨by omega, by omega⟩)]
theorem pm_nth_mem {l : pm_L} {k : Nat} {v : pm_V} (h : pm_nth none l k = some v) : some v ∈ l := by
  induction l generalizing k with
  | nil => cases h
  | cons a t ih =>
    cases k with
    | zero =>
      have h : a = some v := h
      rw [h]; exact List.mem_cons_self
    | succ k => exact List.mem_cons_of_mem _ (ih h)
theorem pm_nth_lt {l : pm_L} {k : Nat} {v : pm_V} (h : pm_nth none l k = some v) : k < l.length := by
  induction l generalizing k with
  | nil => cases h
  | cons a t ih =>
    cases k with
    | zero => simp
    | succ k => have := ih h; simp; omega
def pm_lv (ad : Nat → Nat → Nat) (ls : pm_L) : List (Nat × Value) := (List.range ls.length).filterMap (fun k => (pm_nth none ls k).map (fun v => (k, pm_tv ad v)))
theorem pm_lv_mem {ad : Nat → Nat → Nat} {ls : pm_L} {q : Nat × Value} : q ∈ pm_lv ad ls ↔ ∃ v, pm_nth none ls q.1 = some v ∧ q.2 = pm_tv ad v := by
  unfold pm_lv
  rw [List.mem_filterMap]
  constructor
  · rintro ⟨k, -, hk⟩
    cases h : pm_nth none ls k with
    | none => rw [h] at hk; cases hk
    | some v =>
      rw [h] at hk
      cases hk
      exact ⟨v, h, rfl⟩
  · rintro ⟨v, h1, h2⟩
    refine ⟨q.1, List.mem_range.mpr (pm_nth_lt h1), ?_⟩
    rw [h1, Option.map_some, ← h2]
theorem pm_lv_get {ad : Nat → Nat → Nat} {ls : pm_L} {lsM : Array Slot} {nL k : Nat} {v : pm_V} (h : lv_has lsM nL (pm_lv ad ls)) (hv : pm_nth none ls k = some v) : lsM[k]? = some (.val (pm_tv ad v)) := h.2.2 (k, pm_tv ad v) (pm_lv_mem.mpr ⟨v, hv, rfl⟩)
theorem pm_tv_cat (ad : Nat → Nat → Nat) (v : pm_V) : (pm_tv ad v).category = pm_cat1 v := by
  rcases v with x | x | x <;> rfl
theorem pm_isl_cat {ad : Nat → Nat → Nat} {v : pm_V} (h : pm_isl (some v) = false) : ¬ (pm_tv ad v).category = 2 := by
  rw [pm_tv_cat]
  unfold pm_cat1
  rw [h]
  decide
theorem pm_okst_spec {ls : pm_L} {k : Nat} (h : pm_okst ls k = true) : k < ls.length ∧ ∀ j, j + 1 = k → pm_isl (pm_nth none ls j) = false := by
  unfold pm_okst at h
  simp only [Bool.and_eq_true, Bool.or_eq_true, Nat.blt_eq, Bool.not_eq_true'] at h
  refine ⟨h.1, fun j hj => ?_⟩
  rcases h.2 with z | z
  · have := Nat.eq_of_beq_eq_true z; omega
  · rw [show j = k - 1 by omega]; exact z
theorem pm_lv_store {ad : Nat → Nat → Nat} {ls : pm_L} {lsM : Array Slot} {nL k : Nat} {v : pm_V} (hok : pm_okst ls k = true) (h : lv_has lsM nL ((k, pm_tv ad v) :: (pm_lv ad ls).filter (fun q => !(q.1 == k) && !(q.1 + 1 == k && q.2.category == 2)))) : lv_has lsM nL (pm_lv ad (ls.set k (some v))) := by
  obtain ⟨h0, h1⟩ := pm_okst_spec hok
  refine ⟨h.1, h.2.1, fun q hq => h.2.2 q ?_⟩
  obtain ⟨u, e1, e2⟩ := pm_lv_mem.mp hq
  rw [pm_nth_set] at e1
  by_cases hk : q.1 = k
  · rw [if_pos ⟨hk, h0⟩] at e1
    cases e1
    refine List.mem_cons.mpr (Or.inl ?_)
    rw [← e2, ← hk]
  · rw [if_neg (fun z => hk z.1)] at e1
    refine List.mem_cons_of_mem _ (List.mem_filter.mpr ⟨pm_lv_mem.mpr ⟨u, e1, e2⟩, ?_⟩)
    simp only [Bool.and_eq_true, Bool.not_eq_true', beq_eq_false_iff_ne, ne_eq, Bool.and_eq_false_iff]
    refine ⟨hk, ?_⟩
    by_cases z : q.1 + 1 = k
    · right
      rw [e2]
      have := h1 q.1 z
      rw [e1] at this
      exact pm_isl_cat this
    · left; exact z
theorem pm_lv_store2 {ad : Nat → Nat → Nat} {ls : pm_L} {lsM : Array Slot} {nL k : Nat} {v : pm_V} (hok : pm_okst ls k = true) (h : lv_has lsM nL ((k, pm_tv ad v) :: (pm_lv ad ls).filter (fun q => !(q.1 == k) && (!(q.1 == k + 1) && !(q.1 + 1 == k && q.2.category == 2))))) : lv_has lsM nL (pm_lv ad ((ls.set k (some v)).set (k + 1) none)) := by
  obtain ⟨h0, h1⟩ := pm_okst_spec hok
  refine ⟨h.1, h.2.1, fun q hq => h.2.2 q ?_⟩
  obtain ⟨u, e1, e2⟩ := pm_lv_mem.mp hq
  rw [pm_nth_set] at e1
  by_cases hz : q.1 = k + 1 ∧ k + 1 < (ls.set k (some v)).length
  · rw [if_pos hz] at e1; cases e1
  rw [if_neg hz, pm_nth_set] at e1
  by_cases hk : q.1 = k
  · rw [if_pos ⟨hk, h0⟩] at e1
    cases e1
    refine List.mem_cons.mpr (Or.inl ?_)
    rw [← e2, ← hk]
  · rw [if_neg (fun z => hk z.1)] at e1
    refine List.mem_cons_of_mem _ (List.mem_filter.mpr ⟨pm_lv_mem.mpr ⟨u, e1, e2⟩, ?_⟩)
    simp only [Bool.and_eq_true, Bool.not_eq_true', beq_eq_false_iff_ne, ne_eq, Bool.and_eq_false_iff]
    refine ⟨hk, ?_, ?_⟩
    · intro z
      refine hz ⟨z, ?_⟩
      have := pm_nth_lt e1
      rw [List.length_set]; omega
    by_cases z : q.1 + 1 = k
    · right
      rw [e2]
      have := h1 q.1 z
      rw [e1] at this
      exact pm_isl_cat this
    · left; exact z
theorem pm_okL_set {ls : pm_L} {k : Nat} {a : Option pm_V} (h : pm_okL ls) (ha : pm_okR a) : pm_okL (ls.set k a) := by
  intro v hv
  rcases List.mem_or_eq_of_mem_set hv with z | z
  · exact h v z
  · exact ha v z.symm
theorem pm_okR_i (x : Int32) : pm_okR (some (.inl x)) := fun v h => by cases h; trivial
theorem pm_okR_l (x : Int64) : pm_okR (some (.inr (.inl x))) := fun v h => by cases h; trivial
theorem pm_okR_n : pm_okR none := fun v h => by cases h
theorem pm_okS_c {v : pm_V} {t : List pm_V} (h : pm_okv v) (ht : pm_okS t) : pm_okS (v :: t) := fun u hu => by
  rcases List.mem_cons.mp hu with z | z
  · rw [z]; exact h
  · exact ht u z
theorem pm_okS_h {v : pm_V} {t : List pm_V} (h : pm_okS (v :: t)) : pm_okv v := h v List.mem_cons_self
theorem pm_okS_t {v : pm_V} {t : List pm_V} (h : pm_okS (v :: t)) : pm_okS t := fun u hu => h u (List.mem_cons_of_mem _ hu)
end
section
/-! ===== soundness, an instruction at a time ===== -/
def pm_sn (k : Nat) : String := pm_nth "" ["GROWTH", "TENS", "FACTORIALS"] (k - 36)
def pm_tys (cs : pm_Cs) : List (ClassId × FieldType) := [(cs.1, .int), (cs.2.1, .boolean), (cs.2.2, .object "LeafTable$Seats")]
/-- what a state's tables and statics are -/
def pm_E (D : va_G) (cs : pm_Cs) (ad : Nat → Nat → Nat) (sz : Nat) (U : State) : Prop :=
  sz ≤ U.heap.size ∧ va_K D vwCl (pm_tys cs) U ∧ (∀ q ∈ pm_nF, va_Nw (.fieldLinkNest q.1 q.2.1 q.2.2.1 q.2.2.2.1 q.2.2.2.2.1 q.2.2.2.2.2) U) ∧ (∀ q ∈ pm_nM, va_Nw (.methodLinkNest q.1 q.2.1 q.2.2.1 q.2.2.2) U) ∧
  ∀ k, 36 ≤ k → k < 39 → va_Z "LeafTable" (pm_sn k) "[I" (.ref (ad k 0)) (pm_A sz) U U.heap ∧ va_T .int (ad k 0) (pm_al k) (fun n => .int (pm_st k n)) (pm_A sz) U U.heap
/-- what holds of a method's frame -/
def pm_X (p : Program) (s : State) (m : MethodId) (args : Array Value) (c : Code) (D : va_G) (cs : pm_Cs) (ad : Nat → Nat → Nat) (sz : Nat) (own : String) (cc : ByteArray) (nL : Nat) : Prop :=
  p.tables.exec = Jvm.exec ∧ c.code = cc ∧ c.maxLocals = nL ∧ s.vm.findClass own = some m.cls ∧ (∀ w ∈ wAll, w.before args s = true) ∧ pm_E D cs ad sz s ∧ pm_GA ad sz
/-- the machine comes to its end from here -/
def pm_F (p : Program) (l : Launch) (e : Env) (R : Room) (s : State) (m : MethodId) (args : Array Value) (below : List Frame) (meth : Method) (c : Code) (cells slots : Nat) (Qm : State → Prop) (D : va_G) (cs : pm_Cs) (ad : Nat → Nat → Nat) (sz nL : Nat) (bp : List Nat) : pm_K := fun i ls st w =>
  pm_wok w → pm_okL ls → pm_okS st → ls.length = nL → ∀ (H : Heap) (locs : List Loc) (lsM : Array Slot), va_P D vwCl (pm_wl ad cs w) H → va_S (pm_A sz) s.heap H locs → lv_has lsM nL (pm_lv ad ls) →
    W p l e R s m args below meth c H locs cells slots Qm (F0 m (pm_nth 0 bp i) lsM (st.map (pm_tv ad)))
def pm_S (F : pm_K) (HQ : pm_Q → Prop) (HK : pm_C → Prop) (i : Nat) (op : pm_Op) : Prop := ∀ (ls : pm_L) (st : List pm_V) (w : pm_W) (X : pm_K) (Q : pm_Q) (K : pm_C), op i ls st w X Q K → (∀ i' ls' st' w', X i' ls' st' w' → F i' ls' st' w') → HQ Q → HK K → F i ls st w
section PMS
variable {p : Program} {l : Launch} {e : Env} {R : Room} {s : State} {m : MethodId} {args : Array Value} {below : List Frame} {meth : Method} {c : Code} {cells slots : Nat} {Qm : State → Prop} {D : va_G} {cs : pm_Cs} {ad : Nat → Nat → Nat} {sz nL : Nat} {own : String} {cc : ByteArray} {bp : List Nat} {HQ : pm_Q → Prop} {HK : pm_C → Prop}
set_option maxHeartbeats 1000000 in
theorem pm_s_iconst (C : pm_X p s m args c D cs ad sz own cc nL) {i : Nat} {n : Int} {v : Int32} (hd : decode cc (pm_nth 0 bp i) = .ok (.iconst n, 1)) (hv : Int32.ofInt n = v) (hn : pm_nth 0 bp (i + 1) = pm_nth 0 bp i + 1) : pm_S (pm_F p l e R s m args below meth c cells slots Qm D cs ad sz nL bp) HQ HK i (pm_push v) := by
  intro ls st w X Q K h hX hQ hK hw hoL hoS hl H locs lsM hP hS hlv
  obtain ⟨hx, hb, hml, hown, hts, hE, hG⟩ := C
  have g := hX _ _ _ _ h hw hoL (pm_okS_c trivial hoS) hl H locs lsM hP hS hlv
  rw [hn] at g
  exact lv_iconst hx hb hd hv g
set_option maxHeartbeats 1000000 in
theorem pm_s_bipush (C : pm_X p s m args c D cs ad sz own cc nL) {i : Nat} {n : Int} {v : Int32} (hd : decode cc (pm_nth 0 bp i) = .ok (.bipush n, 2)) (hv : (Int8.ofInt n).toInt32 = v) (hn : pm_nth 0 bp (i + 1) = pm_nth 0 bp i + 2) : pm_S (pm_F p l e R s m args below meth c cells slots Qm D cs ad sz nL bp) HQ HK i (pm_push v) := by
  intro ls st w X Q K h hX hQ hK hw hoL hoS hl H locs lsM hP hS hlv
  obtain ⟨hx, hb, hml, hown, hts, hE, hG⟩ := C
  have g := hX _ _ _ _ h hw hoL (pm_okS_c trivial hoS) hl H locs lsM hP hS hlv
  rw [hn] at g
  exact lv_bipush hx hb hd hv g
set_option maxHeartbeats 1000000 in
theorem pm_s_sipush (C : pm_X p s m args c D cs ad sz own cc nL) {i : Nat} {n : Int} {v : Int32} (hd : decode cc (pm_nth 0 bp i) = .ok (.sipush n, 3)) (hv : (Int16.ofInt n).toInt32 = v) (hn : pm_nth 0 bp (i + 1) = pm_nth 0 bp i + 3) : pm_S (pm_F p l e R s m args below meth c cells slots Qm D cs ad sz nL bp) HQ HK i (pm_push v) := by
  intro ls st w X Q K h hX hQ hK hw hoL hoS hl H locs lsM hP hS hlv
  obtain ⟨hx, hb, hml, hown, hts, hE, hG⟩ := C
  have g := hX _ _ _ _ h hw hoL (pm_okS_c trivial hoS) hl H locs lsM hP hS hlv
  rw [hn] at g
  exact lv_sipush hx hb hd hv g
set_option maxHeartbeats 1000000 in
theorem pm_s_ldcw (C : pm_X p s m args c D cs ad sz own cc nL) {i : Nat} {n : Nat} {v : Int32} (hd : decode cc (pm_nth 0 bp i) = .ok (.ldc_w n, 3)) (hv : Cond.constant own n v ∈ wAll) (hn : pm_nth 0 bp (i + 1) = pm_nth 0 bp i + 3) : pm_S (pm_F p l e R s m args below meth c cells slots Qm D cs ad sz nL bp) HQ HK i (pm_push v) := by
  intro ls st w X Q K h hX hQ hK hw hoL hoS hl H locs lsM hP hS hlv
  obtain ⟨hx, hb, hml, hown, hts, hE, hG⟩ := C
  have g := hX _ _ _ _ h hw hoL (pm_okS_c trivial hoS) hl H locs lsM hP hS hlv
  rw [hn] at g
  exact lv_ldcw hx hb hown (hts _ hv) hd g
set_option maxHeartbeats 1000000 in
theorem pm_s_lconst (C : pm_X p s m args c D cs ad sz own cc nL) {i : Nat} {n : Fin 2} {v : Int64} (hd : decode cc (pm_nth 0 bp i) = .ok (.lconst n, 1)) (hv : Int64.ofNat (n : Nat) = v) (hn : pm_nth 0 bp (i + 1) = pm_nth 0 bp i + 1) : pm_S (pm_F p l e R s m args below meth c cells slots Qm D cs ad sz nL bp) HQ HK i (pm_pushl v) := by
  intro ls st w X Q K h hX hQ hK hw hoL hoS hl H locs lsM hP hS hlv
  obtain ⟨hx, hb, hml, hown, hts, hE, hG⟩ := C
  have g := hX _ _ _ _ h hw hoL (pm_okS_c trivial hoS) hl H locs lsM hP hS hlv
  rw [hn] at g
  exact lv_lconst hx hb hd hv g
set_option maxHeartbeats 1000000 in
theorem pm_s_ldc2 (C : pm_X p s m args c D cs ad sz own cc nL) {i : Nat} {n : Nat} {v : Int64} (hd : decode cc (pm_nth 0 bp i) = .ok (.ldc2_w n, 3)) (hv : Cond.constantLong own n v ∈ wAll) (hn : pm_nth 0 bp (i + 1) = pm_nth 0 bp i + 3) : pm_S (pm_F p l e R s m args below meth c cells slots Qm D cs ad sz nL bp) HQ HK i (pm_pushl v) := by
  intro ls st w X Q K h hX hQ hK hw hoL hoS hl H locs lsM hP hS hlv
  obtain ⟨hx, hb, hml, hown, hts, hE, hG⟩ := C
  have g := hX _ _ _ _ h hw hoL (pm_okS_c trivial hoS) hl H locs lsM hP hS hlv
  rw [hn] at g
  exact lv_ldc2 hx hb hown (hts _ hv) hd g
set_option maxHeartbeats 1000000 in
theorem pm_s_iload_n (C : pm_X p s m args c D cs ad sz own cc nL) {i : Nat} {n : Fin 4} {k : Nat} (hd : decode cc (pm_nth 0 bp i) = .ok (.iload_n n, 1)) (hk : (n : Nat) = k) (hn : pm_nth 0 bp (i + 1) = pm_nth 0 bp i + 1) : pm_S (pm_F p l e R s m args below meth c cells slots Qm D cs ad sz nL bp) HQ HK i (pm_iload k) := by
  intro ls st w X Q K h hX hQ hK hw hoL hoS hl H locs lsM hP hS hlv
  obtain ⟨hx, hb, hml, hown, hts, hE, hG⟩ := C
  unfold pm_iload at h
  split at h
  · rename_i x z
    have g := hX _ _ _ _ h hw hoL (pm_okS_c trivial hoS) hl H locs lsM hP hS hlv
    rw [hn] at g
    exact lv_iload_n hx hb hd hk (pm_lv_get hlv z) g
  · exact h.elim
set_option maxHeartbeats 1000000 in
theorem pm_s_iload (C : pm_X p s m args c D cs ad sz own cc nL) {i : Nat} {k : Nat} (hd : decode cc (pm_nth 0 bp i) = .ok (.iload k, 2)) (hn : pm_nth 0 bp (i + 1) = pm_nth 0 bp i + 2) : pm_S (pm_F p l e R s m args below meth c cells slots Qm D cs ad sz nL bp) HQ HK i (pm_iload k) := by
  intro ls st w X Q K h hX hQ hK hw hoL hoS hl H locs lsM hP hS hlv
  obtain ⟨hx, hb, hml, hown, hts, hE, hG⟩ := C
  unfold pm_iload at h
  split at h
  · rename_i x z
    have g := hX _ _ _ _ h hw hoL (pm_okS_c trivial hoS) hl H locs lsM hP hS hlv
    rw [hn] at g
    exact lv_iload hx hb hd (pm_lv_get hlv z) g
  · exact h.elim
set_option maxHeartbeats 1000000 in
theorem pm_s_lload_n (C : pm_X p s m args c D cs ad sz own cc nL) {i : Nat} {n : Fin 4} {k : Nat} (hd : decode cc (pm_nth 0 bp i) = .ok (.lload_n n, 1)) (hk : (n : Nat) = k) (hn : pm_nth 0 bp (i + 1) = pm_nth 0 bp i + 1) : pm_S (pm_F p l e R s m args below meth c cells slots Qm D cs ad sz nL bp) HQ HK i (pm_lload k) := by
  intro ls st w X Q K h hX hQ hK hw hoL hoS hl H locs lsM hP hS hlv
  obtain ⟨hx, hb, hml, hown, hts, hE, hG⟩ := C
  unfold pm_lload at h
  split at h
  · rename_i x z
    have g := hX _ _ _ _ h hw hoL (pm_okS_c trivial hoS) hl H locs lsM hP hS hlv
    rw [hn] at g
    exact lv_lload_n hx hb hd hk (pm_lv_get hlv z) g
  · exact h.elim
set_option maxHeartbeats 1000000 in
theorem pm_s_lload (C : pm_X p s m args c D cs ad sz own cc nL) {i : Nat} {k : Nat} (hd : decode cc (pm_nth 0 bp i) = .ok (.lload k, 2)) (hn : pm_nth 0 bp (i + 1) = pm_nth 0 bp i + 2) : pm_S (pm_F p l e R s m args below meth c cells slots Qm D cs ad sz nL bp) HQ HK i (pm_lload k) := by
  intro ls st w X Q K h hX hQ hK hw hoL hoS hl H locs lsM hP hS hlv
  obtain ⟨hx, hb, hml, hown, hts, hE, hG⟩ := C
  unfold pm_lload at h
  split at h
  · rename_i x z
    have g := hX _ _ _ _ h hw hoL (pm_okS_c trivial hoS) hl H locs lsM hP hS hlv
    rw [hn] at g
    exact lv_lload hx hb hd (pm_lv_get hlv z) g
  · exact h.elim
set_option maxHeartbeats 1000000 in
theorem pm_s_aload_n (C : pm_X p s m args c D cs ad sz own cc nL) {i : Nat} {n : Fin 4} {k : Nat} (hd : decode cc (pm_nth 0 bp i) = .ok (.aload_n n, 1)) (hk : (n : Nat) = k) (hn : pm_nth 0 bp (i + 1) = pm_nth 0 bp i + 1) : pm_S (pm_F p l e R s m args below meth c cells slots Qm D cs ad sz nL bp) HQ HK i (pm_aload k) := by
  intro ls st w X Q K h hX hQ hK hw hoL hoS hl H locs lsM hP hS hlv
  obtain ⟨hx, hb, hml, hown, hts, hE, hG⟩ := C
  unfold pm_aload at h
  split at h
  · rename_i x z
    have g := hX _ _ _ _ h hw hoL (pm_okS_c (hoL _ (pm_nth_mem z)) hoS) hl H locs lsM hP hS hlv
    rw [hn] at g
    exact lv_aload_n hx hb hd hk (pm_lv_get hlv z) g
  · exact h.elim
set_option maxHeartbeats 1000000 in
theorem pm_s_aload (C : pm_X p s m args c D cs ad sz own cc nL) {i : Nat} {k : Nat} (hd : decode cc (pm_nth 0 bp i) = .ok (.aload k, 2)) (hn : pm_nth 0 bp (i + 1) = pm_nth 0 bp i + 2) : pm_S (pm_F p l e R s m args below meth c cells slots Qm D cs ad sz nL bp) HQ HK i (pm_aload k) := by
  intro ls st w X Q K h hX hQ hK hw hoL hoS hl H locs lsM hP hS hlv
  obtain ⟨hx, hb, hml, hown, hts, hE, hG⟩ := C
  unfold pm_aload at h
  split at h
  · rename_i x z
    have g := hX _ _ _ _ h hw hoL (pm_okS_c (hoL _ (pm_nth_mem z)) hoS) hl H locs lsM hP hS hlv
    rw [hn] at g
    exact lv_aload hx hb hd (pm_lv_get hlv z) g
  · exact h.elim
set_option maxHeartbeats 1000000 in
theorem pm_s_istore_n (C : pm_X p s m args c D cs ad sz own cc nL) {i : Nat} {n : Fin 4} {k : Nat} (hd : decode cc (pm_nth 0 bp i) = .ok (.istore_n n, 1)) (hk : (n : Nat) = k) (hn : pm_nth 0 bp (i + 1) = pm_nth 0 bp i + 1) : pm_S (pm_F p l e R s m args below meth c cells slots Qm D cs ad sz nL bp) HQ HK i (pm_istore k) := by
  intro ls st w X Q K h hX hQ hK hw hoL hoS hl H locs lsM hP hS hlv
  obtain ⟨hx, hb, hml, hown, hts, hE, hG⟩ := C
  unfold pm_istore at h
  split at h
  · rename_i x t
    cases hc : pm_okst ls k with
    | false => rw [hc] at h; exact h.elim
    | true =>
      rw [hc] at h
      refine lv_istore_n hx hb hd hk hlv (by have := (pm_okst_spec hc).1; omega) rfl (fun ls2 hl2 => ?_)
      have g := hX _ _ _ _ h hw (pm_okL_set hoL (pm_okR_i x)) (pm_okS_t hoS) (by rw [List.length_set]; exact hl) H locs ls2 hP hS (pm_lv_store hc hl2)
      rw [hn] at g
      exact g
  · exact h.elim
set_option maxHeartbeats 1000000 in
theorem pm_s_istore (C : pm_X p s m args c D cs ad sz own cc nL) {i : Nat} {k : Nat} (hd : decode cc (pm_nth 0 bp i) = .ok (.istore k, 2)) (hn : pm_nth 0 bp (i + 1) = pm_nth 0 bp i + 2) : pm_S (pm_F p l e R s m args below meth c cells slots Qm D cs ad sz nL bp) HQ HK i (pm_istore k) := by
  intro ls st w X Q K h hX hQ hK hw hoL hoS hl H locs lsM hP hS hlv
  obtain ⟨hx, hb, hml, hown, hts, hE, hG⟩ := C
  unfold pm_istore at h
  split at h
  · rename_i x t
    cases hc : pm_okst ls k with
    | false => rw [hc] at h; exact h.elim
    | true =>
      rw [hc] at h
      refine lv_istore hx hb hd hlv (by have := (pm_okst_spec hc).1; omega) rfl (fun ls2 hl2 => ?_)
      have g := hX _ _ _ _ h hw (pm_okL_set hoL (pm_okR_i x)) (pm_okS_t hoS) (by rw [List.length_set]; exact hl) H locs ls2 hP hS (pm_lv_store hc hl2)
      rw [hn] at g
      exact g
  · exact h.elim
set_option maxHeartbeats 1000000 in
theorem pm_s_astore_n (C : pm_X p s m args c D cs ad sz own cc nL) {i : Nat} {n : Fin 4} {k : Nat} (hd : decode cc (pm_nth 0 bp i) = .ok (.astore_n n, 1)) (hk : (n : Nat) = k) (hn : pm_nth 0 bp (i + 1) = pm_nth 0 bp i + 1) : pm_S (pm_F p l e R s m args below meth c cells slots Qm D cs ad sz nL bp) HQ HK i (pm_astore k) := by
  intro ls st w X Q K h hX hQ hK hw hoL hoS hl H locs lsM hP hS hlv
  obtain ⟨hx, hb, hml, hown, hts, hE, hG⟩ := C
  unfold pm_astore at h
  split at h
  · rename_i x t
    cases hc : pm_okst ls k with
    | false => rw [hc] at h; exact h.elim
    | true =>
      rw [hc] at h
      refine lv_astore_n hx hb hd hk hlv (by have := (pm_okst_spec hc).1; omega) rfl (fun ls2 hl2 => ?_)
      have g := hX _ _ _ _ h hw (pm_okL_set hoL (fun v hv => by cases hv; exact pm_okS_h hoS)) (pm_okS_t hoS) (by rw [List.length_set]; exact hl) H locs ls2 hP hS (pm_lv_store hc hl2)
      rw [hn] at g
      exact g
  · exact h.elim
set_option maxHeartbeats 1000000 in
theorem pm_s_astore (C : pm_X p s m args c D cs ad sz own cc nL) {i : Nat} {k : Nat} (hd : decode cc (pm_nth 0 bp i) = .ok (.astore k, 2)) (hn : pm_nth 0 bp (i + 1) = pm_nth 0 bp i + 2) : pm_S (pm_F p l e R s m args below meth c cells slots Qm D cs ad sz nL bp) HQ HK i (pm_astore k) := by
  intro ls st w X Q K h hX hQ hK hw hoL hoS hl H locs lsM hP hS hlv
  obtain ⟨hx, hb, hml, hown, hts, hE, hG⟩ := C
  unfold pm_astore at h
  split at h
  · rename_i x t
    cases hc : pm_okst ls k with
    | false => rw [hc] at h; exact h.elim
    | true =>
      rw [hc] at h
      refine lv_astore hx hb hd hlv (by have := (pm_okst_spec hc).1; omega) rfl (fun ls2 hl2 => ?_)
      have g := hX _ _ _ _ h hw (pm_okL_set hoL (fun v hv => by cases hv; exact pm_okS_h hoS)) (pm_okS_t hoS) (by rw [List.length_set]; exact hl) H locs ls2 hP hS (pm_lv_store hc hl2)
      rw [hn] at g
      exact g
  · exact h.elim
set_option maxHeartbeats 1000000 in
theorem pm_s_lstore_n (C : pm_X p s m args c D cs ad sz own cc nL) {i : Nat} {n : Fin 4} {k : Nat} (hd : decode cc (pm_nth 0 bp i) = .ok (.lstore_n n, 1)) (hk : (n : Nat) = k) (hn : pm_nth 0 bp (i + 1) = pm_nth 0 bp i + 1) : pm_S (pm_F p l e R s m args below meth c cells slots Qm D cs ad sz nL bp) HQ HK i (pm_lstore k) := by
  intro ls st w X Q K h hX hQ hK hw hoL hoS hl H locs lsM hP hS hlv
  obtain ⟨hx, hb, hml, hown, hts, hE, hG⟩ := C
  unfold pm_lstore at h
  split at h
  · rename_i x t
    cases hc : pm_okst ls k && Nat.blt (k + 1) ls.length with
    | false => rw [hc] at h; exact h.elim
    | true =>
      rw [hc] at h
      simp only [Bool.and_eq_true, Nat.blt_eq] at hc
      refine lv_lstore_n hx hb hd hk hlv (by omega) rfl (fun ls2 hl2 => ?_)
      have g := hX _ _ _ _ h hw (pm_okL_set (pm_okL_set hoL (pm_okR_l x)) pm_okR_n) (pm_okS_t hoS) (by rw [List.length_set, List.length_set]; exact hl) H locs ls2 hP hS (pm_lv_store2 hc.1 hl2)
      rw [hn] at g
      exact g
  · exact h.elim
set_option maxHeartbeats 1000000 in
theorem pm_s_iinc (C : pm_X p s m args c D cs ad sz own cc nL) {i : Nat} {k : Nat} {n : Int} {v : Int32} (hd : decode cc (pm_nth 0 bp i) = .ok (.iinc k n, 3)) (hv : Int32.ofInt n = v) (hn : pm_nth 0 bp (i + 1) = pm_nth 0 bp i + 3) : pm_S (pm_F p l e R s m args below meth c cells slots Qm D cs ad sz nL bp) HQ HK i (pm_iinc k v) := by
  intro ls st w X Q K h hX hQ hK hw hoL hoS hl H locs lsM hP hS hlv
  obtain ⟨hx, hb, hml, hown, hts, hE, hG⟩ := C
  unfold pm_iinc at h
  split at h
  · rename_i x z
    cases hc : pm_okst ls k with
    | false => rw [hc] at h; exact h.elim
    | true =>
      rw [hc] at h
      obtain ⟨kk, hkk⟩ := List.getElem?_of_mem (pm_lv_mem (ad := ad) (q := (k, .int x)).mpr ⟨_, z, rfl⟩)
      refine lv_iinc hx hb hd hlv hkk (by rw [hv]) (by have := (pm_okst_spec hc).1; omega) rfl (fun ls2 hl2 => ?_)
      have g := hX _ _ _ _ h hw (pm_okL_set hoL (pm_okR_i _)) hoS (by rw [List.length_set]; exact hl) H locs ls2 hP hS (pm_lv_store hc hl2)
      rw [hn] at g
      exact g
  · exact h.elim
set_option maxHeartbeats 1000000 in
theorem pm_s_iadd (C : pm_X p s m args c D cs ad sz own cc nL) {i : Nat} (hd : decode cc (pm_nth 0 bp i) = .ok (.iadd, 1)) (hn : pm_nth 0 bp (i + 1) = pm_nth 0 bp i + 1) : pm_S (pm_F p l e R s m args below meth c cells slots Qm D cs ad sz nL bp) HQ HK i (pm_bin (fun x y => x + y)) := by
  intro ls st w X Q K h hX hQ hK hw hoL hoS hl H locs lsM hP hS hlv
  obtain ⟨hx, hb, hml, hown, hts, hE, hG⟩ := C
  unfold pm_bin at h
  split at h
  · have g := hX _ _ _ _ h hw hoL (pm_okS_c trivial (pm_okS_t (pm_okS_t hoS))) hl H locs lsM hP hS hlv
    rw [hn] at g
    exact lv_iadd hx hb hd g
  · exact h.elim
set_option maxHeartbeats 1000000 in
theorem pm_s_isub (C : pm_X p s m args c D cs ad sz own cc nL) {i : Nat} (hd : decode cc (pm_nth 0 bp i) = .ok (.isub, 1)) (hn : pm_nth 0 bp (i + 1) = pm_nth 0 bp i + 1) : pm_S (pm_F p l e R s m args below meth c cells slots Qm D cs ad sz nL bp) HQ HK i (pm_bin (fun x y => x - y)) := by
  intro ls st w X Q K h hX hQ hK hw hoL hoS hl H locs lsM hP hS hlv
  obtain ⟨hx, hb, hml, hown, hts, hE, hG⟩ := C
  unfold pm_bin at h
  split at h
  · have g := hX _ _ _ _ h hw hoL (pm_okS_c trivial (pm_okS_t (pm_okS_t hoS))) hl H locs lsM hP hS hlv
    rw [hn] at g
    exact lv_isub hx hb hd g
  · exact h.elim
set_option maxHeartbeats 1000000 in
theorem pm_s_imul (C : pm_X p s m args c D cs ad sz own cc nL) {i : Nat} (hd : decode cc (pm_nth 0 bp i) = .ok (.imul, 1)) (hn : pm_nth 0 bp (i + 1) = pm_nth 0 bp i + 1) : pm_S (pm_F p l e R s m args below meth c cells slots Qm D cs ad sz nL bp) HQ HK i (pm_bin (fun x y => x * y)) := by
  intro ls st w X Q K h hX hQ hK hw hoL hoS hl H locs lsM hP hS hlv
  obtain ⟨hx, hb, hml, hown, hts, hE, hG⟩ := C
  unfold pm_bin at h
  split at h
  · have g := hX _ _ _ _ h hw hoL (pm_okS_c trivial (pm_okS_t (pm_okS_t hoS))) hl H locs lsM hP hS hlv
    rw [hn] at g
    exact lv_imul hx hb hd g
  · exact h.elim
set_option maxHeartbeats 1000000 in
theorem pm_s_iand (C : pm_X p s m args c D cs ad sz own cc nL) {i : Nat} (hd : decode cc (pm_nth 0 bp i) = .ok (.iand, 1)) (hn : pm_nth 0 bp (i + 1) = pm_nth 0 bp i + 1) : pm_S (pm_F p l e R s m args below meth c cells slots Qm D cs ad sz nL bp) HQ HK i (pm_bin (fun x y => x &&& y)) := by
  intro ls st w X Q K h hX hQ hK hw hoL hoS hl H locs lsM hP hS hlv
  obtain ⟨hx, hb, hml, hown, hts, hE, hG⟩ := C
  unfold pm_bin at h
  split at h
  · have g := hX _ _ _ _ h hw hoL (pm_okS_c trivial (pm_okS_t (pm_okS_t hoS))) hl H locs lsM hP hS hlv
    rw [hn] at g
    exact lv_iand hx hb hd g
  · exact h.elim
set_option maxHeartbeats 1000000 in
theorem pm_s_ior (C : pm_X p s m args c D cs ad sz own cc nL) {i : Nat} (hd : decode cc (pm_nth 0 bp i) = .ok (.ior, 1)) (hn : pm_nth 0 bp (i + 1) = pm_nth 0 bp i + 1) : pm_S (pm_F p l e R s m args below meth c cells slots Qm D cs ad sz nL bp) HQ HK i (pm_bin (fun x y => x ||| y)) := by
  intro ls st w X Q K h hX hQ hK hw hoL hoS hl H locs lsM hP hS hlv
  obtain ⟨hx, hb, hml, hown, hts, hE, hG⟩ := C
  unfold pm_bin at h
  split at h
  · have g := hX _ _ _ _ h hw hoL (pm_okS_c trivial (pm_okS_t (pm_okS_t hoS))) hl H locs lsM hP hS hlv
    rw [hn] at g
    exact lv_ior hx hb hd g
  · exact h.elim
set_option maxHeartbeats 1000000 in
theorem pm_s_ixor (C : pm_X p s m args c D cs ad sz own cc nL) {i : Nat} (hd : decode cc (pm_nth 0 bp i) = .ok (.ixor, 1)) (hn : pm_nth 0 bp (i + 1) = pm_nth 0 bp i + 1) : pm_S (pm_F p l e R s m args below meth c cells slots Qm D cs ad sz nL bp) HQ HK i (pm_bin (fun x y => x ^^^ y)) := by
  intro ls st w X Q K h hX hQ hK hw hoL hoS hl H locs lsM hP hS hlv
  obtain ⟨hx, hb, hml, hown, hts, hE, hG⟩ := C
  unfold pm_bin at h
  split at h
  · have g := hX _ _ _ _ h hw hoL (pm_okS_c trivial (pm_okS_t (pm_okS_t hoS))) hl H locs lsM hP hS hlv
    rw [hn] at g
    exact lv_ixor hx hb hd g
  · exact h.elim
set_option maxHeartbeats 1000000 in
theorem pm_s_ishl (C : pm_X p s m args c D cs ad sz own cc nL) {i : Nat} (hd : decode cc (pm_nth 0 bp i) = .ok (.ishl, 1)) (hn : pm_nth 0 bp (i + 1) = pm_nth 0 bp i + 1) : pm_S (pm_F p l e R s m args below meth c cells slots Qm D cs ad sz nL bp) HQ HK i (pm_bin (fun x y => x <<< (y &&& 31))) := by
  intro ls st w X Q K h hX hQ hK hw hoL hoS hl H locs lsM hP hS hlv
  obtain ⟨hx, hb, hml, hown, hts, hE, hG⟩ := C
  unfold pm_bin at h
  split at h
  · have g := hX _ _ _ _ h hw hoL (pm_okS_c trivial (pm_okS_t (pm_okS_t hoS))) hl H locs lsM hP hS hlv
    rw [hn] at g
    exact lv_ishl hx hb hd g
  · exact h.elim
set_option maxHeartbeats 1000000 in
theorem pm_s_ishr (C : pm_X p s m args c D cs ad sz own cc nL) {i : Nat} (hd : decode cc (pm_nth 0 bp i) = .ok (.ishr, 1)) (hn : pm_nth 0 bp (i + 1) = pm_nth 0 bp i + 1) : pm_S (pm_F p l e R s m args below meth c cells slots Qm D cs ad sz nL bp) HQ HK i (pm_bin (fun x y => x >>> (y &&& 31))) := by
  intro ls st w X Q K h hX hQ hK hw hoL hoS hl H locs lsM hP hS hlv
  obtain ⟨hx, hb, hml, hown, hts, hE, hG⟩ := C
  unfold pm_bin at h
  split at h
  · have g := hX _ _ _ _ h hw hoL (pm_okS_c trivial (pm_okS_t (pm_okS_t hoS))) hl H locs lsM hP hS hlv
    rw [hn] at g
    exact lv_ishr hx hb hd g
  · exact h.elim
set_option maxHeartbeats 1000000 in
theorem pm_s_iushr (C : pm_X p s m args c D cs ad sz own cc nL) {i : Nat} (hd : decode cc (pm_nth 0 bp i) = .ok (.iushr, 1)) (hn : pm_nth 0 bp (i + 1) = pm_nth 0 bp i + 1) : pm_S (pm_F p l e R s m args below meth c cells slots Qm D cs ad sz nL bp) HQ HK i (pm_bin (fun x y => (x.toUInt32 >>> (y.toUInt32 &&& Int32.toUInt32 31)).toInt32)) := by
  intro ls st w X Q K h hX hQ hK hw hoL hoS hl H locs lsM hP hS hlv
  obtain ⟨hx, hb, hml, hown, hts, hE, hG⟩ := C
  unfold pm_bin at h
  split at h
  · have g := hX _ _ _ _ h hw hoL (pm_okS_c trivial (pm_okS_t (pm_okS_t hoS))) hl H locs lsM hP hS hlv
    rw [hn] at g
    exact lv_iushr hx hb hd rfl g
  · exact h.elim
set_option maxHeartbeats 1000000 in
theorem pm_s_idiv (C : pm_X p s m args c D cs ad sz own cc nL) {i : Nat} (hd : decode cc (pm_nth 0 bp i) = .ok (.idiv, 1)) (hn : pm_nth 0 bp (i + 1) = pm_nth 0 bp i + 1) : pm_S (pm_F p l e R s m args below meth c cells slots Qm D cs ad sz nL bp) HQ HK i pm_idiv := by
  intro ls st w X Q K h hX hQ hK hw hoL hoS hl H locs lsM hP hS hlv
  obtain ⟨hx, hb, hml, hown, hts, hE, hG⟩ := C
  unfold pm_idiv at h
  split at h
  · have g := hX _ _ _ _ h.2 hw hoL (pm_okS_c trivial (pm_okS_t (pm_okS_t hoS))) hl H locs lsM hP hS hlv
    rw [hn] at g
    exact lv_idiv hx hb hd h.1 g
  · exact h.elim
set_option maxHeartbeats 1000000 in
theorem pm_s_irem (C : pm_X p s m args c D cs ad sz own cc nL) {i : Nat} (hd : decode cc (pm_nth 0 bp i) = .ok (.irem, 1)) (hn : pm_nth 0 bp (i + 1) = pm_nth 0 bp i + 1) : pm_S (pm_F p l e R s m args below meth c cells slots Qm D cs ad sz nL bp) HQ HK i pm_irem := by
  intro ls st w X Q K h hX hQ hK hw hoL hoS hl H locs lsM hP hS hlv
  obtain ⟨hx, hb, hml, hown, hts, hE, hG⟩ := C
  unfold pm_irem at h
  split at h
  · have g := hX _ _ _ _ h.2 hw hoL (pm_okS_c trivial (pm_okS_t (pm_okS_t hoS))) hl H locs lsM hP hS hlv
    rw [hn] at g
    exact lv_irem hx hb hd h.1 g
  · exact h.elim
set_option maxHeartbeats 1000000 in
theorem pm_s_ineg (C : pm_X p s m args c D cs ad sz own cc nL) {i : Nat} (hd : decode cc (pm_nth 0 bp i) = .ok (.ineg, 1)) (hn : pm_nth 0 bp (i + 1) = pm_nth 0 bp i + 1) : pm_S (pm_F p l e R s m args below meth c cells slots Qm D cs ad sz nL bp) HQ HK i pm_ineg := by
  intro ls st w X Q K h hX hQ hK hw hoL hoS hl H locs lsM hP hS hlv
  obtain ⟨hx, hb, hml, hown, hts, hE, hG⟩ := C
  unfold pm_ineg at h
  split at h
  · have g := hX _ _ _ _ h hw hoL (pm_okS_c trivial (pm_okS_t hoS)) hl H locs lsM hP hS hlv
    rw [hn] at g
    exact lv_ineg hx hb hd g
  · exact h.elim
set_option maxHeartbeats 1000000 in
theorem pm_s_ladd (C : pm_X p s m args c D cs ad sz own cc nL) {i : Nat} (hd : decode cc (pm_nth 0 bp i) = .ok (.ladd, 1)) (hn : pm_nth 0 bp (i + 1) = pm_nth 0 bp i + 1) : pm_S (pm_F p l e R s m args below meth c cells slots Qm D cs ad sz nL bp) HQ HK i (pm_bil (fun x y => x + y)) := by
  intro ls st w X Q K h hX hQ hK hw hoL hoS hl H locs lsM hP hS hlv
  obtain ⟨hx, hb, hml, hown, hts, hE, hG⟩ := C
  unfold pm_bil at h
  split at h
  · have g := hX _ _ _ _ h hw hoL (pm_okS_c trivial (pm_okS_t (pm_okS_t hoS))) hl H locs lsM hP hS hlv
    rw [hn] at g
    exact lv_ladd hx hb hd g
  · exact h.elim
set_option maxHeartbeats 1000000 in
theorem pm_s_lmul (C : pm_X p s m args c D cs ad sz own cc nL) {i : Nat} (hd : decode cc (pm_nth 0 bp i) = .ok (.lmul, 1)) (hn : pm_nth 0 bp (i + 1) = pm_nth 0 bp i + 1) : pm_S (pm_F p l e R s m args below meth c cells slots Qm D cs ad sz nL bp) HQ HK i (pm_bil (fun x y => x * y)) := by
  intro ls st w X Q K h hX hQ hK hw hoL hoS hl H locs lsM hP hS hlv
  obtain ⟨hx, hb, hml, hown, hts, hE, hG⟩ := C
  unfold pm_bil at h
  split at h
  · have g := hX _ _ _ _ h hw hoL (pm_okS_c trivial (pm_okS_t (pm_okS_t hoS))) hl H locs lsM hP hS hlv
    rw [hn] at g
    exact lv_lmul hx hb hd g
  · exact h.elim
set_option maxHeartbeats 1000000 in
theorem pm_s_land (C : pm_X p s m args c D cs ad sz own cc nL) {i : Nat} (hd : decode cc (pm_nth 0 bp i) = .ok (.land, 1)) (hn : pm_nth 0 bp (i + 1) = pm_nth 0 bp i + 1) : pm_S (pm_F p l e R s m args below meth c cells slots Qm D cs ad sz nL bp) HQ HK i (pm_bil (fun x y => x &&& y)) := by
  intro ls st w X Q K h hX hQ hK hw hoL hoS hl H locs lsM hP hS hlv
  obtain ⟨hx, hb, hml, hown, hts, hE, hG⟩ := C
  unfold pm_bil at h
  split at h
  · have g := hX _ _ _ _ h hw hoL (pm_okS_c trivial (pm_okS_t (pm_okS_t hoS))) hl H locs lsM hP hS hlv
    rw [hn] at g
    exact lv_land hx hb hd g
  · exact h.elim
set_option maxHeartbeats 1000000 in
theorem pm_s_lor (C : pm_X p s m args c D cs ad sz own cc nL) {i : Nat} (hd : decode cc (pm_nth 0 bp i) = .ok (.lor, 1)) (hn : pm_nth 0 bp (i + 1) = pm_nth 0 bp i + 1) : pm_S (pm_F p l e R s m args below meth c cells slots Qm D cs ad sz nL bp) HQ HK i (pm_bil (fun x y => x ||| y)) := by
  intro ls st w X Q K h hX hQ hK hw hoL hoS hl H locs lsM hP hS hlv
  obtain ⟨hx, hb, hml, hown, hts, hE, hG⟩ := C
  unfold pm_bil at h
  split at h
  · have g := hX _ _ _ _ h hw hoL (pm_okS_c trivial (pm_okS_t (pm_okS_t hoS))) hl H locs lsM hP hS hlv
    rw [hn] at g
    exact lv_lor hx hb hd g
  · exact h.elim
set_option maxHeartbeats 1000000 in
theorem pm_s_lrem (C : pm_X p s m args c D cs ad sz own cc nL) {i : Nat} (hd : decode cc (pm_nth 0 bp i) = .ok (.lrem, 1)) (hn : pm_nth 0 bp (i + 1) = pm_nth 0 bp i + 1) : pm_S (pm_F p l e R s m args below meth c cells slots Qm D cs ad sz nL bp) HQ HK i pm_lrem := by
  intro ls st w X Q K h hX hQ hK hw hoL hoS hl H locs lsM hP hS hlv
  obtain ⟨hx, hb, hml, hown, hts, hE, hG⟩ := C
  unfold pm_lrem at h
  split at h
  · have g := hX _ _ _ _ h.2 hw hoL (pm_okS_c trivial (pm_okS_t (pm_okS_t hoS))) hl H locs lsM hP hS hlv
    rw [hn] at g
    exact lv_lrem hx hb hd h.1 g
  · exact h.elim
set_option maxHeartbeats 1000000 in
theorem pm_s_lshl (C : pm_X p s m args c D cs ad sz own cc nL) {i : Nat} (hd : decode cc (pm_nth 0 bp i) = .ok (.lshl, 1)) (hn : pm_nth 0 bp (i + 1) = pm_nth 0 bp i + 1) : pm_S (pm_F p l e R s m args below meth c cells slots Qm D cs ad sz nL bp) HQ HK i (pm_lsh (fun x y => x <<< (y.toInt64 &&& 63))) := by
  intro ls st w X Q K h hX hQ hK hw hoL hoS hl H locs lsM hP hS hlv
  obtain ⟨hx, hb, hml, hown, hts, hE, hG⟩ := C
  unfold pm_lsh at h
  split at h
  · have g := hX _ _ _ _ h hw hoL (pm_okS_c trivial (pm_okS_t (pm_okS_t hoS))) hl H locs lsM hP hS hlv
    rw [hn] at g
    exact lv_lshl hx hb hd rfl g
  · exact h.elim
set_option maxHeartbeats 1000000 in
theorem pm_s_lushr (C : pm_X p s m args c D cs ad sz own cc nL) {i : Nat} (hd : decode cc (pm_nth 0 bp i) = .ok (.lushr, 1)) (hn : pm_nth 0 bp (i + 1) = pm_nth 0 bp i + 1) : pm_S (pm_F p l e R s m args below meth c cells slots Qm D cs ad sz nL bp) HQ HK i (pm_lsh (fun x y => (x.toUInt64 >>> (y.toInt64.toUInt64 &&& Int64.toUInt64 63)).toInt64)) := by
  intro ls st w X Q K h hX hQ hK hw hoL hoS hl H locs lsM hP hS hlv
  obtain ⟨hx, hb, hml, hown, hts, hE, hG⟩ := C
  unfold pm_lsh at h
  split at h
  · have g := hX _ _ _ _ h hw hoL (pm_okS_c trivial (pm_okS_t (pm_okS_t hoS))) hl H locs lsM hP hS hlv
    rw [hn] at g
    exact lv_lushr hx hb hd rfl g
  · exact h.elim
set_option maxHeartbeats 1000000 in
theorem pm_s_lcmp (C : pm_X p s m args c D cs ad sz own cc nL) {i : Nat} (hd : decode cc (pm_nth 0 bp i) = .ok (.lcmp, 1)) (hn : pm_nth 0 bp (i + 1) = pm_nth 0 bp i + 1) : pm_S (pm_F p l e R s m args below meth c cells slots Qm D cs ad sz nL bp) HQ HK i pm_lcmp := by
  intro ls st w X Q K h hX hQ hK hw hoL hoS hl H locs lsM hP hS hlv
  obtain ⟨hx, hb, hml, hown, hts, hE, hG⟩ := C
  unfold pm_lcmp at h
  split at h
  · have g := hX _ _ _ _ h hw hoL (pm_okS_c trivial (pm_okS_t (pm_okS_t hoS))) hl H locs lsM hP hS hlv
    rw [hn] at g
    exact W.lcmp hx hb hd g
  · exact h.elim
set_option maxHeartbeats 1000000 in
theorem pm_s_i2l (C : pm_X p s m args c D cs ad sz own cc nL) {i : Nat} (hd : decode cc (pm_nth 0 bp i) = .ok (.i2l, 1)) (hn : pm_nth 0 bp (i + 1) = pm_nth 0 bp i + 1) : pm_S (pm_F p l e R s m args below meth c cells slots Qm D cs ad sz nL bp) HQ HK i pm_i2l := by
  intro ls st w X Q K h hX hQ hK hw hoL hoS hl H locs lsM hP hS hlv
  obtain ⟨hx, hb, hml, hown, hts, hE, hG⟩ := C
  unfold pm_i2l at h
  split at h
  · have g := hX _ _ _ _ h hw hoL (pm_okS_c trivial (pm_okS_t hoS)) hl H locs lsM hP hS hlv
    rw [hn] at g
    exact lv_i2l hx hb hd rfl g
  · exact h.elim
set_option maxHeartbeats 1000000 in
theorem pm_s_l2i (C : pm_X p s m args c D cs ad sz own cc nL) {i : Nat} (hd : decode cc (pm_nth 0 bp i) = .ok (.l2i, 1)) (hn : pm_nth 0 bp (i + 1) = pm_nth 0 bp i + 1) : pm_S (pm_F p l e R s m args below meth c cells slots Qm D cs ad sz nL bp) HQ HK i pm_l2i := by
  intro ls st w X Q K h hX hQ hK hw hoL hoS hl H locs lsM hP hS hlv
  obtain ⟨hx, hb, hml, hown, hts, hE, hG⟩ := C
  unfold pm_l2i at h
  split at h
  · have g := hX _ _ _ _ h hw hoL (pm_okS_c trivial (pm_okS_t hoS)) hl H locs lsM hP hS hlv
    rw [hn] at g
    exact lv_l2i hx hb hd rfl g
  · exact h.elim
theorem pm_c1_cat {ad : Nat → Nat → Nat} {v : pm_V} (h : pm_c1 v = true) : (pm_tv ad v).category = 1 := by
  rw [pm_tv_cat]
  unfold pm_c1 at h
  unfold pm_cat1
  rw [Bool.not_eq_true'] at h
  rw [h]
  rfl
set_option maxHeartbeats 1000000 in
theorem pm_s_dup (C : pm_X p s m args c D cs ad sz own cc nL) {i : Nat} (hd : decode cc (pm_nth 0 bp i) = .ok (.dup, 1)) (hn : pm_nth 0 bp (i + 1) = pm_nth 0 bp i + 1) : pm_S (pm_F p l e R s m args below meth c cells slots Qm D cs ad sz nL bp) HQ HK i pm_dup := by
  intro ls st w X Q K h hX hQ hK hw hoL hoS hl H locs lsM hP hS hlv
  obtain ⟨hx, hb, hml, hown, hts, hE, hG⟩ := C
  unfold pm_dup at h
  split at h
  · rename_i v t
    cases hc : pm_c1 v with
    | false => rw [hc] at h; exact h.elim
    | true =>
      rw [hc] at h
      have g := hX _ _ _ _ h hw hoL (pm_okS_c (pm_okS_h hoS) hoS) hl H locs lsM hP hS hlv
      rw [hn] at g
      exact lv_dup hx hb hd (pm_c1_cat hc) g
  · exact h.elim
set_option maxHeartbeats 1000000 in
theorem pm_s_pop (C : pm_X p s m args c D cs ad sz own cc nL) {i : Nat} (hd : decode cc (pm_nth 0 bp i) = .ok (.pop, 1)) (hn : pm_nth 0 bp (i + 1) = pm_nth 0 bp i + 1) : pm_S (pm_F p l e R s m args below meth c cells slots Qm D cs ad sz nL bp) HQ HK i pm_pop := by
  intro ls st w X Q K h hX hQ hK hw hoL hoS hl H locs lsM hP hS hlv
  obtain ⟨hx, hb, hml, hown, hts, hE, hG⟩ := C
  unfold pm_pop at h
  split at h
  · rename_i v t
    cases hc : pm_c1 v with
    | false => rw [hc] at h; exact h.elim
    | true =>
      rw [hc] at h
      have g := hX _ _ _ _ h hw hoL (pm_okS_t hoS) hl H locs lsM hP hS hlv
      rw [hn] at g
      exact lv_pop hx hb hd (pm_c1_cat hc) g
  · exact h.elim
set_option maxHeartbeats 1000000 in
theorem pm_s_dup2 (C : pm_X p s m args c D cs ad sz own cc nL) {i : Nat} (hd : decode cc (pm_nth 0 bp i) = .ok (.dup2, 1)) (hn : pm_nth 0 bp (i + 1) = pm_nth 0 bp i + 1) : pm_S (pm_F p l e R s m args below meth c cells slots Qm D cs ad sz nL bp) HQ HK i pm_dup2 := by
  intro ls st w X Q K h hX hQ hK hw hoL hoS hl H locs lsM hP hS hlv
  obtain ⟨hx, hb, hml, hown, hts, hE, hG⟩ := C
  unfold pm_dup2 at h
  split at h
  · rename_i v u t
    cases hc : pm_c1 v && pm_c1 u with
    | false => rw [hc] at h; exact h.elim
    | true =>
      rw [hc] at h
      have g := hX _ _ _ _ h hw hoL (pm_okS_c (pm_okS_h hoS) (pm_okS_c (pm_okS_h (pm_okS_t hoS)) hoS)) hl H locs lsM hP hS hlv
      rw [hn] at g
      rw [Bool.and_eq_true] at hc
      exact lv_dup2_11 hx hb hd (pm_c1_cat hc.1) (pm_c1_cat hc.2) g
  · exact h.elim
set_option maxHeartbeats 1000000 in
theorem pm_s_goto (C : pm_X p s m args c D cs ad sz own cc nL) {i : Nat} {g : Nat} {off : Int} (ht : ((pm_nth 0 bp i : Nat) : Int) + off = ((pm_nth 0 bp g : Nat) : Int)) (hd : decode cc (pm_nth 0 bp i) = .ok (.goto off, 3))  : pm_S (pm_F p l e R s m args below meth c cells slots Qm D cs ad sz nL bp) HQ HK i (pm_goto g) := by
  intro ls st w X Q K h hX hQ hK hw hoL hoS hl H locs lsM hP hS hlv
  obtain ⟨hx, hb, hml, hown, hts, hE, hG⟩ := C
  have g9 := hX _ _ _ _ h hw hoL hoS hl H locs lsM hP hS hlv
  exact lv_goto hx hb hd ht g9
set_option maxHeartbeats 1000000 in
theorem pm_s_ifeq (C : pm_X p s m args c D cs ad sz own cc nL) {i : Nat} {g : Nat} {off : Int} (ht : ((pm_nth 0 bp i : Nat) : Int) + off = ((pm_nth 0 bp g : Nat) : Int)) (hd : decode cc (pm_nth 0 bp i) = .ok (.ifCond .eq off, 3)) (hn : pm_nth 0 bp (i + 1) = pm_nth 0 bp i + 3) : pm_S (pm_F p l e R s m args below meth c cells slots Qm D cs ad sz nL bp) HQ HK i (pm_ifeq g) := by
  intro ls st w X Q K h hX hQ hK hw hoL hoS hl H locs lsM hP hS hlv
  obtain ⟨hx, hb, hml, hown, hts, hE, hG⟩ := C
  unfold pm_ifeq at h
  split at h
  · exact lv_if_eq hx hb hd ht (fun z => by
      rw [if_pos z] at h
      have g9 := hX _ _ _ _ h hw hoL (pm_okS_t hoS) hl H locs lsM hP hS hlv
      exact g9) (fun z => by
      rw [if_neg z] at h
      have g9 := hX _ _ _ _ h hw hoL (pm_okS_t hoS) hl H locs lsM hP hS hlv
      rw [hn] at g9
      exact g9)
  · exact h.elim
set_option maxHeartbeats 1000000 in
theorem pm_s_ifne (C : pm_X p s m args c D cs ad sz own cc nL) {i : Nat} {g : Nat} {off : Int} (ht : ((pm_nth 0 bp i : Nat) : Int) + off = ((pm_nth 0 bp g : Nat) : Int)) (hd : decode cc (pm_nth 0 bp i) = .ok (.ifCond .ne off, 3)) (hn : pm_nth 0 bp (i + 1) = pm_nth 0 bp i + 3) : pm_S (pm_F p l e R s m args below meth c cells slots Qm D cs ad sz nL bp) HQ HK i (pm_ifne g) := by
  intro ls st w X Q K h hX hQ hK hw hoL hoS hl H locs lsM hP hS hlv
  obtain ⟨hx, hb, hml, hown, hts, hE, hG⟩ := C
  unfold pm_ifne at h
  split at h
  · exact lv_if_ne hx hb hd ht (fun z => by
      rw [if_neg z] at h
      have g9 := hX _ _ _ _ h hw hoL (pm_okS_t hoS) hl H locs lsM hP hS hlv
      exact g9) (fun z => by
      rw [if_pos z] at h
      have g9 := hX _ _ _ _ h hw hoL (pm_okS_t hoS) hl H locs lsM hP hS hlv
      rw [hn] at g9
      exact g9)
  · exact h.elim
set_option maxHeartbeats 1000000 in
theorem pm_s_iflt (C : pm_X p s m args c D cs ad sz own cc nL) {i : Nat} {g : Nat} {off : Int} (ht : ((pm_nth 0 bp i : Nat) : Int) + off = ((pm_nth 0 bp g : Nat) : Int)) (hd : decode cc (pm_nth 0 bp i) = .ok (.ifCond .lt off, 3)) (hn : pm_nth 0 bp (i + 1) = pm_nth 0 bp i + 3) : pm_S (pm_F p l e R s m args below meth c cells slots Qm D cs ad sz nL bp) HQ HK i (pm_iflt g) := by
  intro ls st w X Q K h hX hQ hK hw hoL hoS hl H locs lsM hP hS hlv
  obtain ⟨hx, hb, hml, hown, hts, hE, hG⟩ := C
  unfold pm_iflt at h
  split at h
  · exact lv_if_lt hx hb hd ht (fun z => by
      rw [if_pos z] at h
      have g9 := hX _ _ _ _ h hw hoL (pm_okS_t hoS) hl H locs lsM hP hS hlv
      exact g9) (fun z => by
      rw [if_neg z] at h
      have g9 := hX _ _ _ _ h hw hoL (pm_okS_t hoS) hl H locs lsM hP hS hlv
      rw [hn] at g9
      exact g9)
  · exact h.elim
set_option maxHeartbeats 1000000 in
theorem pm_s_ifge (C : pm_X p s m args c D cs ad sz own cc nL) {i : Nat} {g : Nat} {off : Int} (ht : ((pm_nth 0 bp i : Nat) : Int) + off = ((pm_nth 0 bp g : Nat) : Int)) (hd : decode cc (pm_nth 0 bp i) = .ok (.ifCond .ge off, 3)) (hn : pm_nth 0 bp (i + 1) = pm_nth 0 bp i + 3) : pm_S (pm_F p l e R s m args below meth c cells slots Qm D cs ad sz nL bp) HQ HK i (pm_ifge g) := by
  intro ls st w X Q K h hX hQ hK hw hoL hoS hl H locs lsM hP hS hlv
  obtain ⟨hx, hb, hml, hown, hts, hE, hG⟩ := C
  unfold pm_ifge at h
  split at h
  · exact lv_if_ge hx hb hd ht (fun z => by
      rw [if_pos z] at h
      have g9 := hX _ _ _ _ h hw hoL (pm_okS_t hoS) hl H locs lsM hP hS hlv
      exact g9) (fun z => by
      rw [if_neg z] at h
      have g9 := hX _ _ _ _ h hw hoL (pm_okS_t hoS) hl H locs lsM hP hS hlv
      rw [hn] at g9
      exact g9)
  · exact h.elim
set_option maxHeartbeats 1000000 in
theorem pm_s_ifgt (C : pm_X p s m args c D cs ad sz own cc nL) {i : Nat} {g : Nat} {off : Int} (ht : ((pm_nth 0 bp i : Nat) : Int) + off = ((pm_nth 0 bp g : Nat) : Int)) (hd : decode cc (pm_nth 0 bp i) = .ok (.ifCond .gt off, 3)) (hn : pm_nth 0 bp (i + 1) = pm_nth 0 bp i + 3) : pm_S (pm_F p l e R s m args below meth c cells slots Qm D cs ad sz nL bp) HQ HK i (pm_ifgt g) := by
  intro ls st w X Q K h hX hQ hK hw hoL hoS hl H locs lsM hP hS hlv
  obtain ⟨hx, hb, hml, hown, hts, hE, hG⟩ := C
  unfold pm_ifgt at h
  split at h
  · exact lv_if_gt hx hb hd ht (fun z => by
      rw [if_pos z] at h
      have g9 := hX _ _ _ _ h hw hoL (pm_okS_t hoS) hl H locs lsM hP hS hlv
      exact g9) (fun z => by
      rw [if_neg z] at h
      have g9 := hX _ _ _ _ h hw hoL (pm_okS_t hoS) hl H locs lsM hP hS hlv
      rw [hn] at g9
      exact g9)
  · exact h.elim
set_option maxHeartbeats 1000000 in
theorem pm_s_ifle (C : pm_X p s m args c D cs ad sz own cc nL) {i : Nat} {g : Nat} {off : Int} (ht : ((pm_nth 0 bp i : Nat) : Int) + off = ((pm_nth 0 bp g : Nat) : Int)) (hd : decode cc (pm_nth 0 bp i) = .ok (.ifCond .le off, 3)) (hn : pm_nth 0 bp (i + 1) = pm_nth 0 bp i + 3) : pm_S (pm_F p l e R s m args below meth c cells slots Qm D cs ad sz nL bp) HQ HK i (pm_ifle g) := by
  intro ls st w X Q K h hX hQ hK hw hoL hoS hl H locs lsM hP hS hlv
  obtain ⟨hx, hb, hml, hown, hts, hE, hG⟩ := C
  unfold pm_ifle at h
  split at h
  · exact lv_if_le hx hb hd ht (fun z => by
      rw [if_pos z] at h
      have g9 := hX _ _ _ _ h hw hoL (pm_okS_t hoS) hl H locs lsM hP hS hlv
      exact g9) (fun z => by
      rw [if_neg z] at h
      have g9 := hX _ _ _ _ h hw hoL (pm_okS_t hoS) hl H locs lsM hP hS hlv
      rw [hn] at g9
      exact g9)
  · exact h.elim
set_option maxHeartbeats 1000000 in
theorem pm_s_cmpeq (C : pm_X p s m args c D cs ad sz own cc nL) {i : Nat} {g : Nat} {off : Int} (ht : ((pm_nth 0 bp i : Nat) : Int) + off = ((pm_nth 0 bp g : Nat) : Int)) (hd : decode cc (pm_nth 0 bp i) = .ok (.if_icmp .eq off, 3)) (hn : pm_nth 0 bp (i + 1) = pm_nth 0 bp i + 3) : pm_S (pm_F p l e R s m args below meth c cells slots Qm D cs ad sz nL bp) HQ HK i (pm_cmpeq g) := by
  intro ls st w X Q K h hX hQ hK hw hoL hoS hl H locs lsM hP hS hlv
  obtain ⟨hx, hb, hml, hown, hts, hE, hG⟩ := C
  unfold pm_cmpeq at h
  split at h
  · exact lv_icmp_eq hx hb hd ht (fun z => by
      rw [if_pos z] at h
      have g9 := hX _ _ _ _ h hw hoL (pm_okS_t (pm_okS_t hoS)) hl H locs lsM hP hS hlv
      exact g9) (fun z => by
      rw [if_neg z] at h
      have g9 := hX _ _ _ _ h hw hoL (pm_okS_t (pm_okS_t hoS)) hl H locs lsM hP hS hlv
      rw [hn] at g9
      exact g9)
  · exact h.elim
set_option maxHeartbeats 1000000 in
theorem pm_s_cmpne (C : pm_X p s m args c D cs ad sz own cc nL) {i : Nat} {g : Nat} {off : Int} (ht : ((pm_nth 0 bp i : Nat) : Int) + off = ((pm_nth 0 bp g : Nat) : Int)) (hd : decode cc (pm_nth 0 bp i) = .ok (.if_icmp .ne off, 3)) (hn : pm_nth 0 bp (i + 1) = pm_nth 0 bp i + 3) : pm_S (pm_F p l e R s m args below meth c cells slots Qm D cs ad sz nL bp) HQ HK i (pm_cmpne g) := by
  intro ls st w X Q K h hX hQ hK hw hoL hoS hl H locs lsM hP hS hlv
  obtain ⟨hx, hb, hml, hown, hts, hE, hG⟩ := C
  unfold pm_cmpne at h
  split at h
  · exact lv_icmp_ne hx hb hd ht (fun z => by
      rw [if_neg z] at h
      have g9 := hX _ _ _ _ h hw hoL (pm_okS_t (pm_okS_t hoS)) hl H locs lsM hP hS hlv
      exact g9) (fun z => by
      rw [if_pos z] at h
      have g9 := hX _ _ _ _ h hw hoL (pm_okS_t (pm_okS_t hoS)) hl H locs lsM hP hS hlv
      rw [hn] at g9
      exact g9)
  · exact h.elim
set_option maxHeartbeats 1000000 in
theorem pm_s_cmplt (C : pm_X p s m args c D cs ad sz own cc nL) {i : Nat} {g : Nat} {off : Int} (ht : ((pm_nth 0 bp i : Nat) : Int) + off = ((pm_nth 0 bp g : Nat) : Int)) (hd : decode cc (pm_nth 0 bp i) = .ok (.if_icmp .lt off, 3)) (hn : pm_nth 0 bp (i + 1) = pm_nth 0 bp i + 3) : pm_S (pm_F p l e R s m args below meth c cells slots Qm D cs ad sz nL bp) HQ HK i (pm_cmplt g) := by
  intro ls st w X Q K h hX hQ hK hw hoL hoS hl H locs lsM hP hS hlv
  obtain ⟨hx, hb, hml, hown, hts, hE, hG⟩ := C
  unfold pm_cmplt at h
  split at h
  · exact lv_icmp_lt hx hb hd ht (fun z => by
      rw [if_pos z] at h
      have g9 := hX _ _ _ _ h hw hoL (pm_okS_t (pm_okS_t hoS)) hl H locs lsM hP hS hlv
      exact g9) (fun z => by
      rw [if_neg z] at h
      have g9 := hX _ _ _ _ h hw hoL (pm_okS_t (pm_okS_t hoS)) hl H locs lsM hP hS hlv
      rw [hn] at g9
      exact g9)
  · exact h.elim
set_option maxHeartbeats 1000000 in
theorem pm_s_cmpge (C : pm_X p s m args c D cs ad sz own cc nL) {i : Nat} {g : Nat} {off : Int} (ht : ((pm_nth 0 bp i : Nat) : Int) + off = ((pm_nth 0 bp g : Nat) : Int)) (hd : decode cc (pm_nth 0 bp i) = .ok (.if_icmp .ge off, 3)) (hn : pm_nth 0 bp (i + 1) = pm_nth 0 bp i + 3) : pm_S (pm_F p l e R s m args below meth c cells slots Qm D cs ad sz nL bp) HQ HK i (pm_cmpge g) := by
  intro ls st w X Q K h hX hQ hK hw hoL hoS hl H locs lsM hP hS hlv
  obtain ⟨hx, hb, hml, hown, hts, hE, hG⟩ := C
  unfold pm_cmpge at h
  split at h
  · exact lv_icmp_ge hx hb hd ht (fun z => by
      rw [if_pos z] at h
      have g9 := hX _ _ _ _ h hw hoL (pm_okS_t (pm_okS_t hoS)) hl H locs lsM hP hS hlv
      exact g9) (fun z => by
      rw [if_neg z] at h
      have g9 := hX _ _ _ _ h hw hoL (pm_okS_t (pm_okS_t hoS)) hl H locs lsM hP hS hlv
      rw [hn] at g9
      exact g9)
  · exact h.elim
set_option maxHeartbeats 1000000 in
theorem pm_s_cmpgt (C : pm_X p s m args c D cs ad sz own cc nL) {i : Nat} {g : Nat} {off : Int} (ht : ((pm_nth 0 bp i : Nat) : Int) + off = ((pm_nth 0 bp g : Nat) : Int)) (hd : decode cc (pm_nth 0 bp i) = .ok (.if_icmp .gt off, 3)) (hn : pm_nth 0 bp (i + 1) = pm_nth 0 bp i + 3) : pm_S (pm_F p l e R s m args below meth c cells slots Qm D cs ad sz nL bp) HQ HK i (pm_cmpgt g) := by
  intro ls st w X Q K h hX hQ hK hw hoL hoS hl H locs lsM hP hS hlv
  obtain ⟨hx, hb, hml, hown, hts, hE, hG⟩ := C
  unfold pm_cmpgt at h
  split at h
  · exact lv_icmp_gt hx hb hd ht (fun z => by
      rw [if_pos z] at h
      have g9 := hX _ _ _ _ h hw hoL (pm_okS_t (pm_okS_t hoS)) hl H locs lsM hP hS hlv
      exact g9) (fun z => by
      rw [if_neg z] at h
      have g9 := hX _ _ _ _ h hw hoL (pm_okS_t (pm_okS_t hoS)) hl H locs lsM hP hS hlv
      rw [hn] at g9
      exact g9)
  · exact h.elim
set_option maxHeartbeats 1000000 in
theorem pm_s_cmple (C : pm_X p s m args c D cs ad sz own cc nL) {i : Nat} {g : Nat} {off : Int} (ht : ((pm_nth 0 bp i : Nat) : Int) + off = ((pm_nth 0 bp g : Nat) : Int)) (hd : decode cc (pm_nth 0 bp i) = .ok (.if_icmp .le off, 3)) (hn : pm_nth 0 bp (i + 1) = pm_nth 0 bp i + 3) : pm_S (pm_F p l e R s m args below meth c cells slots Qm D cs ad sz nL bp) HQ HK i (pm_cmple g) := by
  intro ls st w X Q K h hX hQ hK hw hoL hoS hl H locs lsM hP hS hlv
  obtain ⟨hx, hb, hml, hown, hts, hE, hG⟩ := C
  unfold pm_cmple at h
  split at h
  · exact lv_icmp_le hx hb hd ht (fun z => by
      rw [if_pos z] at h
      have g9 := hX _ _ _ _ h hw hoL (pm_okS_t (pm_okS_t hoS)) hl H locs lsM hP hS hlv
      exact g9) (fun z => by
      rw [if_neg z] at h
      have g9 := hX _ _ _ _ h hw hoL (pm_okS_t (pm_okS_t hoS)) hl H locs lsM hP hS hlv
      rw [hn] at g9
      exact g9)
  · exact h.elim
end PMS
end
section
/-! ===== soundness: fields, arrays, statics, switches, calls, returns ===== -/
theorem pm_nth_ge {α : Type} (d : α) (l : List α) (k : Nat) (h : l.length ≤ k) : pm_nth d l k = d := by
  induction l generalizing k with
  | nil => rfl
  | cons a t ih =>
    cases k with
    | zero => simp at h
    | succ k => exact ih k (by simp at h; omega)
def pm_ns : List Nat := [2, 2, 6, 5, 5, 6, 2, 10, 31]
theorem pm_kc_d : ∀ k, k < 20 → ∀ ci, ci < 9 → pm_kc k = ci + 1 → pm_at k = 0 ∧ (pm_ftl k).length = pm_nth 0 pm_ns ci := by decide +kernel
theorem pm_kc_le : ∀ k, k < 20 → pm_kc k ≤ 9 := by decide +kernel
theorem pm_kc_spec {k ci : Nat} (h : Nat.beq (pm_kc k) (ci + 1) = true) : k < 36 ∧ pm_at k = 0 ∧ pm_kc k - 1 = ci ∧ (pm_ftl k).length = pm_nth 0 pm_ns ci := by
  have h := Nat.eq_of_beq_eq_true h
  by_cases hk : k < 20
  · have h9 := pm_kc_le k hk
    obtain ⟨h1, h2⟩ := pm_kc_d k hk ci (by omega) h
    exact ⟨by omega, h1, by omega, h2⟩
  · have : pm_kc k = 0 := pm_nth_ge 0 pm_kcs k (show 20 ≤ k by omega)
    omega
theorem pm_at_lt {k n : Nat} (h : pm_at k = n + 1) : k < 39 := by
  by_cases hk : k < 39
  · exact hk
  · exfalso
    by_cases h2 : k = 39
    · rw [h2] at h; cases h
    · have : pm_at k = 0 := pm_nth_ge 0 pm_ats k (show 40 ≤ k by omega)
      omega
theorem pm_fs_at {ad : Nat → Nat → Nat} {w : pm_W} {k j f : Nat} (h : f < (pm_ftl k).length) : (pm_fs ad w k j)[f]? = some (pm_tv ad (pm_fv w k j f)) := by
  simp [pm_fs, List.getElem?_map, List.getElem?_range h]
theorem pm_fs_len {ad : Nat → Nat → Nat} {w : pm_W} {k j : Nat} : (pm_fs ad w k j).length = (pm_ftl k).length := by simp [pm_fs]
theorem pm_fs_I {ad : Nat → Nat → Nat} {w : pm_W} {k j f : Nat} {x : Int32} (h : f < (pm_ftl k).length) (h0 : pm_ft k f = 0) : (pm_fs ad w k j).set f (.int x) = pm_fs ad (pm_setI w k j f x) k j := by
  apply List.ext_getElem?
  intro n
  by_cases hn : n = f
  · subst hn
    rw [List.getElem?_set_self (by rw [pm_fs_len]; exact h), pm_fs_at h]
    unfold pm_fv
    rw [h0]
    simp [pm_fvt, pm_tv, pm_setI]
  · rw [List.getElem?_set_ne (Ne.symm hn)]
    by_cases hl : n < (pm_ftl k).length
    · rw [pm_fs_at hl, pm_fs_at hl]
      unfold pm_fv
      rw [pm_fvt_I (fun z => hn z.2.2)]
    · rw [List.getElem?_eq_none (by rw [pm_fs_len]; omega), List.getElem?_eq_none (by rw [pm_fs_len]; omega)]
theorem pm_ft_J : ∀ k, k < 20 → ∀ f, f < 31 → ∀ g, g < 31 → pm_ft k f = 1 → pm_ft k g = 1 → f = g := by decide +kernel
theorem pm_ftl_le : ∀ k, k < 20 → (pm_ftl k).length ≤ 31 := by decide +kernel
theorem pm_fs_J {ad : Nat → Nat → Nat} {w : pm_W} {k j f : Nat} {x : Int64} (hk : k < 20) (h : f < (pm_ftl k).length) (h0 : pm_ft k f = 1) : (pm_fs ad w k j).set f (.long x) = pm_fs ad (pm_setJ w k x) k j := by
  have hle := pm_ftl_le k hk
  apply List.ext_getElem?
  intro n
  by_cases hn : n = f
  · subst hn
    rw [List.getElem?_set_self (by rw [pm_fs_len]; exact h), pm_fs_at h]
    unfold pm_fv
    rw [h0]
    simp [pm_fvt, pm_tv, pm_setJ]
  · rw [List.getElem?_set_ne (Ne.symm hn)]
    by_cases hl : n < (pm_ftl k).length
    · rw [pm_fs_at hl, pm_fs_at hl]
      unfold pm_fv
      have hne : ¬ pm_ft k n = 1 := fun z => hn (pm_ft_J k hk n (by omega) f (by omega) z h0)
      match ht : pm_ft k n with
      | 0 => rfl
      | 1 => exact absurd ht hne
      | t + 2 => rfl
    · rw [List.getElem?_eq_none (by rw [pm_fs_len]; omega), List.getElem?_eq_none (by rw [pm_fs_len]; omega)]
theorem pm_cell0 {ad : Nat → Nat → Nat} {cs : pm_Cs} {w : pm_W} {k j ci : Nat} (h : pm_at k = 0) (hc : pm_kc k - 1 = ci) : pm_cell ad cs w k j = .inr (ci, pm_fs ad w k j) := by
  unfold pm_cell; rw [h, ← hc]; rfl
theorem pm_cell1 {ad : Nat → Nat → Nat} {cs : pm_Cs} {w : pm_W} {k j : Nat} (h : pm_at k = 1) : pm_cell ad cs w k j = .inl (cs.1, pm_al k, .inl (fun n => w.1 k j n)) := by
  unfold pm_cell; rw [h]; rfl
theorem pm_cell2 {ad : Nat → Nat → Nat} {cs : pm_Cs} {w : pm_W} {k j : Nat} (h : pm_at k = 2) : pm_cell ad cs w k j = .inl (cs.2.1, pm_al k, .inl (fun n => w.1 k j n)) := by
  unfold pm_cell; rw [h]; rfl
theorem pm_cell3 {ad : Nat → Nat → Nat} {cs : pm_Cs} {w : pm_W} {k j : Nat} (h : pm_at k = 3) : pm_cell ad cs w k j = .inl (cs.2.2, pm_al k, .inr (.inr (.inr (.inr (fun n => some (ad 7 (pm_ri w k n))))))) := by
  unfold pm_cell; rw [h]; rfl
theorem pm_fv_ok {w : pm_W} {k j f : Nat} (hk : k < 20) (hj : j < pm_cnt k) (hf : f < (pm_ftl k).length) : pm_okv (pm_fv w k j f) := by
  have key : ∀ k, k < 20 → ∀ f, f < (pm_ftl k).length → 2 ≤ pm_ft k f → pm_cnt k ≤ pm_cnt (pm_ft k f - 2) := by decide +kernel
  unfold pm_fv
  match ht : pm_ft k f with
  | 0 => trivial
  | 1 => trivial
  | t + 2 =>
    have := key k hk f hf (by omega)
    rw [ht] at this
    show j < pm_cnt t
    exact Nat.lt_of_lt_of_le hj this
theorem pm_kc_20 {k ci : Nat} (h : Nat.beq (pm_kc k) (ci + 1) = true) : k < 20 := by
  have h := Nat.eq_of_beq_eq_true h
  by_cases hk : k < 20
  · exact hk
  · have : pm_kc k = 0 := pm_nth_ge 0 pm_kcs k (show 20 ≤ k by omega)
    omega
section PMH
variable {p : Program} {l : Launch} {e : Env} {R : Room} {s : State} {m : MethodId} {args : Array Value} {below : List Frame} {meth : Method} {c : Code} {cells slots : Nat} {Qm : State → Prop} {D : va_G} {cs : pm_Cs} {ad : Nat → Nat → Nat} {sz nL : Nat} {own : String} {cc : ByteArray} {bp : List Nat} {HQ : pm_Q → Prop} {HK : pm_C → Prop}
set_option maxHeartbeats 1000000 in
theorem pm_s_getf (C : pm_X p s m args c D cs ad sz own cc nL) {i : Nat} {n ci f : Nat} {C0 : String} {T0 : u_T} {N : Nat} (hc : vwCl[ci]? = some (C0, T0, N)) (hN : pm_nth 0 pm_ns ci = N) (hin : ∀ w ∈ u_ws C0 T0 N, w ∈ wAll) (hf : f < N) (hd : decode cc (pm_nth 0 bp i) = .ok (.getfield n, 3)) (hlk : Cond.fieldLink own n (T0 f).1 (T0 f).2.1 (T0 f).2.2.1 ∈ wAll) (hn : pm_nth 0 bp (i + 1) = pm_nth 0 bp i + 3) : pm_S (pm_F p l e R s m args below meth c cells slots Qm D cs ad sz nL bp) HQ HK i (pm_getf ci f) := by
  intro ls st w X Q K h hX hQ hK hw hoL hoS hl H locs lsM hP hS hlv
  obtain ⟨hx, hb, hml, hown, hts, hE, hG⟩ := C
  unfold pm_getf at h
  split at h
  · rename_i k j t
    cases hcnd : Nat.beq (pm_kc k) (ci + 1) with
    | false => rw [hcnd] at h; exact h.elim
    | true =>
      rw [hcnd] at h
      obtain ⟨a1, a2, a3, a4⟩ := pm_kc_spec hcnd
      have hj : j < pm_cnt k := pm_okS_h hoS
      have hfl : f < (pm_ftl k).length := by rw [a4, hN]; exact hf
      obtain ⟨q0, -, he⟩ := pm_wl_at (ad := ad) (cs := cs) (w := w) a1 hj
      rw [pm_cell0 a2 a3] at he
      have g := hX _ _ _ _ h hw hoL (pm_okS_c (pm_fv_ok (pm_kc_20 hcnd) hj hfl) (pm_okS_t hoS)) hl H locs lsM hP hS hlv
      rw [hn] at g
      exact va_get (C := C0) (T := T0) (N := N) hx hb hts hin hown hE.2.1 hP q0 he hc f hf (hts _ hlk) (fun _ h9 => h9) (pm_fs_at hfl) hd g
  · exact h.elim
set_option maxHeartbeats 1000000 in
theorem pm_s_getfN (C : pm_X p s m args c D cs ad sz own cc nL) {i : Nat} {n ci f : Nat} {C0 : String} {T0 : u_T} {N : Nat} (hc : vwCl[ci]? = some (C0, T0, N)) (hN : pm_nth 0 pm_ns ci = N) (hin : ∀ w ∈ u_ws C0 T0 N, w ∈ wAll) (hf : f < N) (hd : decode cc (pm_nth 0 bp i) = .ok (.getfield n, 3)) {host : String} (hlk : (own, n, (T0 f).1, (T0 f).2.1, (T0 f).2.2.1, host) ∈ pm_nF) (hn : pm_nth 0 bp (i + 1) = pm_nth 0 bp i + 3) : pm_S (pm_F p l e R s m args below meth c cells slots Qm D cs ad sz nL bp) HQ HK i (pm_getf ci f) := by
  intro ls st w X Q K h hX hQ hK hw hoL hoS hl H locs lsM hP hS hlv
  obtain ⟨hx, hb, hml, hown, hts, hE, hG⟩ := C
  unfold pm_getf at h
  split at h
  · rename_i k j t
    cases hcnd : Nat.beq (pm_kc k) (ci + 1) with
    | false => rw [hcnd] at h; exact h.elim
    | true =>
      rw [hcnd] at h
      obtain ⟨a1, a2, a3, a4⟩ := pm_kc_spec hcnd
      have hj : j < pm_cnt k := pm_okS_h hoS
      have hfl : f < (pm_ftl k).length := by rw [a4, hN]; exact hf
      obtain ⟨q0, -, he⟩ := pm_wl_at (ad := ad) (cs := cs) (w := w) a1 hj
      rw [pm_cell0 a2 a3] at he
      have g := hX _ _ _ _ h hw hoL (pm_okS_c (pm_fv_ok (pm_kc_20 hcnd) hj hfl) (pm_okS_t hoS)) hl H locs lsM hP hS hlv
      rw [hn] at g
      exact va_getN (C := C0) (T := T0) (N := N) hx hb hts hin hown hE.2.1 hP q0 he hc f hf (va_Nw.use rfl (hE.2.2.1 _ hlk)) (fun _ h9 => h9) (pm_fs_at hfl) hd g
  · exact h.elim
set_option maxHeartbeats 1000000 in
theorem pm_s_putf (C : pm_X p s m args c D cs ad sz own cc nL) {i : Nat} {n ci f : Nat} {C0 : String} {T0 : u_T} {N : Nat} (hc : vwCl[ci]? = some (C0, T0, N)) (hN : pm_nth 0 pm_ns ci = N) (hin : ∀ w ∈ u_ws C0 T0 N, w ∈ wAll) (hf : f < N) (ty0 : Nat → FieldType) (hty : ∀ k, k < N → parseFieldDescriptor (T0 k).2.2.1 = some (ty0 k)) (hnm : ∀ a, a < N → ∀ b, b < N → a ≠ b → (T0 a).2.1 ≠ (T0 b).2.1) (hfin : (T0 f).2.2.2 = false) (hpd : parseFieldDescriptor (T0 f).2.2.1 = some .int) (hd : decode cc (pm_nth 0 bp i) = .ok (.putfield n, 3)) (hlk : Cond.fieldLink own n (T0 f).1 (T0 f).2.1 (T0 f).2.2.1 ∈ wAll) (hn : pm_nth 0 bp (i + 1) = pm_nth 0 bp i + 3) : pm_S (pm_F p l e R s m args below meth c cells slots Qm D cs ad sz nL bp) HQ HK i (pm_putf ci f) := by
  intro ls st w X Q K h hX hQ hK hw hoL hoS hl H locs lsM hP hS hlv
  obtain ⟨hx, hb, hml, hown, hts, hE, hG⟩ := C
  unfold pm_putf at h
  split at h
  · rename_i x k j t
    cases hcnd : Nat.beq (pm_kc k) (ci + 1) && Nat.beq (pm_ft k f) 0 with
    | false => rw [hcnd] at h; exact h.elim
    | true =>
      rw [hcnd] at h
      rw [Bool.and_eq_true] at hcnd
      obtain ⟨a1, a2, a3, a4⟩ := pm_kc_spec hcnd.1
      have hj : j < pm_cnt k := pm_okS_h (pm_okS_t hoS)
      have hfl : f < (pm_ftl k).length := by rw [a4, hN]; exact hf
      obtain ⟨q0, hq0, he⟩ := pm_wl_at (ad := ad) (cs := cs) (w := w) a1 hj
      rw [pm_cell0 a2 a3] at he
      refine va_put (v := .int x) (C := C0) (T := T0) (N := N) hx hb hts hin ty0 hty hnm hown hE.2.1 hP (pm_wl_D hG w) hS q0 he hc f hf (hts _ hlk) (fun _ h9 => h9) hfin hpd rfl rfl (by rw [pm_fs_len]; exact hfl) hd (fun H1 locs1 hP1 _ hS1 => ?_)
      rw [pm_fs_I hfl (Nat.eq_of_beq_eq_true hcnd.2), ← pm_cell0 (cs := cs) a2 a3, pm_wl_set hq0 (fun a b _ z => pm_cell_I a b z)] at hP1
      have g := hX _ _ _ _ h hw hoL (pm_okS_t (pm_okS_t hoS)) hl H1 locs1 lsM hP1 hS1 hlv
      rw [hn] at g
      exact g
  · exact h.elim
set_option maxHeartbeats 1000000 in
theorem pm_s_putfN (C : pm_X p s m args c D cs ad sz own cc nL) {i : Nat} {n ci f : Nat} {C0 : String} {T0 : u_T} {N : Nat} (hc : vwCl[ci]? = some (C0, T0, N)) (hN : pm_nth 0 pm_ns ci = N) (hin : ∀ w ∈ u_ws C0 T0 N, w ∈ wAll) (hf : f < N) (ty0 : Nat → FieldType) (hty : ∀ k, k < N → parseFieldDescriptor (T0 k).2.2.1 = some (ty0 k)) (hnm : ∀ a, a < N → ∀ b, b < N → a ≠ b → (T0 a).2.1 ≠ (T0 b).2.1) (hfin : (T0 f).2.2.2 = false) (hpd : parseFieldDescriptor (T0 f).2.2.1 = some .int) (hd : decode cc (pm_nth 0 bp i) = .ok (.putfield n, 3)) {host : String} (hlk : (own, n, (T0 f).1, (T0 f).2.1, (T0 f).2.2.1, host) ∈ pm_nF) (hn : pm_nth 0 bp (i + 1) = pm_nth 0 bp i + 3) : pm_S (pm_F p l e R s m args below meth c cells slots Qm D cs ad sz nL bp) HQ HK i (pm_putf ci f) := by
  intro ls st w X Q K h hX hQ hK hw hoL hoS hl H locs lsM hP hS hlv
  obtain ⟨hx, hb, hml, hown, hts, hE, hG⟩ := C
  unfold pm_putf at h
  split at h
  · rename_i x k j t
    cases hcnd : Nat.beq (pm_kc k) (ci + 1) && Nat.beq (pm_ft k f) 0 with
    | false => rw [hcnd] at h; exact h.elim
    | true =>
      rw [hcnd] at h
      rw [Bool.and_eq_true] at hcnd
      obtain ⟨a1, a2, a3, a4⟩ := pm_kc_spec hcnd.1
      have hj : j < pm_cnt k := pm_okS_h (pm_okS_t hoS)
      have hfl : f < (pm_ftl k).length := by rw [a4, hN]; exact hf
      obtain ⟨q0, hq0, he⟩ := pm_wl_at (ad := ad) (cs := cs) (w := w) a1 hj
      rw [pm_cell0 a2 a3] at he
      refine va_putN (v := .int x) (C := C0) (T := T0) (N := N) hx hb hts hin ty0 hty hnm hown hE.2.1 hP (pm_wl_D hG w) hS q0 he hc f hf (va_Nw.use rfl (hE.2.2.1 _ hlk)) (fun _ h9 => h9) hfin hpd rfl rfl (by rw [pm_fs_len]; exact hfl) hd (fun H1 locs1 hP1 _ hS1 => ?_)
      rw [pm_fs_I hfl (Nat.eq_of_beq_eq_true hcnd.2), ← pm_cell0 (cs := cs) a2 a3, pm_wl_set hq0 (fun a b _ z => pm_cell_I a b z)] at hP1
      have g := hX _ _ _ _ h hw hoL (pm_okS_t (pm_okS_t hoS)) hl H1 locs1 lsM hP1 hS1 hlv
      rw [hn] at g
      exact g
  · exact h.elim
set_option maxHeartbeats 1000000 in
theorem pm_s_putj (C : pm_X p s m args c D cs ad sz own cc nL) {i : Nat} {n ci f : Nat} {C0 : String} {T0 : u_T} {N : Nat} (hc : vwCl[ci]? = some (C0, T0, N)) (hN : pm_nth 0 pm_ns ci = N) (hin : ∀ w ∈ u_ws C0 T0 N, w ∈ wAll) (hf : f < N) (ty0 : Nat → FieldType) (hty : ∀ k, k < N → parseFieldDescriptor (T0 k).2.2.1 = some (ty0 k)) (hnm : ∀ a, a < N → ∀ b, b < N → a ≠ b → (T0 a).2.1 ≠ (T0 b).2.1) (hfin : (T0 f).2.2.2 = false) (hpd : parseFieldDescriptor (T0 f).2.2.1 = some .long) (hd : decode cc (pm_nth 0 bp i) = .ok (.putfield n, 3)) (hlk : Cond.fieldLink own n (T0 f).1 (T0 f).2.1 (T0 f).2.2.1 ∈ wAll) (hn : pm_nth 0 bp (i + 1) = pm_nth 0 bp i + 3) : pm_S (pm_F p l e R s m args below meth c cells slots Qm D cs ad sz nL bp) HQ HK i (pm_putj ci f) := by
  intro ls st w X Q K h hX hQ hK hw hoL hoS hl H locs lsM hP hS hlv
  obtain ⟨hx, hb, hml, hown, hts, hE, hG⟩ := C
  unfold pm_putj at h
  split at h
  · rename_i x k j t
    cases hcnd : Nat.beq (pm_kc k) (ci + 1) && Nat.beq (pm_ft k f) 1 with
    | false => rw [hcnd] at h; exact h.elim
    | true =>
      rw [hcnd] at h
      rw [Bool.and_eq_true] at hcnd
      obtain ⟨a1, a2, a3, a4⟩ := pm_kc_spec hcnd.1
      have hj : j < pm_cnt k := pm_okS_h (pm_okS_t hoS)
      have hk1 : pm_cnt k = 1 := by
        have key : ∀ k, k < 20 → ∀ f, f < (pm_ftl k).length → pm_ft k f = 1 → pm_cnt k = 1 := by decide +kernel
        exact key k (pm_kc_20 hcnd.1) f (by rw [a4, hN]; exact hf) (Nat.eq_of_beq_eq_true hcnd.2)
      have hfl : f < (pm_ftl k).length := by rw [a4, hN]; exact hf
      obtain ⟨q0, hq0, he⟩ := pm_wl_at (ad := ad) (cs := cs) (w := w) a1 hj
      rw [pm_cell0 a2 a3] at he
      refine va_put (v := .long x) (C := C0) (T := T0) (N := N) hx hb hts hin ty0 hty hnm hown hE.2.1 hP (pm_wl_D hG w) hS q0 he hc f hf (hts _ hlk) (fun _ h9 => h9) hfin hpd rfl rfl (by rw [pm_fs_len]; exact hfl) hd (fun H1 locs1 hP1 _ hS1 => ?_)
      rw [pm_fs_J (pm_kc_20 hcnd.1) hfl (Nat.eq_of_beq_eq_true hcnd.2), ← pm_cell0 (cs := cs) a2 a3, pm_wl_set hq0 (fun a b hab z => pm_cell_J a b (fun y => z ⟨y, by subst y; omega⟩))] at hP1
      have g := hX _ _ _ _ h hw hoL (pm_okS_t (pm_okS_t hoS)) hl H1 locs1 lsM hP1 hS1 hlv
      rw [hn] at g
      exact g
  · exact h.elim
set_option maxHeartbeats 1000000 in
theorem pm_s_gets (C : pm_X p s m args c D cs ad sz own cc nL) {i : Nat} {n k : Nat} (h1 : 36 ≤ k) (h2 : k < 39) (hd : decode cc (pm_nth 0 bp i) = .ok (.getstatic n, 3)) (hlk : Cond.fieldLink own n "LeafTable" (pm_sn k) "[I" ∈ wAll) (hn : pm_nth 0 bp (i + 1) = pm_nth 0 bp i + 3) : pm_S (pm_F p l e R s m args below meth c cells slots Qm D cs ad sz nL bp) HQ HK i (pm_gets k) := by
  intro ls st w X Q K h hX hQ hK hw hoL hoS hl H locs lsM hP hS hlv
  obtain ⟨hx, hb, hml, hown, hts, hE, hG⟩ := C
  have key : ∀ k, 36 ≤ k → k < 39 → pm_cnt k = 1 := fun k a b => by
    rcases (show k = 36 ∨ k = 37 ∨ k = 38 by omega) with rfl | rfl | rfl <;> rfl
  have g := hX _ _ _ _ h hw hoL (pm_okS_c (show 0 < pm_cnt k by rw [key k h1 h2]; decide) hoS) hl H locs lsM hP hS hlv
  rw [hn] at g
  exact va_gets hx hb (hE.2.2.2.2 k h1 h2).1 hS hown (hts _ hlk) (fun _ h9 => h9) hd g
set_option maxHeartbeats 1000000 in
theorem pm_s_getsN (C : pm_X p s m args c D cs ad sz own cc nL) {i : Nat} {n k : Nat} (h1 : 36 ≤ k) (h2 : k < 39) (hd : decode cc (pm_nth 0 bp i) = .ok (.getstatic n, 3)) {host : String} (hlk : (own, n, "LeafTable", pm_sn k, "[I", host) ∈ pm_nF) (hn : pm_nth 0 bp (i + 1) = pm_nth 0 bp i + 3) : pm_S (pm_F p l e R s m args below meth c cells slots Qm D cs ad sz nL bp) HQ HK i (pm_gets k) := by
  intro ls st w X Q K h hX hQ hK hw hoL hoS hl H locs lsM hP hS hlv
  obtain ⟨hx, hb, hml, hown, hts, hE, hG⟩ := C
  have key : ∀ k, 36 ≤ k → k < 39 → pm_cnt k = 1 := fun k a b => by
    rcases (show k = 36 ∨ k = 37 ∨ k = 38 by omega) with rfl | rfl | rfl <;> rfl
  have g := hX _ _ _ _ h hw hoL (pm_okS_c (show 0 < pm_cnt k by rw [key k h1 h2]; decide) hoS) hl H locs lsM hP hS hlv
  rw [hn] at g
  exact va_getsN hx hb (hE.2.2.2.2 k h1 h2).1 hS hown (va_Nw.use rfl (hE.2.2.1 _ hlk)) (fun _ h9 => h9) hd g
set_option maxHeartbeats 1000000 in
theorem pm_s_iald (C : pm_X p s m args c D cs ad sz own cc nL) {i : Nat} (hd : decode cc (pm_nth 0 bp i) = .ok (.iaload, 1)) (hn : pm_nth 0 bp (i + 1) = pm_nth 0 bp i + 1) : pm_S (pm_F p l e R s m args below meth c cells slots Qm D cs ad sz nL bp) HQ HK i pm_iald := by
  intro ls st w X Q K h hX hQ hK hw hoL hoS hl H locs lsM hP hS hlv
  obtain ⟨hx, hb, hml, hown, hts, hE, hG⟩ := C
  unfold pm_iald at h
  split at h
  · rename_i x k j t
    cases hcnd : Nat.beq (pm_at k) 1 with
    | false => rw [hcnd] at h; exact h.elim
    | true =>
      rw [hcnd] at h
      obtain ⟨hi, h⟩ := h
      have ha := Nat.eq_of_beq_eq_true hcnd
      have hk9 := pm_at_lt ha
      have hj : j < pm_cnt k := pm_okS_h (pm_okS_t hoS)
      have g := hX _ _ _ _ h hw hoL (pm_okS_c trivial (pm_okS_t (pm_okS_t hoS))) hl H locs lsM hP hS hlv
      rw [hn] at g
      by_cases hk : k < 36
      · obtain ⟨q0, -, he⟩ := pm_wl_at (ad := ad) (cs := cs) (w := w) hk hj
        rw [pm_cell1 ha] at he
        have e9 : pm_rd w k j x.toNatClampNeg = w.1 k j x.toNatClampNeg := by
          unfold pm_rd
          rw [show Nat.ble 36 k = false from Bool.eq_false_iff.mpr (fun z => by have := Nat.le_of_ble_eq_true z; omega)]
          rfl
        rw [e9] at g
        exact va_iald hx hb hE.2.1 hP q0 0 he rfl hi hd g
      · have hj0 : j = 0 := by
          rcases (show k = 36 ∨ k = 37 ∨ k = 38 by omega) with rfl | rfl | rfl <;> exact Nat.lt_one_iff.mp hj
        subst hj0
        have e9 : pm_rd w k 0 x.toNatClampNeg = pm_st k x.toNatClampNeg := by
          unfold pm_rd
          rw [Nat.ble_eq_true_of_le (show 36 ≤ k by omega)]
          rfl
        rw [e9] at g
        exact va_ti hx hb (hE.2.2.2.2 k (by omega) hk9).2 hS hi rfl hd g
  · exact h.elim
set_option maxHeartbeats 1000000 in
theorem pm_s_iast (C : pm_X p s m args c D cs ad sz own cc nL) {i : Nat} (hd : decode cc (pm_nth 0 bp i) = .ok (.iastore, 1)) (hn : pm_nth 0 bp (i + 1) = pm_nth 0 bp i + 1) : pm_S (pm_F p l e R s m args below meth c cells slots Qm D cs ad sz nL bp) HQ HK i pm_iast := by
  intro ls st w X Q K h hX hQ hK hw hoL hoS hl H locs lsM hP hS hlv
  obtain ⟨hx, hb, hml, hown, hts, hE, hG⟩ := C
  unfold pm_iast at h
  split at h
  · rename_i v x k j t
    cases hcnd : Nat.beq (pm_at k) 1 && Nat.blt k 36 with
    | false => rw [hcnd] at h; exact h.elim
    | true =>
      rw [hcnd] at h
      obtain ⟨hi, h⟩ := h
      simp only [Bool.and_eq_true, Nat.blt_eq] at hcnd
      have ha := Nat.eq_of_beq_eq_true hcnd.1
      have hj : j < pm_cnt k := pm_okS_h (pm_okS_t (pm_okS_t hoS))
      obtain ⟨q0, hq0, he⟩ := pm_wl_at (ad := ad) (cs := cs) (w := w) hcnd.2 hj
      rw [pm_cell1 ha] at he
      refine va_iast hx hb hE.2.1 hP (pm_wl_D hG w) hS q0 0 he rfl hi hd (fun H1 locs1 hP1 _ hS1 => ?_)
      have e9 : upd (fun n => w.1 k j n) x.toNatClampNeg v = fun n => (pm_setI w k j x.toNatClampNeg v).1 k j n := by
        funext n
        simp [upd, pm_setI]
      rw [e9, ← pm_cell1 (ad := ad) (cs := cs) ha, pm_wl_set hq0 (fun a b _ z => pm_cell_I a b z)] at hP1
      have g := hX _ _ _ _ h hw hoL (pm_okS_t (pm_okS_t (pm_okS_t hoS))) hl H1 locs1 lsM hP1 hS1 hlv
      rw [hn] at g
      exact g
  · exact h.elim
set_option maxHeartbeats 1000000 in
theorem pm_s_zald (C : pm_X p s m args c D cs ad sz own cc nL) {i : Nat} (hd : decode cc (pm_nth 0 bp i) = .ok (.baload, 1)) (hn : pm_nth 0 bp (i + 1) = pm_nth 0 bp i + 1) : pm_S (pm_F p l e R s m args below meth c cells slots Qm D cs ad sz nL bp) HQ HK i pm_zald := by
  intro ls st w X Q K h hX hQ hK hw hoL hoS hl H locs lsM hP hS hlv
  obtain ⟨hx, hb, hml, hown, hts, hE, hG⟩ := C
  unfold pm_zald at h
  split at h
  · rename_i x k j t
    cases hcnd : Nat.beq (pm_at k) 2 with
    | false => rw [hcnd] at h; exact h.elim
    | true =>
      rw [hcnd] at h
      obtain ⟨hi, h⟩ := h
      have ha := Nat.eq_of_beq_eq_true hcnd
      have hk9 : k < 36 := by
        have := pm_at_lt ha
        rcases (show k < 36 ∨ k = 36 ∨ k = 37 ∨ k = 38 by omega) with z | rfl | rfl | rfl
        · exact z
        all_goals cases ha
      have hj : j < pm_cnt k := pm_okS_h (pm_okS_t hoS)
      have g := hX _ _ _ _ h hw hoL (pm_okS_c trivial (pm_okS_t (pm_okS_t hoS))) hl H locs lsM hP hS hlv
      rw [hn] at g
      obtain ⟨q0, -, he⟩ := pm_wl_at (ad := ad) (cs := cs) (w := w) hk9 hj
      rw [pm_cell2 ha] at he
      exact va_zald hx hb hE.2.1 hP q0 1 he rfl hi hd g
  · exact h.elim
set_option maxHeartbeats 1000000 in
theorem pm_s_zast (C : pm_X p s m args c D cs ad sz own cc nL) {i : Nat} (hd : decode cc (pm_nth 0 bp i) = .ok (.bastore, 1)) (hn : pm_nth 0 bp (i + 1) = pm_nth 0 bp i + 1) : pm_S (pm_F p l e R s m args below meth c cells slots Qm D cs ad sz nL bp) HQ HK i pm_zast := by
  intro ls st w X Q K h hX hQ hK hw hoL hoS hl H locs lsM hP hS hlv
  obtain ⟨hx, hb, hml, hown, hts, hE, hG⟩ := C
  unfold pm_zast at h
  split at h
  · rename_i v x k j t
    cases hcnd : Nat.beq (pm_at k) 2 with
    | false => rw [hcnd] at h; exact h.elim
    | true =>
      rw [hcnd] at h
      obtain ⟨hi, h⟩ := h
      have ha := Nat.eq_of_beq_eq_true hcnd
      have hk9 : k < 36 := by
        have := pm_at_lt ha
        rcases (show k < 36 ∨ k = 36 ∨ k = 37 ∨ k = 38 by omega) with z | rfl | rfl | rfl
        · exact z
        all_goals cases ha
      have hj : j < pm_cnt k := pm_okS_h (pm_okS_t (pm_okS_t hoS))
      obtain ⟨q0, hq0, he⟩ := pm_wl_at (ad := ad) (cs := cs) (w := w) hk9 hj
      rw [pm_cell2 ha] at he
      refine va_zast hx hb hE.2.1 hP (pm_wl_D hG w) hS q0 1 he rfl hi hd (fun H1 locs1 hP1 _ hS1 => ?_)
      have e9 : upd (fun n => w.1 k j n) x.toNatClampNeg (vp_nar .boolean v) = fun n => (pm_setI w k j x.toNatClampNeg (vp_nar .boolean v)).1 k j n := by
        funext n
        simp [upd, pm_setI]
      rw [e9, ← pm_cell2 (ad := ad) (cs := cs) ha, pm_wl_set hq0 (fun a b _ z => pm_cell_I a b z)] at hP1
      have g := hX _ _ _ _ h hw hoL (pm_okS_t (pm_okS_t (pm_okS_t hoS))) hl H1 locs1 lsM hP1 hS1 hlv
      rw [hn] at g
      exact g
  · exact h.elim
theorem pm_in_lt {x : Int32} {n : Nat} (h : vp_in x n) : x.toNatClampNeg < n := Nat.not_le.mp fun q => h (Or.inr q)
theorem pm_at3 : ∀ k, k < 40 → pm_at k = 3 → k = 10 ∨ k = 11 ∨ k = 17 := by decide +kernel
set_option maxHeartbeats 1000000 in
theorem pm_s_aald (C : pm_X p s m args c D cs ad sz own cc nL) {i : Nat} (hd : decode cc (pm_nth 0 bp i) = .ok (.aaload, 1)) (hn : pm_nth 0 bp (i + 1) = pm_nth 0 bp i + 1) : pm_S (pm_F p l e R s m args below meth c cells slots Qm D cs ad sz nL bp) HQ HK i pm_aald := by
  intro ls st w X Q K h hX hQ hK hw hoL hoS hl H locs lsM hP hS hlv
  obtain ⟨hx, hb, hml, hown, hts, hE, hG⟩ := C
  unfold pm_aald at h
  split at h
  · rename_i x k j t
    cases hcnd : Nat.beq (pm_at k) 3 with
    | false => rw [hcnd] at h; exact h.elim
    | true =>
      rw [hcnd] at h
      obtain ⟨hi, h⟩ := h
      have ha := Nat.eq_of_beq_eq_true hcnd
      have hk9 := pm_at3 k (by have := pm_at_lt ha; omega) ha
      have hk36 : k < 36 := by omega
      have hj : j < pm_cnt k := pm_okS_h (pm_okS_t hoS)
      have hlt := pm_in_lt hi
      have hv : pm_okv (.inr (.inr (7, pm_ri w k x.toNatClampNeg))) := by
        show pm_ri w k x.toNatClampNeg < 23
        rcases hk9 with rfl | rfl | rfl
        · exact hw _ hlt
        · have hlt : x.toNatClampNeg < 2 := hlt
          show 15 + x.toNatClampNeg < 23
          omega
        · have hlt : x.toNatClampNeg < 6 := hlt
          show 17 + x.toNatClampNeg < 23
          omega
      have g := hX _ _ _ _ h hw hoL (pm_okS_c hv (pm_okS_t (pm_okS_t hoS))) hl H locs lsM hP hS hlv
      rw [hn] at g
      obtain ⟨q0, -, he⟩ := pm_wl_at (ad := ad) (cs := cs) (w := w) hk36 hj
      rw [pm_cell3 ha] at he
      exact va_aldq (C := "LeafTable$Seats") hx hb hE.2.1 hP q0 2 he rfl hi hd g
  · exact h.elim
set_option maxHeartbeats 1000000 in
theorem pm_s_aast (C : pm_X p s m args c D cs ad sz own cc nL) {i : Nat} (hd : decode cc (pm_nth 0 bp i) = .ok (.aastore, 1)) (hn : pm_nth 0 bp (i + 1) = pm_nth 0 bp i + 1) : pm_S (pm_F p l e R s m args below meth c cells slots Qm D cs ad sz nL bp) HQ HK i pm_aast := by
  intro ls st w X Q K h hX hQ hK hw hoL hoS hl H locs lsM hP hS hlv
  obtain ⟨hx, hb, hml, hown, hts, hE, hG⟩ := C
  unfold pm_aast at h
  split at h
  · rename_i q qn x k j t
    cases hcnd : Nat.beq k 10 && Nat.beq q 7 with
    | false => rw [hcnd] at h; exact h.elim
    | true =>
      rw [hcnd] at h
      obtain ⟨hi, h⟩ := h
      rw [Bool.and_eq_true] at hcnd
      have e1 := Nat.eq_of_beq_eq_true hcnd.1
      have e2 := Nat.eq_of_beq_eq_true hcnd.2
      subst e1
      subst e2
      have hj : j < 1 := pm_okS_h (pm_okS_t (pm_okS_t hoS))
      have hqn : qn < 23 := pm_okS_h hoS
      have hj0 : j = 0 := by omega
      subst hj0
      obtain ⟨q0, hq0, he⟩ := pm_wl_at (ad := ad) (cs := cs) (w := w) (k := 10) (j := 0) (by decide) (by decide)
      rw [pm_cell3 rfl] at he
      obtain ⟨q1, -, hv⟩ := pm_wl_at (ad := ad) (cs := cs) (w := w) (k := 7) (j := qn) (by decide) hqn
      rw [pm_cell0 (ci := 4) rfl rfl] at hv
      refine va_astq hx hb hE.2.1 hP (pm_wl_D hG w) hS q0 2 q1 4 (r := (RX4, TX4, 5)) he rfl hv rfl hi hd (fun H1 locs1 hP1 _ hS1 => ?_)
      have e9 : va_up (fun n => some (ad 7 (pm_ri w 10 n))) x.toNatClampNeg (some (ad 7 qn)) = fun n => some (ad 7 (pm_ri (pm_setB w x.toNatClampNeg qn) 10 n)) := by
        funext n
        show (if n = x.toNatClampNeg then some (ad 7 qn) else some (ad 7 (w.2.2 n))) = some (ad 7 (if n = x.toNatClampNeg then qn else w.2.2 n))
        by_cases z : n = x.toNatClampNeg
        · rw [if_pos z, if_pos z]
        · rw [if_neg z, if_neg z]
      rw [e9, ← pm_cell3 (ad := ad) (cs := cs) (k := 10) (j := 0) rfl, pm_wl_set hq0 (fun a b hab z => pm_cell_B a b (fun y => z ⟨y, by subst y; have hab : b < 1 := hab; omega⟩))] at hP1
      · have hw1 : pm_wok (pm_setB w x.toNatClampNeg qn) := fun n hn9 => by
          show (if n = x.toNatClampNeg then qn else w.2.2 n) < 23
          by_cases z : n = x.toNatClampNeg
          · rw [if_pos z]; exact hqn
          · rw [if_neg z]; exact hw n hn9
        have g := hX _ _ _ _ h hw1 hoL (pm_okS_t (pm_okS_t (pm_okS_t hoS))) hl H1 locs1 lsM hP1 hS1 hlv
        rw [hn] at g
        exact g
  · exact h.elim
end PMH
end
section
/-! ===== soundness: the script, switches, calls, returns; Go; methods ===== -/
def pm_Pc (D : va_G) (cs : pm_Cs) (ad : Nat → Nat → Nat) (sz : Nat) (as : List pm_V) (w : pm_W) : Array Value → State → Prop := fun v U => v = (as.map (pm_tv ad)).toArray ∧ pm_E D cs ad sz U ∧ va_P D vwCl (pm_wl ad cs w) U.heap
def pm_Qc (D : va_G) (cs : pm_Cs) (ad : Nat → Nat → Nat) (sz : Nat) (r : Option pm_V) (w : pm_W) : Array Value → State → Outcome → State → Prop := fun _ st oc t => oc = .returned (r.map (pm_tv ad)) ∧ pm_wok w ∧ pm_okR r ∧ va_P D vwCl (pm_wl ad cs w) t.heap ∧ va_F (pm_A sz) st t
def pm_mw (y : Nat) : List Cond := Cond.code (pm_m y).1 (pm_m y).2.1 (pm_m y).2.2.1 (pm_m y).2.2.2 :: wAll
def pm_rm (d : Nat) : Room := { frames := d, cells := 0, slots := 0, locals := 60 * d }
/-- what a call's relation says of the machine -/
def pm_HK (l : Launch) (D : va_G) (cs : pm_Cs) (ad : Nat → Nat → Nat) (sz d : Nat) (K : pm_C) : Prop := ∀ (y : Nat) (as : List pm_V) (w : pm_W) (r : Option pm_V) (w1 : pm_W), K y as w r w1 → pm_wok w → pm_okS as → Met l (pm_m y).1 (pm_mw y) (pm_rm d) (pm_Pc D cs ad sz as w) (pm_Qc D cs ad sz r w1) 0 0 (pm_A sz)
theorem pm_E_call {D : va_G} {cs : pm_Cs} {ad : Nat → Nat → Nat} {sz : Nat} {U : State} {g : JFrame} {mk : MethodId} {a : Array Value} (h : pm_E D cs ad sz U) : pm_E D cs ad sz (U.calling g mk a) := by
  obtain ⟨h1, h2, h3, h4, h5⟩ := h
  refine ⟨h1, va_K.moved (u := U) (U := U.calling g mk a) (Vm.Alike.refl U.vm) h2, fun q hq => va_Nw.same rfl (u := U) (U := U.calling g mk a) rfl (h3 q hq), fun q hq => va_Nw.same rfl (u := U) (U := U.calling g mk a) rfl (h4 q hq), fun k a1 a2 => ?_⟩
  obtain ⟨z1, z2⟩ := h5 k a1 a2
  exact ⟨va_Z.moved (u := U) (U := U.calling g mk a) (Vm.Alike.refl U.vm) z1, va_T.moved (u := U) (U := U.calling g mk a) (Vm.Alike.refl U.vm) z2⟩
theorem pm_E_warm {D : va_G} {cs : pm_Cs} {ad : Nat → Nat → Nat} {sz : Nat} {s U : State} {locs : List Loc} (h : pm_E D cs ad sz s) (hW : s.WarmedH U.vm) (hS : va_S (pm_A sz) s.heap U.heap locs) : pm_E D cs ad sz U := by
  obtain ⟨h1, h2, h3, h4, h5⟩ := h
  refine ⟨Nat.le_trans h1 hS.1, va_K.moved hW.alike h2, fun q hq => va_Nw.warmF hW (h3 q hq), fun q hq => va_Nw.warmM hW (h4 q hq), fun k a1 a2 => ?_⟩
  obtain ⟨z1, z2⟩ := h5 k a1 a2
  exact ⟨(z1.moved hW.alike).kept hS.2.1, (z2.moved hW.alike).kept hS.2.1⟩
theorem pm_blind {D : va_G} {cs : pm_Cs} {ad : Nat → Nat → Nat} {sz : Nat} {as : List pm_V} {w : pm_W} : FrameBlind (pm_Pc D cs ad sz as w) := fun _ _ _ _ q => ⟨q.1, pm_E_call q.2.1, q.2.2⟩
theorem pm_popn_spec : ∀ (n : Nat) (st a as t : List pm_V), pm_popn n st a = some (as, t) → ∃ pre, pre.length = n ∧ st = pre ++ t ∧ as = pre.reverse ++ a
  | 0, st, a, as, t, h => by
    have h := Option.some.inj h
    cases h
    exact ⟨[], rfl, rfl, rfl⟩
  | n + 1, [], a, as, t, h => by cases h
  | n + 1, v :: st, a, as, t, h => by
    obtain ⟨pre, h1, h2, h3⟩ := pm_popn_spec n st (v :: a) as t h
    exact ⟨v :: pre, by simp [h1], by simp [h2], by simp [h3]⟩
theorem pm_cat_sum (ad : Nat → Nat → Nat) (t : List pm_V) : ((t.map (pm_tv ad)).map fun v => v.category).sum = pm_cat t := by
  induction t with
  | nil => rfl
  | cons v t ih => simp only [List.map_cons, List.sum_cons, ih, pm_tv_cat]; rfl
theorem pm_rets_map (ad : Nat → Nat → Nat) (r : Option pm_V) (t : List pm_V) : (pm_rets r t).map (pm_tv ad) = (r.map (pm_tv ad)).toList ++ t.map (pm_tv ad) := by
  cases r <;> rfl
theorem pm_rets_ok {r : Option pm_V} {t : List pm_V} (h : pm_okR r) (ht : pm_okS t) : pm_okS (pm_rets r t) := by
  cases r with
  | none => exact ht
  | some v => exact pm_okS_c (h v rfl) ht
def pm_swok (b : Nat) (bp : List Nat) : Int → List Int → List (Int32 × Nat) → Bool
  | _, [], [] => true
  | lo, o :: os, (c, g) :: r => decide (c.toInt = lo) && (decide ((b : Int) + o = ((pm_nth 0 bp g : Nat) : Int)) && pm_swok b bp (lo + 1) os r)
  | _, _, _ => false
theorem pm_sw_spec {b : Nat} {bp : List Nat} {x : Int32} {Y : Nat → Prop} {d : Nat} : ∀ (lo : Int) (os : List Int) (cs : List (Int32 × Nat)), pm_swok b bp lo os cs = true → pm_sw x Y d cs → ((x.toInt < lo ∨ lo + os.length ≤ x.toInt) ∧ Y d) ∨ ∃ (t : Nat) (o : Int) (g : Nat), x.toInt = lo + t ∧ os[t]? = some o ∧ (b : Int) + o = ((pm_nth 0 bp g : Nat) : Int) ∧ Y g
  | lo, [], [], _, h => Or.inl ⟨by rcases Int.lt_or_le x.toInt lo with z | z; exact Or.inl z; right; simpa using z, h⟩
  | lo, o :: os, (c, g) :: r, hk, h => by
    unfold pm_swok at hk
    simp only [Bool.and_eq_true, decide_eq_true_eq] at hk
    unfold pm_sw at h
    by_cases hx : x = c
    · rw [if_pos hx] at h
      exact Or.inr ⟨0, o, g, by rw [hx, hk.1]; simp, rfl, hk.2.1, h⟩
    · rw [if_neg hx] at h
      have hne : x.toInt ≠ lo := fun z => hx (Int32.toInt_inj.mp (z.trans hk.1.symm))
      rcases pm_sw_spec (lo + 1) os r hk.2.2 h with ⟨h1, h2⟩ | ⟨t, o2, g2, h1, h2, h3, h4⟩
      · refine Or.inl ⟨?_, h2⟩
        simp only [List.length_cons]
        rcases h1 with z | z
        · left; omega
        · right; omega
      · exact Or.inr ⟨t + 1, o2, g2, by rw [h1]; omega, by simpa using h2, h3, h4⟩
  | _, [], _ :: _, hk, _ => by unfold pm_swok at hk; cases hk
  | _, _ :: _, [], hk, _ => by unfold pm_swok at hk; cases hk
section PMT
variable {p : Program} {l : Launch} {e : Env} {R : Room} {s : State} {m : MethodId} {args : Array Value} {below : List Frame} {meth : Method} {c : Code} {cells slots : Nat} {Qm : State → Prop} {D : va_G} {cs : pm_Cs} {ad : Nat → Nat → Nat} {sz nL : Nat} {own : String} {cc : ByteArray} {bp : List Nat} {HQ : pm_Q → Prop} {HK : pm_C → Prop}
set_option maxHeartbeats 1000000 in
theorem pm_s_tsw (C : pm_X p s m args c D cs ad sz own cc nL) {i : Nat} {g : Nat} {dflt lo hi : Int} {offs : Array Int} {len : Nat} {ks : List (Int32 × Nat)} (hd : decode cc (pm_nth 0 bp i) = .ok (.tableswitch dflt lo hi offs, len)) (ht : ((pm_nth 0 bp i : Nat) : Int) + dflt = ((pm_nth 0 bp g : Nat) : Int)) (hk : pm_swok (pm_nth 0 bp i) bp lo offs.toList ks = true) (hh : lo + offs.toList.length = hi + 1) : pm_S (pm_F p l e R s m args below meth c cells slots Qm D cs ad sz nL bp) HQ HK i (pm_tsw g ks) := by
  intro ls st w X Q K h hX hQ hK hw hoL hoS hl H locs lsM hP hS hlv
  obtain ⟨hx, hb, hml, hown, hts, hE, hG⟩ := C
  unfold pm_tsw at h
  split at h
  · rename_i x t
    rcases pm_sw_spec lo offs.toList ks hk h with ⟨h1, h2⟩ | ⟨t2, o, g2, h1, h2, h3, h4⟩
    · have g9 := hX _ _ _ _ h2 hw hoL (pm_okS_t hoS) hl H locs lsM hP hS hlv
      refine lv_tableOut hx hb hd ?_ ht g9
      rcases h1 with z | z
      · exact Or.inl z
      · right; omega
    · have g9 := hX _ _ _ _ h4 hw hoL (pm_okS_t hoS) hl H locs lsM hP hS hlv
      have hlt := (List.getElem?_eq_some_iff.mp h2).1
      refine lv_tableIn hx hb hd (by omega) (by omega) ?_ h3 g9
      rw [show (x.toInt - lo).toNat = t2 by omega, ← Array.getElem?_toList]
      exact h2
  · exact h.elim
set_option maxHeartbeats 1000000 in
theorem pm_s_slen (C : pm_X p s m args c D cs ad sz own cc nL) {i : Nat} {L : Nat} {xs : Nat → Int32} (hXs : va_X (ad 39 0) L xs s s.heap) (hbl : ad 39 0 < s.heap.size) (hbA : ¬ pm_A sz (ad 39 0)) (hd : decode cc (pm_nth 0 bp i) = .ok (.arraylength, 1)) (hn : pm_nth 0 bp (i + 1) = pm_nth 0 bp i + 1) : pm_S (pm_F p l e R s m args below meth c cells slots Qm D cs ad sz nL bp) HQ HK i (pm_slen L) := by
  intro ls st w X Q K h hX hQ hK hw hoL hoS hl H locs lsM hP hS hlv
  obtain ⟨hx, hb, hml, hown, hts, hE, hG⟩ := C
  unfold pm_slen at h
  split at h
  · rename_i k j t
    cases hcnd : Nat.beq k 39 with
    | false => rw [hcnd] at h; exact h.elim
    | true =>
      rw [hcnd] at h
      have e1 := Nat.eq_of_beq_eq_true hcnd
      subst e1
      have hj : j < 1 := pm_okS_h hoS
      have e2 : j = 0 := by omega
      subst e2
      have g := hX _ _ _ _ h hw hoL (pm_okS_c trivial (pm_okS_t hoS)) hl H locs lsM hP hS hlv
      rw [hn] at g
      exact va_slen hx hb hXs hbl hbA hS hd g
  · exact h.elim
set_option maxHeartbeats 1000000 in
theorem pm_s_sald (C : pm_X p s m args c D cs ad sz own cc nL) {i : Nat} {L : Nat} {xs : Nat → Int32} (hXs : va_X (ad 39 0) L xs s s.heap) (hbl : ad 39 0 < s.heap.size) (hbA : ¬ pm_A sz (ad 39 0)) (hd : decode cc (pm_nth 0 bp i) = .ok (.iaload, 1)) (hn : pm_nth 0 bp (i + 1) = pm_nth 0 bp i + 1) : pm_S (pm_F p l e R s m args below meth c cells slots Qm D cs ad sz nL bp) HQ HK i (pm_sald L xs) := by
  intro ls st w X Q K h hX hQ hK hw hoL hoS hl H locs lsM hP hS hlv
  obtain ⟨hx, hb, hml, hown, hts, hE, hG⟩ := C
  unfold pm_sald at h
  split at h
  · rename_i x k j t
    cases hcnd : Nat.beq k 39 with
    | false => rw [hcnd] at h; exact h.elim
    | true =>
      rw [hcnd] at h
      obtain ⟨hi, h⟩ := h
      have e1 := Nat.eq_of_beq_eq_true hcnd
      subst e1
      have hj : j < 1 := pm_okS_h (pm_okS_t hoS)
      have e2 : j = 0 := by omega
      subst e2
      have g := hX _ _ _ _ h hw hoL (pm_okS_c trivial (pm_okS_t (pm_okS_t hoS))) hl H locs lsM hP hS hlv
      rw [hn] at g
      exact va_sld hx hb hXs hbl hbA hS hi hd g
  · exact h.elim
end PMT
section PMC
variable {p : Program} {l : Launch} {e : Env} {R : Room} {s : State} {m : MethodId} {args : Array Value} {below : List Frame} {meth : Method} {c : Code} {cells slots : Nat} {Qm : State → Prop} {D : va_G} {cs : pm_Cs} {ad : Nat → Nat → Nat} {sz : Nat} {H H0 : Heap} {locs : List Loc} {pc : Nat} {ls : Array Slot} {st0 rest : List Value} {r : Option pm_V} {w1 : pm_W} {a : Array Value}
theorem pm_callg (hr : va_Run p l e R s m args below meth c H locs cells slots 0 0 (F0 m pc ls st0) rest (pm_Qc D cs ad sz r w1 a) (pm_A sz)) (hS : va_S (pm_A sz) H0 H locs)
    (kk : pm_wok w1 → pm_okR r → ∀ (H1 : Heap) (locs1 : List Loc), va_P D vwCl (pm_wl ad cs w1) H1 → va_S (pm_A sz) H0 H1 locs1 → W p l e R s m args below meth c H1 locs1 cells slots Qm (F0 m (pc + 3) ls ((r.map (pm_tv ad)).toList ++ rest))) : W p l e R s m args below meth c H locs cells slots Qm (F0 m pc ls st0) := by
  intro T hT X
  obtain ⟨v, st₀, t, T', L, h0, X', hL, e1, e2, ⟨hv, hwok, hrok, hp, hz, hk⟩, st⟩ := hr T hT X
  cases hv
  rw [h0] at hz hk
  obtain ⟨t2, a1, b1⟩ := kk hwok hrok T'.heap (locs ++ L) (by rw [e1]; exact hp)
    ⟨Nat.le_trans hS.1 (by rw [e1]; exact hz), fun q h1 h2 => by rw [e1, hk q (Nat.lt_of_lt_of_le h1 hS.1) h2]; exact hS.2.1 q h1 h2, fun q hq => by
      rcases List.mem_append.mp hq with h | h
      · exact hS.2.2 q h
      · exact hL q h⟩ T' rfl X'
  exact ⟨t2, st t2 a1, b1⟩
end PMC
section PMV
variable {p : Program} {l : Launch} {e : Env} {R : Room} {s : State} {m : MethodId} {args : Array Value} {below : List Frame} {meth : Method} {c : Code} {cells slots : Nat} {Qm : State → Prop} {D : va_G} {cs : pm_Cs} {ad : Nat → Nat → Nat} {sz nL : Nat} {own : String} {cc : ByteArray} {bp : List Nat} {HQ : pm_Q → Prop}
set_option maxHeartbeats 1000000 in
theorem pm_s_callS {d : Nat} (C : pm_X p s m args c D cs ad sz own cc nL) (hR : d + 1 ≤ R.frames ∧ 60 * (d + 1) ≤ R.locals ∧ cells ≤ R.cells ∧ slots ≤ R.slots) {i : Nat} {y na n : Nat} (hd : decode cc (pm_nth 0 bp i) = .ok (.invokestatic n, 3)) (hlk : Cond.methodLink own n (pm_m y).1 ∈ wAll) (hst : Cond.static (pm_m y).1 ∈ wAll) (hini : Cond.initialized (pm_m y).1.cls ∈ wAll) (hcw : Cond.code (pm_m y).1 (pm_m y).2.1 (pm_m y).2.2.1 (pm_m y).2.2.2 ∈ wAll) (hdd : (pm_m y).1.cls ≠ "java/lang/invoke/MethodHandle" ∧ (pm_m y).1.cls ≠ "java/lang/invoke/VarHandle" ∧ (parseMethodDescriptor (pm_m y).1.desc).map (fun d => d.parameters.length) = some na) (hmx : (pm_m y).2.2.1 ≤ 41) (hn : pm_nth 0 bp (i + 1) = pm_nth 0 bp i + 3) : pm_S (pm_F p l e R s m args below meth c cells slots Qm D cs ad sz nL bp) HQ (pm_HK l D cs ad sz d) i (pm_callS y na) := by
  intro ls st w X Q K h hX hQ hK hw hoL hoS hl H locs lsM hP hS hlv
  obtain ⟨hx, hb, hml, hown, hts, hE, hG⟩ := C
  unfold pm_callS at h
  split at h
  · rename_i as t hpop
    cases hcnd : Nat.ble (pm_cat t) 8 with
    | false => rw [hcnd] at h; exact h.elim
    | true =>
      rw [hcnd] at h
      obtain ⟨r, w1, hK1, h⟩ := h
      obtain ⟨pre, h1, h2, h3⟩ := pm_popn_spec na st [] as t hpop
      rw [List.append_nil] at h3
      have hoa : pm_okS as := fun v hv => hoS v (by rw [h2]; rw [h3] at hv; exact List.mem_append_left _ (List.mem_reverse.mp hv))
      have hot : pm_okS t := fun v hv => hoS v (by rw [h2]; exact List.mem_append_right _ hv)
      have hgood : GoodIn wAll (pm_mw y) := fun z hz => by
        rcases List.mem_cons.mp hz with e9 | e9
        · rw [e9]; exact ⟨hcw, wAll_good _ hcw⟩
        · exact ⟨e9, wAll_good _ e9⟩
      have hM := hK y as w r w1 hK1 hw hoa
      refine pm_callg (va_runS (As := as.map (pm_tv ad)) (rest := t.map (pm_tv ad)) (bytes := (pm_m y).2.1) (maxL := (pm_m y).2.2.1) (ret := (pm_m y).2.2.2) ⟨hx, hb, hml, hown, hts⟩ hM ⟨callB_of na hts hgood rfl rfl rfl (hts _ hini) (hts _ hlk) hdd ⟨hR.1, by show 8 + ((pm_m y).2.2.1 + 11) + 60 * d ≤ R.locals; omega⟩, hts _ hst⟩ ⟨pm_blind, fun U hU hW => ⟨rfl, pm_E_warm hE hW (by rw [hU]; exact hS), by rw [hU]; exact hP⟩⟩ rfl (by simp [h3, h1]) hlv.1 (by rw [h2, h3]; simp) (lv_room (by rw [pm_cat_sum]; exact Nat.le_of_ble_eq_true hcnd)) hd ⟨hR.2.2.1, hR.2.2.2⟩) hS (fun hw1 hr1 H1 locs1 hP1 hS1 => ?_)
      have g := hX _ _ _ _ h hw1 hoL (pm_rets_ok hr1 hot) hl H1 locs1 lsM hP1 hS1 hlv
      rw [hn, pm_rets_map] at g
      exact g
  · exact h.elim
set_option maxHeartbeats 1000000 in
theorem pm_s_callSN {d : Nat} (C : pm_X p s m args c D cs ad sz own cc nL) (hR : d + 1 ≤ R.frames ∧ 60 * (d + 1) ≤ R.locals ∧ cells ≤ R.cells ∧ slots ≤ R.slots) {i : Nat} {y na n : Nat} (hd : decode cc (pm_nth 0 bp i) = .ok (.invokestatic n, 3)) {host : String} (hlk : (own, n, (pm_m y).1, host) ∈ pm_nM) (hst : Cond.static (pm_m y).1 ∈ wAll) (hini : Cond.initialized (pm_m y).1.cls ∈ wAll) (hcw : Cond.code (pm_m y).1 (pm_m y).2.1 (pm_m y).2.2.1 (pm_m y).2.2.2 ∈ wAll) (hdd : (pm_m y).1.cls ≠ "java/lang/invoke/MethodHandle" ∧ (pm_m y).1.cls ≠ "java/lang/invoke/VarHandle" ∧ (parseMethodDescriptor (pm_m y).1.desc).map (fun d => d.parameters.length) = some na) (hmx : (pm_m y).2.2.1 ≤ 41) (hn : pm_nth 0 bp (i + 1) = pm_nth 0 bp i + 3) : pm_S (pm_F p l e R s m args below meth c cells slots Qm D cs ad sz nL bp) HQ (pm_HK l D cs ad sz d) i (pm_callS y na) := by
  intro ls st w X Q K h hX hQ hK hw hoL hoS hl H locs lsM hP hS hlv
  obtain ⟨hx, hb, hml, hown, hts, hE, hG⟩ := C
  unfold pm_callS at h
  split at h
  · rename_i as t hpop
    cases hcnd : Nat.ble (pm_cat t) 8 with
    | false => rw [hcnd] at h; exact h.elim
    | true =>
      rw [hcnd] at h
      obtain ⟨r, w1, hK1, h⟩ := h
      obtain ⟨pre, h1, h2, h3⟩ := pm_popn_spec na st [] as t hpop
      rw [List.append_nil] at h3
      have hoa : pm_okS as := fun v hv => hoS v (by rw [h2]; rw [h3] at hv; exact List.mem_append_left _ (List.mem_reverse.mp hv))
      have hot : pm_okS t := fun v hv => hoS v (by rw [h2]; exact List.mem_append_right _ hv)
      have hgood : GoodIn wAll (pm_mw y) := fun z hz => by
        rcases List.mem_cons.mp hz with e9 | e9
        · rw [e9]; exact ⟨hcw, wAll_good _ hcw⟩
        · exact ⟨e9, wAll_good _ e9⟩
      have hM := hK y as w r w1 hK1 hw hoa
      refine pm_callg (va_runSN (As := as.map (pm_tv ad)) (rest := t.map (pm_tv ad)) (bytes := (pm_m y).2.1) (maxL := (pm_m y).2.2.1) (ret := (pm_m y).2.2.2) ⟨hx, hb, hml, hown, hts⟩ hM ⟨va_cnB (na) hts hgood rfl rfl rfl (hE.2.2.2.1 _ hlk) (hts _ hini) hdd ⟨hR.1, by show 8 + ((pm_m y).2.2.1 + 11) + 60 * d ≤ R.locals; omega⟩, hts _ hst, trivial⟩ ⟨pm_blind, fun U hU hW => ⟨rfl, pm_E_warm hE hW (by rw [hU]; exact hS), by rw [hU]; exact hP⟩⟩ rfl (by simp [h3, h1]) hlv.1 (by rw [h2, h3]; simp) (lv_room (by rw [pm_cat_sum]; exact Nat.le_of_ble_eq_true hcnd)) hd ⟨hR.2.2.1, hR.2.2.2⟩) hS (fun hw1 hr1 H1 locs1 hP1 hS1 => ?_)
      have g := hX _ _ _ _ h hw1 hoL (pm_rets_ok hr1 hot) hl H1 locs1 lsM hP1 hS1 hlv
      rw [hn, pm_rets_map] at g
      exact g
  · exact h.elim
set_option maxHeartbeats 1000000 in
theorem pm_s_callV {d : Nat} (C : pm_X p s m args c D cs ad sz own cc nL) (hR : d + 1 ≤ R.frames ∧ 60 * (d + 1) ≤ R.locals ∧ cells ≤ R.cells ∧ slots ≤ R.slots) {i : Nat} {ci y na n : Nat} {C0 : String} {T0 : u_T} {N : Nat} (hc : vwCl[ci]? = some (C0, T0, N)) (hd : decode cc (pm_nth 0 bp i) = .ok (.invokevirtual n, 3)) (hlk : Cond.methodLink own n (pm_m y).1 ∈ wAll) (hin : Cond.instanceMethod (pm_m y).1 ∈ wAll) (hse : Cond.selects C0 (pm_m y).1 (pm_m y).1 ∈ wAll) (hini : Cond.initialized (pm_m y).1.cls ∈ wAll) (hcw : Cond.code (pm_m y).1 (pm_m y).2.1 (pm_m y).2.2.1 (pm_m y).2.2.2 ∈ wAll) (hdd : (pm_m y).1.cls ≠ "java/lang/invoke/MethodHandle" ∧ (pm_m y).1.cls ≠ "java/lang/invoke/VarHandle" ∧ (parseMethodDescriptor (pm_m y).1.desc).map (fun d => d.parameters.length) = some na) (hmx : (pm_m y).2.2.1 ≤ 41) (hn : pm_nth 0 bp (i + 1) = pm_nth 0 bp i + 3) : pm_S (pm_F p l e R s m args below meth c cells slots Qm D cs ad sz nL bp) HQ (pm_HK l D cs ad sz d) i (pm_callV ci y (na + 1)) := by
  intro ls st w X Q K h hX hQ hK hw hoL hoS hl H locs lsM hP hS hlv
  obtain ⟨hx, hb, hml, hown, hts, hE, hG⟩ := C
  unfold pm_callV at h
  split at h
  · rename_i as t hpop
    cases hcnd : pm_hd ci as && Nat.ble (pm_cat t) 8 with
    | false => rw [hcnd] at h; exact h.elim
    | true =>
      rw [hcnd] at h
      rw [Bool.and_eq_true] at hcnd
      obtain ⟨r, w1, hK1, h⟩ := h
      obtain ⟨pre, h1, h2, h3⟩ := pm_popn_spec (na + 1) st [] as t hpop
      rw [List.append_nil] at h3
      have hoa : pm_okS as := fun v hv => hoS v (by rw [h2]; rw [h3] at hv; exact List.mem_append_left _ (List.mem_reverse.mp hv))
      have hot : pm_okS t := fun v hv => hoS v (by rw [h2]; exact List.mem_append_right _ hv)
      have hgood : GoodIn wAll (pm_mw y) := fun z hz => by
        rcases List.mem_cons.mp hz with e9 | e9
        · rw [e9]; exact ⟨hcw, wAll_good _ hcw⟩
        · exact ⟨e9, wAll_good _ e9⟩
      have hM := hK y as w r w1 hK1 hw hoa
      have hpre : pre = as.reverse := by rw [h3, List.reverse_reverse]
      obtain ⟨k, j, as2, has, hkc⟩ : ∃ k j as2, as = .inr (.inr (k, j)) :: as2 ∧ Nat.beq (pm_kc k) (ci + 1) = true := by
        rcases as with _ | ⟨v | v | ⟨k, j⟩, as2⟩
        · exact absurd hcnd.1 (by simp [pm_hd])
        · exact absurd hcnd.1 (by simp [pm_hd])
        · exact absurd hcnd.1 (by simp [pm_hd])
        · exact ⟨k, j, as2, rfl, hcnd.1⟩
      obtain ⟨a1, a2, a3, a4⟩ := pm_kc_spec hkc
      have hj : j < pm_cnt k := hoa (.inr (.inr (k, j))) (by rw [has]; exact List.mem_cons_self)
      obtain ⟨q0, -, he⟩ := pm_wl_at (ad := ad) (cs := cs) (w := w) a1 hj
      rw [pm_cell0 a2 a3] at he
      have hlen : as2.length = na := by
        have := h1
        rw [hpre, List.length_reverse, has, List.length_cons] at this
        omega
      rw [has] at hM
      refine pm_callg (va_runV (C := C0) (b := ad k j) (As := as2.map (pm_tv ad)) (rest := t.map (pm_tv ad)) (bytes := (pm_m y).2.1) (maxL := (pm_m y).2.2.1) (ret := (pm_m y).2.2.2) ⟨hx, hb, hml, hown, hts⟩ hM ⟨callB_of na hts hgood rfl rfl rfl (hts _ hini) (hts _ hlk) hdd ⟨hR.1, by show 8 + ((pm_m y).2.2.1 + 11) + 60 * d ≤ R.locals; omega⟩, hts _ hin, hts _ hse⟩ ⟨pm_blind, va_recv hE.2.1 hP hc he, fun U hU hW => ⟨rfl, pm_E_warm hE hW (by rw [hU]; exact hS), by rw [hU]; exact hP⟩⟩ rfl (by rw [List.length_map]; exact hlen) hlv.1 (by rw [h2, hpre, has]; simp [pm_tv]) (lv_room (by rw [pm_cat_sum]; exact Nat.le_of_ble_eq_true hcnd.2)) hd ⟨hR.2.2.1, hR.2.2.2⟩) hS (fun hw1 hr1 H1 locs1 hP1 hS1 => ?_)
      have g := hX _ _ _ _ h hw1 hoL (pm_rets_ok hr1 hot) hl H1 locs1 lsM hP1 hS1 hlv
      rw [hn, pm_rets_map] at g
      exact g
  · exact h.elim
end PMV
end
section
/-! ===== soundness: returns, runs, methods by depth ===== -/
def pm_HQ (F : pm_K) (cc : ByteArray) (bp : List Nat) (ret : Option FieldType) (Q : pm_Q) : Prop :=
  (∀ i ls x w, decode cc (pm_nth 0 bp i) = .ok (.ireturn, 1) → (∃ ty, ret = some ty ∧ narrow ty (.int x) = .int x) → Q (some (.inl x)) w → F i ls [.inl x] w) ∧
  (∀ i ls x w, decode cc (pm_nth 0 bp i) = .ok (.lreturn, 1) → ret = some .long → Q (some (.inr (.inl x))) w → F i ls [.inr (.inl x)] w) ∧
  (∀ i ls x w, decode cc (pm_nth 0 bp i) = .ok (.areturn, 1) → (∃ n, ret = some (.object n)) → Q (some (.inr (.inr x))) w → F i ls [.inr (.inr x)] w) ∧
  ∀ i ls w, decode cc (pm_nth 0 bp i) = .ok (.return_, 1) → ret = none → Q none w → F i ls [] w
section PMR
variable {F : pm_K} {cc : ByteArray} {bp : List Nat} {ret : Option FieldType} {HK : pm_C → Prop} {i : Nat}
theorem pm_s_iret (hd : decode cc (pm_nth 0 bp i) = .ok (.ireturn, 1)) (hr : ret = some .int) : pm_S F (pm_HQ F cc bp ret) HK i pm_iret := by
  intro ls st w X Q K h hX hQ hK
  unfold pm_iret at h
  split at h
  · exact hQ.1 i ls _ w hd ⟨.int, hr, rfl⟩ h
  · exact h.elim
theorem pm_s_zret (hd : decode cc (pm_nth 0 bp i) = .ok (.ireturn, 1)) (hr : ret = some .boolean) : pm_S F (pm_HQ F cc bp ret) HK i pm_zret := by
  intro ls st w X Q K h hX hQ hK
  unfold pm_zret at h
  split at h
  · exact hQ.1 i ls _ w hd ⟨.boolean, hr, h.1⟩ h.2
  · exact h.elim
theorem pm_s_lret (hd : decode cc (pm_nth 0 bp i) = .ok (.lreturn, 1)) (hr : ret = some .long) : pm_S F (pm_HQ F cc bp ret) HK i pm_lret := by
  intro ls st w X Q K h hX hQ hK
  unfold pm_lret at h
  split at h
  · exact hQ.2.1 i ls _ w hd hr h
  · exact h.elim
theorem pm_s_aret {n : String} (hd : decode cc (pm_nth 0 bp i) = .ok (.areturn, 1)) (hr : ret = some (.object n)) : pm_S F (pm_HQ F cc bp ret) HK i pm_aret := by
  intro ls st w X Q K h hX hQ hK
  unfold pm_aret at h
  split at h
  · exact hQ.2.2.1 i ls _ w hd ⟨n, hr⟩ h
  · exact h.elim
theorem pm_s_vret (hd : decode cc (pm_nth 0 bp i) = .ok (.return_, 1)) (hr : ret = none) : pm_S F (pm_HQ F cc bp ret) HK i pm_vret := by
  intro ls st w X Q K h hX hQ hK
  unfold pm_vret at h
  split at h
  · exact hQ.2.2.2 i ls w hd hr h
  · exact h.elim
end PMR
def pm_All (P : Nat → pm_Op → Prop) : Nat → List pm_Op → Prop
  | _, [] => True
  | k, o :: t => P k o ∧ pm_All P (k + 1) t
theorem pm_All_nth {P : Nat → pm_Op → Prop} : ∀ (k : Nat) (c : List pm_Op), pm_All P k c → ∀ i, i < c.length → P (k + i) (pm_nth pm_bad c i)
  | _, [], _, i, h => absurd h (by simp)
  | k, o :: t, ha, 0, _ => ha.1
  | k, o :: t, ha, i + 1, h => by
    have := pm_All_nth (k + 1) t ha.2 i (by simp at h; omega)
    rw [show k + 1 + i = k + (i + 1) by omega] at this
    exact this
theorem pm_Gn_F {F : pm_K} {HQ : pm_Q → Prop} {HK : pm_C → Prop} {c : List pm_Op} (ha : pm_All (pm_S F HQ HK) 0 c) {K : pm_C} {Q : pm_Q} (hQ : HQ Q) (hK : HK K) : ∀ (n i : Nat) (ls : pm_L) (st : List pm_V) (w : pm_W), pm_Gn K c Q F n i ls st w → F i ls st w := by
  intro n
  induction n with
  | zero => intro i ls st w h; exact h
  | succ n ih =>
    intro i ls st w h
    by_cases hi : i < c.length
    · have hs := pm_All_nth 0 c ha i hi
      rw [Nat.zero_add] at hs
      exact hs ls st w _ Q K h (fun i2 ls2 st2 w2 h2 => ih i2 ls2 st2 w2 h2) hQ hK
    · unfold pm_Gn at h
      rw [pm_nth_ge pm_bad c i (by omega)] at h
      exact h.elim
theorem pm_le_nth : ∀ (ls ls2 : pm_L), pm_le ls ls2 → ls.length = ls2.length ∧ ∀ k v, pm_nth none ls k = some v → pm_nth none ls2 k = some v
  | [], [], _ => ⟨rfl, fun _ _ h => h⟩
  | a :: t, b :: u, h => by
    obtain ⟨h1, h2⟩ := pm_le_nth t u h.2
    refine ⟨by simp [h1], fun k v hv => ?_⟩
    cases k with
    | zero =>
      have hv : a = some v := hv
      rcases h.1 with z | z
      · rw [z] at hv; cases hv
      · show b = some v
        rw [← z]; exact hv
    | succ k => exact h2 k v hv
  | [], _ :: _, h => h.elim
  | _ :: _, [], h => h.elim
theorem pm_F_mono {p : Program} {l : Launch} {e : Env} {R : Room} {s : State} {m : MethodId} {args : Array Value} {below : List Frame} {meth : Method} {c : Code} {cells slots : Nat} {Qm : State → Prop} {D : va_G} {cs : pm_Cs} {ad : Nat → Nat → Nat} {sz nL : Nat} {bp : List Nat} (i : Nat) (ls ls2 : pm_L) (st : List pm_V) (w : pm_W) (h : pm_le ls ls2) (hF : pm_F p l e R s m args below meth c cells slots Qm D cs ad sz nL bp i ls st w) : pm_F p l e R s m args below meth c cells slots Qm D cs ad sz nL bp i ls2 st w := by
  obtain ⟨h1, h2⟩ := pm_le_nth ls ls2 h
  intro hw hoL hoS hl H locs lsM hP hS hlv
  refine hF hw (fun v hv => ?_) hoS (h1.trans hl) H locs lsM hP hS ⟨hlv.1, hlv.2.1, fun q hq => hlv.2.2 q ?_⟩
  · obtain ⟨k, hk⟩ : ∃ k, pm_nth none ls k = some v := by
      clear hF h2 h1 hoL hl hlv h
      induction ls with
      | nil => cases hv
      | cons a t ih =>
        rcases List.mem_cons.mp hv with z | z
        · exact ⟨0, z.symm⟩
        · obtain ⟨k, hk⟩ := ih z
          exact ⟨k + 1, hk⟩
    exact hoL v (pm_nth_mem (h2 k v hk))
  · obtain ⟨v, e1, e2⟩ := pm_lv_mem.mp hq
    exact pm_lv_mem.mpr ⟨v, h2 _ v e1, e2⟩
def pm_MS (y : Nat) (own : String) (bp : List Nat) (code : List pm_Op) : Prop :=
  ∀ (p : Program) (l : Launch) (e : Env) (R : Room) (s : State) (m : MethodId) (args : Array Value) (below : List Frame) (meth : Method) (c : Code) (cells slots : Nat) (Qm : State → Prop) (D : va_G) (cs : pm_Cs) (ad : Nat → Nat → Nat) (sz d : Nat), pm_X p s m args c D cs ad sz own (pm_m y).2.1 (pm_m y).2.2.1 → (d + 1 ≤ R.frames ∧ 60 * (d + 1) ≤ R.locals ∧ cells ≤ R.cells ∧ slots ≤ R.slots) →
    pm_All (pm_S (pm_F p l e R s m args below meth c cells slots Qm D cs ad sz (pm_m y).2.2.1 bp) (pm_HQ (pm_F p l e R s m args below meth c cells slots Qm D cs ad sz (pm_m y).2.2.1 bp) (pm_m y).2.1 bp (pm_m y).2.2.2) (pm_HK l D cs ad sz d)) 0 code
-- the start
theorem pm_pad_nth : ∀ (n : Nat) (l : pm_L) (k : Nat), pm_nth none (pm_pad n l) k = pm_nth none l k
  | 0, l, k => rfl
  | n + 1, [], 0 => rfl
  | n + 1, [], k + 1 => by
    show pm_nth none (pm_pad n []) k = none
    rw [pm_pad_nth n [] k]; rfl
  | n + 1, a :: t, 0 => rfl
  | n + 1, a :: t, k + 1 => pm_pad_nth n t k
theorem pm_pad_len : ∀ (n : Nat) (l : pm_L), l.length ≤ n → (pm_pad n l).length = n
  | 0, l, h => by simpa [pm_pad] using h
  | n + 1, [], _ => by
    show (pm_pad n []).length + 1 = n + 1
    rw [pm_pad_len n [] (by simp)]
  | n + 1, a :: t, h => by
    show (pm_pad n t).length + 1 = n + 1
    rw [pm_pad_len n t (by simpa using h)]
theorem pm_nth_of_mem {l : pm_L} {v : pm_V} (h : some v ∈ l) : ∃ k, pm_nth none l k = some v := by
  induction l with
  | nil => cases h
  | cons a t ih =>
    rcases List.mem_cons.mp h with z | z
    · exact ⟨0, z.symm⟩
    · obtain ⟨k, hk⟩ := ih z
      exact ⟨k + 1, hk⟩
theorem pm_ents_nth (ad : Nat → Nat → Nat) : ∀ (as : List pm_V) (o k : Nat) (v : pm_V), pm_nth none (pm_ents as) k = some v → v ∈ as ∧ (o + k, pm_tv ad v) ∈ lv_args o (as.map (pm_tv ad))
  | [], _, _, _, h => by cases h
  | .inl x :: t, o, 0, v, h => by
    cases h
    exact ⟨List.mem_cons_self, List.mem_cons_self⟩
  | .inl x :: t, o, k + 1, v, h => by
    obtain ⟨h1, h2⟩ := pm_ents_nth ad t (o + 1) k v h
    refine ⟨List.mem_cons_of_mem _ h1, List.mem_cons_of_mem _ ?_⟩
    rw [show o + (k + 1) = o + 1 + k by omega]
    exact h2
  | .inr (.inr x) :: t, o, 0, v, h => by
    cases h
    exact ⟨List.mem_cons_self, List.mem_cons_self⟩
  | .inr (.inr x) :: t, o, k + 1, v, h => by
    obtain ⟨h1, h2⟩ := pm_ents_nth ad t (o + 1) k v h
    refine ⟨List.mem_cons_of_mem _ h1, List.mem_cons_of_mem _ ?_⟩
    rw [show o + (k + 1) = o + 1 + k by omega]
    exact h2
  | .inr (.inl x) :: t, o, 0, v, h => by
    cases h
    exact ⟨List.mem_cons_self, List.mem_cons_self⟩
  | .inr (.inl x) :: t, o, 1, v, h => by cases h
  | .inr (.inl x) :: t, o, k + 2, v, h => by
    obtain ⟨h1, h2⟩ := pm_ents_nth ad t (o + 2) k v h
    refine ⟨List.mem_cons_of_mem _ h1, List.mem_cons_of_mem _ ?_⟩
    rw [show o + (k + 2) = o + 2 + k by omega]
    exact h2
theorem pm_ents_len (ad : Nat → Nat → Nat) : ∀ (as : List pm_V), (lg_sl (as.map (pm_tv ad))).length = (pm_ents as).length
  | [] => rfl
  | .inl x :: t => by
    have := pm_ents_len ad t
    simp only [lg_sl, List.map_cons, List.flatMap_cons] at this ⊢
    simp [pm_ents, pm_tv, Value.category, ← this]
  | .inr (.inr x) :: t => by
    have := pm_ents_len ad t
    simp only [lg_sl, List.map_cons, List.flatMap_cons] at this ⊢
    simp [pm_ents, pm_tv, Value.category, ← this]
  | .inr (.inl x) :: t => by
    have := pm_ents_len ad t
    simp only [lg_sl, List.map_cons, List.flatMap_cons] at this ⊢
    simp [pm_ents, pm_tv, Value.category, ← this]
set_option maxHeartbeats 1000000 in
theorem pm_met {y : Nat} {own : String} {bp : List Nat} {code : List pm_Op} {d : Nat} (hms : pm_MS y own bp code) (hcls : (pm_m y).1.cls = own) (hb0 : pm_nth 0 bp 0 = 0) (hpl : plainName (pm_m y).1.cls = true ∨ plainFor (pm_m y).1 = true) {l : Launch} {D : va_G} {cs : pm_Cs} {ad : Nat → Nat → Nat} {sz : Nat} (hG : pm_GA ad sz) {K : pm_C} (hK : pm_HK l D cs ad sz d K) {as : List pm_V} {w w1 : pm_W} {r : Option pm_V} (hfit : (pm_ents as).length ≤ (pm_m y).2.2.1) (hgo : pm_Gx K code 0 (pm_ent (pm_m y).2.2.1 as) [] w (fun r1 w2 => r1 = r ∧ w2 = w1)) (hw : pm_wok w) (hoa : pm_okS as) :
    Met l (pm_m y).1 (pm_mw y) (pm_rm (d + 1)) (pm_Pc D cs ad sz as w) (pm_Qc D cs ad sz r w1) 0 0 (pm_A sz) := by
  refine hpl.elim (fun h9 => Met.ofW (cc := (pm_m y).2.1) (maxL := (pm_m y).2.2.1) (ret := (pm_m y).2.2.2) h9 rfl ?_) (fun h9 => va_MetF (cc := (pm_m y).2.1) (maxL := (pm_m y).2.2.1) (ret := (pm_m y).2.2.2) h9 rfl ?_)
  all_goals
    intro p e s m args below meth c s₁ B hml hv
    obtain ⟨rfl, hE, hP⟩ := hv
    have hx := B.exec
    have hb := B.bytes
    have hr := B.returns
    have hts := atoms_spec (ws := pm_mw y) B.pre
    have hown : s.vm.findClass own = some m.cls := by rw [← hcls]; exact findClass_of_methodNamed B.named
    have hlocks := B.notSynchronized
    have hall := hms p l e (headSpec (pm_mw y) (pm_rm (d + 1))).room s m ((as.map (pm_tv ad)).toArray) below meth c 0 0 (MQ below (pm_Qc D cs ad sz r w1) ((as.map (pm_tv ad)).toArray) s 0 0 (pm_A sz)) D cs ad sz d ⟨hx, hb, hml, hown, fun z hz => hts z (List.mem_cons_of_mem _ hz), hE, hG⟩ ⟨Nat.le_refl _, Nat.le_refl _, Nat.le_refl _, Nat.le_refl _⟩
    have hQ : pm_HQ (pm_F p l e (headSpec (pm_mw y) (pm_rm (d + 1))).room s m ((as.map (pm_tv ad)).toArray) below meth c 0 0 (MQ below (pm_Qc D cs ad sz r w1) ((as.map (pm_tv ad)).toArray) s 0 0 (pm_A sz)) D cs ad sz (pm_m y).2.2.1 bp) (pm_m y).2.1 bp (pm_m y).2.2.2 (fun r1 w2 => r1 = r ∧ w2 = w1) := by
      refine ⟨?_, ?_, ?_, ?_⟩
      · rintro i ls x w2 hd ⟨ty, ht, hnar⟩ ⟨rfl, rfl⟩ hw2 hoL hoS hl H locs lsM hP2 hS hlv
        exact W.zret hx hb (hr.trans ht) hnar (fun t hth _ => ⟨rfl, hw2, fun v hv => by cases hv; trivial, by rw [hth]; exact hP2, hS.F hth⟩) hS.2.2 hd
      · rintro i ls x w2 hd ht ⟨rfl, rfl⟩ hw2 hoL hoS hl H locs lsM hP2 hS hlv
        exact W.lret hx hb (hr.trans ht) (fun t hth _ => ⟨rfl, hw2, fun v hv => by cases hv; trivial, by rw [hth]; exact hP2, hS.F hth⟩) hS.2.2 hd
      · rintro i ls x w2 hd ⟨nm, ht⟩ ⟨rfl, rfl⟩ hw2 hoL hoS hl H locs lsM hP2 hS hlv
        exact W.aret hx hb (hr.trans ht) (Or.inl ⟨nm, rfl⟩) (Or.inr ⟨_, rfl⟩) (fun t hth _ => ⟨rfl, hw2, fun v hv => by cases hv; exact pm_okS_h hoS, by rw [hth]; exact hP2, hS.F hth⟩) hS.2.2 hd
      · rintro i ls w2 hd ht ⟨rfl, rfl⟩ hw2 hoL hoS hl H locs lsM hP2 hS hlv
        exact W.vret hx hb (hr.trans ht) (fun t hth _ => ⟨rfl, hw2, pm_okR_n, by rw [hth]; exact hP2, hS.F hth⟩) hS.2.2 hd
    have hF := hgo _ (pm_Gn_F hall hQ hK) pm_F_mono
    rw [lg_entry_eq]
    have hl := lv_entry (as.map (pm_tv ad)) (n := (pm_m y).2.2.1) (by rw [pm_ents_len]; exact hfit)
    generalize (lg_sl (as.map (pm_tv ad)) ++ List.replicate ((pm_m y).2.2.1 - (lg_sl (as.map (pm_tv ad))).length) Slot.unset).toArray = lsM at hl ⊢
    have hlv : lv_has lsM (pm_m y).2.2.1 (pm_lv ad (pm_ent (pm_m y).2.2.1 as)) := by
      refine ⟨hl.1, hl.2.1, fun q hq => hl.2.2 q ?_⟩
      obtain ⟨v, e1, e2⟩ := pm_lv_mem.mp hq
      have e3 := (pm_pad_nth (pm_m y).2.2.1 (pm_ents as) q.1).symm.trans e1
      have := (pm_ents_nth ad as 0 q.1 v e3).2
      rw [Nat.zero_add, ← e2] at this
      exact this
    have hoL : pm_okL (pm_ent (pm_m y).2.2.1 as) := by
      intro v hv
      obtain ⟨k, hk⟩ := pm_nth_of_mem hv
      have e3 := (pm_pad_nth (pm_m y).2.2.1 (pm_ents as) k).symm.trans hk
      exact hoa v (pm_ents_nth ad as 0 k v e3).1
    have := hF hw hoL (fun v hv => by cases hv) (pm_pad_len _ _ hfit) s.heap [] lsM hP va_S.rf hlv
    rw [hb0] at this
    exact this
/-- what a method does, calls going d deep -/
def pm_Rt (codes : List (List pm_Op)) : Nat → pm_C
  | 0 => fun _ _ _ _ _ => False
  | d + 1 => fun y as w r w1 => y < codes.length ∧ (pm_ents as).length ≤ (pm_m y).2.2.1 ∧ pm_Gx (pm_Rt codes d) (pm_nth [] codes y) 0 (pm_ent (pm_m y).2.2.1 as) [] w (fun r1 w2 => r1 = r ∧ w2 = w1)
theorem pm_sound {codes : List (List pm_Op)} (hco : ∀ y, y < codes.length → ∃ own bp, pm_MS y own bp (pm_nth [] codes y) ∧ (pm_m y).1.cls = own ∧ pm_nth 0 bp 0 = 0 ∧ (plainName (pm_m y).1.cls = true ∨ plainFor (pm_m y).1 = true)) {l : Launch} {D : va_G} {cs : pm_Cs} {ad : Nat → Nat → Nat} {sz : Nat} (hG : pm_GA ad sz) : ∀ d, pm_HK l D cs ad sz d (pm_Rt codes d) := by
  intro d
  induction d with
  | zero => intro y as w r w1 h; exact h.elim
  | succ d ih =>
    rintro y as w r w1 ⟨h1, h2, h3⟩ hw hoa
    obtain ⟨own, bp, a1, a2, a3, a4⟩ := hco y h1
    exact pm_met a1 a2 a3 a4 hG ih h2 h3 hw hoa
end
