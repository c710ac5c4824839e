section
-- ===== PART A: goes FIRST, ahead of the names: the tables' words, and 'selects' of the private methods out of them =====
/-- a private method of a class that the tables say can be made, by its rows of tables_1 -/
def lw_okq (q : MethodName × Nat) : Prop := (q.1.cls ≠ "java/lang/invoke/MethodHandle" ∧ q.1.cls ≠ "java/lang/invoke/VarHandle") ∧ Cond.instantiable q.1.cls q.2 ∈ tables_1 ∧ Cond.privateMethod q.1 ∈ tables_1 ∧ Cond.instanceMethod q.1 ∈ tables_1
theorem lw_p0 : lw_okq (⟨"StoneWorks$Seasons", "addRun", "(II)V"⟩, 7) := ⟨⟨by decide +kernel, by decide +kernel⟩, List.mem_of_getElem? (i := 28) (by decide +kernel), List.mem_of_getElem? (i := 389) (by decide +kernel), List.mem_of_getElem? (i := 390) (by decide +kernel)⟩
theorem lw_p1 : lw_okq (⟨"StoneWorks$TableReader", "begin", "()V"⟩, 6) := ⟨⟨by decide +kernel, by decide +kernel⟩, List.mem_of_getElem? (i := 112) (by decide +kernel), List.mem_of_getElem? (i := 427) (by decide +kernel), List.mem_of_getElem? (i := 428) (by decide +kernel)⟩
theorem lw_p2 : lw_okq (⟨"StoneWorks$TableReader", "skipBlanks", "()V"⟩, 6) := ⟨⟨by decide +kernel, by decide +kernel⟩, List.mem_of_getElem? (i := 112) (by decide +kernel), List.mem_of_getElem? (i := 432) (by decide +kernel), List.mem_of_getElem? (i := 433) (by decide +kernel)⟩
theorem lw_p3 : lw_okq (⟨"StoneWorks$TableReader", "readClause", "()Z"⟩, 6) := ⟨⟨by decide +kernel, by decide +kernel⟩, List.mem_of_getElem? (i := 112) (by decide +kernel), List.mem_of_getElem? (i := 440) (by decide +kernel), List.mem_of_getElem? (i := 441) (by decide +kernel)⟩
theorem lw_p4 : lw_okq (⟨"StoneWorks$TableReader", "readWord", "()I"⟩, 6) := ⟨⟨by decide +kernel, by decide +kernel⟩, List.mem_of_getElem? (i := 112) (by decide +kernel), List.mem_of_getElem? (i := 444) (by decide +kernel), List.mem_of_getElem? (i := 445) (by decide +kernel)⟩
theorem lw_p5 : lw_okq (⟨"StoneWorks$TableReader", "clauseAt", "(I)I"⟩, 6) := ⟨⟨by decide +kernel, by decide +kernel⟩, List.mem_of_getElem? (i := 112) (by decide +kernel), List.mem_of_getElem? (i := 453) (by decide +kernel), List.mem_of_getElem? (i := 454) (by decide +kernel)⟩
theorem lw_p6 : lw_okq (⟨"StoneWorks$TableReader", "fail", "(II)Z"⟩, 6) := ⟨⟨by decide +kernel, by decide +kernel⟩, List.mem_of_getElem? (i := 112) (by decide +kernel), List.mem_of_getElem? (i := 519) (by decide +kernel), List.mem_of_getElem? (i := 520) (by decide +kernel)⟩
theorem lw_p7 : lw_okq (⟨"StoneWorks$TableReader", "readNumber", "(I)Z"⟩, 6) := ⟨⟨by decide +kernel, by decide +kernel⟩, List.mem_of_getElem? (i := 112) (by decide +kernel), List.mem_of_getElem? (i := 525) (by decide +kernel), List.mem_of_getElem? (i := 526) (by decide +kernel)⟩
theorem lw_p8 : lw_okq (⟨"StoneWorks$Site", "hindranceOfNext", "(LStoneWorks$Gang;LStoneWorks$Stone;)I"⟩, 11) := ⟨⟨by decide +kernel, by decide +kernel⟩, List.mem_of_getElem? (i := 139) (by decide +kernel), List.mem_of_getElem? (i := 604) (by decide +kernel), List.mem_of_getElem? (i := 605) (by decide +kernel)⟩
theorem lw_p9 : lw_okq (⟨"StoneWorks$Site", "waitsForLesser", "(LStoneWorks$Stone;)Z"⟩, 11) := ⟨⟨by decide +kernel, by decide +kernel⟩, List.mem_of_getElem? (i := 139) (by decide +kernel), List.mem_of_getElem? (i := 632) (by decide +kernel), List.mem_of_getElem? (i := 633) (by decide +kernel)⟩
theorem lw_p10 : lw_okq (⟨"StoneWorks$Site", "isRampRaised", "()Z"⟩, 11) := ⟨⟨by decide +kernel, by decide +kernel⟩, List.mem_of_getElem? (i := 139) (by decide +kernel), List.mem_of_getElem? (i := 652) (by decide +kernel), List.mem_of_getElem? (i := 653) (by decide +kernel)⟩
theorem lw_p11 : lw_okq (⟨"StoneWorks$Site", "leaveWork", "(LStoneWorks$Gang;)V"⟩, 11) := ⟨⟨by decide +kernel, by decide +kernel⟩, List.mem_of_getElem? (i := 139) (by decide +kernel), List.mem_of_getElem? (i := 664) (by decide +kernel), List.mem_of_getElem? (i := 665) (by decide +kernel)⟩
theorem lw_p12 : lw_okq (⟨"StoneWorks$Site", "isRafting", "(LStoneWorks$Gang;)Z"⟩, 11) := ⟨⟨by decide +kernel, by decide +kernel⟩, List.mem_of_getElem? (i := 139) (by decide +kernel), List.mem_of_getElem? (i := 686) (by decide +kernel), List.mem_of_getElem? (i := 687) (by decide +kernel)⟩
theorem lw_p13 : lw_okq (⟨"StoneWorks$Site", "workOneDay", "(IZ)V"⟩, 11) := ⟨⟨by decide +kernel, by decide +kernel⟩, List.mem_of_getElem? (i := 139) (by decide +kernel), List.mem_of_getElem? (i := 690) (by decide +kernel), List.mem_of_getElem? (i := 691) (by decide +kernel)⟩
theorem lw_p14 : lw_okq (⟨"StoneWorks$Site", "isTooHeavy", "(ILStoneWorks$Gang;)Z"⟩, 11) := ⟨⟨by decide +kernel, by decide +kernel⟩, List.mem_of_getElem? (i := 139) (by decide +kernel), List.mem_of_getElem? (i := 695) (by decide +kernel), List.mem_of_getElem? (i := 696) (by decide +kernel)⟩
theorem lw_p15 : lw_okq (⟨"StoneWorks$Site", "bringFurther", "(LStoneWorks$Stone;I)V"⟩, 11) := ⟨⟨by decide +kernel, by decide +kernel⟩, List.mem_of_getElem? (i := 139) (by decide +kernel), List.mem_of_getElem? (i := 699) (by decide +kernel), List.mem_of_getElem? (i := 700) (by decide +kernel)⟩
def lw_privs_1 : List (MethodName × Nat) := [(⟨"StoneWorks$Seasons", "addRun", "(II)V"⟩, 7), (⟨"StoneWorks$TableReader", "begin", "()V"⟩, 6), (⟨"StoneWorks$TableReader", "skipBlanks", "()V"⟩, 6), (⟨"StoneWorks$TableReader", "readClause", "()Z"⟩, 6), (⟨"StoneWorks$TableReader", "readWord", "()I"⟩, 6), (⟨"StoneWorks$TableReader", "clauseAt", "(I)I"⟩, 6), (⟨"StoneWorks$TableReader", "fail", "(II)Z"⟩, 6), (⟨"StoneWorks$TableReader", "readNumber", "(I)Z"⟩, 6), (⟨"StoneWorks$Site", "hindranceOfNext", "(LStoneWorks$Gang;LStoneWorks$Stone;)I"⟩, 11), (⟨"StoneWorks$Site", "waitsForLesser", "(LStoneWorks$Stone;)Z"⟩, 11), (⟨"StoneWorks$Site", "isRampRaised", "()Z"⟩, 11), (⟨"StoneWorks$Site", "leaveWork", "(LStoneWorks$Gang;)V"⟩, 11), (⟨"StoneWorks$Site", "isRafting", "(LStoneWorks$Gang;)Z"⟩, 11), (⟨"StoneWorks$Site", "workOneDay", "(IZ)V"⟩, 11), (⟨"StoneWorks$Site", "isTooHeavy", "(ILStoneWorks$Gang;)Z"⟩, 11), (⟨"StoneWorks$Site", "bringFurther", "(LStoneWorks$Stone;I)V"⟩, 11)]
theorem lw_r1 : ∀ q ∈ lw_privs_1, lw_okq q := List.forall_mem_cons.mpr ⟨lw_p0, List.forall_mem_cons.mpr ⟨lw_p1, List.forall_mem_cons.mpr ⟨lw_p2, List.forall_mem_cons.mpr ⟨lw_p3, List.forall_mem_cons.mpr ⟨lw_p4, List.forall_mem_cons.mpr ⟨lw_p5, List.forall_mem_cons.mpr ⟨lw_p6, List.forall_mem_cons.mpr ⟨lw_p7, List.forall_mem_cons.mpr ⟨lw_p8, List.forall_mem_cons.mpr ⟨lw_p9, List.forall_mem_cons.mpr ⟨lw_p10, List.forall_mem_cons.mpr ⟨lw_p11, List.forall_mem_cons.mpr ⟨lw_p12, List.forall_mem_cons.mpr ⟨lw_p13, List.forall_mem_cons.mpr ⟨lw_p14, List.forall_mem_cons.mpr ⟨lw_p15, fun _ h => absurd h List.not_mem_nil⟩⟩⟩⟩⟩⟩⟩⟩⟩⟩⟩⟩⟩⟩⟩⟩
theorem lw_p16 : lw_okq (⟨"StoneWorks$Planner", "gatherStones", "()Z"⟩, 18) := ⟨⟨by decide +kernel, by decide +kernel⟩, List.mem_of_getElem? (i := 191) (by decide +kernel), List.mem_of_getElem? (i := 722) (by decide +kernel), List.mem_of_getElem? (i := 723) (by decide +kernel)⟩
theorem lw_p17 : lw_okq (⟨"StoneWorks$Planner", "prepareWorks", "()V"⟩, 18) := ⟨⟨by decide +kernel, by decide +kernel⟩, List.mem_of_getElem? (i := 191) (by decide +kernel), List.mem_of_getElem? (i := 728) (by decide +kernel), List.mem_of_getElem? (i := 729) (by decide +kernel)⟩
theorem lw_p18 : lw_okq (⟨"StoneWorks$Planner", "leadOf", "(LStoneWorks$Stone;LStoneWorks$Gang;)I"⟩, 18) := ⟨⟨by decide +kernel, by decide +kernel⟩, List.mem_of_getElem? (i := 191) (by decide +kernel), List.mem_of_getElem? (i := 733) (by decide +kernel), List.mem_of_getElem? (i := 734) (by decide +kernel)⟩
theorem lw_p19 : lw_okq (⟨"StoneWorks$Planner", "menWanted", "(LStoneWorks$Stone;)I"⟩, 18) := ⟨⟨by decide +kernel, by decide +kernel⟩, List.mem_of_getElem? (i := 191) (by decide +kernel), List.mem_of_getElem? (i := 737) (by decide +kernel), List.mem_of_getElem? (i := 738) (by decide +kernel)⟩
theorem lw_p20 : lw_okq (⟨"StoneWorks$Planner", "findFloor", "()Z"⟩, 18) := ⟨⟨by decide +kernel, by decide +kernel⟩, List.mem_of_getElem? (i := 191) (by decide +kernel), List.mem_of_getElem? (i := 745) (by decide +kernel), List.mem_of_getElem? (i := 746) (by decide +kernel)⟩
theorem lw_p21 : lw_okq (⟨"StoneWorks$Planner", "readyDay", "(II)I"⟩, 18) := ⟨⟨by decide +kernel, by decide +kernel⟩, List.mem_of_getElem? (i := 191) (by decide +kernel), List.mem_of_getElem? (i := 749) (by decide +kernel), List.mem_of_getElem? (i := 750) (by decide +kernel)⟩
theorem lw_p22 : lw_okq (⟨"StoneWorks$Planner", "seekLeast", "(III)V"⟩, 18) := ⟨⟨by decide +kernel, by decide +kernel⟩, List.mem_of_getElem? (i := 191) (by decide +kernel), List.mem_of_getElem? (i := 758) (by decide +kernel), List.mem_of_getElem? (i := 759) (by decide +kernel)⟩
theorem lw_p23 : lw_okq (⟨"StoneWorks$Planner", "mayComeNext", "(II)Z"⟩, 18) := ⟨⟨by decide +kernel, by decide +kernel⟩, List.mem_of_getElem? (i := 191) (by decide +kernel), List.mem_of_getElem? (i := 762) (by decide +kernel), List.mem_of_getElem? (i := 763) (by decide +kernel)⟩
theorem lw_p24 : lw_okq (⟨"StoneWorks$Planner", "leastTaker", "(II)I"⟩, 18) := ⟨⟨by decide +kernel, by decide +kernel⟩, List.mem_of_getElem? (i := 191) (by decide +kernel), List.mem_of_getElem? (i := 766) (by decide +kernel), List.mem_of_getElem? (i := 767) (by decide +kernel)⟩
theorem lw_p25 : lw_okq (⟨"StoneWorks$Planner", "layDay", "(II)I"⟩, 18) := ⟨⟨by decide +kernel, by decide +kernel⟩, List.mem_of_getElem? (i := 191) (by decide +kernel), List.mem_of_getElem? (i := 770) (by decide +kernel), List.mem_of_getElem? (i := 771) (by decide +kernel)⟩
theorem lw_p26 : lw_okq (⟨"StoneWorks$Planner", "place", "(III)V"⟩, 18) := ⟨⟨by decide +kernel, by decide +kernel⟩, List.mem_of_getElem? (i := 191) (by decide +kernel), List.mem_of_getElem? (i := 774) (by decide +kernel), List.mem_of_getElem? (i := 775) (by decide +kernel)⟩
theorem lw_p27 : lw_okq (⟨"StoneWorks$Planner", "takeBack", "(II)V"⟩, 18) := ⟨⟨by decide +kernel, by decide +kernel⟩, List.mem_of_getElem? (i := 191) (by decide +kernel), List.mem_of_getElem? (i := 778) (by decide +kernel), List.mem_of_getElem? (i := 779) (by decide +kernel)⟩
theorem lw_p28 : lw_okq (⟨"StoneWorks$Planner", "seekOrder", "(II)Z"⟩, 18) := ⟨⟨by decide +kernel, by decide +kernel⟩, List.mem_of_getElem? (i := 191) (by decide +kernel), List.mem_of_getElem? (i := 782) (by decide +kernel), List.mem_of_getElem? (i := 783) (by decide +kernel)⟩
theorem lw_p29 : lw_okq (⟨"StoneWorks$Planner", "seekGangs", "(I)Z"⟩, 18) := ⟨⟨by decide +kernel, by decide +kernel⟩, List.mem_of_getElem? (i := 191) (by decide +kernel), List.mem_of_getElem? (i := 786) (by decide +kernel), List.mem_of_getElem? (i := 787) (by decide +kernel)⟩
theorem lw_p30 : lw_okq (⟨"StoneWorks$Planner", "keepPlan", "()V"⟩, 18) := ⟨⟨by decide +kernel, by decide +kernel⟩, List.mem_of_getElem? (i := 191) (by decide +kernel), List.mem_of_getElem? (i := 790) (by decide +kernel), List.mem_of_getElem? (i := 791) (by decide +kernel)⟩
theorem lw_p31 : lw_okq (⟨"StoneWorks$Tallies", "judge", "()V"⟩, 13) := ⟨⟨by decide +kernel, by decide +kernel⟩, List.mem_of_getElem? (i := 255) (by decide +kernel), List.mem_of_getElem? (i := 831) (by decide +kernel), List.mem_of_getElem? (i := 832) (by decide +kernel)⟩
def lw_privs_2 : List (MethodName × Nat) := [(⟨"StoneWorks$Planner", "gatherStones", "()Z"⟩, 18), (⟨"StoneWorks$Planner", "prepareWorks", "()V"⟩, 18), (⟨"StoneWorks$Planner", "leadOf", "(LStoneWorks$Stone;LStoneWorks$Gang;)I"⟩, 18), (⟨"StoneWorks$Planner", "menWanted", "(LStoneWorks$Stone;)I"⟩, 18), (⟨"StoneWorks$Planner", "findFloor", "()Z"⟩, 18), (⟨"StoneWorks$Planner", "readyDay", "(II)I"⟩, 18), (⟨"StoneWorks$Planner", "seekLeast", "(III)V"⟩, 18), (⟨"StoneWorks$Planner", "mayComeNext", "(II)Z"⟩, 18), (⟨"StoneWorks$Planner", "leastTaker", "(II)I"⟩, 18), (⟨"StoneWorks$Planner", "layDay", "(II)I"⟩, 18), (⟨"StoneWorks$Planner", "place", "(III)V"⟩, 18), (⟨"StoneWorks$Planner", "takeBack", "(II)V"⟩, 18), (⟨"StoneWorks$Planner", "seekOrder", "(II)Z"⟩, 18), (⟨"StoneWorks$Planner", "seekGangs", "(I)Z"⟩, 18), (⟨"StoneWorks$Planner", "keepPlan", "()V"⟩, 18), (⟨"StoneWorks$Tallies", "judge", "()V"⟩, 13)]
theorem lw_r2 : ∀ q ∈ lw_privs_2, lw_okq q := List.forall_mem_cons.mpr ⟨lw_p16, List.forall_mem_cons.mpr ⟨lw_p17, List.forall_mem_cons.mpr ⟨lw_p18, List.forall_mem_cons.mpr ⟨lw_p19, List.forall_mem_cons.mpr ⟨lw_p20, List.forall_mem_cons.mpr ⟨lw_p21, List.forall_mem_cons.mpr ⟨lw_p22, List.forall_mem_cons.mpr ⟨lw_p23, List.forall_mem_cons.mpr ⟨lw_p24, List.forall_mem_cons.mpr ⟨lw_p25, List.forall_mem_cons.mpr ⟨lw_p26, List.forall_mem_cons.mpr ⟨lw_p27, List.forall_mem_cons.mpr ⟨lw_p28, List.forall_mem_cons.mpr ⟨lw_p29, List.forall_mem_cons.mpr ⟨lw_p30, List.forall_mem_cons.mpr ⟨lw_p31, fun _ h => absurd h List.not_mem_nil⟩⟩⟩⟩⟩⟩⟩⟩⟩⟩⟩⟩⟩⟩⟩⟩
theorem lw_p32 : lw_okq (⟨"StoneWorks$Tallies", "agree", "(I)Z"⟩, 13) := ⟨⟨by decide +kernel, by decide +kernel⟩, List.mem_of_getElem? (i := 255) (by decide +kernel), List.mem_of_getElem? (i := 835) (by decide +kernel), List.mem_of_getElem? (i := 836) (by decide +kernel)⟩
theorem lw_p33 : lw_okq (⟨"StoneWorks$Tallies", "agreeOnGang", "(II)Z"⟩, 13) := ⟨⟨by decide +kernel, by decide +kernel⟩, List.mem_of_getElem? (i := 255) (by decide +kernel), List.mem_of_getElem? (i := 839) (by decide +kernel), List.mem_of_getElem? (i := 840) (by decide +kernel)⟩
theorem lw_p34 : lw_okq (⟨"StoneWorks$Tallies", "addBorder", "(I)V"⟩, 13) := ⟨⟨by decide +kernel, by decide +kernel⟩, List.mem_of_getElem? (i := 255) (by decide +kernel), List.mem_of_getElem? (i := 843) (by decide +kernel), List.mem_of_getElem? (i := 844) (by decide +kernel)⟩
theorem lw_p35 : lw_okq (⟨"StoneWorks$Tallies", "borderAt", "(I)I"⟩, 13) := ⟨⟨by decide +kernel, by decide +kernel⟩, List.mem_of_getElem? (i := 255) (by decide +kernel), List.mem_of_getElem? (i := 847) (by decide +kernel), List.mem_of_getElem? (i := 848) (by decide +kernel)⟩
theorem lw_p36 : lw_okq (⟨"StoneWorks$Tallies", "findBorders", "(I)V"⟩, 13) := ⟨⟨by decide +kernel, by decide +kernel⟩, List.mem_of_getElem? (i := 255) (by decide +kernel), List.mem_of_getElem? (i := 851) (by decide +kernel), List.mem_of_getElem? (i := 852) (by decide +kernel)⟩
theorem lw_p37 : lw_okq (⟨"StoneWorks$Tallies", "raiseNumbers", "(I)Z"⟩, 13) := ⟨⟨by decide +kernel, by decide +kernel⟩, List.mem_of_getElem? (i := 255) (by decide +kernel), List.mem_of_getElem? (i := 856) (by decide +kernel), List.mem_of_getElem? (i := 857) (by decide +kernel)⟩
theorem lw_p38 : lw_okq (⟨"StoneWorks$Tallies", "raiseTo", "(II)Z"⟩, 13) := ⟨⟨by decide +kernel, by decide +kernel⟩, List.mem_of_getElem? (i := 255) (by decide +kernel), List.mem_of_getElem? (i := 860) (by decide +kernel), List.mem_of_getElem? (i := 861) (by decide +kernel)⟩
theorem lw_p39 : lw_okq (⟨"StoneWorksModel", "put", "(I)V"⟩, 54) := ⟨⟨by decide +kernel, by decide +kernel⟩, List.mem_of_getElem? (i := 887) (by decide +kernel), List.mem_of_getElem? (i := 1080) (by decide +kernel), List.mem_of_getElem? (i := 1081) (by decide +kernel)⟩
theorem lw_p40 : lw_okq (⟨"StoneWorksModel", "isOver", "()Z"⟩, 54) := ⟨⟨by decide +kernel, by decide +kernel⟩, List.mem_of_getElem? (i := 887) (by decide +kernel), List.mem_of_getElem? (i := 1092) (by decide +kernel), List.mem_of_getElem? (i := 1093) (by decide +kernel)⟩
theorem lw_p41 : lw_okq (⟨"StoneWorksModel", "clause", "()V"⟩, 54) := ⟨⟨by decide +kernel, by decide +kernel⟩, List.mem_of_getElem? (i := 887) (by decide +kernel), List.mem_of_getElem? (i := 1096) (by decide +kernel), List.mem_of_getElem? (i := 1097) (by decide +kernel)⟩
theorem lw_p42 : lw_okq (⟨"StoneWorksModel", "isWord", "(Ljava/lang/String;)Z"⟩, 54) := ⟨⟨by decide +kernel, by decide +kernel⟩, List.mem_of_getElem? (i := 887) (by decide +kernel), List.mem_of_getElem? (i := 1111) (by decide +kernel), List.mem_of_getElem? (i := 1112) (by decide +kernel)⟩
theorem lw_p43 : lw_okq (⟨"StoneWorksModel", "fails", "(II)V"⟩, 54) := ⟨⟨by decide +kernel, by decide +kernel⟩, List.mem_of_getElem? (i := 887) (by decide +kernel), List.mem_of_getElem? (i := 1117) (by decide +kernel), List.mem_of_getElem? (i := 1118) (by decide +kernel)⟩
theorem lw_p44 : lw_okq (⟨"StoneWorksModel", "number", "(I)I"⟩, 54) := ⟨⟨by decide +kernel, by decide +kernel⟩, List.mem_of_getElem? (i := 887) (by decide +kernel), List.mem_of_getElem? (i := 1124) (by decide +kernel), List.mem_of_getElem? (i := 1125) (by decide +kernel)⟩
theorem lw_p45 : lw_okq (⟨"StoneWorksModel", "isEnd", "()Z"⟩, 54) := ⟨⟨by decide +kernel, by decide +kernel⟩, List.mem_of_getElem? (i := 887) (by decide +kernel), List.mem_of_getElem? (i := 1136) (by decide +kernel), List.mem_of_getElem? (i := 1137) (by decide +kernel)⟩
theorem lw_p46 : lw_okq (⟨"StoneWorksModel", "worker", "(I)I"⟩, 54) := ⟨⟨by decide +kernel, by decide +kernel⟩, List.mem_of_getElem? (i := 887) (by decide +kernel), List.mem_of_getElem? (i := 1140) (by decide +kernel), List.mem_of_getElem? (i := 1141) (by decide +kernel)⟩
theorem lw_p47 : lw_okq (⟨"StoneWorksModel", "is", "(II)Z"⟩, 54) := ⟨⟨by decide +kernel, by decide +kernel⟩, List.mem_of_getElem? (i := 887) (by decide +kernel), List.mem_of_getElem? (i := 1144) (by decide +kernel), List.mem_of_getElem? (i := 1145) (by decide +kernel)⟩
def lw_privs_3 : List (MethodName × Nat) := [(⟨"StoneWorks$Tallies", "agree", "(I)Z"⟩, 13), (⟨"StoneWorks$Tallies", "agreeOnGang", "(II)Z"⟩, 13), (⟨"StoneWorks$Tallies", "addBorder", "(I)V"⟩, 13), (⟨"StoneWorks$Tallies", "borderAt", "(I)I"⟩, 13), (⟨"StoneWorks$Tallies", "findBorders", "(I)V"⟩, 13), (⟨"StoneWorks$Tallies", "raiseNumbers", "(I)Z"⟩, 13), (⟨"StoneWorks$Tallies", "raiseTo", "(II)Z"⟩, 13), (⟨"StoneWorksModel", "put", "(I)V"⟩, 54), (⟨"StoneWorksModel", "isOver", "()Z"⟩, 54), (⟨"StoneWorksModel", "clause", "()V"⟩, 54), (⟨"StoneWorksModel", "isWord", "(Ljava/lang/String;)Z"⟩, 54), (⟨"StoneWorksModel", "fails", "(II)V"⟩, 54), (⟨"StoneWorksModel", "number", "(I)I"⟩, 54), (⟨"StoneWorksModel", "isEnd", "()Z"⟩, 54), (⟨"StoneWorksModel", "worker", "(I)I"⟩, 54), (⟨"StoneWorksModel", "is", "(II)Z"⟩, 54)]
theorem lw_r3 : ∀ q ∈ lw_privs_3, lw_okq q := List.forall_mem_cons.mpr ⟨lw_p32, List.forall_mem_cons.mpr ⟨lw_p33, List.forall_mem_cons.mpr ⟨lw_p34, List.forall_mem_cons.mpr ⟨lw_p35, List.forall_mem_cons.mpr ⟨lw_p36, List.forall_mem_cons.mpr ⟨lw_p37, List.forall_mem_cons.mpr ⟨lw_p38, List.forall_mem_cons.mpr ⟨lw_p39, List.forall_mem_cons.mpr ⟨lw_p40, List.forall_mem_cons.mpr ⟨lw_p41, List.forall_mem_cons.mpr ⟨lw_p42, List.forall_mem_cons.mpr ⟨lw_p43, List.forall_mem_cons.mpr ⟨lw_p44, List.forall_mem_cons.mpr ⟨lw_p45, List.forall_mem_cons.mpr ⟨lw_p46, List.forall_mem_cons.mpr ⟨lw_p47, fun _ h => absurd h List.not_mem_nil⟩⟩⟩⟩⟩⟩⟩⟩⟩⟩⟩⟩⟩⟩⟩⟩
theorem lw_p48 : lw_okq (⟨"StoneWorksModel", "pull", "(IIZ)I"⟩, 54) := ⟨⟨by decide +kernel, by decide +kernel⟩, List.mem_of_getElem? (i := 887) (by decide +kernel), List.mem_of_getElem? (i := 1148) (by decide +kernel), List.mem_of_getElem? (i := 1149) (by decide +kernel)⟩
theorem lw_p49 : lw_okq (⟨"StoneWorksModel", "lacksLesser", "(I)Z"⟩, 54) := ⟨⟨by decide +kernel, by decide +kernel⟩, List.mem_of_getElem? (i := 887) (by decide +kernel), List.mem_of_getElem? (i := 1152) (by decide +kernel), List.mem_of_getElem? (i := 1153) (by decide +kernel)⟩
theorem lw_p50 : lw_okq (⟨"StoneWorksModel", "rests", "(I)V"⟩, 54) := ⟨⟨by decide +kernel, by decide +kernel⟩, List.mem_of_getElem? (i := 887) (by decide +kernel), List.mem_of_getElem? (i := 1164) (by decide +kernel), List.mem_of_getElem? (i := 1165) (by decide +kernel)⟩
theorem lw_p51 : lw_okq (⟨"StoneWorksModel", "day", "()V"⟩, 54) := ⟨⟨by decide +kernel, by decide +kernel⟩, List.mem_of_getElem? (i := 887) (by decide +kernel), List.mem_of_getElem? (i := 1172) (by decide +kernel), List.mem_of_getElem? (i := 1173) (by decide +kernel)⟩
theorem lw_p52 : lw_okq (⟨"StoneWorksModel", "allMen", "()I"⟩, 54) := ⟨⟨by decide +kernel, by decide +kernel⟩, List.mem_of_getElem? (i := 887) (by decide +kernel), List.mem_of_getElem? (i := 1177) (by decide +kernel), List.mem_of_getElem? (i := 1178) (by decide +kernel)⟩
theorem lw_p53 : lw_okq (⟨"StoneWorksModel", "works", "(I)V"⟩, 54) := ⟨⟨by decide +kernel, by decide +kernel⟩, List.mem_of_getElem? (i := 887) (by decide +kernel), List.mem_of_getElem? (i := 1181) (by decide +kernel), List.mem_of_getElem? (i := 1182) (by decide +kernel)⟩
theorem lw_p54 : lw_okq (⟨"StoneWorksModel", "rivers", "()V"⟩, 54) := ⟨⟨by decide +kernel, by decide +kernel⟩, List.mem_of_getElem? (i := 887) (by decide +kernel), List.mem_of_getElem? (i := 1197) (by decide +kernel), List.mem_of_getElem? (i := 1198) (by decide +kernel)⟩
theorem lw_p55 : lw_okq (⟨"StoneWorksModel", "gangs", "(I)I"⟩, 54) := ⟨⟨by decide +kernel, by decide +kernel⟩, List.mem_of_getElem? (i := 887) (by decide +kernel), List.mem_of_getElem? (i := 1201) (by decide +kernel), List.mem_of_getElem? (i := 1202) (by decide +kernel)⟩
theorem lw_p56 : lw_okq (⟨"StoneWorksModel", "can", "(II)Z"⟩, 54) := ⟨⟨by decide +kernel, by decide +kernel⟩, List.mem_of_getElem? (i := 887) (by decide +kernel), List.mem_of_getElem? (i := 1205) (by decide +kernel), List.mem_of_getElem? (i := 1206) (by decide +kernel)⟩
theorem lw_p57 : lw_okq (⟨"StoneWorksModel", "lays", "(I)Z"⟩, 54) := ⟨⟨by decide +kernel, by decide +kernel⟩, List.mem_of_getElem? (i := 887) (by decide +kernel), List.mem_of_getElem? (i := 1209) (by decide +kernel), List.mem_of_getElem? (i := 1210) (by decide +kernel)⟩
theorem lw_p58 : lw_okq (⟨"StoneWorksModel", "raftFrom", "(I)I"⟩, 54) := ⟨⟨by decide +kernel, by decide +kernel⟩, List.mem_of_getElem? (i := 887) (by decide +kernel), List.mem_of_getElem? (i := 1213) (by decide +kernel), List.mem_of_getElem? (i := 1214) (by decide +kernel)⟩
theorem lw_p59 : lw_okq (⟨"StoneWorksModel", "goesOn", "([II)Z"⟩, 54) := ⟨⟨by decide +kernel, by decide +kernel⟩, List.mem_of_getElem? (i := 887) (by decide +kernel), List.mem_of_getElem? (i := 1217) (by decide +kernel), List.mem_of_getElem? (i := 1218) (by decide +kernel)⟩
theorem lw_p60 : lw_okq (⟨"StoneWorksModel", "canBe", "()Z"⟩, 54) := ⟨⟨by decide +kernel, by decide +kernel⟩, List.mem_of_getElem? (i := 887) (by decide +kernel), List.mem_of_getElem? (i := 1237) (by decide +kernel), List.mem_of_getElem? (i := 1238) (by decide +kernel)⟩
theorem lw_p61 : lw_okq (⟨"StoneWorksModel", "canBe", "(I)Z"⟩, 54) := ⟨⟨by decide +kernel, by decide +kernel⟩, List.mem_of_getElem? (i := 887) (by decide +kernel), List.mem_of_getElem? (i := 1241) (by decide +kernel), List.mem_of_getElem? (i := 1242) (by decide +kernel)⟩
theorem lw_p62 : lw_okq (⟨"StoneWorksModel", "pointOf", "(I)I"⟩, 54) := ⟨⟨by decide +kernel, by decide +kernel⟩, List.mem_of_getElem? (i := 887) (by decide +kernel), List.mem_of_getElem? (i := 1245) (by decide +kernel), List.mem_of_getElem? (i := 1246) (by decide +kernel)⟩
def lw_privs_4 : List (MethodName × Nat) := [(⟨"StoneWorksModel", "pull", "(IIZ)I"⟩, 54), (⟨"StoneWorksModel", "lacksLesser", "(I)Z"⟩, 54), (⟨"StoneWorksModel", "rests", "(I)V"⟩, 54), (⟨"StoneWorksModel", "day", "()V"⟩, 54), (⟨"StoneWorksModel", "allMen", "()I"⟩, 54), (⟨"StoneWorksModel", "works", "(I)V"⟩, 54), (⟨"StoneWorksModel", "rivers", "()V"⟩, 54), (⟨"StoneWorksModel", "gangs", "(I)I"⟩, 54), (⟨"StoneWorksModel", "can", "(II)Z"⟩, 54), (⟨"StoneWorksModel", "lays", "(I)Z"⟩, 54), (⟨"StoneWorksModel", "raftFrom", "(I)I"⟩, 54), (⟨"StoneWorksModel", "goesOn", "([II)Z"⟩, 54), (⟨"StoneWorksModel", "canBe", "()Z"⟩, 54), (⟨"StoneWorksModel", "canBe", "(I)Z"⟩, 54), (⟨"StoneWorksModel", "pointOf", "(I)I"⟩, 54)]
theorem lw_r4 : ∀ q ∈ lw_privs_4, lw_okq q := List.forall_mem_cons.mpr ⟨lw_p48, List.forall_mem_cons.mpr ⟨lw_p49, List.forall_mem_cons.mpr ⟨lw_p50, List.forall_mem_cons.mpr ⟨lw_p51, List.forall_mem_cons.mpr ⟨lw_p52, List.forall_mem_cons.mpr ⟨lw_p53, List.forall_mem_cons.mpr ⟨lw_p54, List.forall_mem_cons.mpr ⟨lw_p55, List.forall_mem_cons.mpr ⟨lw_p56, List.forall_mem_cons.mpr ⟨lw_p57, List.forall_mem_cons.mpr ⟨lw_p58, List.forall_mem_cons.mpr ⟨lw_p59, List.forall_mem_cons.mpr ⟨lw_p60, List.forall_mem_cons.mpr ⟨lw_p61, List.forall_mem_cons.mpr ⟨lw_p62, fun _ h => absurd h List.not_mem_nil⟩⟩⟩⟩⟩⟩⟩⟩⟩⟩⟩⟩⟩⟩⟩
def lw_privs : List (MethodName × Nat) := lw_privs_1 ++ (lw_privs_2 ++ (lw_privs_3 ++ (lw_privs_4)))
def lw_tbl : List Cond := k2_sels lw_privs ++ tables_1
theorem lw_privs_ok : ∀ q ∈ lw_privs, lw_okq q := by
  show ∀ q ∈ lw_privs_1 ++ (lw_privs_2 ++ (lw_privs_3 ++ (lw_privs_4))), lw_okq q
  exact List.forall_mem_append.mpr ⟨lw_r1, List.forall_mem_append.mpr ⟨lw_r2, List.forall_mem_append.mpr ⟨lw_r3, lw_r4⟩⟩⟩
end
section
def RX0 : String := "StoneWorks$Gang"
def TX0 : u_T := fun k => match k with
  | 0 => ("StoneWorks$Gang", "men", "I", true)
  | 1 => ("StoneWorks$Gang", "work", "I", false)
  | 2 => ("StoneWorks$Gang", "left", "I", false)
  | 3 => ("StoneWorks$Gang", "laid", "I", false)
  | _ => ("StoneWorks$Gang", "stillDays", "I", false)
def tyX0 : Nat → FieldType := fun k => match k with
  | 0 => .int
  | 1 => .int
  | 2 => .int
  | 3 => .int
  | _ => .int
abbrev wsX00 : List Cond := u_ws RX0 TX0 5
theorem nmX0 : ∀ a, a < 5 → ∀ b, b < 5 → a ≠ b → (TX0 a).2.1 ≠ (TX0 b).2.1 := by decide +kernel
theorem tyX0_ok : ∀ k, k < 5 → parseFieldDescriptor (TX0 k).2.2.1 = some (tyX0 k) := by decide +kernel
abbrev cX0_init : ByteArray := prog_2_method_1_code
def yX0_init : MethodName := ⟨RX0, "<init>", "(I)V"⟩
abbrev cX0_takeWork : ByteArray := prog_2_method_2_code
def yX0_takeWork : MethodName := ⟨RX0, "takeWork", "(II)V"⟩
abbrev cX0_dropWork : ByteArray := prog_2_method_3_code
def yX0_dropWork : MethodName := ⟨RX0, "dropWork", "()V"⟩
def RX1 : String := "StoneWorks$Planner"
def TX1 : u_T := fun k => match k with
  | 0 => ("StoneWorks$Planner", "site", "LStoneWorks$Site;", true)
  | 1 => ("StoneWorks$Planner", "rules", "LStoneWorks$Table;", true)
  | 2 => ("StoneWorks$Planner", "seasons", "LStoneWorks$Seasons;", true)
  | 3 => ("StoneWorks$Planner", "stones", "[LStoneWorks$Stone;", true)
  | 4 => ("StoneWorks$Planner", "numberOf", "[I", true)
  | 5 => ("StoneWorks$Planner", "size", "I", false)
  | 6 => ("StoneWorks$Planner", "leadDays", "[[I", true)
  | 7 => ("StoneWorks$Planner", "rampDays", "[I", true)
  | 8 => ("StoneWorks$Planner", "lesserOnes", "[I", true)
  | 9 => ("StoneWorks$Planner", "order", "[I", true)
  | 10 => ("StoneWorks$Planner", "takerOf", "[I", true)
  | 11 => ("StoneWorks$Planner", "beginOf", "[I", true)
  | 12 => ("StoneWorks$Planner", "layDayOf", "[I", true)
  | 13 => ("StoneWorks$Planner", "freeFrom", "[I", true)
  | 14 => ("StoneWorks$Planner", "least", "I", false)
  | 15 => ("StoneWorks$Planner", "floor", "I", false)
  | 16 => ("StoneWorks$Planner", "told", "[[I", true)
  | _ => ("StoneWorks$Planner", "toldSize", "I", false)
def tyX1 : Nat → FieldType := fun k => match k with
  | 0 => .object "StoneWorks$Site"
  | 1 => .object "StoneWorks$Table"
  | 2 => .object "StoneWorks$Seasons"
  | 3 => .array (.object "StoneWorks$Stone")
  | 4 => .array .int
  | 5 => .int
  | 6 => .array (.array .int)
  | 7 => .array .int
  | 8 => .array .int
  | 9 => .array .int
  | 10 => .array .int
  | 11 => .array .int
  | 12 => .array .int
  | 13 => .array .int
  | 14 => .int
  | 15 => .int
  | 16 => .array (.array .int)
  | _ => .int
abbrev wsX10 : List Cond := u_ws RX1 TX1 18
theorem nmX1 : ∀ a, a < 18 → ∀ b, b < 18 → a ≠ b → (TX1 a).2.1 ≠ (TX1 b).2.1 := by decide +kernel
theorem tyX1_ok : ∀ k, k < 18 → parseFieldDescriptor (TX1 k).2.2.1 = some (tyX1 k) := by decide +kernel
abbrev cX1_init : ByteArray := prog_3_method_1_code
def yX1_init : MethodName := ⟨RX1, "<init>", "(LStoneWorks$Site;LStoneWorks$Table;LStoneWorks$Seasons;)V"⟩
abbrev cX1_tell : ByteArray := prog_3_method_2_code
def yX1_tell : MethodName := ⟨RX1, "tell", "(II)I"⟩
abbrev cX1_makePlan : ByteArray := prog_3_method_3_code
def yX1_makePlan : MethodName := ⟨RX1, "makePlan", "()I"⟩
abbrev cX1_gatherStones : ByteArray := prog_3_method_4_code
def yX1_gatherStones : MethodName := ⟨RX1, "gatherStones", "()Z"⟩
abbrev cX1_prepareWorks : ByteArray := prog_3_method_5_code
def yX1_prepareWorks : MethodName := ⟨RX1, "prepareWorks", "()V"⟩
abbrev cX1_leadOf : ByteArray := prog_3_method_6_code
def yX1_leadOf : MethodName := ⟨RX1, "leadOf", "(LStoneWorks$Stone;LStoneWorks$Gang;)I"⟩
abbrev cX1_menWanted : ByteArray := prog_3_method_7_code
def yX1_menWanted : MethodName := ⟨RX1, "menWanted", "(LStoneWorks$Stone;)I"⟩
abbrev cX1_readyDay : ByteArray := prog_3_method_8_code
def yX1_readyDay : MethodName := ⟨RX1, "readyDay", "(II)I"⟩
abbrev cX1_layDay : ByteArray := prog_3_method_9_code
def yX1_layDay : MethodName := ⟨RX1, "layDay", "(II)I"⟩
abbrev cX1_findFloor : ByteArray := prog_3_method_10_code
def yX1_findFloor : MethodName := ⟨RX1, "findFloor", "()Z"⟩
abbrev cX1_place : ByteArray := prog_3_method_11_code
def yX1_place : MethodName := ⟨RX1, "place", "(III)V"⟩
abbrev cX1_takeBack : ByteArray := prog_3_method_12_code
def yX1_takeBack : MethodName := ⟨RX1, "takeBack", "(II)V"⟩
abbrev cX1_seekLeast : ByteArray := prog_3_method_13_code
def yX1_seekLeast : MethodName := ⟨RX1, "seekLeast", "(III)V"⟩
abbrev cX1_mayComeNext : ByteArray := prog_3_method_14_code
def yX1_mayComeNext : MethodName := ⟨RX1, "mayComeNext", "(II)Z"⟩
abbrev cX1_leastTaker : ByteArray := prog_3_method_15_code
def yX1_leastTaker : MethodName := ⟨RX1, "leastTaker", "(II)I"⟩
abbrev cX1_seekOrder : ByteArray := prog_3_method_16_code
def yX1_seekOrder : MethodName := ⟨RX1, "seekOrder", "(II)Z"⟩
abbrev cX1_seekGangs : ByteArray := prog_3_method_17_code
def yX1_seekGangs : MethodName := ⟨RX1, "seekGangs", "(I)Z"⟩
abbrev cX1_keepPlan : ByteArray := prog_3_method_18_code
def yX1_keepPlan : MethodName := ⟨RX1, "keepPlan", "()V"⟩
def RX2 : String := "StoneWorks$Seasons"
def TX2 : u_T := fun k => match k with
  | 0 => ("StoneWorks$Seasons", "kindOf", "[I", true)
  | 1 => ("StoneWorks$Seasons", "firstOf", "[I", true)
  | 2 => ("StoneWorks$Seasons", "lastOf", "[I", true)
  | 3 => ("StoneWorks$Seasons", "spells", "I", false)
  | 4 => ("StoneWorks$Seasons", "runFirst", "[I", true)
  | 5 => ("StoneWorks$Seasons", "runLast", "[I", true)
  | _ => ("StoneWorks$Seasons", "runs", "I", false)
def tyX2 : Nat → FieldType := fun k => match k with
  | 0 => .array .int
  | 1 => .array .int
  | 2 => .array .int
  | 3 => .int
  | 4 => .array .int
  | 5 => .array .int
  | _ => .int
abbrev wsX20 : List Cond := u_ws RX2 TX2 7
theorem nmX2 : ∀ a, a < 7 → ∀ b, b < 7 → a ≠ b → (TX2 a).2.1 ≠ (TX2 b).2.1 := by decide +kernel
theorem tyX2_ok : ∀ k, k < 7 → parseFieldDescriptor (TX2 k).2.2.1 = some (tyX2 k) := by decide +kernel
abbrev cX2_init : ByteArray := prog_4_method_1_code
def yX2_init : MethodName := ⟨RX2, "<init>", "()V"⟩
abbrev cX2_addSpell : ByteArray := prog_4_method_2_code
def yX2_addSpell : MethodName := ⟨RX2, "addSpell", "(III)I"⟩
abbrev cX2_addRun : ByteArray := prog_4_method_3_code
def yX2_addRun : MethodName := ⟨RX2, "addRun", "(II)V"⟩
abbrev cX2_isOn : ByteArray := prog_4_method_4_code
def yX2_isOn : MethodName := ⟨RX2, "isOn", "(II)Z"⟩
abbrev cX2_firstRaftDay : ByteArray := prog_4_method_5_code
def yX2_firstRaftDay : MethodName := ⟨RX2, "firstRaftDay", "(II)I"⟩
def RX3 : String := "StoneWorks$Site"
def TX3 : u_T := fun k => match k with
  | 0 => ("StoneWorks$Site", "rules", "LStoneWorks$Table;", true)
  | 1 => ("StoneWorks$Site", "seasons", "LStoneWorks$Seasons;", true)
  | 2 => ("StoneWorks$Site", "stores", "LStoneWorks$Stores;", true)
  | 3 => ("StoneWorks$Site", "gangs", "[LStoneWorks$Gang;", true)
  | 4 => ("StoneWorks$Site", "stones", "[LStoneWorks$Stone;", true)
  | 5 => ("StoneWorks$Site", "gangCount", "I", false)
  | 6 => ("StoneWorks$Site", "stoneCount", "I", false)
  | 7 => ("StoneWorks$Site", "allMen", "I", false)
  | 8 => ("StoneWorks$Site", "rampHigh", "I", false)
  | 9 => ("StoneWorks$Site", "now", "I", false)
  | _ => ("StoneWorks$Site", "hungerDays", "I", false)
def tyX3 : Nat → FieldType := fun k => match k with
  | 0 => .object "StoneWorks$Table"
  | 1 => .object "StoneWorks$Seasons"
  | 2 => .object "StoneWorks$Stores"
  | 3 => .array (.object "StoneWorks$Gang")
  | 4 => .array (.object "StoneWorks$Stone")
  | 5 => .int
  | 6 => .int
  | 7 => .int
  | 8 => .int
  | 9 => .int
  | _ => .int
abbrev wsX30 : List Cond := u_ws RX3 TX3 11
theorem nmX3 : ∀ a, a < 11 → ∀ b, b < 11 → a ≠ b → (TX3 a).2.1 ≠ (TX3 b).2.1 := by decide +kernel
theorem tyX3_ok : ∀ k, k < 11 → parseFieldDescriptor (TX3 k).2.2.1 = some (tyX3 k) := by decide +kernel
abbrev cX3_init : ByteArray := prog_5_method_1_code
def yX3_init : MethodName := ⟨RX3, "<init>", "(LStoneWorks$Table;LStoneWorks$Seasons;LStoneWorks$Stores;)V"⟩
abbrev cX3_addGang : ByteArray := prog_5_method_2_code
def yX3_addGang : MethodName := ⟨RX3, "addGang", "(I)I"⟩
abbrev cX3_addStone : ByteArray := prog_5_method_3_code
def yX3_addStone : MethodName := ⟨RX3, "addStone", "(II)I"⟩
abbrev cX3_gangAt : ByteArray := prog_5_method_4_code
def yX3_gangAt : MethodName := ⟨RX3, "gangAt", "(I)LStoneWorks$Gang;"⟩
abbrev cX3_stoneAt : ByteArray := prog_5_method_5_code
def yX3_stoneAt : MethodName := ⟨RX3, "stoneAt", "(I)LStoneWorks$Stone;"⟩
abbrev cX3_stonesThatAre : ByteArray := prog_5_method_6_code
def yX3_stonesThatAre : MethodName := ⟨RX3, "stonesThatAre", "(I)I"⟩
abbrev cX3_stonesLaidBy : ByteArray := prog_5_method_7_code
def yX3_stonesLaidBy : MethodName := ⟨RX3, "stonesLaidBy", "(III)I"⟩
abbrev cX3_sendToStone : ByteArray := prog_5_method_8_code
def yX3_sendToStone : MethodName := ⟨RX3, "sendToStone", "(II)I"⟩
abbrev cX3_hindranceOfNext : ByteArray := prog_5_method_9_code
def yX3_hindranceOfNext : MethodName := ⟨RX3, "hindranceOfNext", "(LStoneWorks$Gang;LStoneWorks$Stone;)I"⟩
abbrev cX3_waitsForLesser : ByteArray := prog_5_method_10_code
def yX3_waitsForLesser : MethodName := ⟨RX3, "waitsForLesser", "(LStoneWorks$Stone;)Z"⟩
abbrev cX3_sendToRamp : ByteArray := prog_5_method_11_code
def yX3_sendToRamp : MethodName := ⟨RX3, "sendToRamp", "(I)I"⟩
abbrev cX3_isRampRaised : ByteArray := prog_5_method_12_code
def yX3_isRampRaised : MethodName := ⟨RX3, "isRampRaised", "()Z"⟩
abbrev cX3_stopWork : ByteArray := prog_5_method_13_code
def yX3_stopWork : MethodName := ⟨RX3, "stopWork", "(I)Z"⟩
abbrev cX3_leaveWork : ByteArray := prog_5_method_14_code
def yX3_leaveWork : MethodName := ⟨RX3, "leaveWork", "(LStoneWorks$Gang;)V"⟩
abbrev cX3_liveDay : ByteArray := prog_5_method_15_code
def yX3_liveDay : MethodName := ⟨RX3, "liveDay", "()V"⟩
abbrev cX3_isRafting : ByteArray := prog_5_method_16_code
def yX3_isRafting : MethodName := ⟨RX3, "isRafting", "(LStoneWorks$Gang;)Z"⟩
abbrev cX3_workOneDay : ByteArray := prog_5_method_17_code
def yX3_workOneDay : MethodName := ⟨RX3, "workOneDay", "(IZ)V"⟩
abbrev cX3_isTooHeavy : ByteArray := prog_5_method_18_code
def yX3_isTooHeavy : MethodName := ⟨RX3, "isTooHeavy", "(ILStoneWorks$Gang;)Z"⟩
abbrev cX3_bringFurther : ByteArray := prog_5_method_19_code
def yX3_bringFurther : MethodName := ⟨RX3, "bringFurther", "(LStoneWorks$Stone;I)V"⟩
def RX4 : String := "StoneWorks$Stone"
def TX4 : u_T := fun k => match k with
  | 0 => ("StoneWorks$Stone", "weight", "I", true)
  | 1 => ("StoneWorks$Stone", "course", "I", true)
  | 2 => ("StoneWorks$Stone", "state", "I", false)
  | 3 => ("StoneWorks$Stone", "worker", "I", false)
  | 4 => ("StoneWorks$Stone", "mark", "I", false)
  | _ => ("StoneWorks$Stone", "laidOn", "I", false)
def tyX4 : Nat → FieldType := fun k => match k with
  | 0 => .int
  | 1 => .int
  | 2 => .int
  | 3 => .int
  | 4 => .int
  | _ => .int
abbrev wsX40 : List Cond := u_ws RX4 TX4 6
theorem nmX4 : ∀ a, a < 6 → ∀ b, b < 6 → a ≠ b → (TX4 a).2.1 ≠ (TX4 b).2.1 := by decide +kernel
theorem tyX4_ok : ∀ k, k < 6 → parseFieldDescriptor (TX4 k).2.2.1 = some (tyX4 k) := by decide +kernel
abbrev cX4_init : ByteArray := prog_6_method_1_code
def yX4_init : MethodName := ⟨RX4, "<init>", "(II)V"⟩
abbrev cX4_isDone : ByteArray := prog_6_method_2_code
def yX4_isDone : MethodName := ⟨RX4, "isDone", "()Z"⟩
abbrev cX4_wantsHaul : ByteArray := prog_6_method_3_code
def yX4_wantsHaul : MethodName := ⟨RX4, "wantsHaul", "()Z"⟩
def RX5 : String := "StoneWorks$Stores"
def TX5 : u_T := fun k => match k with
  | 0 => ("StoneWorks$Stores", "dayOf", "[I", true)
  | 1 => ("StoneWorks$Stores", "loadOf", "[I", true)
  | 2 => ("StoneWorks$Stores", "boats", "I", false)
  | _ => ("StoneWorks$Stores", "food", "I", false)
def tyX5 : Nat → FieldType := fun k => match k with
  | 0 => .array .int
  | 1 => .array .int
  | 2 => .int
  | _ => .int
abbrev wsX50 : List Cond := u_ws RX5 TX5 4
theorem nmX5 : ∀ a, a < 4 → ∀ b, b < 4 → a ≠ b → (TX5 a).2.1 ≠ (TX5 b).2.1 := by decide +kernel
theorem tyX5_ok : ∀ k, k < 4 → parseFieldDescriptor (TX5 k).2.2.1 = some (tyX5 k) := by decide +kernel
abbrev cX5_init : ByteArray := prog_7_method_1_code
def yX5_init : MethodName := ⟨RX5, "<init>", "()V"⟩
abbrev cX5_addBoat : ByteArray := prog_7_method_2_code
def yX5_addBoat : MethodName := ⟨RX5, "addBoat", "(II)I"⟩
abbrev cX5_landBoats : ByteArray := prog_7_method_3_code
def yX5_landBoats : MethodName := ⟨RX5, "landBoats", "(I)V"⟩
def RX6 : String := "StoneWorks$Table"
def TX6 : u_T := fun k => match k with
  | _ => ("StoneWorks$Table", "numbers", "[I", true)
def tyX6 : Nat → FieldType := fun k => match k with
  | _ => .array .int
abbrev wsX60 : List Cond := u_ws RX6 TX6 1
theorem nmX6 : ∀ a, a < 1 → ∀ b, b < 1 → a ≠ b → (TX6 a).2.1 ≠ (TX6 b).2.1 := by decide +kernel
theorem tyX6_ok : ∀ k, k < 1 → parseFieldDescriptor (TX6 k).2.2.1 = some (tyX6 k) := by decide +kernel
abbrev cX6_init : ByteArray := prog_8_method_1_code
def yX6_init : MethodName := ⟨RX6, "<init>", "()V"⟩
abbrev cX6_takeNumbers : ByteArray := prog_8_method_2_code
def yX6_takeNumbers : MethodName := ⟨RX6, "takeNumbers", "([I)V"⟩
abbrev cX6_numberAt : ByteArray := prog_8_method_3_code
def yX6_numberAt : MethodName := ⟨RX6, "numberAt", "(I)I"⟩
abbrev cX6_pullOf : ByteArray := prog_8_method_4_code
def yX6_pullOf : MethodName := ⟨RX6, "pullOf", "(LStoneWorks$Stone;Z)I"⟩
abbrev cX6_pullOfWeight : ByteArray := prog_8_method_5_code
def yX6_pullOfWeight : MethodName := ⟨RX6, "pullOfWeight", "(II)I"⟩
abbrev cX6_lengthOfNext : ByteArray := prog_8_method_6_code
def yX6_lengthOfNext : MethodName := ⟨RX6, "lengthOfNext", "(LStoneWorks$Stone;)I"⟩
def RX7 : String := "StoneWorks$TableReader"
def TX7 : u_T := fun k => match k with
  | 0 => ("StoneWorks$TableReader", "tape", "LStoneWorks$Tape;", true)
  | 1 => ("StoneWorks$TableReader", "numbers", "[I", true)
  | 2 => ("StoneWorks$TableReader", "clauses", "I", false)
  | 3 => ("StoneWorks$TableReader", "toldOnes", "I", false)
  | 4 => ("StoneWorks$TableReader", "place", "I", false)
  | _ => ("StoneWorks$TableReader", "fault", "I", false)
def tyX7 : Nat → FieldType := fun k => match k with
  | 0 => .object "StoneWorks$Tape"
  | 1 => .array .int
  | 2 => .int
  | 3 => .int
  | 4 => .int
  | _ => .int
abbrev wsX70 : List Cond := u_ws RX7 TX7 6
theorem nmX7 : ∀ a, a < 6 → ∀ b, b < 6 → a ≠ b → (TX7 a).2.1 ≠ (TX7 b).2.1 := by decide +kernel
theorem tyX7_ok : ∀ k, k < 6 → parseFieldDescriptor (TX7 k).2.2.1 = some (tyX7 k) := by decide +kernel
abbrev cX7_init : ByteArray := prog_9_method_1_code
def yX7_init : MethodName := ⟨RX7, "<init>", "(LStoneWorks$Tape;)V"⟩
abbrev cX7_readTape : ByteArray := prog_9_method_2_code
def yX7_readTape : MethodName := ⟨RX7, "readTape", "()I"⟩
abbrev cX7_begin : ByteArray := prog_9_method_3_code
def yX7_begin : MethodName := ⟨RX7, "begin", "()V"⟩
abbrev cX7_readClause : ByteArray := prog_9_method_4_code
def yX7_readClause : MethodName := ⟨RX7, "readClause", "()Z"⟩
abbrev cX7_readWord : ByteArray := prog_9_method_5_code
def yX7_readWord : MethodName := ⟨RX7, "readWord", "()I"⟩
abbrev cX7_clauseAt : ByteArray := prog_9_method_6_code
def yX7_clauseAt : MethodName := ⟨RX7, "clauseAt", "(I)I"⟩
abbrev cX7_wordOf : ByteArray := prog_9_method_7_code
def yX7_wordOf : MethodName := ⟨RX7, "wordOf", "(I)Ljava/lang/String;"⟩
abbrev cX7_readNumber : ByteArray := prog_9_method_8_code
def yX7_readNumber : MethodName := ⟨RX7, "readNumber", "(I)Z"⟩
abbrev cX7_skipBlanks : ByteArray := prog_9_method_9_code
def yX7_skipBlanks : MethodName := ⟨RX7, "skipBlanks", "()V"⟩
abbrev cX7_fail : ByteArray := prog_9_method_10_code
def yX7_fail : MethodName := ⟨RX7, "fail", "(II)Z"⟩
def RX8 : String := "StoneWorks$Tallies"
def TX8 : u_T := fun k => match k with
  | 0 => ("StoneWorks$Tallies", "site", "LStoneWorks$Site;", true)
  | 1 => ("StoneWorks$Tallies", "gangOf", "[I", true)
  | 2 => ("StoneWorks$Tallies", "fromOf", "[I", true)
  | 3 => ("StoneWorks$Tallies", "toOf", "[I", true)
  | 4 => ("StoneWorks$Tallies", "stonesOf", "[I", true)
  | 5 => ("StoneWorks$Tallies", "size", "I", false)
  | 6 => ("StoneWorks$Tallies", "quarrelling", "I", false)
  | 7 => ("StoneWorks$Tallies", "judged", "I", false)
  | 8 => ("StoneWorks$Tallies", "borders", "[I", true)
  | 9 => ("StoneWorks$Tallies", "laidAhead", "[I", true)
  | 10 => ("StoneWorks$Tallies", "borderCount", "I", false)
  | 11 => ("StoneWorks$Tallies", "beginsAt", "[I", true)
  | _ => ("StoneWorks$Tallies", "endsAt", "[I", true)
def tyX8 : Nat → FieldType := fun k => match k with
  | 0 => .object "StoneWorks$Site"
  | 1 => .array .int
  | 2 => .array .int
  | 3 => .array .int
  | 4 => .array .int
  | 5 => .int
  | 6 => .int
  | 7 => .int
  | 8 => .array .int
  | 9 => .array .int
  | 10 => .int
  | 11 => .array .int
  | _ => .array .int
abbrev wsX80 : List Cond := u_ws RX8 TX8 13
theorem nmX8 : ∀ a, a < 13 → ∀ b, b < 13 → a ≠ b → (TX8 a).2.1 ≠ (TX8 b).2.1 := by decide +kernel
theorem tyX8_ok : ∀ k, k < 13 → parseFieldDescriptor (TX8 k).2.2.1 = some (tyX8 k) := by decide +kernel
abbrev cX8_init : ByteArray := prog_10_method_1_code
def yX8_init : MethodName := ⟨RX8, "<init>", "(LStoneWorks$Site;)V"⟩
abbrev cX8_addTally : ByteArray := prog_10_method_2_code
def yX8_addTally : MethodName := ⟨RX8, "addTally", "(IIII)I"⟩
abbrev cX8_tellTruth : ByteArray := prog_10_method_3_code
def yX8_tellTruth : MethodName := ⟨RX8, "tellTruth", "(I)I"⟩
abbrev cX8_quarrelSize : ByteArray := prog_10_method_4_code
def yX8_quarrelSize : MethodName := ⟨RX8, "quarrelSize", "()I"⟩
abbrev cX8_quarrelMember : ByteArray := prog_10_method_5_code
def yX8_quarrelMember : MethodName := ⟨RX8, "quarrelMember", "(I)I"⟩
abbrev cX8_judge : ByteArray := prog_10_method_6_code
def yX8_judge : MethodName := ⟨RX8, "judge", "()V"⟩
abbrev cX8_agree : ByteArray := prog_10_method_7_code
def yX8_agree : MethodName := ⟨RX8, "agree", "(I)Z"⟩
abbrev cX8_agreeOnGang : ByteArray := prog_10_method_8_code
def yX8_agreeOnGang : MethodName := ⟨RX8, "agreeOnGang", "(II)Z"⟩
abbrev cX8_addBorder : ByteArray := prog_10_method_9_code
def yX8_addBorder : MethodName := ⟨RX8, "addBorder", "(I)V"⟩
abbrev cX8_borderAt : ByteArray := prog_10_method_10_code
def yX8_borderAt : MethodName := ⟨RX8, "borderAt", "(I)I"⟩
abbrev cX8_findBorders : ByteArray := prog_10_method_11_code
def yX8_findBorders : MethodName := ⟨RX8, "findBorders", "(I)V"⟩
abbrev cX8_raiseNumbers : ByteArray := prog_10_method_12_code
def yX8_raiseNumbers : MethodName := ⟨RX8, "raiseNumbers", "(I)Z"⟩
abbrev cX8_raiseTo : ByteArray := prog_10_method_13_code
def yX8_raiseTo : MethodName := ⟨RX8, "raiseTo", "(II)Z"⟩
def RX9 : String := "StoneWorks$Tape"
def TX9 : u_T := fun k => match k with
  | 0 => ("StoneWorks$Tape", "bytes", "[B", true)
  | _ => ("StoneWorks$Tape", "length", "I", false)
def tyX9 : Nat → FieldType := fun k => match k with
  | 0 => .array .byte
  | _ => .int
abbrev wsX90 : List Cond := u_ws RX9 TX9 2
theorem nmX9 : ∀ a, a < 2 → ∀ b, b < 2 → a ≠ b → (TX9 a).2.1 ≠ (TX9 b).2.1 := by decide +kernel
theorem tyX9_ok : ∀ k, k < 2 → parseFieldDescriptor (TX9 k).2.2.1 = some (tyX9 k) := by decide +kernel
abbrev cX9_init : ByteArray := prog_11_method_1_code
def yX9_init : MethodName := ⟨RX9, "<init>", "()V"⟩
abbrev cX9_hasRoom : ByteArray := prog_11_method_2_code
def yX9_hasRoom : MethodName := ⟨RX9, "hasRoom", "()Z"⟩
abbrev cX9_putNumber : ByteArray := prog_11_method_3_code
def yX9_putNumber : MethodName := ⟨RX9, "putNumber", "(I)V"⟩
abbrev cX9_keepFirst : ByteArray := prog_11_method_4_code
def yX9_keepFirst : MethodName := ⟨RX9, "keepFirst", "(I)I"⟩
abbrev cX9_byteAt : ByteArray := prog_11_method_5_code
def yX9_byteAt : MethodName := ⟨RX9, "byteAt", "(I)I"⟩
abbrev cX9_isLetter : ByteArray := prog_11_method_6_code
def yX9_isLetter : MethodName := ⟨RX9, "isLetter", "(I)Z"⟩
abbrev cX9_isDigit : ByteArray := prog_11_method_7_code
def yX9_isDigit : MethodName := ⟨RX9, "isDigit", "(I)Z"⟩
abbrev cX9_hasWord : ByteArray := prog_11_method_8_code
def yX9_hasWord : MethodName := ⟨RX9, "hasWord", "(IILjava/lang/String;)Z"⟩
def RX10 : String := "StoneWorks"
def TX10 : u_T := fun k => match k with
  | 0 => ("StoneWorks", "seasons", "LStoneWorks$Seasons;", true)
  | 1 => ("StoneWorks", "stores", "LStoneWorks$Stores;", true)
  | 2 => ("StoneWorks", "tape", "LStoneWorks$Tape;", true)
  | 3 => ("StoneWorks", "rules", "LStoneWorks$Table;", true)
  | 4 => ("StoneWorks", "reader", "LStoneWorks$TableReader;", true)
  | 5 => ("StoneWorks", "site", "LStoneWorks$Site;", true)
  | 6 => ("StoneWorks", "planner", "LStoneWorks$Planner;", true)
  | _ => ("StoneWorks", "tallies", "LStoneWorks$Tallies;", true)
def tyX10 : Nat → FieldType := fun k => match k with
  | 0 => .object "StoneWorks$Seasons"
  | 1 => .object "StoneWorks$Stores"
  | 2 => .object "StoneWorks$Tape"
  | 3 => .object "StoneWorks$Table"
  | 4 => .object "StoneWorks$TableReader"
  | 5 => .object "StoneWorks$Site"
  | 6 => .object "StoneWorks$Planner"
  | _ => .object "StoneWorks$Tallies"
abbrev wsX100 : List Cond := u_ws RX10 TX10 8
theorem nmX10 : ∀ a, a < 8 → ∀ b, b < 8 → a ≠ b → (TX10 a).2.1 ≠ (TX10 b).2.1 := by decide +kernel
theorem tyX10_ok : ∀ k, k < 8 → parseFieldDescriptor (TX10 k).2.2.1 = some (tyX10 k) := by decide +kernel
abbrev cX10_init : ByteArray := prog_1_method_1_code
def yX10_init : MethodName := ⟨RX10, "<init>", "()V"⟩
abbrev cX10_gang : ByteArray := prog_1_method_2_code
def yX10_gang : MethodName := ⟨RX10, "gang", "(I)I"⟩
abbrev cX10_boat : ByteArray := prog_1_method_3_code
def yX10_boat : MethodName := ⟨RX10, "boat", "(II)I"⟩
abbrev cX10_spell : ByteArray := prog_1_method_4_code
def yX10_spell : MethodName := ⟨RX10, "spell", "(III)I"⟩
abbrev cX10_feed : ByteArray := prog_1_method_5_code
def yX10_feed : MethodName := ⟨RX10, "feed", "(IIIII)I"⟩
abbrev cX10_end : ByteArray := prog_1_method_6_code
def yX10_end : MethodName := ⟨RX10, "end", "(I)I"⟩
abbrev cX10_table : ByteArray := prog_1_method_7_code
def yX10_table : MethodName := ⟨RX10, "table", "()I"⟩
abbrev cX10_stone : ByteArray := prog_1_method_8_code
def yX10_stone : MethodName := ⟨RX10, "stone", "(II)I"⟩
abbrev cX10_send : ByteArray := prog_1_method_9_code
def yX10_send : MethodName := ⟨RX10, "send", "(II)I"⟩
abbrev cX10_raise : ByteArray := prog_1_method_10_code
def yX10_raise : MethodName := ⟨RX10, "raise", "(I)I"⟩
abbrev cX10_callOff : ByteArray := prog_1_method_11_code
def yX10_callOff : MethodName := ⟨RX10, "callOff", "(I)Z"⟩
abbrev cX10_pass : ByteArray := prog_1_method_12_code
def yX10_pass : MethodName := ⟨RX10, "pass", "(I)I"⟩
abbrev cX10_about : ByteArray := prog_1_method_13_code
def yX10_about : MethodName := ⟨RX10, "about", "(II)I"⟩
abbrev cX10_gangs : ByteArray := prog_1_method_14_code
def yX10_gangs : MethodName := ⟨RX10, "gangs", "(II)I"⟩
abbrev cX10_plan : ByteArray := prog_1_method_15_code
def yX10_plan : MethodName := ⟨RX10, "plan", "()I"⟩
abbrev cX10_planned : ByteArray := prog_1_method_16_code
def yX10_planned : MethodName := ⟨RX10, "planned", "(II)I"⟩
abbrev cX10_tally : ByteArray := prog_1_method_17_code
def yX10_tally : MethodName := ⟨RX10, "tally", "(IIII)I"⟩
abbrev cX10_isTrue : ByteArray := prog_1_method_18_code
def yX10_isTrue : MethodName := ⟨RX10, "isTrue", "(I)I"⟩
abbrev cX10_quarrel : ByteArray := prog_1_method_19_code
def yX10_quarrel : MethodName := ⟨RX10, "quarrel", "()I"⟩
abbrev cX10_quarrels : ByteArray := prog_1_method_20_code
def yX10_quarrels : MethodName := ⟨RX10, "quarrels", "(I)I"⟩
abbrev cX10_count : ByteArray := prog_1_method_21_code
def yX10_count : MethodName := ⟨RX10, "count", "(I)I"⟩
abbrev cX10_isDay : ByteArray := prog_1_method_22_code
def yX10_isDay : MethodName := ⟨RX10, "isDay", "(I)Z"⟩
abbrev cX10_upwards : ByteArray := prog_1_method_23_code
def yX10_upwards : MethodName := ⟨RX10, "upwards", "(II)I"⟩
def RX11 : String := "StoneWorksModel"
def TX11 : u_T := fun k => match k with
  | 0 => ("StoneWorksModel", "thrown", "I", false)
  | 1 => ("StoneWorksModel", "now", "I", false)
  | 2 => ("StoneWorksModel", "gangs", "I", false)
  | 3 => ("StoneWorksModel", "boats", "I", false)
  | 4 => ("StoneWorksModel", "spells", "I", false)
  | 5 => ("StoneWorksModel", "men", "[I", true)
  | 6 => ("StoneWorksModel", "work", "[I", true)
  | 7 => ("StoneWorksModel", "left", "[I", true)
  | 8 => ("StoneWorksModel", "laidBy", "[I", true)
  | 9 => ("StoneWorksModel", "still", "[I", true)
  | 10 => ("StoneWorksModel", "boatDay", "[I", true)
  | 11 => ("StoneWorksModel", "boatFood", "[I", true)
  | 12 => ("StoneWorksModel", "spellKind", "[I", true)
  | 13 => ("StoneWorksModel", "spellFrom", "[I", true)
  | 14 => ("StoneWorksModel", "spellTo", "[I", true)
  | 15 => ("StoneWorksModel", "food", "I", false)
  | 16 => ("StoneWorksModel", "hunger", "I", false)
  | 17 => ("StoneWorksModel", "high", "I", false)
  | 18 => ("StoneWorksModel", "tape", "[B", true)
  | 19 => ("StoneWorksModel", "taped", "I", false)
  | 20 => ("StoneWorksModel", "at", "I", false)
  | 21 => ("StoneWorksModel", "from", "I", false)
  | 22 => ("StoneWorksModel", "fault", "I", false)
  | 23 => ("StoneWorksModel", "table", "[I", true)
  | 24 => ("StoneWorksModel", "read", "[I", true)
  | 25 => ("StoneWorksModel", "told", "[Z", true)
  | 26 => ("StoneWorksModel", "stones", "I", false)
  | 27 => ("StoneWorksModel", "weight", "[I", true)
  | 28 => ("StoneWorksModel", "course", "[I", true)
  | 29 => ("StoneWorksModel", "stage", "[I", true)
  | 30 => ("StoneWorksModel", "mark", "[I", true)
  | 31 => ("StoneWorksModel", "laidOn", "[I", true)
  | 32 => ("StoneWorksModel", "many", "I", false)
  | 33 => ("StoneWorksModel", "planned", "I", false)
  | 34 => ("StoneWorksModel", "which", "[I", true)
  | 35 => ("StoneWorksModel", "order", "[I", true)
  | 36 => ("StoneWorksModel", "by", "[I", true)
  | 37 => ("StoneWorksModel", "begins", "[I", true)
  | 38 => ("StoneWorksModel", "ends", "[I", true)
  | 39 => ("StoneWorksModel", "bestOrder", "[I", true)
  | 40 => ("StoneWorksModel", "bestBy", "[I", true)
  | 41 => ("StoneWorksModel", "bestBegins", "[I", true)
  | 42 => ("StoneWorksModel", "bestEnds", "[I", true)
  | 43 => ("StoneWorksModel", "free", "[I", true)
  | 44 => ("StoneWorksModel", "rafts", "[I", true)
  | 45 => ("StoneWorksModel", "tallies", "I", false)
  | 46 => ("StoneWorksModel", "tGang", "[I", true)
  | 47 => ("StoneWorksModel", "tFrom", "[I", true)
  | 48 => ("StoneWorksModel", "tTo", "[I", true)
  | 49 => ("StoneWorksModel", "tN", "[I", true)
  | 50 => ("StoneWorksModel", "isIn", "[Z", true)
  | 51 => ("StoneWorksModel", "points", "I", false)
  | 52 => ("StoneWorksModel", "point", "[I", true)
  | _ => ("StoneWorksModel", "most", "[[I", true)
def tyX11 : Nat → FieldType := fun k => match k with
  | 0 => .int
  | 1 => .int
  | 2 => .int
  | 3 => .int
  | 4 => .int
  | 5 => .array .int
  | 6 => .array .int
  | 7 => .array .int
  | 8 => .array .int
  | 9 => .array .int
  | 10 => .array .int
  | 11 => .array .int
  | 12 => .array .int
  | 13 => .array .int
  | 14 => .array .int
  | 15 => .int
  | 16 => .int
  | 17 => .int
  | 18 => .array .byte
  | 19 => .int
  | 20 => .int
  | 21 => .int
  | 22 => .int
  | 23 => .array .int
  | 24 => .array .int
  | 25 => .array .boolean
  | 26 => .int
  | 27 => .array .int
  | 28 => .array .int
  | 29 => .array .int
  | 30 => .array .int
  | 31 => .array .int
  | 32 => .int
  | 33 => .int
  | 34 => .array .int
  | 35 => .array .int
  | 36 => .array .int
  | 37 => .array .int
  | 38 => .array .int
  | 39 => .array .int
  | 40 => .array .int
  | 41 => .array .int
  | 42 => .array .int
  | 43 => .array .int
  | 44 => .array .int
  | 45 => .int
  | 46 => .array .int
  | 47 => .array .int
  | 48 => .array .int
  | 49 => .array .int
  | 50 => .array .boolean
  | 51 => .int
  | 52 => .array .int
  | _ => .array (.array .int)
abbrev wsX110 : List Cond := u_ws RX11 TX11 54
theorem nmX11 : ∀ a, a < 54 → ∀ b, b < 54 → a ≠ b → (TX11 a).2.1 ≠ (TX11 b).2.1 := by decide +kernel
theorem tyX11_ok : ∀ k, k < 54 → parseFieldDescriptor (TX11 k).2.2.1 = some (tyX11 k) := by decide +kernel
abbrev cX11_init : ByteArray := prog_13_method_1_code
def yX11_init : MethodName := ⟨RX11, "<init>", "()V"⟩
abbrev cX11_in : ByteArray := prog_13_method_3_code
def yX11_in : MethodName := ⟨RX11, "in", "(III)Z"⟩
abbrev cX11_isEnd : ByteArray := prog_13_method_4_code
def yX11_isEnd : MethodName := ⟨RX11, "isEnd", "()Z"⟩
abbrev cX11_gang : ByteArray := prog_13_method_5_code
def yX11_gang : MethodName := ⟨RX11, "gang", "(I)I"⟩
abbrev cX11_boat : ByteArray := prog_13_method_6_code
def yX11_boat : MethodName := ⟨RX11, "boat", "(II)I"⟩
abbrev cX11_spell : ByteArray := prog_13_method_7_code
def yX11_spell : MethodName := ⟨RX11, "spell", "(III)I"⟩
abbrev cX11_is : ByteArray := prog_13_method_8_code
def yX11_is : MethodName := ⟨RX11, "is", "(II)Z"⟩
abbrev cX11_without : ByteArray := prog_13_method_9_code
def yX11_without : MethodName := ⟨RX11, "without", "(I)I"⟩
abbrev cX11_most : ByteArray := prog_13_method_10_code
def yX11_most : MethodName := ⟨RX11, "most", "(I)I"⟩
abbrev cX11_wordOf : ByteArray := prog_13_method_11_code
def yX11_wordOf : MethodName := ⟨RX11, "wordOf", "(I)Ljava/lang/String;"⟩
abbrev cX11_feed : ByteArray := prog_13_method_12_code
def yX11_feed : MethodName := ⟨RX11, "feed", "(IIIII)I"⟩
abbrev cX11_put : ByteArray := prog_13_method_13_code
def yX11_put : MethodName := ⟨RX11, "put", "(I)V"⟩
abbrev cX11_end : ByteArray := prog_13_method_14_code
def yX11_end : MethodName := ⟨RX11, "end", "(I)I"⟩
abbrev cX11_fails : ByteArray := prog_13_method_15_code
def yX11_fails : MethodName := ⟨RX11, "fails", "(II)V"⟩
abbrev cX11_isOver : ByteArray := prog_13_method_16_code
def yX11_isOver : MethodName := ⟨RX11, "isOver", "()Z"⟩
abbrev cX11_isWord : ByteArray := prog_13_method_17_code
def yX11_isWord : MethodName := ⟨RX11, "isWord", "(Ljava/lang/String;)Z"⟩
abbrev cX11_number : ByteArray := prog_13_method_18_code
def yX11_number : MethodName := ⟨RX11, "number", "(I)I"⟩
abbrev cX11_clause : ByteArray := prog_13_method_19_code
def yX11_clause : MethodName := ⟨RX11, "clause", "()V"⟩
abbrev cX11_table : ByteArray := prog_13_method_20_code
def yX11_table : MethodName := ⟨RX11, "table", "()I"⟩
abbrev cX11_stone : ByteArray := prog_13_method_21_code
def yX11_stone : MethodName := ⟨RX11, "stone", "(II)I"⟩
abbrev cX11_pull : ByteArray := prog_13_method_22_code
def yX11_pull : MethodName := ⟨RX11, "pull", "(IIZ)I"⟩
abbrev cX11_worker : ByteArray := prog_13_method_23_code
def yX11_worker : MethodName := ⟨RX11, "worker", "(I)I"⟩
abbrev cX11_lacksLesser : ByteArray := prog_13_method_24_code
def yX11_lacksLesser : MethodName := ⟨RX11, "lacksLesser", "(I)Z"⟩
abbrev cX11_send : ByteArray := prog_13_method_25_code
def yX11_send : MethodName := ⟨RX11, "send", "(II)I"⟩
abbrev cX11_raise : ByteArray := prog_13_method_26_code
def yX11_raise : MethodName := ⟨RX11, "raise", "(I)I"⟩
abbrev cX11_rests : ByteArray := prog_13_method_27_code
def yX11_rests : MethodName := ⟨RX11, "rests", "(I)V"⟩
abbrev cX11_callOff : ByteArray := prog_13_method_28_code
def yX11_callOff : MethodName := ⟨RX11, "callOff", "(I)Z"⟩
abbrev cX11_allMen : ByteArray := prog_13_method_29_code
def yX11_allMen : MethodName := ⟨RX11, "allMen", "()I"⟩
abbrev cX11_day : ByteArray := prog_13_method_30_code
def yX11_day : MethodName := ⟨RX11, "day", "()V"⟩
abbrev cX11_works : ByteArray := prog_13_method_31_code
def yX11_works : MethodName := ⟨RX11, "works", "(I)V"⟩
abbrev cX11_pass : ByteArray := prog_13_method_32_code
def yX11_pass : MethodName := ⟨RX11, "pass", "(I)I"⟩
abbrev cX11_about : ByteArray := prog_13_method_33_code
def yX11_about : MethodName := ⟨RX11, "about", "(II)I"⟩
abbrev cX11_gangs : ByteArray := prog_13_method_34_code
def yX11_gangs : MethodName := ⟨RX11, "gangs", "(II)I"⟩
abbrev cX11_can : ByteArray := prog_13_method_35_code
def yX11_can : MethodName := ⟨RX11, "can", "(II)Z"⟩
abbrev cX11_rivers : ByteArray := prog_13_method_36_code
def yX11_rivers : MethodName := ⟨RX11, "rivers", "()V"⟩
abbrev cX11_raftFrom : ByteArray := prog_13_method_37_code
def yX11_raftFrom : MethodName := ⟨RX11, "raftFrom", "(I)I"⟩
abbrev cX11_lays : ByteArray := prog_13_method_38_code
def yX11_lays : MethodName := ⟨RX11, "lays", "(I)Z"⟩
abbrev cX11_goesOn : ByteArray := prog_13_method_39_code
def yX11_goesOn : MethodName := ⟨RX11, "goesOn", "([II)Z"⟩
abbrev cX11_plan : ByteArray := prog_13_method_40_code
def yX11_plan : MethodName := ⟨RX11, "plan", "()I"⟩
abbrev cX11_gangs_ : ByteArray := prog_13_method_41_code
def yX11_gangs_ : MethodName := ⟨RX11, "gangs", "(I)I"⟩
abbrev cX11_planned : ByteArray := prog_13_method_42_code
def yX11_planned : MethodName := ⟨RX11, "planned", "(II)I"⟩
abbrev cX11_tally : ByteArray := prog_13_method_43_code
def yX11_tally : MethodName := ⟨RX11, "tally", "(IIII)I"⟩
abbrev cX11_isTrue : ByteArray := prog_13_method_44_code
def yX11_isTrue : MethodName := ⟨RX11, "isTrue", "(I)I"⟩
abbrev cX11_pointOf : ByteArray := prog_13_method_45_code
def yX11_pointOf : MethodName := ⟨RX11, "pointOf", "(I)I"⟩
abbrev cX11_canBe : ByteArray := prog_13_method_46_code
def yX11_canBe : MethodName := ⟨RX11, "canBe", "(I)Z"⟩
abbrev cX11_canBe_ : ByteArray := prog_13_method_47_code
def yX11_canBe_ : MethodName := ⟨RX11, "canBe", "()Z"⟩
abbrev cX11_quarrel : ByteArray := prog_13_method_48_code
def yX11_quarrel : MethodName := ⟨RX11, "quarrel", "()I"⟩
abbrev cX11_quarrels : ByteArray := prog_13_method_49_code
def yX11_quarrels : MethodName := ⟨RX11, "quarrels", "(I)I"⟩
abbrev cX11_count : ByteArray := prog_13_method_50_code
def yX11_count : MethodName := ⟨RX11, "count", "(I)I"⟩
def RJ6 : String := "java/lang/Integer"
def TJ6 : u_T := fun k => match k with
  | _ => ("", "", "", false)
def tyJ6 : Nat → FieldType := fun k => match k with
  | _ => .int
abbrev wsJ60 : List Cond := u_ws RJ6 TJ6 0
theorem nmJ6 : ∀ a, a < 0 → ∀ b, b < 0 → a ≠ b → (TJ6 a).2.1 ≠ (TJ6 b).2.1 := by decide +kernel
theorem tyJ6_ok : ∀ k, k < 0 → parseFieldDescriptor (TJ6 k).2.2.1 = some (tyJ6 k) := by decide +kernel
abbrev cJ6_bitCount_0f7a4 : ByteArray := prog_14_method_49_code
def yJ6_bitCount_0f7a4 : MethodName := ⟨RJ6, "bitCount", "(I)I"⟩
def RJ9 : String := "java/lang/Math"
def TJ9 : u_T := fun k => match k with
  | _ => ("", "", "", false)
def tyJ9 : Nat → FieldType := fun k => match k with
  | _ => .int
abbrev wsJ90 : List Cond := u_ws RJ9 TJ9 0
theorem nmJ9 : ∀ a, a < 0 → ∀ b, b < 0 → a ≠ b → (TJ9 a).2.1 ≠ (TJ9 b).2.1 := by decide +kernel
theorem tyJ9_ok : ∀ k, k < 0 → parseFieldDescriptor (TJ9 k).2.2.1 = some (tyJ9 k) := by decide +kernel
abbrev cJ9_max_7cf53 : ByteArray := prog_15_method_65_code
def yJ9_max_7cf53 : MethodName := ⟨RJ9, "max", "(II)I"⟩
abbrev cJ9_min_7cf53 : ByteArray := prog_15_method_69_code
def yJ9_min_7cf53 : MethodName := ⟨RJ9, "min", "(II)I"⟩
def RJ0 : String := "java/lang/String"
def TJ0 : u_T := fun k => match k with
  | _ => ("", "", "", false)
def tyJ0 : Nat → FieldType := fun k => match k with
  | _ => .int
abbrev wsJ00 : List Cond := u_ws RJ0 TJ0 0
theorem nmJ0 : ∀ a, a < 0 → ∀ b, b < 0 → a ≠ b → (TJ0 a).2.1 ≠ (TJ0 b).2.1 := by decide +kernel
theorem tyJ0_ok : ∀ k, k < 0 → parseFieldDescriptor (TJ0 k).2.2.1 = some (tyJ0 k) := by decide +kernel
abbrev cJ0_length_8abf5 : ByteArray := prog_16_method_54_code
def yJ0_length_8abf5 : MethodName := ⟨RJ0, "length", "()I"⟩
abbrev cJ0_charAt_5068e : ByteArray := prog_16_method_56_code
def yJ0_charAt_5068e : MethodName := ⟨RJ0, "charAt", "(I)C"⟩
abbrev cJ0_coder_7d493 : ByteArray := prog_16_method_152_code
def yJ0_coder_7d493 : MethodName := ⟨RJ0, "coder", "()B"⟩
abbrev cJ0_isLatin1_aae02 : ByteArray := prog_16_method_154_code
def yJ0_isLatin1_aae02 : MethodName := ⟨RJ0, "isLatin1", "()Z"⟩
abbrev cJ0_checkIndex_df160 : ByteArray := prog_16_method_155_code
def yJ0_checkIndex_df160 : MethodName := ⟨RJ0, "checkIndex", "(II)V"⟩
def RJ1 : String := "java/lang/StringLatin1"
def TJ1 : u_T := fun k => match k with
  | _ => ("", "", "", false)
def tyJ1 : Nat → FieldType := fun k => match k with
  | _ => .int
abbrev wsJ10 : List Cond := u_ws RJ1 TJ1 0
theorem nmJ1 : ∀ a, a < 0 → ∀ b, b < 0 → a ≠ b → (TJ1 a).2.1 ≠ (TJ1 b).2.1 := by decide +kernel
theorem tyJ1_ok : ∀ k, k < 0 → parseFieldDescriptor (TJ1 k).2.2.1 = some (tyJ1 k) := by decide +kernel
abbrev cJ1_charAt_3b067 : ByteArray := prog_17_method_2_code
def yJ1_charAt_3b067 : MethodName := ⟨RJ1, "charAt", "([BI)C"⟩
def RJ2 : String := "java/lang/StringUTF16"
def TJ2 : u_T := fun k => match k with
  | _ => ("", "", "", false)
def tyJ2 : Nat → FieldType := fun k => match k with
  | _ => .int
abbrev wsJ20 : List Cond := u_ws RJ2 TJ2 0
theorem nmJ2 : ∀ a, a < 0 → ∀ b, b < 0 → a ≠ b → (TJ2 a).2.1 ≠ (TJ2 b).2.1 := by decide +kernel
theorem tyJ2_ok : ∀ k, k < 0 → parseFieldDescriptor (TJ2 k).2.2.1 = some (tyJ2 k) := by decide +kernel
abbrev cJ2_getChar_3b067 : ByteArray := prog_18_method_5_code
def yJ2_getChar_3b067 : MethodName := ⟨RJ2, "getChar", "([BI)C"⟩
abbrev cJ2_length_9d52b : ByteArray := prog_18_method_6_code
def yJ2_length_9d52b : MethodName := ⟨RJ2, "length", "([B)I"⟩
abbrev cJ2_charAt_3b067 : ByteArray := prog_18_method_83_code
def yJ2_charAt_3b067 : MethodName := ⟨RJ2, "charAt", "([BI)C"⟩
abbrev cJ2_checkIndex_2214a : ByteArray := prog_18_method_91_code
def yJ2_checkIndex_2214a : MethodName := ⟨RJ2, "checkIndex", "(I[B)V"⟩
def RJ3 : String := "jdk/internal/util/Preconditions"
def TJ3 : u_T := fun k => match k with
  | _ => ("", "", "", false)
def tyJ3 : Nat → FieldType := fun k => match k with
  | _ => .int
abbrev wsJ30 : List Cond := u_ws RJ3 TJ3 0
theorem nmJ3 : ∀ a, a < 0 → ∀ b, b < 0 → a ≠ b → (TJ3 a).2.1 ≠ (TJ3 b).2.1 := by decide +kernel
theorem tyJ3_ok : ∀ k, k < 0 → parseFieldDescriptor (TJ3 k).2.2.1 = some (tyJ3 k) := by decide +kernel
abbrev cJ3_checkIndex_8e157 : ByteArray := prog_19_method_11_code
def yJ3_checkIndex_8e157 : MethodName := ⟨RJ3, "checkIndex", "(IILjava/util/function/BiFunction;)I"⟩
def RL : String := "StoneWorksLaw"
abbrev cL_law : ByteArray := code
def yL_law : MethodName := ⟨RL, "law", "([I)Z"⟩
abbrev vwCl : List vw_C := [(RX0, TX0, 5), (RX1, TX1, 18), (RX2, TX2, 7), (RX3, TX3, 11), (RX4, TX4, 6), (RX5, TX5, 4), (RX6, TX6, 1), (RX7, TX7, 6), (RX8, TX8, 13), (RX9, TX9, 2), (RX10, TX10, 8), (RX11, TX11, 54)]
end
section
/-! BASE: the memory that everything is said in. An object has a number (its id), a memory says for an id and a place an integer; references are ids, null is below 0. -/
abbrev Mem : Type := Nat → Nat → Int
def zI (z : Int) : Int32 := Int32.ofInt z
def inR (z : Int) : Prop := -2147483648 ≤ z ∧ z < 2147483648
abbrev iv (z : Int) : Value := .int (zI z)
theorem zr_bmod {z : Int} (h : inR z) : z.bmod (2 ^ 32) = z := by
  obtain ⟨h1, h2⟩ := h
  rw [Int.bmod_eq_of_le] <;> omega
theorem zI_toInt {z : Int} (h : inR z) : (zI z).toInt = z := by
  unfold zI
  rw [Int32.toInt_ofInt]
  exact zr_bmod h
theorem zI_of (x : Int32) : zI x.toInt = x := by
  unfold zI
  exact Int32.ofInt_toInt x
theorem zI_rng (x : Int32) : inR x.toInt := ⟨by have := Int32.le_toInt x; omega, by have := Int32.toInt_lt x; omega⟩
theorem zI_add (a b : Int) : zI a + zI b = zI (a + b) := (Int32.ofInt_add a b).symm
theorem zI_sub (a b : Int) : zI a - zI b = zI (a - b) := (Int32.ofInt_sub a b).symm
theorem zI_mul (a b : Int) : zI a * zI b = zI (a * b) := (Int32.ofInt_mul a b).symm
theorem zI_lt {a b : Int} (ha : inR a) (hb : inR b) : zI a < zI b ↔ a < b := by
  rw [Int32.lt_iff_toInt_lt, zI_toInt ha, zI_toInt hb]
theorem zI_le {a b : Int} (ha : inR a) (hb : inR b) : zI a ≤ zI b ↔ a ≤ b := by
  rw [Int32.le_iff_toInt_le, zI_toInt ha, zI_toInt hb]
theorem zI_eq {a b : Int} (ha : inR a) (hb : inR b) : zI a = zI b ↔ a = b := by
  constructor
  · intro h
    have := congrArg Int32.toInt h
    rwa [zI_toInt ha, zI_toInt hb] at this
  · intro h
    rw [h]
theorem inR_lit {z : Int} (h : (decide (-2147483648 ≤ z) && decide (z < 2147483648)) = true) : inR z := by
  simp only [Bool.and_eq_true, decide_eq_true_eq] at h
  exact h
theorem zI_clamp {z : Int} (h : inR z) : (zI z).toNatClampNeg = z.toNat := by
  show (zI z).toInt.toNat = z.toNat
  rw [zI_toInt h]
theorem zI_in {z : Int} {n : Nat} (h0 : 0 ≤ z) (h1 : z < n) (hn : n < 2147483648) : vp_in (zI z) n := by
  have hz : inR z := ⟨by omega, by omega⟩
  rw [vp_in_iff, zI_toInt hz]
  exact ⟨h0, h1⟩
def WS : List Cond := lw_tbl.filter goodWord
theorem WS_of {w : Cond} (i : Nat) (h : lw_tbl[i]? = some w) (hg : goodWord w = true) : w ∈ WS := List.mem_filter.mpr ⟨List.mem_of_getElem? h, hg⟩
theorem WS_good {y : MethodName} {cc : ByteArray} {n : Nat} {r : Option FieldType} (h : Cond.code y cc n r ∈ WS) : GoodIn WS (Cond.code y cc n r :: WS) := by
  intro w hw
  have hw2 : w ∈ WS := by
    rcases List.mem_cons.mp hw with e | e
    · rw [e]; exact h
    · exact e
  exact ⟨hw2, good_of_word (List.mem_filter.mp hw2).2⟩
/-- the words on nest mates, which the tables keep in another way -/
def nestW (w : Cond) : Bool := match w with | .fieldLinkNest .. => true | .methodLinkNest .. => true | _ => false
def NW (U : State) : Prop := ∀ w ∈ lw_tbl, nestW w = true → va_Nw w U
theorem NW.warm {s U : State} (hW : s.WarmedH U.vm) (h : NW s) : NW U := by
  intro w hw hn
  have h1 := h w hw hn
  cases w <;> first | exact va_Nw.warmF hW h1 | exact va_Nw.warmM hW h1 | (simp [nestW] at hn; done)
def ok (μ : Mem) : Prop := ∀ o k, inR (μ o k)
def upf (f : Nat → Int) (k : Nat) (v : Int) : Nat → Int := fun j => if j = k then v else f j
def up (μ : Mem) (o k : Nat) (v : Int) : Mem := fun a => if a = o then upf (μ o) k v else μ a
theorem up_at (μ : Mem) (o k : Nat) (v : Int) : up μ o k v o = upf (μ o) k v := if_pos rfl
theorem up_ne {μ : Mem} {o k a : Nat} {v : Int} (h : a ≠ o) : up μ o k v a = μ a := if_neg h
theorem ok_up {μ : Mem} {o k : Nat} {v : Int} (h : ok μ) (hv : inR v) : ok (up μ o k v) := by
  intro a j
  unfold up
  split
  · unfold upf
    split
    · exact hv
    · exact h o j
  · exact h a j
/-- how a cell looks: ly ad id (what the memory holds there) -/
abbrev Lay : Type := (Nat → Nat) → Nat → (Nat → Int) → va_E
def wld (ly : Lay) (ids : List Nat) (ad : Nat → Nat) (μ : Mem) : va_W := ids.map (fun o => (ad o, ly ad o (μ o)))
theorem wld_get {ly : Lay} {ids : List Nat} {ad : Nat → Nat} {μ : Mem} {o : Nat} (h : o ∈ ids) : ∃ k : Nat, (wld ly ids ad μ)[k]? = some (ad o, ly ad o (μ o)) ∧ ids[k]? = some o := by
  obtain ⟨k, hk⟩ := List.getElem?_of_mem h
  exact ⟨k, by unfold wld; rw [List.getElem?_map, hk]; rfl, hk⟩
theorem wld_set {ly : Lay} {ids : List Nat} {ad : Nat → Nat} {μ : Mem} {A : Nat → Prop} {o k j : Nat} {v : Int} {e : va_E} (hD : va_D A (wld ly ids ad μ)) (hk : ids[k]? = some o) (he : ly ad o (upf (μ o) j v) = e) : (wld ly ids ad μ).set k (ad o, e) = wld ly ids ad (up μ o j v) := by
  subst he
  apply List.ext_getElem?
  intro n
  have hkl : k < ids.length := (List.getElem?_eq_some_iff.mp hk).1
  have hkl2 : k < (wld ly ids ad μ).length := by unfold wld; rw [List.length_map]; exact hkl
  by_cases hn : n = k
  · subst hn
    rw [List.getElem?_set_self hkl2]
    unfold wld
    rw [List.getElem?_map, hk]
    show _ = some (ad o, ly ad o (up μ o j v o))
    rw [up_at]
  · rw [List.getElem?_set_ne (Ne.symm hn)]
    unfold wld
    rw [List.getElem?_map, List.getElem?_map]
    cases hi : ids[n]? with
    | none => rfl
    | some a =>
      show some (ad a, ly ad a (μ a)) = some (ad a, ly ad a (up μ o j v a))
      have hne : a ≠ o := by
        intro hao
        subst hao
        refine hn (hD.1 n k (ad a, ly ad a (μ a)) (ad a, ly ad a (μ a)) ?_ ?_ rfl)
        · unfold wld; rw [List.getElem?_map, hi]; rfl
        · unfold wld; rw [List.getElem?_map, hk]; rfl
      rw [up_ne hne]
/-- the ids that are always there; the stones 100 + k, the gangs 200 + k, as many as place 90 says -/
def bas (o : Nat) : Bool := o.blt 61 || (Nat.ble 300 o && o.blt 382)
def gho (ids : List Nat) (μ : Mem) : Prop := (∀ o, bas o = true → o ∈ ids) ∧ (∀ k : Nat, (k : Int) < μ 90 0 → 100 + k ∈ ids) ∧ ∀ k : Nat, (k : Int) < μ 90 1 → 200 + k ∈ ids
theorem gho_up {ids : List Nat} {μ : Mem} {o k : Nat} {v : Int} (h : gho ids μ) (ho : o ≠ 90) : gho ids (up μ o k v) := by
  unfold gho
  rw [up_ne (Ne.symm ho)]
  exact h
/-- a reference's value -/
def rv (ad : Nat → Nat) (x : Int) : Value := if x < 0 then .null else .ref (ad x.toNat)
theorem rv_at {ad : Nat → Nat} {x : Int} (h : 0 ≤ x) : rv ad x = .ref (ad x.toNat) := if_neg (by omega)
theorem rv_null {ad : Nat → Nat} {x : Int} (h : x < 0) : rv ad x = .null := if_pos h
theorem rv_cat (ad : Nat → Nat) (x : Int) : (rv ad x).category = 1 := by
  unfold rv
  split <;> rfl
/-- a value as data: (false, z) the number z, (true, x) the reference to the id x, null below 0 -/
abbrev AV : Type := Bool × Int
abbrev nu (z : Int) : AV := (false, z)
abbrev rf (x : Int) : AV := (true, x)
def vv (ad : Nat → Nat) (v : AV) : Value := if v.1 = true then rv ad v.2 else iv v.2
theorem vv_nu (ad : Nat → Nat) (z : Int) : vv ad (nu z) = iv z := rfl
theorem vv_rf (ad : Nat → Nat) (x : Int) : vv ad (rf x) = rv ad x := rfl
theorem vv_cat (ad : Nat → Nat) (v : AV) : (vv ad v).category = 1 := by
  unfold vv
  split
  · exact rv_cat ad v.2
  · rfl
/-- locals by their places -/
abbrev LV : Type := List (Option AV)
def lvp (ad : Nat → Nat) (lv : LV) : List (Nat × Value) := (List.range lv.length).filterMap (fun i => match lv[i]? with | some (some v) => some (i, vv ad v) | _ => none)
theorem lvp_mem {ad : Nat → Nat} {lv : LV} {i : Nat} {v : AV} (h : lv[i]? = some (some v)) : (i, vv ad v) ∈ lvp ad lv := by
  refine List.mem_filterMap.mpr ⟨i, List.mem_range.mpr (List.getElem?_eq_some_iff.mp h).1, ?_⟩
  rw [h]
theorem lvp_of {ad : Nat → Nat} {lv : LV} {q : Nat × Value} (h : q ∈ lvp ad lv) : ∃ v, lv[q.1]? = some (some v) ∧ q.2 = vv ad v := by
  obtain ⟨i, -, hi⟩ := List.mem_filterMap.mp h
  split at hi
  · rename_i v hv
    cases hi
    exact ⟨v, hv, rfl⟩
  · cases hi
theorem lvh_at {ad : Nat → Nat} {ls : Array Slot} {nL : Nat} {lv : LV} (h : lv_has ls nL (lvp ad lv)) {i : Nat} {v : AV} (hi : lv[i]? = some (some v)) : ls[i]? = some (.val (vv ad v)) := h.2.2 (i, vv ad v) (lvp_mem hi)
theorem lvh_sub {ad : Nat → Nat} {ls : Array Slot} {nL : Nat} {lv lw : LV} (h : lv_has ls nL (lvp ad lv)) (hs : ∀ (i : Nat) (v : AV), lw[i]? = some (some v) → lv[i]? = some (some v)) : lv_has ls nL (lvp ad lw) := by
  refine ⟨h.1, h.2.1, fun q hq => ?_⟩
  obtain ⟨v, h1, h2⟩ := lvp_of hq
  have := lvh_at h (hs _ _ h1)
  rw [h2]
  exact this
theorem lvh_set {ad : Nat → Nat} {ls : Array Slot} {nL : Nat} {lv : LV} {i : Nat} {v : AV} (h : lv_has ls nL ((i, vv ad v) :: (lvp ad lv).filter (fun q => !(q.1 == i) && !(q.1 + 1 == i && q.2.category == 2)))) : lv_has ls nL (lvp ad (lv.set i (some v))) := by
  refine ⟨h.1, h.2.1, fun q hq => ?_⟩
  obtain ⟨w, h1, h2⟩ := lvp_of hq
  by_cases hj : q.1 = i
  · have hi := (List.getElem?_eq_some_iff.mp h1).1
    rw [List.length_set] at hi
    rw [hj, List.getElem?_set_self (by rw [← hj]; exact hi)] at h1
    cases h1
    have := h.2.2 (i, vv ad v) List.mem_cons_self
    rw [h2, hj]
    exact this
  · rw [List.getElem?_set_ne (Ne.symm hj)] at h1
    refine h.2.2 q (List.mem_cons_of_mem _ (List.mem_filter.mpr ⟨?_, ?_⟩))
    · have := lvp_mem (ad := ad) h1
      rw [← h2] at this
      exact this
    · rw [h2, vv_cat]
      simp [hj]
section VB
variable {p : Program} {l : Launch} {e : Env} {R : Room} {s : State} {m : MethodId} {args : Array Value} {below : List Frame} {meth : Method} {c : Code} {cells slots : Nat} {Q : State → Prop} {D : va_G} {tys : List (ClassId × FieldType)} {A : Nat → Prop} {ly : Lay} {ids : List Nat} {ad : Nat → Nat} {nL : Nat} {cc : ByteArray} {own : String} {ret : Option FieldType} {μ : Mem} {pc : Nat} {lv : LV} {st : List AV}
/-- what holds in a method's body from its start on -/
def Cx (p : Program) (s : State) (m : MethodId) (args : Array Value) (meth : Method) (c : Code) (D : va_G) (tys : List (ClassId × FieldType)) (A : Nat → Prop) (nL : Nat) (cc : ByteArray) (own : String) (ret : Option FieldType) : Prop :=
  p.tables.exec = Jvm.exec ∧ c.code = cc ∧ c.maxLocals = nL ∧ s.vm.findClass own = some m.cls ∧ (∀ w ∈ WS, w.before args s = true) ∧ va_K D vwCl tys s ∧ (∀ q, s.heap.size ≤ q → A q) ∧ meth.sig.returnType = ret ∧ meth.locks = false ∧ NW s
/-- THE JUDGEMENT: with the memory, at pc, with these locals and this stack, the machine comes to Q -/
def V (p : Program) (l : Launch) (e : Env) (R : Room) (s : State) (m : MethodId) (args : Array Value) (below : List Frame) (meth : Method) (c : Code) (cells slots : Nat) (Q : State → Prop) (D : va_G) (A : Nat → Prop) (ly : Lay) (ids : List Nat) (ad : Nat → Nat) (nL : Nat) (μ : Mem) (pc : Nat) (lv : LV) (st : List AV) : Prop :=
  ok μ → gho ids μ → ∀ (H : Heap) (locs : List Loc), va_P D vwCl (wld ly ids ad μ) H → va_D A (wld ly ids ad μ) → va_S A s.heap H locs → ∀ ls : Array Slot, lv_has ls nL (lvp ad lv) → W p l e R s m args below meth c H locs cells slots Q (F0 m pc ls (st.map (vv ad)))
theorem r_iconst (C : Cx p s m args meth c D tys A nL cc own ret) {n : Int} (hd : decode cc pc = .ok (.iconst n, 1)) (k : V p l e R s m args below meth c cells slots Q D A ly ids ad nL μ (pc + 1) lv (nu n :: st)) : V p l e R s m args below meth c cells slots Q D A ly ids ad nL μ pc lv st := by
  intro ho hg H locs hP hD hS ls hl
  exact lv_iconst (v := zI n) C.1 C.2.1 hd rfl (k ho hg H locs hP hD hS ls hl)
theorem r_bipush (C : Cx p s m args meth c D tys A nL cc own ret) {n : Int} (hd : decode cc pc = .ok (.bipush n, 2)) (hv : (Int8.ofInt n).toInt32 = zI n) (k : V p l e R s m args below meth c cells slots Q D A ly ids ad nL μ (pc + 2) lv (nu n :: st)) : V p l e R s m args below meth c cells slots Q D A ly ids ad nL μ pc lv st := by
  intro ho hg H locs hP hD hS ls hl
  exact lv_bipush (v := zI n) C.1 C.2.1 hd hv (k ho hg H locs hP hD hS ls hl)
theorem r_sipush (C : Cx p s m args meth c D tys A nL cc own ret) {n : Int} (hd : decode cc pc = .ok (.sipush n, 3)) (hv : (Int16.ofInt n).toInt32 = zI n) (k : V p l e R s m args below meth c cells slots Q D A ly ids ad nL μ (pc + 3) lv (nu n :: st)) : V p l e R s m args below meth c cells slots Q D A ly ids ad nL μ pc lv st := by
  intro ho hg H locs hP hD hS ls hl
  exact lv_sipush (v := zI n) C.1 C.2.1 hd hv (k ho hg H locs hP hD hS ls hl)
theorem r_ldc (C : Cx p s m args meth c D tys A nL cc own ret) {index : Nat} {v : Int32} {n : Int} (hw : Cond.constant own index v ∈ WS) (hv : v = zI n) (hd : decode cc pc = .ok (.ldc index, 2)) (k : V p l e R s m args below meth c cells slots Q D A ly ids ad nL μ (pc + 2) lv (nu n :: st)) : V p l e R s m args below meth c cells slots Q D A ly ids ad nL μ pc lv st := by
  subst hv
  intro ho hg H locs hP hD hS ls hl
  exact lv_ldc C.1 C.2.1 C.2.2.2.1 (C.2.2.2.2.1 _ hw) hd (k ho hg H locs hP hD hS ls hl)
theorem r_iload_n (C : Cx p s m args meth c D tys A nL cc own ret) {i : Fin 4} (j : Nat) {x : Int} (hk : lv[j]? = some (some (nu x))) (hj : (i : Nat) = j) (hd : decode cc pc = .ok (.iload_n i, 1)) (k : V p l e R s m args below meth c cells slots Q D A ly ids ad nL μ (pc + 1) lv (nu x :: st)) : V p l e R s m args below meth c cells slots Q D A ly ids ad nL μ pc lv st := by
  intro ho hg H locs hP hD hS ls hl
  exact lv_iload_n C.1 C.2.1 hd hj (lvh_at hl hk) (k ho hg H locs hP hD hS ls hl)
theorem r_iload (C : Cx p s m args meth c D tys A nL cc own ret) {j : Nat} {x : Int} (hk : lv[j]? = some (some (nu x))) (hd : decode cc pc = .ok (.iload j, 2)) (k : V p l e R s m args below meth c cells slots Q D A ly ids ad nL μ (pc + 2) lv (nu x :: st)) : V p l e R s m args below meth c cells slots Q D A ly ids ad nL μ pc lv st := by
  intro ho hg H locs hP hD hS ls hl
  exact lv_iload C.1 C.2.1 hd (lvh_at hl hk) (k ho hg H locs hP hD hS ls hl)
theorem r_aload_n (C : Cx p s m args meth c D tys A nL cc own ret) {i : Fin 4} (j : Nat) {x : Int} (hk : lv[j]? = some (some (rf x))) (hj : (i : Nat) = j) (hd : decode cc pc = .ok (.aload_n i, 1)) (k : V p l e R s m args below meth c cells slots Q D A ly ids ad nL μ (pc + 1) lv (rf x :: st)) : V p l e R s m args below meth c cells slots Q D A ly ids ad nL μ pc lv st := by
  intro ho hg H locs hP hD hS ls hl
  have h1 := lvh_at hl hk
  have h2 := k ho hg H locs hP hD hS ls hl
  rw [List.map_cons, vv_rf] at h2
  rw [vv_rf] at h1
  by_cases hx : x < 0
  · rw [rv_null hx] at h1 h2
    exact lv_aload_nN C.1 C.2.1 hd hj h1 h2
  · rw [rv_at (by omega)] at h1 h2
    exact lv_aload_n C.1 C.2.1 hd hj h1 h2
theorem r_aload (C : Cx p s m args meth c D tys A nL cc own ret) {j : Nat} {x : Int} (hk : lv[j]? = some (some (rf x))) (hd : decode cc pc = .ok (.aload j, 2)) (k : V p l e R s m args below meth c cells slots Q D A ly ids ad nL μ (pc + 2) lv (rf x :: st)) : V p l e R s m args below meth c cells slots Q D A ly ids ad nL μ pc lv st := by
  intro ho hg H locs hP hD hS ls hl
  have h1 := lvh_at hl hk
  have h2 := k ho hg H locs hP hD hS ls hl
  rw [List.map_cons, vv_rf] at h2
  rw [vv_rf] at h1
  by_cases hx : x < 0
  · rw [rv_null hx] at h1 h2
    exact lv_aloadN C.1 C.2.1 hd h1 h2
  · rw [rv_at (by omega)] at h1 h2
    exact lv_aload C.1 C.2.1 hd h1 h2
theorem r_istore_n (C : Cx p s m args meth c D tys A nL cc own ret) {i : Fin 4} (j : Nat) {x : Int} {lw : LV} (hl' : lv.set j (some (nu x)) = lw) (hj : (i : Nat) = j) (hn : j < nL) (hd : decode cc pc = .ok (.istore_n i, 1)) (k : V p l e R s m args below meth c cells slots Q D A ly ids ad nL μ (pc + 1) lw st) : V p l e R s m args below meth c cells slots Q D A ly ids ad nL μ pc lv (nu x :: st) := by
  subst hl'
  intro ho hg H locs hP hD hS ls hl
  exact lv_istore_n C.1 C.2.1 hd hj hl hn rfl (fun ls' h' => k ho hg H locs hP hD hS ls' (lvh_set (v := nu x) h'))
theorem r_istore (C : Cx p s m args meth c D tys A nL cc own ret) {j : Nat} {x : Int} {lw : LV} (hl' : lv.set j (some (nu x)) = lw) (hn : j < nL) (hd : decode cc pc = .ok (.istore j, 2)) (k : V p l e R s m args below meth c cells slots Q D A ly ids ad nL μ (pc + 2) lw st) : V p l e R s m args below meth c cells slots Q D A ly ids ad nL μ pc lv (nu x :: st) := by
  subst hl'
  intro ho hg H locs hP hD hS ls hl
  exact lv_istore C.1 C.2.1 hd hl hn rfl (fun ls' h' => k ho hg H locs hP hD hS ls' (lvh_set (v := nu x) h'))
theorem r_astore_n (C : Cx p s m args meth c D tys A nL cc own ret) {i : Fin 4} (j : Nat) {x : Int} {lw : LV} (hl' : lv.set j (some (rf x)) = lw) (hj : (i : Nat) = j) (hn : j < nL) (hd : decode cc pc = .ok (.astore_n i, 1)) (k : V p l e R s m args below meth c cells slots Q D A ly ids ad nL μ (pc + 1) lw st) : V p l e R s m args below meth c cells slots Q D A ly ids ad nL μ pc lv (rf x :: st) := by
  subst hl'
  intro ho hg H locs hP hD hS ls hl
  rw [List.map_cons, vv_rf]
  have h9 : ∀ ls' : Array Slot, lv_has ls' nL ((j, rv ad x) :: (lvp ad lv).filter (fun q => !(q.1 == j) && !(q.1 + 1 == j && q.2.category == 2))) → W p l e R s m args below meth c H locs cells slots Q (F0 m (pc + 1) ls' (st.map (vv ad))) := fun ls' h' => k ho hg H locs hP hD hS ls' (lvh_set (v := rf x) h')
  by_cases hx : x < 0
  · rw [rv_null hx] at h9 ⊢
    exact lv_astore_nN C.1 C.2.1 hd hj hl hn rfl h9
  · rw [rv_at (by omega)] at h9 ⊢
    exact lv_astore_n C.1 C.2.1 hd hj hl hn rfl h9
theorem r_astore (C : Cx p s m args meth c D tys A nL cc own ret) {j : Nat} {x : Int} {lw : LV} (hl' : lv.set j (some (rf x)) = lw) (hn : j < nL) (hd : decode cc pc = .ok (.astore j, 2)) (k : V p l e R s m args below meth c cells slots Q D A ly ids ad nL μ (pc + 2) lw st) : V p l e R s m args below meth c cells slots Q D A ly ids ad nL μ pc lv (rf x :: st) := by
  subst hl'
  intro ho hg H locs hP hD hS ls hl
  rw [List.map_cons, vv_rf]
  have h9 : ∀ ls' : Array Slot, lv_has ls' nL ((j, rv ad x) :: (lvp ad lv).filter (fun q => !(q.1 == j) && !(q.1 + 1 == j && q.2.category == 2))) → W p l e R s m args below meth c H locs cells slots Q (F0 m (pc + 2) ls' (st.map (vv ad))) := fun ls' h' => k ho hg H locs hP hD hS ls' (lvh_set (v := rf x) h')
  by_cases hx : x < 0
  · rw [rv_null hx] at h9 ⊢
    exact lv_astoreN C.1 C.2.1 hd hl hn rfl h9
  · rw [rv_at (by omega)] at h9 ⊢
    exact lv_astore C.1 C.2.1 hd hl hn rfl h9
theorem r_iinc (C : Cx p s m args meth c D tys A nL cc own ret) {j : Nat} {n x : Int} {lw : LV} (hk : lv[j]? = some (some (nu x))) (hl' : lv.set j (some (nu (x + n))) = lw) (hn : j < nL) (hd : decode cc pc = .ok (.iinc j n, 3)) (k : V p l e R s m args below meth c cells slots Q D A ly ids ad nL μ (pc + 3) lw st) : V p l e R s m args below meth c cells slots Q D A ly ids ad nL μ pc lv st := by
  subst hl'
  intro ho hg H locs hP hD hS ls hl
  obtain ⟨q, hq⟩ := List.getElem?_of_mem (lvp_mem (ad := ad) hk)
  exact lv_iinc (v := zI (x + n)) C.1 C.2.1 hd hl hq (zI_add x n) hn rfl (fun ls' h' => k ho hg H locs hP hD hS ls' (lvh_set (v := nu (x + n)) h'))
theorem r_iadd (C : Cx p s m args meth c D tys A nL cc own ret) {a b : Int} (hd : decode cc pc = .ok (.iadd, 1)) (k : V p l e R s m args below meth c cells slots Q D A ly ids ad nL μ (pc + 1) lv (nu (a + b) :: st)) : V p l e R s m args below meth c cells slots Q D A ly ids ad nL μ pc lv (nu b :: nu a :: st) := by
  intro ho hg H locs hP hD hS ls hl
  refine lv_iadd C.1 C.2.1 hd ?_
  rw [zI_add]
  exact k ho hg H locs hP hD hS ls hl
theorem r_isub (C : Cx p s m args meth c D tys A nL cc own ret) {a b : Int} (hd : decode cc pc = .ok (.isub, 1)) (k : V p l e R s m args below meth c cells slots Q D A ly ids ad nL μ (pc + 1) lv (nu (a - b) :: st)) : V p l e R s m args below meth c cells slots Q D A ly ids ad nL μ pc lv (nu b :: nu a :: st) := by
  intro ho hg H locs hP hD hS ls hl
  refine lv_isub C.1 C.2.1 hd ?_
  rw [zI_sub]
  exact k ho hg H locs hP hD hS ls hl
theorem r_imul (C : Cx p s m args meth c D tys A nL cc own ret) {a b : Int} (hd : decode cc pc = .ok (.imul, 1)) (k : V p l e R s m args below meth c cells slots Q D A ly ids ad nL μ (pc + 1) lv (nu (a * b) :: st)) : V p l e R s m args below meth c cells slots Q D A ly ids ad nL μ pc lv (nu b :: nu a :: st) := by
  intro ho hg H locs hP hD hS ls hl
  refine lv_imul C.1 C.2.1 hd ?_
  rw [zI_mul]
  exact k ho hg H locs hP hD hS ls hl
end VB
def zand (a b : Int) : Int := (zI a &&& zI b).toInt
def zor (a b : Int) : Int := (zI a ||| zI b).toInt
def zxor (a b : Int) : Int := (zI a ^^^ zI b).toInt
def zshl (a b : Int) : Int := (zI a <<< (zI b &&& 31)).toInt
def zushr (a b : Int) : Int := ((zI a).toUInt32 >>> ((zI b).toUInt32 &&& Int32.toUInt32 31)).toInt32.toInt
def zshr (a b : Int) : Int := (zI a >>> (zI b &&& 31)).toInt
def zi2b (a : Int) : Int := (zI a).toInt8.toInt32.toInt
def zdiv (a b : Int) : Int := (zI a / zI b).toInt
section VB
variable {p : Program} {l : Launch} {e : Env} {R : Room} {s : State} {m : MethodId} {args : Array Value} {below : List Frame} {meth : Method} {c : Code} {cells slots : Nat} {Q : State → Prop} {D : va_G} {tys : List (ClassId × FieldType)} {A : Nat → Prop} {ly : Lay} {ids : List Nat} {ad : Nat → Nat} {nL : Nat} {cc : ByteArray} {own : String} {ret : Option FieldType} {μ : Mem} {pc : Nat} {lv : LV} {st : List AV}
theorem r_iand (C : Cx p s m args meth c D tys A nL cc own ret) {a b : Int} (hd : decode cc pc = .ok (.iand, 1)) (k : V p l e R s m args below meth c cells slots Q D A ly ids ad nL μ (pc + 1) lv (nu (zand a b) :: st)) : V p l e R s m args below meth c cells slots Q D A ly ids ad nL μ pc lv (nu b :: nu a :: st) := by
  intro ho hg H locs hP hD hS ls hl
  refine lv_iand C.1 C.2.1 hd ?_
  have h9 := k ho hg H locs hP hD hS ls hl
  rw [List.map_cons, vv_nu, zand, iv, zI_of] at h9
  exact h9
theorem r_ior (C : Cx p s m args meth c D tys A nL cc own ret) {a b : Int} (hd : decode cc pc = .ok (.ior, 1)) (k : V p l e R s m args below meth c cells slots Q D A ly ids ad nL μ (pc + 1) lv (nu (zor a b) :: st)) : V p l e R s m args below meth c cells slots Q D A ly ids ad nL μ pc lv (nu b :: nu a :: st) := by
  intro ho hg H locs hP hD hS ls hl
  refine lv_ior C.1 C.2.1 hd ?_
  have h9 := k ho hg H locs hP hD hS ls hl
  rw [List.map_cons, vv_nu, zor, iv, zI_of] at h9
  exact h9
theorem r_ixor (C : Cx p s m args meth c D tys A nL cc own ret) {a b : Int} (hd : decode cc pc = .ok (.ixor, 1)) (k : V p l e R s m args below meth c cells slots Q D A ly ids ad nL μ (pc + 1) lv (nu (zxor a b) :: st)) : V p l e R s m args below meth c cells slots Q D A ly ids ad nL μ pc lv (nu b :: nu a :: st) := by
  intro ho hg H locs hP hD hS ls hl
  refine lv_ixor C.1 C.2.1 hd ?_
  have h9 := k ho hg H locs hP hD hS ls hl
  rw [List.map_cons, vv_nu, zxor, iv, zI_of] at h9
  exact h9
theorem r_ishl (C : Cx p s m args meth c D tys A nL cc own ret) {a b : Int} (hd : decode cc pc = .ok (.ishl, 1)) (k : V p l e R s m args below meth c cells slots Q D A ly ids ad nL μ (pc + 1) lv (nu (zshl a b) :: st)) : V p l e R s m args below meth c cells slots Q D A ly ids ad nL μ pc lv (nu b :: nu a :: st) := by
  intro ho hg H locs hP hD hS ls hl
  refine lv_ishl C.1 C.2.1 hd ?_
  have h9 := k ho hg H locs hP hD hS ls hl
  rw [List.map_cons, vv_nu, zshl, iv, zI_of] at h9
  exact h9
theorem r_ishr (C : Cx p s m args meth c D tys A nL cc own ret) {a b : Int} (hd : decode cc pc = .ok (.ishr, 1)) (k : V p l e R s m args below meth c cells slots Q D A ly ids ad nL μ (pc + 1) lv (nu (zshr a b) :: st)) : V p l e R s m args below meth c cells slots Q D A ly ids ad nL μ pc lv (nu b :: nu a :: st) := by
  intro ho hg H locs hP hD hS ls hl
  refine lv_ishr C.1 C.2.1 hd ?_
  have h9 := k ho hg H locs hP hD hS ls hl
  rw [List.map_cons, vv_nu, zshr, iv, zI_of] at h9
  exact h9
theorem r_idiv (C : Cx p s m args meth c D tys A nL cc own ret) {a b : Int} (hb : inR b) (hne : b ≠ 0) (hd : decode cc pc = .ok (.idiv, 1)) (k : V p l e R s m args below meth c cells slots Q D A ly ids ad nL μ (pc + 1) lv (nu (zdiv a b) :: st)) : V p l e R s m args below meth c cells slots Q D A ly ids ad nL μ pc lv (nu b :: nu a :: st) := by
  intro ho hg H locs hP hD hS ls hl
  refine lv_idiv C.1 C.2.1 hd (fun h => hne ((zI_eq hb ⟨by decide, by decide⟩).mp (h.trans (show (0 : Int32) = zI 0 from rfl)))) ?_
  have h9 := k ho hg H locs hP hD hS ls hl
  rw [List.map_cons, vv_nu, zdiv, iv, zI_of] at h9
  exact h9
theorem r_iushr (C : Cx p s m args meth c D tys A nL cc own ret) {a b : Int} (hd : decode cc pc = .ok (.iushr, 1)) (k : V p l e R s m args below meth c cells slots Q D A ly ids ad nL μ (pc + 1) lv (nu (zushr a b) :: st)) : V p l e R s m args below meth c cells slots Q D A ly ids ad nL μ pc lv (nu b :: nu a :: st) := by
  intro ho hg H locs hP hD hS ls hl
  refine lv_iushr C.1 C.2.1 hd rfl ?_
  have h9 := k ho hg H locs hP hD hS ls hl
  rw [List.map_cons, vv_nu, zushr, iv, zI_of] at h9
  exact h9
theorem r_i2b (C : Cx p s m args meth c D tys A nL cc own ret) {a : Int} (hd : decode cc pc = .ok (.i2b, 1)) (k : V p l e R s m args below meth c cells slots Q D A ly ids ad nL μ (pc + 1) lv (nu (zi2b a) :: st)) : V p l e R s m args below meth c cells slots Q D A ly ids ad nL μ pc lv (nu a :: st) := by
  intro ho hg H locs hP hD hS ls hl
  refine lv_i2b C.1 C.2.1 hd rfl ?_
  have h9 := k ho hg H locs hP hD hS ls hl
  rw [List.map_cons, vv_nu, zi2b, iv, zI_of] at h9
  exact h9
theorem r_dup (C : Cx p s m args meth c D tys A nL cc own ret) {v : AV} (hd : decode cc pc = .ok (.dup, 1)) (k : V p l e R s m args below meth c cells slots Q D A ly ids ad nL μ (pc + 1) lv (v :: v :: st)) : V p l e R s m args below meth c cells slots Q D A ly ids ad nL μ pc lv (v :: st) := by
  intro ho hg H locs hP hD hS ls hl
  exact lv_dup C.1 C.2.1 hd (vv_cat ad v) (k ho hg H locs hP hD hS ls hl)
theorem r_pop (C : Cx p s m args meth c D tys A nL cc own ret) {v : AV} (hd : decode cc pc = .ok (.pop, 1)) (k : V p l e R s m args below meth c cells slots Q D A ly ids ad nL μ (pc + 1) lv st) : V p l e R s m args below meth c cells slots Q D A ly ids ad nL μ pc lv (v :: st) := by
  intro ho hg H locs hP hD hS ls hl
  exact lv_pop C.1 C.2.1 hd (vv_cat ad v) (k ho hg H locs hP hD hS ls hl)
theorem r_dup_x1 (C : Cx p s m args meth c D tys A nL cc own ret) {v w : AV} (hd : decode cc pc = .ok (.dup_x1, 1)) (k : V p l e R s m args below meth c cells slots Q D A ly ids ad nL μ (pc + 1) lv (v :: w :: v :: st)) : V p l e R s m args below meth c cells slots Q D A ly ids ad nL μ pc lv (v :: w :: st) := by
  intro ho hg H locs hP hD hS ls hl
  exact lv_dup_x1 C.1 C.2.1 hd (vv_cat ad v) (vv_cat ad w) (k ho hg H locs hP hD hS ls hl)
theorem r_dup2 (C : Cx p s m args meth c D tys A nL cc own ret) {v w : AV} (hd : decode cc pc = .ok (.dup2, 1)) (k : V p l e R s m args below meth c cells slots Q D A ly ids ad nL μ (pc + 1) lv (v :: w :: v :: w :: st)) : V p l e R s m args below meth c cells slots Q D A ly ids ad nL μ pc lv (v :: w :: st) := by
  intro ho hg H locs hP hD hS ls hl
  exact lv_dup2_11 C.1 C.2.1 hd (vv_cat ad v) (vv_cat ad w) (k ho hg H locs hP hD hS ls hl)
theorem r_null (C : Cx p s m args meth c D tys A nL cc own ret) (hd : decode cc pc = .ok (.aconst_null, 1)) (k : V p l e R s m args below meth c cells slots Q D A ly ids ad nL μ (pc + 1) lv (rf (-1) :: st)) : V p l e R s m args below meth c cells slots Q D A ly ids ad nL μ pc lv st := by
  intro ho hg H locs hP hD hS ls hl
  exact lv_null C.1 C.2.1 hd (k ho hg H locs hP hD hS ls hl)
theorem r_goto (C : Cx p s m args meth c D tys A nL cc own ret) {off : Int} (tgt : Nat) (ht : (pc : Int) + off = (tgt : Int)) (hd : decode cc pc = .ok (.goto off, 3)) (k : V p l e R s m args below meth c cells slots Q D A ly ids ad nL μ tgt lv st) : V p l e R s m args below meth c cells slots Q D A ly ids ad nL μ pc lv st := by
  intro ho hg H locs hP hD hS ls hl
  exact lv_goto C.1 C.2.1 hd ht (k ho hg H locs hP hD hS ls hl)
theorem z0_in : inR 0 := ⟨by decide, by decide⟩
theorem z0_eq : zI 0 = 0 := rfl
theorem r_icmp_eq (C : Cx p s m args meth c D tys A nL cc own ret) {a b : Int} {off : Int} (tgt : Nat) (ha : inR a) (hb : inR b) (ht : (pc : Int) + off = (tgt : Int)) (hd : decode cc pc = .ok (.if_icmp .eq off, 3)) (kt : a = b → V p l e R s m args below meth c cells slots Q D A ly ids ad nL μ tgt lv st) (kf : ¬ (a = b) → V p l e R s m args below meth c cells slots Q D A ly ids ad nL μ (pc + 3) lv st) : V p l e R s m args below meth c cells slots Q D A ly ids ad nL μ pc lv (nu b :: nu a :: st) := by
  intro ho hg H locs hP hD hS ls hl
  exact lv_icmp_eq C.1 C.2.1 hd ht (fun h => kt ((zI_eq ha hb).mp h) ho hg H locs hP hD hS ls hl) (fun h => kf (fun q => h ((zI_eq ha hb).mpr q)) ho hg H locs hP hD hS ls hl)
theorem r_if_eq (C : Cx p s m args meth c D tys A nL cc own ret) {a : Int} {off : Int} (tgt : Nat) (ha : inR a) (ht : (pc : Int) + off = (tgt : Int)) (hd : decode cc pc = .ok (.ifCond .eq off, 3)) (kt : a = 0 → V p l e R s m args below meth c cells slots Q D A ly ids ad nL μ tgt lv st) (kf : ¬ (a = 0) → V p l e R s m args below meth c cells slots Q D A ly ids ad nL μ (pc + 3) lv st) : V p l e R s m args below meth c cells slots Q D A ly ids ad nL μ pc lv (nu a :: st) := by
  intro ho hg H locs hP hD hS ls hl
  exact lv_if_eq C.1 C.2.1 hd ht (fun h => kt ((zI_eq ha z0_in).mp h) ho hg H locs hP hD hS ls hl) (fun h => kf (fun q => h ((zI_eq ha z0_in).mpr q)) ho hg H locs hP hD hS ls hl)
theorem r_icmp_ne (C : Cx p s m args meth c D tys A nL cc own ret) {a b : Int} {off : Int} (tgt : Nat) (ha : inR a) (hb : inR b) (ht : (pc : Int) + off = (tgt : Int)) (hd : decode cc pc = .ok (.if_icmp .ne off, 3)) (kt : ¬ a = b → V p l e R s m args below meth c cells slots Q D A ly ids ad nL μ tgt lv st) (kf : a = b → V p l e R s m args below meth c cells slots Q D A ly ids ad nL μ (pc + 3) lv st) : V p l e R s m args below meth c cells slots Q D A ly ids ad nL μ pc lv (nu b :: nu a :: st) := by
  intro ho hg H locs hP hD hS ls hl
  exact lv_icmp_ne C.1 C.2.1 hd ht (fun h => kt (fun q => h ((zI_eq ha hb).mpr q)) ho hg H locs hP hD hS ls hl) (fun h => kf ((zI_eq ha hb).mp h) ho hg H locs hP hD hS ls hl)
theorem r_if_ne (C : Cx p s m args meth c D tys A nL cc own ret) {a : Int} {off : Int} (tgt : Nat) (ha : inR a) (ht : (pc : Int) + off = (tgt : Int)) (hd : decode cc pc = .ok (.ifCond .ne off, 3)) (kt : ¬ a = 0 → V p l e R s m args below meth c cells slots Q D A ly ids ad nL μ tgt lv st) (kf : a = 0 → V p l e R s m args below meth c cells slots Q D A ly ids ad nL μ (pc + 3) lv st) : V p l e R s m args below meth c cells slots Q D A ly ids ad nL μ pc lv (nu a :: st) := by
  intro ho hg H locs hP hD hS ls hl
  exact lv_if_ne C.1 C.2.1 hd ht (fun h => kt (fun q => h ((zI_eq ha z0_in).mpr q)) ho hg H locs hP hD hS ls hl) (fun h => kf ((zI_eq ha z0_in).mp h) ho hg H locs hP hD hS ls hl)
theorem r_icmp_lt (C : Cx p s m args meth c D tys A nL cc own ret) {a b : Int} {off : Int} (tgt : Nat) (ha : inR a) (hb : inR b) (ht : (pc : Int) + off = (tgt : Int)) (hd : decode cc pc = .ok (.if_icmp .lt off, 3)) (kt : a < b → V p l e R s m args below meth c cells slots Q D A ly ids ad nL μ tgt lv st) (kf : ¬ (a < b) → V p l e R s m args below meth c cells slots Q D A ly ids ad nL μ (pc + 3) lv st) : V p l e R s m args below meth c cells slots Q D A ly ids ad nL μ pc lv (nu b :: nu a :: st) := by
  intro ho hg H locs hP hD hS ls hl
  exact lv_icmp_lt C.1 C.2.1 hd ht (fun h => kt ((zI_lt ha hb).mp h) ho hg H locs hP hD hS ls hl) (fun h => kf (fun q => h ((zI_lt ha hb).mpr q)) ho hg H locs hP hD hS ls hl)
theorem r_if_lt (C : Cx p s m args meth c D tys A nL cc own ret) {a : Int} {off : Int} (tgt : Nat) (ha : inR a) (ht : (pc : Int) + off = (tgt : Int)) (hd : decode cc pc = .ok (.ifCond .lt off, 3)) (kt : a < 0 → V p l e R s m args below meth c cells slots Q D A ly ids ad nL μ tgt lv st) (kf : ¬ (a < 0) → V p l e R s m args below meth c cells slots Q D A ly ids ad nL μ (pc + 3) lv st) : V p l e R s m args below meth c cells slots Q D A ly ids ad nL μ pc lv (nu a :: st) := by
  intro ho hg H locs hP hD hS ls hl
  exact lv_if_lt C.1 C.2.1 hd ht (fun h => kt ((zI_lt ha z0_in).mp h) ho hg H locs hP hD hS ls hl) (fun h => kf (fun q => h ((zI_lt ha z0_in).mpr q)) ho hg H locs hP hD hS ls hl)
theorem r_icmp_ge (C : Cx p s m args meth c D tys A nL cc own ret) {a b : Int} {off : Int} (tgt : Nat) (ha : inR a) (hb : inR b) (ht : (pc : Int) + off = (tgt : Int)) (hd : decode cc pc = .ok (.if_icmp .ge off, 3)) (kt : b ≤ a → V p l e R s m args below meth c cells slots Q D A ly ids ad nL μ tgt lv st) (kf : ¬ (b ≤ a) → V p l e R s m args below meth c cells slots Q D A ly ids ad nL μ (pc + 3) lv st) : V p l e R s m args below meth c cells slots Q D A ly ids ad nL μ pc lv (nu b :: nu a :: st) := by
  intro ho hg H locs hP hD hS ls hl
  exact lv_icmp_ge C.1 C.2.1 hd ht (fun h => kt ((zI_le hb ha).mp h) ho hg H locs hP hD hS ls hl) (fun h => kf (fun q => h ((zI_le hb ha).mpr q)) ho hg H locs hP hD hS ls hl)
theorem r_if_ge (C : Cx p s m args meth c D tys A nL cc own ret) {a : Int} {off : Int} (tgt : Nat) (ha : inR a) (ht : (pc : Int) + off = (tgt : Int)) (hd : decode cc pc = .ok (.ifCond .ge off, 3)) (kt : 0 ≤ a → V p l e R s m args below meth c cells slots Q D A ly ids ad nL μ tgt lv st) (kf : ¬ (0 ≤ a) → V p l e R s m args below meth c cells slots Q D A ly ids ad nL μ (pc + 3) lv st) : V p l e R s m args below meth c cells slots Q D A ly ids ad nL μ pc lv (nu a :: st) := by
  intro ho hg H locs hP hD hS ls hl
  exact lv_if_ge C.1 C.2.1 hd ht (fun h => kt ((zI_le z0_in ha).mp h) ho hg H locs hP hD hS ls hl) (fun h => kf (fun q => h ((zI_le z0_in ha).mpr q)) ho hg H locs hP hD hS ls hl)
theorem r_icmp_gt (C : Cx p s m args meth c D tys A nL cc own ret) {a b : Int} {off : Int} (tgt : Nat) (ha : inR a) (hb : inR b) (ht : (pc : Int) + off = (tgt : Int)) (hd : decode cc pc = .ok (.if_icmp .gt off, 3)) (kt : b < a → V p l e R s m args below meth c cells slots Q D A ly ids ad nL μ tgt lv st) (kf : ¬ (b < a) → V p l e R s m args below meth c cells slots Q D A ly ids ad nL μ (pc + 3) lv st) : V p l e R s m args below meth c cells slots Q D A ly ids ad nL μ pc lv (nu b :: nu a :: st) := by
  intro ho hg H locs hP hD hS ls hl
  exact lv_icmp_gt C.1 C.2.1 hd ht (fun h => kt ((zI_lt hb ha).mp h) ho hg H locs hP hD hS ls hl) (fun h => kf (fun q => h ((zI_lt hb ha).mpr q)) ho hg H locs hP hD hS ls hl)
theorem r_if_gt (C : Cx p s m args meth c D tys A nL cc own ret) {a : Int} {off : Int} (tgt : Nat) (ha : inR a) (ht : (pc : Int) + off = (tgt : Int)) (hd : decode cc pc = .ok (.ifCond .gt off, 3)) (kt : 0 < a → V p l e R s m args below meth c cells slots Q D A ly ids ad nL μ tgt lv st) (kf : ¬ (0 < a) → V p l e R s m args below meth c cells slots Q D A ly ids ad nL μ (pc + 3) lv st) : V p l e R s m args below meth c cells slots Q D A ly ids ad nL μ pc lv (nu a :: st) := by
  intro ho hg H locs hP hD hS ls hl
  exact lv_if_gt C.1 C.2.1 hd ht (fun h => kt ((zI_lt z0_in ha).mp h) ho hg H locs hP hD hS ls hl) (fun h => kf (fun q => h ((zI_lt z0_in ha).mpr q)) ho hg H locs hP hD hS ls hl)
theorem r_icmp_le (C : Cx p s m args meth c D tys A nL cc own ret) {a b : Int} {off : Int} (tgt : Nat) (ha : inR a) (hb : inR b) (ht : (pc : Int) + off = (tgt : Int)) (hd : decode cc pc = .ok (.if_icmp .le off, 3)) (kt : a ≤ b → V p l e R s m args below meth c cells slots Q D A ly ids ad nL μ tgt lv st) (kf : ¬ (a ≤ b) → V p l e R s m args below meth c cells slots Q D A ly ids ad nL μ (pc + 3) lv st) : V p l e R s m args below meth c cells slots Q D A ly ids ad nL μ pc lv (nu b :: nu a :: st) := by
  intro ho hg H locs hP hD hS ls hl
  exact lv_icmp_le C.1 C.2.1 hd ht (fun h => kt ((zI_le ha hb).mp h) ho hg H locs hP hD hS ls hl) (fun h => kf (fun q => h ((zI_le ha hb).mpr q)) ho hg H locs hP hD hS ls hl)
theorem r_if_le (C : Cx p s m args meth c D tys A nL cc own ret) {a : Int} {off : Int} (tgt : Nat) (ha : inR a) (ht : (pc : Int) + off = (tgt : Int)) (hd : decode cc pc = .ok (.ifCond .le off, 3)) (kt : a ≤ 0 → V p l e R s m args below meth c cells slots Q D A ly ids ad nL μ tgt lv st) (kf : ¬ (a ≤ 0) → V p l e R s m args below meth c cells slots Q D A ly ids ad nL μ (pc + 3) lv st) : V p l e R s m args below meth c cells slots Q D A ly ids ad nL μ pc lv (nu a :: st) := by
  intro ho hg H locs hP hD hS ls hl
  exact lv_if_le C.1 C.2.1 hd ht (fun h => kt ((zI_le ha z0_in).mp h) ho hg H locs hP hD hS ls hl) (fun h => kf (fun q => h ((zI_le ha z0_in).mpr q)) ho hg H locs hP hD hS ls hl)
theorem r_ifnull (C : Cx p s m args meth c D tys A nL cc own ret) {x off : Int} (tgt : Nat) (ht : (pc : Int) + off = (tgt : Int)) (hd : decode cc pc = .ok (.ifnull off, 3)) (kt : x < 0 → V p l e R s m args below meth c cells slots Q D A ly ids ad nL μ tgt lv st) (kf : ¬ x < 0 → V p l e R s m args below meth c cells slots Q D A ly ids ad nL μ (pc + 3) lv st) : V p l e R s m args below meth c cells slots Q D A ly ids ad nL μ pc lv (rf x :: st) := by
  intro ho hg H locs hP hD hS ls hl
  rw [List.map_cons, vv_rf]
  by_cases hx : x < 0
  · rw [rv_null hx]
    exact lv_ifnullN C.1 C.2.1 hd ht (kt hx ho hg H locs hP hD hS ls hl)
  · rw [rv_at (by omega)]
    exact lv_ifnull C.1 C.2.1 hd (kf hx ho hg H locs hP hD hS ls hl)
theorem r_ifnonnull (C : Cx p s m args meth c D tys A nL cc own ret) {x off : Int} (tgt : Nat) (ht : (pc : Int) + off = (tgt : Int)) (hd : decode cc pc = .ok (.ifnonnull off, 3)) (kt : ¬ x < 0 → V p l e R s m args below meth c cells slots Q D A ly ids ad nL μ tgt lv st) (kf : x < 0 → V p l e R s m args below meth c cells slots Q D A ly ids ad nL μ (pc + 3) lv st) : V p l e R s m args below meth c cells slots Q D A ly ids ad nL μ pc lv (rf x :: st) := by
  intro ho hg H locs hP hD hS ls hl
  rw [List.map_cons, vv_rf]
  by_cases hx : x < 0
  · rw [rv_null hx]
    exact lv_ifnonnullN C.1 C.2.1 hd (kf hx ho hg H locs hP hD hS ls hl)
  · rw [rv_at (by omega)]
    exact lv_ifnonnull C.1 C.2.1 hd ht (kt hx ho hg H locs hP hD hS ls hl)
theorem r_swOut (C : Cx p s m args meth c D tys A nL cc own ret) {a dflt lo hi : Int} {offs : Array Int} {len : Nat} (tgt : Nat) (ha : inR a) (h : a < lo ∨ hi < a) (ht : (pc : Int) + dflt = (tgt : Int)) (hd : decode cc pc = .ok (.tableswitch dflt lo hi offs, len)) (k : V p l e R s m args below meth c cells slots Q D A ly ids ad nL μ tgt lv st) : V p l e R s m args below meth c cells slots Q D A ly ids ad nL μ pc lv (nu a :: st) := by
  intro ho hg H locs hP hD hS ls hl
  exact lv_tableOut C.1 C.2.1 hd (by rw [zI_toInt ha]; exact h) ht (k ho hg H locs hP hD hS ls hl)
theorem r_swIn (C : Cx p s m args meth c D tys A nL cc own ret) {a dflt lo hi off : Int} {offs : Array Int} {len : Nat} (tgt : Nat) (v : Int) (hv : a = v) (ha : inR v) (h1 : lo ≤ v) (h2 : v ≤ hi) (ho : offs[(v - lo).toNat]? = some off) (ht : (pc : Int) + off = (tgt : Int)) (hd : decode cc pc = .ok (.tableswitch dflt lo hi offs, len)) (k : V p l e R s m args below meth c cells slots Q D A ly ids ad nL μ tgt lv st) : V p l e R s m args below meth c cells slots Q D A ly ids ad nL μ pc lv (nu a :: st) := by
  subst hv
  intro ho' hg H locs hP hD hS ls hl
  exact lv_tableIn C.1 C.2.1 hd (by rw [zI_toInt ha]; omega) (by rw [zI_toInt ha]; omega) (by rw [zI_toInt ha]; exact ho) ht (k ho' hg H locs hP hD hS ls hl)
end VB
end
section
/-! HEAP: fields, arrays, calls, returns -/
def ptr (ad : Nat → Nat) (x : Int) : Option Nat := if x < 0 then none else some (ad x.toNat)
theorem ptr_rv (ad : Nat → Nat) (x : Int) : va_rf (ptr ad x) = rv ad x := by
  unfold ptr rv
  split <;> rfl
/-- an object's cell, an array of numbers, an array of references -/
abbrev ceO (ad : Nat → Nat) (ci : Nat) (cs : List AV) : va_E := .inr (ci, cs.map (vv ad))
abbrev ceN (cA : ClassId) (n : Nat) (f : Nat → Int) : va_E := .inl (cA, n, .inl (fun i => zI (f i)))
abbrev ceR (ad : Nat → Nat) (cA : ClassId) (n : Nat) (f : Nat → Int) : va_E := .inl (cA, n, .inr (.inr (.inr (.inr (fun i => ptr ad (f i))))))
theorem ceN_up (cA : ClassId) (n : Nat) (f : Nat → Int) (k : Nat) (v : Int) : (Sum.inl (cA, n, Sum.inl (upd (fun i => zI (f i)) k (zI v))) : va_E) = ceN cA n (upf f k v) := by
  have : upd (fun i => zI (f i)) k (zI v) = fun i => zI (upf f k v i) := by
    funext i
    unfold upd upf
    split <;> rfl
  rw [this]
theorem ceR_up (ad : Nat → Nat) (cA : ClassId) (n : Nat) (f : Nat → Int) (k : Nat) (v : Int) : (Sum.inl (cA, n, Sum.inr (Sum.inr (Sum.inr (Sum.inr (va_up (fun i => ptr ad (f i)) k (ptr ad v)))))) : va_E) = ceR ad cA n (upf f k v) := by
  have : va_up (fun i => ptr ad (f i)) k (ptr ad v) = fun i => ptr ad (upf f k v i) := by
    funext i
    unfold va_up upf
    split <;> rfl
  rw [this]
section VH
variable {p : Program} {l : Launch} {e : Env} {R : Room} {s : State} {m : MethodId} {args : Array Value} {below : List Frame} {meth : Method} {c : Code} {cells slots : Nat} {Q : State → Prop} {D : va_G} {tys : List (ClassId × FieldType)} {A : Nat → Prop} {ly : Lay} {ids : List Nat} {ad : Nat → Nat} {nL : Nat} {cc : ByteArray} {own : String} {ret : Option FieldType} {μ : Mem} {pc : Nat} {lv : LV} {st : List AV}
theorem r_getf (C : Cx p s m args meth c D tys A nL cc own ret) {x : Int} (o : Nat) (h0 : 0 ≤ x) (hxo : x.toNat = o) (hm : gho ids μ → o ∈ ids) {ci : Nat} {cs : List AV} (hly : ly ad o (μ o) = ceO ad ci cs) {Cn : String} {T : u_T} {N : Nat} (hc : vwCl[ci]? = some (Cn, T, N)) (hin : ∀ w ∈ u_ws Cn T N, w ∈ WS) (k : Nat) (hk : k < N) {index : Nat} (hw : Cond.fieldLink own index (T k).1 (T k).2.1 (T k).2.2.1 ∈ WS) {v : AV} (hv : cs[k]? = some v) (hd : decode cc pc = .ok (.getfield index, 3)) (kk : V p l e R s m args below meth c cells slots Q D A ly ids ad nL μ (pc + 3) lv (v :: st)) : V p l e R s m args below meth c cells slots Q D A ly ids ad nL μ pc lv (rf x :: st) := by
  subst hxo
  intro ho hg H locs hP hD hS ls hl
  obtain ⟨q0, hq, -⟩ := wld_get (ly := ly) (ad := ad) (μ := μ) (hm hg)
  rw [hly] at hq
  rw [List.map_cons, vv_rf, rv_at h0]
  exact va_get (D := D) (ci := ci) (v := vv ad v) C.1 C.2.1 C.2.2.2.2.1 hin C.2.2.2.1 C.2.2.2.2.2.1 hP q0 hq hc k hk (C.2.2.2.2.1 _ hw) (fun _ h => h) (by rw [List.getElem?_map, hv]; rfl) hd (kk ho hg H locs hP hD hS ls hl)
theorem r_getfN (C : Cx p s m args meth c D tys A nL cc own ret) {x : Int} (o : Nat) (h0 : 0 ≤ x) (hxo : x.toNat = o) (hm : gho ids μ → o ∈ ids) {ci : Nat} {cs : List AV} (hly : ly ad o (μ o) = ceO ad ci cs) {Cn : String} {T : u_T} {N : Nat} (hc : vwCl[ci]? = some (Cn, T, N)) (hin : ∀ w ∈ u_ws Cn T N, w ∈ WS) (k : Nat) (hk : k < N) {index : Nat} {host : String} (hw : Cond.fieldLinkNest own index (T k).1 (T k).2.1 (T k).2.2.1 host ∈ lw_tbl) {v : AV} (hv : cs[k]? = some v) (hd : decode cc pc = .ok (.getfield index, 3)) (kk : V p l e R s m args below meth c cells slots Q D A ly ids ad nL μ (pc + 3) lv (v :: st)) : V p l e R s m args below meth c cells slots Q D A ly ids ad nL μ pc lv (rf x :: st) := by
  subst hxo
  intro ho hg H locs hP hD hS ls hl
  obtain ⟨q0, hq, -⟩ := wld_get (ly := ly) (ad := ad) (μ := μ) (hm hg)
  rw [hly] at hq
  rw [List.map_cons, vv_rf, rv_at h0]
  exact va_getN (D := D) (ci := ci) (v := vv ad v) C.1 C.2.1 C.2.2.2.2.1 hin C.2.2.2.1 C.2.2.2.2.2.1 hP q0 hq hc k hk (va_Nw.use rfl (C.2.2.2.2.2.2.2.2.2 _ hw rfl)) (fun _ h => h) (by rw [List.getElem?_map, hv]; rfl) hd (kk ho hg H locs hP hD hS ls hl)
theorem r_putf (C : Cx p s m args meth c D tys A nL cc own ret) {x z : Int} (o : Nat) (h0 : 0 ≤ x) (hxo : x.toNat = o) (hm : gho ids μ → o ∈ ids) (h90 : o ≠ 90) {ci : Nat} {cs cs' : List AV} (hly : ly ad o (μ o) = ceO ad ci cs) (k : Nat) (hly' : ly ad o (upf (μ o) k z) = ceO ad ci cs') (hcs : cs.set k (nu z) = cs') (hkl : k < cs.length) (hz : inR z) {Cn : String} {T : u_T} {N : Nat} (hc : vwCl[ci]? = some (Cn, T, N)) (hin : ∀ w ∈ u_ws Cn T N, w ∈ WS) (ty0 : Nat → FieldType) (hty : ∀ k, k < N → parseFieldDescriptor (T k).2.2.1 = some (ty0 k)) (hnm : ∀ a, a < N → ∀ b, b < N → a ≠ b → (T a).2.1 ≠ (T b).2.1) (hk : k < N) {index : Nat} (hw : Cond.fieldLink own index (T k).1 (T k).2.1 (T k).2.2.1 ∈ WS) (hfin : (T k).2.2.2 = false) (hd2 : parseFieldDescriptor (T k).2.2.1 = some .int) (hd : decode cc pc = .ok (.putfield index, 3)) (kk : V p l e R s m args below meth c cells slots Q D A ly ids ad nL (up μ o k z) (pc + 3) lv st) : V p l e R s m args below meth c cells slots Q D A ly ids ad nL μ pc lv (nu z :: rf x :: st) := by
  subst hxo
  subst hcs
  intro ho hg H locs hP hD hS ls hl
  obtain ⟨q0, hq, hi⟩ := wld_get (ly := ly) (ad := ad) (μ := μ) (hm hg)
  rw [hly] at hq
  rw [List.map_cons, List.map_cons, vv_rf, rv_at h0, vv_nu]
  refine va_put (D := D) (ci := ci) (v := iv z) (ty := .int) C.1 C.2.1 C.2.2.2.2.1 hin ty0 hty hnm C.2.2.2.1 C.2.2.2.2.2.1 hP hD hS q0 hq hc k hk (C.2.2.2.2.1 _ hw) (fun _ h => h) hfin hd2 rfl rfl (by rw [List.length_map]; exact hkl) hd (fun H1 locs1 hP1 hD1 hS1 => ?_)
  have he : (Sum.inr (ci, (cs.map (vv ad)).set k (iv z)) : va_E) = ceO ad ci (cs.set k (nu z)) := by
    show (Sum.inr (ci, (cs.map (vv ad)).set k (iv z)) : va_E) = Sum.inr (ci, (cs.set k (nu z)).map (vv ad))
    rw [List.map_set]
    rfl
  rw [he, wld_set hD hi hly'] at hP1 hD1
  exact kk (ok_up ho hz) (gho_up hg h90) H1 locs1 hP1 hD1 hS1 ls hl
theorem r_putfN (C : Cx p s m args meth c D tys A nL cc own ret) {x z : Int} (o : Nat) (h0 : 0 ≤ x) (hxo : x.toNat = o) (hm : gho ids μ → o ∈ ids) (h90 : o ≠ 90) {ci : Nat} {cs cs' : List AV} (hly : ly ad o (μ o) = ceO ad ci cs) (k : Nat) (hly' : ly ad o (upf (μ o) k z) = ceO ad ci cs') (hcs : cs.set k (nu z) = cs') (hkl : k < cs.length) (hz : inR z) {Cn : String} {T : u_T} {N : Nat} (hc : vwCl[ci]? = some (Cn, T, N)) (hin : ∀ w ∈ u_ws Cn T N, w ∈ WS) (ty0 : Nat → FieldType) (hty : ∀ k, k < N → parseFieldDescriptor (T k).2.2.1 = some (ty0 k)) (hnm : ∀ a, a < N → ∀ b, b < N → a ≠ b → (T a).2.1 ≠ (T b).2.1) (hk : k < N) {index : Nat} {host : String} (hw : Cond.fieldLinkNest own index (T k).1 (T k).2.1 (T k).2.2.1 host ∈ lw_tbl) (hfin : (T k).2.2.2 = false) (hd2 : parseFieldDescriptor (T k).2.2.1 = some .int) (hd : decode cc pc = .ok (.putfield index, 3)) (kk : V p l e R s m args below meth c cells slots Q D A ly ids ad nL (up μ o k z) (pc + 3) lv st) : V p l e R s m args below meth c cells slots Q D A ly ids ad nL μ pc lv (nu z :: rf x :: st) := by
  subst hxo
  subst hcs
  intro ho hg H locs hP hD hS ls hl
  obtain ⟨q0, hq, hi⟩ := wld_get (ly := ly) (ad := ad) (μ := μ) (hm hg)
  rw [hly] at hq
  rw [List.map_cons, List.map_cons, vv_rf, rv_at h0, vv_nu]
  refine va_putN (D := D) (ci := ci) (v := iv z) (ty := .int) C.1 C.2.1 C.2.2.2.2.1 hin ty0 hty hnm C.2.2.2.1 C.2.2.2.2.2.1 hP hD hS q0 hq hc k hk (va_Nw.use rfl (C.2.2.2.2.2.2.2.2.2 _ hw rfl)) (fun _ h => h) hfin hd2 rfl rfl (by rw [List.length_map]; exact hkl) hd (fun H1 locs1 hP1 hD1 hS1 => ?_)
  have he : (Sum.inr (ci, (cs.map (vv ad)).set k (iv z)) : va_E) = ceO ad ci (cs.set k (nu z)) := by
    show (Sum.inr (ci, (cs.map (vv ad)).set k (iv z)) : va_E) = Sum.inr (ci, (cs.set k (nu z)).map (vv ad))
    rw [List.map_set]
    rfl
  rw [he, wld_set hD hi hly'] at hP1 hD1
  exact kk (ok_up ho hz) (gho_up hg h90) H1 locs1 hP1 hD1 hS1 ls hl
theorem r_iald (C : Cx p s m args meth c D tys A nL cc own ret) {x z : Int} (o : Nat) (h0 : 0 ≤ x) (hxo : x.toNat = o) (hm : gho ids μ → o ∈ ids) (t0 : Nat) {cA : ClassId} {n : Nat} (hly : ly ad o (μ o) = ceN cA n (μ o)) (ht : tys[t0]? = some (cA, .int)) (hz : 0 ≤ z ∧ z < (n : Int)) (hn : n < 2147483648) (hd : decode cc pc = .ok (.iaload, 1)) (kk : V p l e R s m args below meth c cells slots Q D A ly ids ad nL μ (pc + 1) lv (nu (μ o z.toNat) :: st)) : V p l e R s m args below meth c cells slots Q D A ly ids ad nL μ pc lv (nu z :: rf x :: st) := by
  subst hxo
  intro ho hg H locs hP hD hS ls hl
  obtain ⟨q0, hq, -⟩ := wld_get (ly := ly) (ad := ad) (μ := μ) (hm hg)
  rw [hly] at hq
  rw [List.map_cons, List.map_cons, vv_rf, rv_at h0, vv_nu]
  have hzr : inR z := ⟨by omega, by omega⟩
  refine va_iald C.1 C.2.1 C.2.2.2.2.2.1 hP q0 t0 hq ht (zI_in hz.1 hz.2 hn) hd ?_
  rw [zI_clamp hzr]
  exact kk ho hg H locs hP hD hS ls hl
theorem r_bald (C : Cx p s m args meth c D tys A nL cc own ret) {x z : Int} (o : Nat) (h0 : 0 ≤ x) (hxo : x.toNat = o) (hm : gho ids μ → o ∈ ids) (t0 : Nat) {cA : ClassId} {n : Nat} (hly : ly ad o (μ o) = ceN cA n (μ o)) (ht : tys[t0]? = some (cA, .byte)) (hz : 0 ≤ z ∧ z < (n : Int)) (hn : n < 2147483648) (hd : decode cc pc = .ok (.baload, 1)) (kk : V p l e R s m args below meth c cells slots Q D A ly ids ad nL μ (pc + 1) lv (nu (μ o z.toNat) :: st)) : V p l e R s m args below meth c cells slots Q D A ly ids ad nL μ pc lv (nu z :: rf x :: st) := by
  subst hxo
  intro ho hg H locs hP hD hS ls hl
  obtain ⟨q0, hq, -⟩ := wld_get (ly := ly) (ad := ad) (μ := μ) (hm hg)
  rw [hly] at hq
  rw [List.map_cons, List.map_cons, vv_rf, rv_at h0, vv_nu]
  have hzr : inR z := ⟨by omega, by omega⟩
  refine va_bald C.1 C.2.1 C.2.2.2.2.2.1 hP q0 t0 hq ht (zI_in hz.1 hz.2 hn) hd ?_
  rw [zI_clamp hzr]
  exact kk ho hg H locs hP hD hS ls hl
theorem r_zald (C : Cx p s m args meth c D tys A nL cc own ret) {x z : Int} (o : Nat) (h0 : 0 ≤ x) (hxo : x.toNat = o) (hm : gho ids μ → o ∈ ids) (t0 : Nat) {cA : ClassId} {n : Nat} (hly : ly ad o (μ o) = ceN cA n (μ o)) (ht : tys[t0]? = some (cA, .boolean)) (hz : 0 ≤ z ∧ z < (n : Int)) (hn : n < 2147483648) (hd : decode cc pc = .ok (.baload, 1)) (kk : V p l e R s m args below meth c cells slots Q D A ly ids ad nL μ (pc + 1) lv (nu (μ o z.toNat) :: st)) : V p l e R s m args below meth c cells slots Q D A ly ids ad nL μ pc lv (nu z :: rf x :: st) := by
  subst hxo
  intro ho hg H locs hP hD hS ls hl
  obtain ⟨q0, hq, -⟩ := wld_get (ly := ly) (ad := ad) (μ := μ) (hm hg)
  rw [hly] at hq
  rw [List.map_cons, List.map_cons, vv_rf, rv_at h0, vv_nu]
  have hzr : inR z := ⟨by omega, by omega⟩
  refine va_zald C.1 C.2.1 C.2.2.2.2.2.1 hP q0 t0 hq ht (zI_in hz.1 hz.2 hn) hd ?_
  rw [zI_clamp hzr]
  exact kk ho hg H locs hP hD hS ls hl
theorem r_iast (C : Cx p s m args meth c D tys A nL cc own ret) {x z v : Int} (o : Nat) (h0 : 0 ≤ x) (hxo : x.toNat = o) (hm : gho ids μ → o ∈ ids) (h90 : o ≠ 90) (t0 : Nat) {cA : ClassId} {n : Nat} (hly : ∀ f, ly ad o f = ceN cA n f) (ht : tys[t0]? = some (cA, .int)) (hz : 0 ≤ z ∧ z < (n : Int)) (hn : n < 2147483648) (hv : inR (v)) (hd : decode cc pc = .ok (.iastore, 1)) (kk : V p l e R s m args below meth c cells slots Q D A ly ids ad nL (up μ o z.toNat (v)) (pc + 1) lv st) : V p l e R s m args below meth c cells slots Q D A ly ids ad nL μ pc lv (nu v :: nu z :: rf x :: st) := by
  subst hxo
  intro ho hg H locs hP hD hS ls hl
  obtain ⟨q0, hq, hi⟩ := wld_get (ly := ly) (ad := ad) (μ := μ) (hm hg)
  rw [hly] at hq
  rw [List.map_cons, List.map_cons, List.map_cons, vv_rf, rv_at h0, vv_nu, vv_nu]
  have hzr : inR z := ⟨by omega, by omega⟩
  refine va_iast C.1 C.2.1 C.2.2.2.2.2.1 hP hD hS q0 t0 hq ht (zI_in hz.1 hz.2 hn) hd (fun H1 locs1 hP1 hD1 hS1 => ?_)
  rw [zI_clamp hzr, ceN_up, wld_set hD hi (hly _)] at hP1 hD1
  exact kk (ok_up ho hv) (gho_up hg h90) H1 locs1 hP1 hD1 hS1 ls hl
theorem nar_b (v : Int) : vp_nar .byte (zI v) = zI (zi2b v) := by
  rw [vp_nar_byte, zi2b, zI_of]
theorem nar_z (v : Int) : vp_nar .boolean (zI v) = zI (zand v 1) := by
  rw [zand, zI_of]
  rfl
theorem r_bast (C : Cx p s m args meth c D tys A nL cc own ret) {x z v : Int} (o : Nat) (h0 : 0 ≤ x) (hxo : x.toNat = o) (hm : gho ids μ → o ∈ ids) (h90 : o ≠ 90) (t0 : Nat) {cA : ClassId} {n : Nat} (hly : ∀ f, ly ad o f = ceN cA n f) (ht : tys[t0]? = some (cA, .byte)) (hz : 0 ≤ z ∧ z < (n : Int)) (hn : n < 2147483648) (hv : inR (zi2b v)) (hd : decode cc pc = .ok (.bastore, 1)) (kk : V p l e R s m args below meth c cells slots Q D A ly ids ad nL (up μ o z.toNat (zi2b v)) (pc + 1) lv st) : V p l e R s m args below meth c cells slots Q D A ly ids ad nL μ pc lv (nu v :: nu z :: rf x :: st) := by
  subst hxo
  intro ho hg H locs hP hD hS ls hl
  obtain ⟨q0, hq, hi⟩ := wld_get (ly := ly) (ad := ad) (μ := μ) (hm hg)
  rw [hly] at hq
  rw [List.map_cons, List.map_cons, List.map_cons, vv_rf, rv_at h0, vv_nu, vv_nu]
  have hzr : inR z := ⟨by omega, by omega⟩
  refine va_bast C.1 C.2.1 C.2.2.2.2.2.1 hP hD hS q0 t0 hq ht (zI_in hz.1 hz.2 hn) hd (fun H1 locs1 hP1 hD1 hS1 => ?_)
  rw [zI_clamp hzr, nar_b, ceN_up, wld_set hD hi (hly _)] at hP1 hD1
  exact kk (ok_up ho hv) (gho_up hg h90) H1 locs1 hP1 hD1 hS1 ls hl
theorem r_zast (C : Cx p s m args meth c D tys A nL cc own ret) {x z v : Int} (o : Nat) (h0 : 0 ≤ x) (hxo : x.toNat = o) (hm : gho ids μ → o ∈ ids) (h90 : o ≠ 90) (t0 : Nat) {cA : ClassId} {n : Nat} (hly : ∀ f, ly ad o f = ceN cA n f) (ht : tys[t0]? = some (cA, .boolean)) (hz : 0 ≤ z ∧ z < (n : Int)) (hn : n < 2147483648) (hv : inR (zand v 1)) (hd : decode cc pc = .ok (.bastore, 1)) (kk : V p l e R s m args below meth c cells slots Q D A ly ids ad nL (up μ o z.toNat (zand v 1)) (pc + 1) lv st) : V p l e R s m args below meth c cells slots Q D A ly ids ad nL μ pc lv (nu v :: nu z :: rf x :: st) := by
  subst hxo
  intro ho hg H locs hP hD hS ls hl
  obtain ⟨q0, hq, hi⟩ := wld_get (ly := ly) (ad := ad) (μ := μ) (hm hg)
  rw [hly] at hq
  rw [List.map_cons, List.map_cons, List.map_cons, vv_rf, rv_at h0, vv_nu, vv_nu]
  have hzr : inR z := ⟨by omega, by omega⟩
  refine va_zast C.1 C.2.1 C.2.2.2.2.2.1 hP hD hS q0 t0 hq ht (zI_in hz.1 hz.2 hn) hd (fun H1 locs1 hP1 hD1 hS1 => ?_)
  rw [zI_clamp hzr, nar_z, ceN_up, wld_set hD hi (hly _)] at hP1 hD1
  exact kk (ok_up ho hv) (gho_up hg h90) H1 locs1 hP1 hD1 hS1 ls hl
theorem r_aald (C : Cx p s m args meth c D tys A nL cc own ret) {x z : Int} (o : Nat) (h0 : 0 ≤ x) (hxo : x.toNat = o) (hm : gho ids μ → o ∈ ids) (t0 : Nat) {cA : ClassId} {n : Nat} {ty : FieldType} (hly : ly ad o (μ o) = ceR ad cA n (μ o)) (ht : tys[t0]? = some (cA, ty)) (hr : ty.isReference = true) (hz : 0 ≤ z ∧ z < (n : Int)) (hn : n < 2147483648) (hd : decode cc pc = .ok (.aaload, 1)) (kk : V p l e R s m args below meth c cells slots Q D A ly ids ad nL μ (pc + 1) lv (rf (μ o z.toNat) :: st)) : V p l e R s m args below meth c cells slots Q D A ly ids ad nL μ pc lv (nu z :: rf x :: st) := by
  subst hxo
  intro ho hg H locs hP hD hS ls hl
  obtain ⟨q0, hq, -⟩ := wld_get (ly := ly) (ad := ad) (μ := μ) (hm hg)
  rw [hly] at hq
  rw [List.map_cons, List.map_cons, vv_rf, rv_at h0, vv_nu]
  have hzr : inR z := ⟨by omega, by omega⟩
  have hin : vp_in (zI z) n := zI_in hz.1 hz.2 hn
  have hlt : (zI z).toNatClampNeg < n := Nat.not_le.mp fun q => hin (Or.inr q)
  refine W.aald (v := va_rf (ptr ad (μ x.toNat (zI z).toNatClampNeg))) (ty := ty) C.1 C.2.1 (hP q0 _ hq) ((C.2.2.2.2.2.1.2 t0 _ ht).1 n (fun j => va_rf (ptr ad (μ x.toNat j)))) hr (fun q => by cases q) (by show ¬ (zI z < 0 ∨ (arrV _ _ _).slots.size ≤ _); rw [arrV_size]; exact hin) (by show (arrV _ _ _).slots[_]? = _; rw [arrV_read _ _ hlt]) rfl rfl hd ?_
  rw [ptr_rv, zI_clamp hzr]
  exact kk ho hg H locs hP hD hS ls hl
theorem r_alen (C : Cx p s m args meth c D tys A nL cc own ret) {x : Int} (o : Nat) (h0 : 0 ≤ x) (hxo : x.toNat = o) (hm : gho ids μ → o ∈ ids) (t0 : Nat) {cA : ClassId} {n : Nat} (hly : ly ad o (μ o) = ceN cA n (μ o)) {ty : FieldType} (ht : tys[t0]? = some (cA, ty)) (hd : decode cc pc = .ok (.arraylength, 1)) (kk : V p l e R s m args below meth c cells slots Q D A ly ids ad nL μ (pc + 1) lv (nu n :: st)) : V p l e R s m args below meth c cells slots Q D A ly ids ad nL μ pc lv (rf x :: st) := by
  subst hxo
  intro ho hg H locs hP hD hS ls hl
  obtain ⟨q0, hq, -⟩ := wld_get (ly := ly) (ad := ad) (μ := μ) (hm hg)
  rw [hly] at hq
  rw [List.map_cons, vv_rf, rv_at h0]
  exact va_alen (v := zI n) C.1 C.2.1 C.2.2.2.2.2.1 hP q0 t0 hq ht rfl hd (kk ho hg H locs hP hD hS ls hl)
end VH
end
section
/-! CONTRACTS -/
def strLen : List Nat := [4, 4, 3, 3, 4, 4, 5, 0]
def strByt : List (List Int32) := [[102, 108, 97, 116], [114, 97, 109, 112], [99, 117, 116], [119, 97, 121], [114, 97, 102, 116], [114, 111, 112, 101], [101, 97, 114, 116, 104], []]
def strR : List (String × Nat × String × Nat) := [("StoneWorks$TableReader", 85, "flat", 0), ("StoneWorks$TableReader", 87, "ramp", 1), ("StoneWorks$TableReader", 89, "cut", 2), ("StoneWorks$TableReader", 91, "way", 3), ("StoneWorks$TableReader", 93, "raft", 4), ("StoneWorks$TableReader", 95, "rope", 5), ("StoneWorks$TableReader", 97, "earth", 6), ("StoneWorksModel", 150, "flat", 0), ("StoneWorksModel", 152, "ramp", 1), ("StoneWorksModel", 154, "cut", 2), ("StoneWorksModel", 156, "way", 3), ("StoneWorksModel", 158, "raft", 4), ("StoneWorksModel", 160, "rope", 5), ("StoneWorksModel", 162, "earth", 6), ("StoneWorksModel", 164, "", 7)]
def kWithout : List Int := [5, 5, 5, 5, 2, 3, 4, 200, 10]
def kFrom : List Int := [0, 2, 4, 5, 6, 7, 8, 9]
def kGreatest : List Int := [99, 99, 99, 99, 99, 20, 20, 200, 99]
/-- a constant row of numbers under a static field -/
def cfRow (ad : Nat → Nat) (C n : String) (i : Nat) (ks : List Int) (A : Nat → Prop) (U : State) : Prop := va_Z C n "[I" (.ref (ad i)) A U U.heap ∧ va_T .int (ad i) ks.length (fun j => iv (ks.getD j 0)) A U U.heap
/-- the constants that the launch holds: texts, rows, flags; none of them is a cell of the world -/
def CF (ad : Nat → Nat) (A : Nat → Prop) (U : State) : Prop :=
  vk_S 8 strLen strByt (fun i => ad (1000 + i)) (fun i => ad (1020 + i)) A U U.heap ∧ (∀ q ∈ strR, vk_R q.1 q.2.1 q.2.2.1 (ad (1000 + q.2.2.2)) U) ∧
  cfRow ad "StoneWorks$Table" "WITHOUT" 1010 kWithout A U ∧ cfRow ad "StoneWorks$TableReader" "NUMBERS_FROM" 1011 kFrom A U ∧ cfRow ad "StoneWorks$TableReader" "GREATEST" 1012 kGreatest A U ∧
  va_Z "java/lang/String" "COMPACT_STRINGS" "Z" (.int 1) A U U.heap ∧ va_Zq "jdk/internal/util/Preconditions" "SIOOBE_FORMATTER" "Ljava/util/function/BiFunction;" A U U.heap
theorem cfRow.move {ad : Nat → Nat} {C n : String} {i : Nat} {ks : List Int} {A B : Nat → Prop} {s U : State} (h : cfRow ad C n i ks A s) (hv : s.vm.Alike U.vm) (hk : ∀ q : Nat, q < s.heap.size → ¬ A q → U.heap[q]? = s.heap[q]?) (hAB : ∀ q, B q → A q) : cfRow ad C n i ks B U :=
  ⟨((h.1.kept hk).moved hv).narrow hAB, ((h.2.kept hk).moved hv).narrow hAB⟩
theorem CF.move {ad : Nat → Nat} {A B : Nat → Prop} {s U : State} (h : CF ad A s) (hW : s.WarmedH U.vm) (hk : ∀ q : Nat, q < s.heap.size → ¬ A q → U.heap[q]? = s.heap[q]?) (hAB : ∀ q, B q → A q) : CF ad B U := by
  obtain ⟨h1, h2, h3, h4, h5, h6, h7⟩ := h
  have hv := hW.alike
  exact ⟨((h1.kept hk).moved hv).narrow hAB, fun q hq => vk_R.warm hW (h2 q hq), h3.move hv hk hAB, h4.move hv hk hAB, h5.move hv hk hAB, ((h6.kept hk).moved hv).narrow hAB, ((h7.kept hk).moved hv).narrow hAB⟩
/-- the world at a method's start -/
def PW (D : va_G) (tys : List (ClassId × FieldType)) (ly : Lay) (ids : List Nat) (ad : Nat → Nat) (μ : Mem) (sz : Nat) (U : State) : Prop :=
  U.heap.size = sz ∧ ok μ ∧ gho ids μ ∧ va_P D vwCl (wld ly ids ad μ) U.heap ∧ va_K D vwCl tys U ∧ va_D (fun _ => True) (wld ly ids ad μ) ∧ NW U ∧ CF ad (va_A (wld ly ids ad μ) sz) U
/-- and at its end -/
def PE (D : va_G) (tys : List (ClassId × FieldType)) (ly : Lay) (ids : List Nat) (ad : Nat → Nat) (A : Nat → Prop) (μ : Mem) (t : State) : Prop :=
  ok μ ∧ gho ids μ ∧ va_P D vwCl (wld ly ids ad μ) t.heap ∧ va_K D vwCl tys t ∧ va_D A (wld ly ids ad μ)
/-- the room of a method by its height over the leaves -/
def rmk (lev : Nat) : Room := { frames := lev, cells := 0, slots := 0, locals := 60 * lev }
/-- what a method answers: a number, nothing, a reference -/
def aI (D : va_G) (tys : List (ClassId × FieldType)) (ly : Lay) (ids : List Nat) (ad : Nat → Nat) (A : Nat → Prop) (r : Int) (μ' : Mem) : Array Value → State → Outcome → State → Prop := va_Qi (fun r0 u => r0 = zI r ∧ u = μ') (PE D tys ly ids ad A) A
def aV (D : va_G) (tys : List (ClassId × FieldType)) (ly : Lay) (ids : List Nat) (ad : Nat → Nat) (A : Nat → Prop) (_ : Int) (μ' : Mem) : Array Value → State → Outcome → State → Prop := va_Qv (fun u => u = μ') (PE D tys ly ids ad A) A
def aR (D : va_G) (tys : List (ClassId × FieldType)) (ly : Lay) (ids : List Nat) (ad : Nat → Nat) (A : Nat → Prop) (r : Int) (μ' : Mem) : Array Value → State → Outcome → State → Prop := va_Qq (fun r0 u => r0 = ptr ad r ∧ u = μ') (PE D tys ly ids ad A) A
abbrev AQ : Type := va_G → List (ClassId × FieldType) → Lay → List Nat → (Nat → Nat) → (Nat → Prop) → Int → Mem → Array Value → State → Outcome → State → Prop
/-- THE CONTRACT of a method that makes nothing: from the memory mu with these arguments it ends with the answer r and the memory mu' -/
def KK (aq : AQ) (l : Launch) (D : va_G) (tys : List (ClassId × FieldType)) (ly : Lay) (ids : List Nat) (ad : Nat → Nat) (lev : Nat) (y : MethodName) (cc : ByteArray) (mL : Nat) (ret : Option FieldType) (As : List AV) (μ : Mem) (r : Int) (μ' : Mem) : Prop :=
  ∀ sz : Nat, Met l y (Cond.code y cc mL ret :: WS) (rmk lev) (va_Pc (As.map (vv ad)) (PW D tys ly ids ad μ sz)) (aq D tys ly ids ad (va_A (wld ly ids ad μ) sz) r μ') 0 0 (va_A (wld ly ids ad μ) sz)
def entL (As : List AV) (n : Nat) : LV := As.map some ++ List.replicate (n - As.length) none
theorem lg_sl1 (ad : Nat → Nat) (As : List AV) : lg_sl (As.map (vv ad)) = As.map (fun v => Slot.val (vv ad v)) := by
  induction As with
  | nil => rfl
  | cons v vs ih =>
    show lg_sl (vv ad v :: vs.map (vv ad)) = _
    unfold lg_sl at ih ⊢
    rw [List.flatMap_cons, ih, if_neg (by rw [vv_cat]; decide)]
    rfl
theorem lv_args1 (ad : Nat → Nat) : ∀ (As : List AV) (b i : Nat) (v : AV), As[i]? = some v → (b + i, vv ad v) ∈ lv_args b (As.map (vv ad))
  | [], _, _, _, h => by simp at h
  | w :: ws, b, 0, v, h => by
    simp only [List.getElem?_cons_zero, Option.some.injEq] at h
    subst h
    exact List.mem_cons_self
  | w :: ws, b, i + 1, v, h => by
    have h1 := lv_args1 ad ws (b + 1) i v (by simpa using h)
    show _ ∈ (b, vv ad w) :: lv_args (if (vv ad w).category = 2 then b + 2 else b + 1) (ws.map (vv ad))
    rw [if_neg (by rw [vv_cat]; decide)]
    refine List.mem_cons_of_mem _ ?_
    rw [show b + (i + 1) = b + 1 + i by omega]
    exact h1
theorem ent_has (ad : Nat → Nat) (As : List AV) (n : Nat) (h : As.length ≤ n) : lv_has ((lg_sl (As.map (vv ad)) ++ List.replicate (n - (lg_sl (As.map (vv ad))).length) Slot.unset).toArray) n (lvp ad (entL As n)) := by
  have hl := lv_entry (As.map (vv ad)) (n := n) (by rw [lg_sl1, List.length_map]; exact h)
  refine ⟨hl.1, hl.2.1, fun q hq => ?_⟩
  obtain ⟨v, h1, h2⟩ := lvp_of hq
  have h3 : As[q.1]? = some v := by
    unfold entL at h1
    by_cases hlt : q.1 < (As.map some).length
    · rw [List.getElem?_append_left hlt, List.getElem?_map] at h1
      cases hA : As[q.1]? with
      | none => rw [hA] at h1; cases h1
      | some w => rw [hA] at h1; cases h1; rfl
    · rw [List.getElem?_append_right (by omega)] at h1
      exact absurd h1 (by simp [List.getElem?_replicate])
  have h4 := hl.2.2 (q.1, vv ad v) (by have := lv_args1 ad As 0 q.1 v h3; rwa [Nat.zero_add] at this)
  rw [h2]
  exact h4
theorem KK.of {aq : AQ} {l : Launch} {D : va_G} {tys : List (ClassId × FieldType)} {ly : Lay} {ids : List Nat} {ad : Nat → Nat} {lev : Nat} {y : MethodName} {cc : ByteArray} {mL : Nat} {ret : Option FieldType} {As : List AV} {μ : Mem} {r : Int} {μ' : Mem} (hy : plainName y.cls = true) (hn : As.length ≤ mL)
    (body : ∀ (p : Program) (e : Env) (s : State) (m : MethodId) (args : Array Value) (below : List Frame) (meth : Method) (c : Code) (A : Nat → Prop), Cx p s m args meth c D tys A mL cc y.cls ret → CF ad A s → V p l e (rmk lev) s m args below meth c 0 0 (MQ below (aq D tys ly ids ad A r μ') args s 0 0 A) D A ly ids ad mL μ 0 (entL As mL) []) : KK aq l D tys ly ids ad lev y cc mL ret As μ r μ' := by
  intro sz
  refine Met.ofW (cc := cc) (maxL := mL) (ret := ret) hy rfl ?_
  intro p e s m args below meth c s₁ B hml hv
  obtain ⟨rfl, rfl, ho, hg, hP, hK, hD, hNW, hCF⟩ := hv
  have hts := atoms_spec (ws := Cond.code y cc mL ret :: WS) B.pre
  have C : Cx p s m (As.map (vv ad)).toArray meth c D tys (va_A (wld ly ids ad μ) s.heap.size) mL cc y.cls ret := ⟨B.exec, B.bytes, hml, findClass_of_methodNamed B.named, fun w hw => hts w (List.mem_cons_of_mem _ hw), hK, fun q hq => Or.inr hq, B.returns, B.notSynchronized, hNW⟩
  have K := body p e s m _ below meth c _ C hCF ho hg s.heap [] hP hD.self va_S.rf _ (ent_has ad As mL hn)
  rw [lg_entry_eq]
  exact K
section VC
variable {p : Program} {l : Launch} {e : Env} {R : Room} {s : State} {m : MethodId} {args : Array Value} {below : List Frame} {meth : Method} {c : Code} {cells slots : Nat} {Q : State → Prop} {D : va_G} {tys : List (ClassId × FieldType)} {A : Nat → Prop} {ly : Lay} {ids : List Nat} {ad : Nat → Nat} {nL : Nat} {cc : ByteArray} {own : String} {ret : Option FieldType} {μ : Mem} {pc : Nat} {lv : LV} {st : List AV} {aq : AQ} {r : Int} {μ' : Mem}
theorem r_iret (C : Cx p s m args meth c D tys A nL cc own ret) (hr : ret = some .int) (hd : decode cc pc = .ok (.ireturn, 1)) : V p l e R s m args below meth c 0 0 (MQ below (aI D tys ly ids ad A r μ) args s 0 0 A) D A ly ids ad nL μ pc lv [nu r] := by
  intro ho hg H locs hP hD hS ls hl
  exact W.iret (v := zI r) C.1 C.2.1 (C.2.2.2.2.2.2.2.1.trans hr) (fun t ht hW => ⟨⟨zI r, μ, rfl, ⟨rfl, rfl⟩, ⟨ho, hg, by rw [ht]; exact hP, va_K.moved hW.alike C.2.2.2.2.2.1, hD⟩⟩, hS.F ht⟩) hS.2.2 hd C.2.2.2.2.2.2.2.2.1
theorem r_zret (C : Cx p s m args meth c D tys A nL cc own ret) (hr : ret = some .boolean) (hb : r = 0 ∨ r = 1) (hd : decode cc pc = .ok (.ireturn, 1)) : V p l e R s m args below meth c 0 0 (MQ below (aI D tys ly ids ad A r μ) args s 0 0 A) D A ly ids ad nL μ pc lv [nu r] := by
  intro ho hg H locs hP hD hS ls hl
  exact W.zret (v := zI r) C.1 C.2.1 (C.2.2.2.2.2.2.2.1.trans hr) (by rcases hb with rfl | rfl <;> rfl) (fun t ht hW => ⟨⟨zI r, μ, rfl, ⟨rfl, rfl⟩, ⟨ho, hg, by rw [ht]; exact hP, va_K.moved hW.alike C.2.2.2.2.2.1, hD⟩⟩, hS.F ht⟩) hS.2.2 hd C.2.2.2.2.2.2.2.2.1
theorem r_vret (C : Cx p s m args meth c D tys A nL cc own ret) (hr : ret = none) (hd : decode cc pc = .ok (.return_, 1)) : V p l e R s m args below meth c 0 0 (MQ below (aV D tys ly ids ad A r μ) args s 0 0 A) D A ly ids ad nL μ pc lv [] := by
  intro ho hg H locs hP hD hS ls hl
  exact W.vret C.1 C.2.1 (C.2.2.2.2.2.2.2.1.trans hr) (fun t ht hW => ⟨⟨μ, rfl, rfl, ⟨ho, hg, by rw [ht]; exact hP, va_K.moved hW.alike C.2.2.2.2.2.1, hD⟩⟩, hS.F ht⟩) hS.2.2 hd C.2.2.2.2.2.2.2.2.1
theorem r_aret (C : Cx p s m args meth c D tys A nL cc own ret) {rt : FieldType} (hr : ret = some rt) (hrt : (∃ n, rt = .object n) ∨ ∃ t, rt = .array t) (hd : decode cc pc = .ok (.areturn, 1)) : V p l e R s m args below meth c 0 0 (MQ below (aR D tys ly ids ad A r μ) args s 0 0 A) D A ly ids ad nL μ pc lv [rf r] := by
  intro ho hg H locs hP hD hS ls hl
  exact W.aret (v := rv ad r) C.1 C.2.1 (C.2.2.2.2.2.2.2.1.trans hr) hrt (by unfold rv; split; exact Or.inl rfl; exact Or.inr ⟨_, rfl⟩) (fun t ht hW => ⟨⟨ptr ad r, μ, by rw [ptr_rv], ⟨rfl, rfl⟩, ⟨ho, hg, by rw [ht]; exact hP, va_K.moved hW.alike C.2.2.2.2.2.1, hD⟩⟩, hS.F ht⟩) hS.2.2 hd C.2.2.2.2.2.2.2.2.1
theorem sum_cat (ad : Nat → Nat) (st : List AV) : ((st.map ((fun v => v.category) ∘ vv ad))).sum = st.length := by
  induction st with
  | nil => rfl
  | cons v vs ih =>
    rw [List.map_cons, List.sum_cons, ih]
    show (vv ad v).category + vs.length = vs.length + 1
    rw [vv_cat]
    omega
theorem CF.same {A : Nat → Prop} {U : State} {g : JFrame} {mk : MethodId} {a : Array Value} (h : CF ad A U) : CF ad A (U.calling g mk a) := by
  obtain ⟨h1, h2, h3, h4, h5, h6, h7⟩ := h
  have hv : U.vm.Alike (U.calling g mk a).vm := Vm.Alike.refl U.vm
  exact ⟨h1.moved hv, fun q hq => vk_R.same (u := U) rfl (h2 q hq), ⟨h3.1.moved hv, h3.2.moved hv⟩, ⟨h4.1.moved hv, h4.2.moved hv⟩, ⟨h5.1.moved hv, h5.2.moved hv⟩, h6.moved hv, h7.moved hv⟩
theorem r_callVI (C : Cx p s m args meth c D tys A nL cc own ret) (hCF : CF ad A s) {y : MethodName} {bytes : ByteArray} {mL index lev lev' : Nat} {ret2 : Option FieldType} {As : List AV} {x : Int} (o : Nat) (h0 : 0 ≤ x) (hxo : x.toNat = o) (hm : gho ids μ → o ∈ ids) {ci : Nat} {cs : List AV} (hly : ly ad o (μ o) = ceO ad ci cs) {T : u_T} {N : Nat} (hc : vwCl[ci]? = some (y.cls, T, N)) (hM : KK aI l D tys ly ids ad lev y bytes mL ret2 (rf x :: As) μ r μ') (hR : R = rmk lev') (hlev : lev + 1 ≤ lev') (hmL : mL ≤ 40) (hcs : cells + 0 ≤ (rmk lev').cells ∧ slots + 0 ≤ (rmk lev').slots) (hlk : Cond.methodLink own index y ∈ WS) (hcode : Cond.code y bytes mL ret2 ∈ WS) (hini : Cond.initialized y.cls ∈ WS) (hinst : Cond.instanceMethod y ∈ WS) (hsel : Cond.selects y.cls y y ∈ WS) (n : Nat) (hdd : y.cls ≠ "java/lang/invoke/MethodHandle" ∧ y.cls ≠ "java/lang/invoke/VarHandle" ∧ (parseMethodDescriptor y.desc).map (fun d => d.parameters.length) = some n) (hn : As.length = n) (hst8 : st.length ≤ 8) (hd : decode cc pc = .ok (.invokevirtual index, 3)) (kk : V p l e R s m args below meth c cells slots Q D A ly ids ad nL μ' (pc + 3) lv (nu r :: st)) : V p l e R s m args below meth c cells slots Q D A ly ids ad nL μ pc lv (As.reverse ++ rf x :: st) := by
  subst hR
  intro ho hg H locs hP hD hS ls hl
  have hts := C.2.2.2.2.1
  have hlR : (rmk lev).frames + 1 ≤ (rmk lev').frames ∧ 8 + (mL + 11) + (rmk lev).locals ≤ (rmk lev').locals := ⟨hlev, by show 8 + (mL + 11) + 60 * lev ≤ 60 * lev'; omega⟩
  have hFc : ∀ q, va_A (wld ly ids ad μ) H.size q → A q := fun q h => by
    rcases h with ⟨k, ee, h⟩ | h
    · exact hD.2 k (q, ee) h
    · exact C.2.2.2.2.2.2.1 q (Nat.le_trans hS.1 h)
  have hpre : ∀ U : State, U.heap = H → s.WarmedH U.vm → va_Pc ((rf x :: As).map (vv ad)) (PW D tys ly ids ad μ H.size) ((rf x :: As).map (vv ad)).toArray U := fun U hU hW => ⟨rfl, by rw [hU], ho, hg, by rw [hU]; exact hP, va_K.moved hW.alike C.2.2.2.2.2.1, hD.weaken (fun _ _ _ _ => trivial), NW.warm hW C.2.2.2.2.2.2.2.2.2, hCF.move hW (fun q h1 h2 => by rw [hU]; exact hS.2.1 q h1 h2) hFc⟩
  have hbl : FrameBlind (va_Pc ((rf x :: As).map (vv ad)) (PW D tys ly ids ad μ H.size)) := fun a U g mk q => by
    obtain ⟨q0, q1, q2, q3, q4, q5, q6, q7, q8⟩ := q
    exact ⟨q0, q1, q2, q3, q4, va_K.moved (u := U) (U := U.calling g mk a) (Vm.Alike.refl U.vm) q5, q6, fun w hw hn => va_Nw.same (u := U) (by cases w <;> first | rfl | (simp [nestW] at hn; done)) rfl (q7 w hw hn), CF.same q8⟩
  subst hxo
  obtain ⟨q0, hq, -⟩ := wld_get (ly := ly) (ad := ad) (μ := μ) (hm hg)
  rw [hly] at hq
  have hstk : ((As.reverse ++ rf x :: st).map (vv ad)) = (As.map (vv ad)).reverse ++ .ref (ad x.toNat) :: st.map (vv ad) := by
    rw [List.map_append, List.map_reverse, List.map_cons, vv_rf, rv_at h0]
  have hre : (Value.ref (ad x.toNat) :: As.map (vv ad)) = (rf x :: As).map (vv ad) := by
    rw [List.map_cons, vv_rf, rv_at h0]
  rw [hstk]
  have hcz : cells + 0 ≤ (rmk lev').cells ∧ slots + 0 ≤ (rmk lev').slots := hcs
  refine va_calli (va_runV (As := As.map (vv ad)) (rest := st.map (vv ad)) (n := n) ⟨C.1, C.2.1, C.2.2.1, C.2.2.2.1, hts⟩ (hM H.size) ⟨callB_of n hts (WS_good hcode) rfl rfl rfl (hts _ hini) (hts _ hlk) hdd hlR, hts _ hinst, hts _ hsel⟩ ⟨hbl, va_recv C.2.2.2.2.2.1 hP hc hq, fun U hU hW => by rw [hre]; exact hpre U hU hW⟩ rfl (by rw [List.length_map]; exact hn) hl.1 rfl (lv_room (by rw [List.map_map]; exact Nat.le_trans (Nat.le_of_eq (sum_cat ad st)) hst8)) hd ⟨hcz.1, hcz.2⟩) hS (fun q _ h => hFc q h) hFc (fun r0 u t H1 locs1 ht hvm hw hB hz1 hk1 hS1 => ?_)
  obtain ⟨rfl, rfl⟩ := hw
  obtain ⟨ho1, hg1, hP1, hK1, hD1⟩ := hB
  rw [ht] at hP1
  have K := kk ho1 hg1 H1 locs1 hP1 (hD1.weaken (fun k q _ h => hFc q.1 h)) hS1 ls hl
  exact K
theorem r_callVV (C : Cx p s m args meth c D tys A nL cc own ret) (hCF : CF ad A s) {y : MethodName} {bytes : ByteArray} {mL index lev lev' : Nat} {ret2 : Option FieldType} {As : List AV} {x : Int} (o : Nat) (h0 : 0 ≤ x) (hxo : x.toNat = o) (hm : gho ids μ → o ∈ ids) {ci : Nat} {cs : List AV} (hly : ly ad o (μ o) = ceO ad ci cs) {T : u_T} {N : Nat} (hc : vwCl[ci]? = some (y.cls, T, N)) (hM : KK aV l D tys ly ids ad lev y bytes mL ret2 (rf x :: As) μ r μ') (hR : R = rmk lev') (hlev : lev + 1 ≤ lev') (hmL : mL ≤ 40) (hcs : cells + 0 ≤ (rmk lev').cells ∧ slots + 0 ≤ (rmk lev').slots) (hlk : Cond.methodLink own index y ∈ WS) (hcode : Cond.code y bytes mL ret2 ∈ WS) (hini : Cond.initialized y.cls ∈ WS) (hinst : Cond.instanceMethod y ∈ WS) (hsel : Cond.selects y.cls y y ∈ WS) (n : Nat) (hdd : y.cls ≠ "java/lang/invoke/MethodHandle" ∧ y.cls ≠ "java/lang/invoke/VarHandle" ∧ (parseMethodDescriptor y.desc).map (fun d => d.parameters.length) = some n) (hn : As.length = n) (hst8 : st.length ≤ 8) (hd : decode cc pc = .ok (.invokevirtual index, 3)) (kk : V p l e R s m args below meth c cells slots Q D A ly ids ad nL μ' (pc + 3) lv st) : V p l e R s m args below meth c cells slots Q D A ly ids ad nL μ pc lv (As.reverse ++ rf x :: st) := by
  subst hR
  intro ho hg H locs hP hD hS ls hl
  have hts := C.2.2.2.2.1
  have hlR : (rmk lev).frames + 1 ≤ (rmk lev').frames ∧ 8 + (mL + 11) + (rmk lev).locals ≤ (rmk lev').locals := ⟨hlev, by show 8 + (mL + 11) + 60 * lev ≤ 60 * lev'; omega⟩
  have hFc : ∀ q, va_A (wld ly ids ad μ) H.size q → A q := fun q h => by
    rcases h with ⟨k, ee, h⟩ | h
    · exact hD.2 k (q, ee) h
    · exact C.2.2.2.2.2.2.1 q (Nat.le_trans hS.1 h)
  have hpre : ∀ U : State, U.heap = H → s.WarmedH U.vm → va_Pc ((rf x :: As).map (vv ad)) (PW D tys ly ids ad μ H.size) ((rf x :: As).map (vv ad)).toArray U := fun U hU hW => ⟨rfl, by rw [hU], ho, hg, by rw [hU]; exact hP, va_K.moved hW.alike C.2.2.2.2.2.1, hD.weaken (fun _ _ _ _ => trivial), NW.warm hW C.2.2.2.2.2.2.2.2.2, hCF.move hW (fun q h1 h2 => by rw [hU]; exact hS.2.1 q h1 h2) hFc⟩
  have hbl : FrameBlind (va_Pc ((rf x :: As).map (vv ad)) (PW D tys ly ids ad μ H.size)) := fun a U g mk q => by
    obtain ⟨q0, q1, q2, q3, q4, q5, q6, q7, q8⟩ := q
    exact ⟨q0, q1, q2, q3, q4, va_K.moved (u := U) (U := U.calling g mk a) (Vm.Alike.refl U.vm) q5, q6, fun w hw hn => va_Nw.same (u := U) (by cases w <;> first | rfl | (simp [nestW] at hn; done)) rfl (q7 w hw hn), CF.same q8⟩
  subst hxo
  obtain ⟨q0, hq, -⟩ := wld_get (ly := ly) (ad := ad) (μ := μ) (hm hg)
  rw [hly] at hq
  have hstk : ((As.reverse ++ rf x :: st).map (vv ad)) = (As.map (vv ad)).reverse ++ .ref (ad x.toNat) :: st.map (vv ad) := by
    rw [List.map_append, List.map_reverse, List.map_cons, vv_rf, rv_at h0]
  have hre : (Value.ref (ad x.toNat) :: As.map (vv ad)) = (rf x :: As).map (vv ad) := by
    rw [List.map_cons, vv_rf, rv_at h0]
  rw [hstk]
  have hcz : cells + 0 ≤ (rmk lev').cells ∧ slots + 0 ≤ (rmk lev').slots := hcs
  refine va_callv (va_runV (As := As.map (vv ad)) (rest := st.map (vv ad)) (n := n) ⟨C.1, C.2.1, C.2.2.1, C.2.2.2.1, hts⟩ (hM H.size) ⟨callB_of n hts (WS_good hcode) rfl rfl rfl (hts _ hini) (hts _ hlk) hdd hlR, hts _ hinst, hts _ hsel⟩ ⟨hbl, va_recv C.2.2.2.2.2.1 hP hc hq, fun U hU hW => by rw [hre]; exact hpre U hU hW⟩ rfl (by rw [List.length_map]; exact hn) hl.1 rfl (lv_room (by rw [List.map_map]; exact Nat.le_trans (Nat.le_of_eq (sum_cat ad st)) hst8)) hd ⟨hcz.1, hcz.2⟩) hS (fun q _ h => hFc q h) hFc (fun u t H1 locs1 ht hvm hw hB hz1 hk1 hS1 => ?_)
  subst hw
  obtain ⟨ho1, hg1, hP1, hK1, hD1⟩ := hB
  rw [ht] at hP1
  have K := kk ho1 hg1 H1 locs1 hP1 (hD1.weaken (fun k q _ h => hFc q.1 h)) hS1 ls hl
  exact K
theorem r_callVR (C : Cx p s m args meth c D tys A nL cc own ret) (hCF : CF ad A s) {y : MethodName} {bytes : ByteArray} {mL index lev lev' : Nat} {ret2 : Option FieldType} {As : List AV} {x : Int} (o : Nat) (h0 : 0 ≤ x) (hxo : x.toNat = o) (hm : gho ids μ → o ∈ ids) {ci : Nat} {cs : List AV} (hly : ly ad o (μ o) = ceO ad ci cs) {T : u_T} {N : Nat} (hc : vwCl[ci]? = some (y.cls, T, N)) (hM : KK aR l D tys ly ids ad lev y bytes mL ret2 (rf x :: As) μ r μ') (hR : R = rmk lev') (hlev : lev + 1 ≤ lev') (hmL : mL ≤ 40) (hcs : cells + 0 ≤ (rmk lev').cells ∧ slots + 0 ≤ (rmk lev').slots) (hlk : Cond.methodLink own index y ∈ WS) (hcode : Cond.code y bytes mL ret2 ∈ WS) (hini : Cond.initialized y.cls ∈ WS) (hinst : Cond.instanceMethod y ∈ WS) (hsel : Cond.selects y.cls y y ∈ WS) (n : Nat) (hdd : y.cls ≠ "java/lang/invoke/MethodHandle" ∧ y.cls ≠ "java/lang/invoke/VarHandle" ∧ (parseMethodDescriptor y.desc).map (fun d => d.parameters.length) = some n) (hn : As.length = n) (hst8 : st.length ≤ 8) (hd : decode cc pc = .ok (.invokevirtual index, 3)) (kk : V p l e R s m args below meth c cells slots Q D A ly ids ad nL μ' (pc + 3) lv (rf r :: st)) : V p l e R s m args below meth c cells slots Q D A ly ids ad nL μ pc lv (As.reverse ++ rf x :: st) := by
  subst hR
  intro ho hg H locs hP hD hS ls hl
  have hts := C.2.2.2.2.1
  have hlR : (rmk lev).frames + 1 ≤ (rmk lev').frames ∧ 8 + (mL + 11) + (rmk lev).locals ≤ (rmk lev').locals := ⟨hlev, by show 8 + (mL + 11) + 60 * lev ≤ 60 * lev'; omega⟩
  have hFc : ∀ q, va_A (wld ly ids ad μ) H.size q → A q := fun q h => by
    rcases h with ⟨k, ee, h⟩ | h
    · exact hD.2 k (q, ee) h
    · exact C.2.2.2.2.2.2.1 q (Nat.le_trans hS.1 h)
  have hpre : ∀ U : State, U.heap = H → s.WarmedH U.vm → va_Pc ((rf x :: As).map (vv ad)) (PW D tys ly ids ad μ H.size) ((rf x :: As).map (vv ad)).toArray U := fun U hU hW => ⟨rfl, by rw [hU], ho, hg, by rw [hU]; exact hP, va_K.moved hW.alike C.2.2.2.2.2.1, hD.weaken (fun _ _ _ _ => trivial), NW.warm hW C.2.2.2.2.2.2.2.2.2, hCF.move hW (fun q h1 h2 => by rw [hU]; exact hS.2.1 q h1 h2) hFc⟩
  have hbl : FrameBlind (va_Pc ((rf x :: As).map (vv ad)) (PW D tys ly ids ad μ H.size)) := fun a U g mk q => by
    obtain ⟨q0, q1, q2, q3, q4, q5, q6, q7, q8⟩ := q
    exact ⟨q0, q1, q2, q3, q4, va_K.moved (u := U) (U := U.calling g mk a) (Vm.Alike.refl U.vm) q5, q6, fun w hw hn => va_Nw.same (u := U) (by cases w <;> first | rfl | (simp [nestW] at hn; done)) rfl (q7 w hw hn), CF.same q8⟩
  subst hxo
  obtain ⟨q0, hq, -⟩ := wld_get (ly := ly) (ad := ad) (μ := μ) (hm hg)
  rw [hly] at hq
  have hstk : ((As.reverse ++ rf x :: st).map (vv ad)) = (As.map (vv ad)).reverse ++ .ref (ad x.toNat) :: st.map (vv ad) := by
    rw [List.map_append, List.map_reverse, List.map_cons, vv_rf, rv_at h0]
  have hre : (Value.ref (ad x.toNat) :: As.map (vv ad)) = (rf x :: As).map (vv ad) := by
    rw [List.map_cons, vv_rf, rv_at h0]
  rw [hstk]
  have hcz : cells + 0 ≤ (rmk lev').cells ∧ slots + 0 ≤ (rmk lev').slots := hcs
  refine va_callq (va_runV (As := As.map (vv ad)) (rest := st.map (vv ad)) (n := n) ⟨C.1, C.2.1, C.2.2.1, C.2.2.2.1, hts⟩ (hM H.size) ⟨callB_of n hts (WS_good hcode) rfl rfl rfl (hts _ hini) (hts _ hlk) hdd hlR, hts _ hinst, hts _ hsel⟩ ⟨hbl, va_recv C.2.2.2.2.2.1 hP hc hq, fun U hU hW => by rw [hre]; exact hpre U hU hW⟩ rfl (by rw [List.length_map]; exact hn) hl.1 rfl (lv_room (by rw [List.map_map]; exact Nat.le_trans (Nat.le_of_eq (sum_cat ad st)) hst8)) hd ⟨hcz.1, hcz.2⟩) hS (fun q _ h => hFc q h) hFc (fun r0 u t H1 locs1 ht hvm hw hB hz1 hk1 hS1 => ?_)
  obtain ⟨rfl, rfl⟩ := hw
  obtain ⟨ho1, hg1, hP1, hK1, hD1⟩ := hB
  rw [ht] at hP1
  have K := kk ho1 hg1 H1 locs1 hP1 (hD1.weaken (fun k q _ h => hFc q.1 h)) hS1 ls hl
  rw [ptr_rv]
  exact K
theorem r_callSI (C : Cx p s m args meth c D tys A nL cc own ret) (hCF : CF ad A s) {y : MethodName} {bytes : ByteArray} {mL index lev lev' : Nat} {ret2 : Option FieldType} {As : List AV} (hM : KK aI l D tys ly ids ad lev y bytes mL ret2 (As) μ r μ') (hR : R = rmk lev') (hlev : lev + 1 ≤ lev') (hmL : mL ≤ 40) (hcs : cells + 0 ≤ (rmk lev').cells ∧ slots + 0 ≤ (rmk lev').slots) (hlk : Cond.methodLink own index y ∈ WS) (hcode : Cond.code y bytes mL ret2 ∈ WS) (hini : Cond.initialized y.cls ∈ WS) (hst : Cond.static y ∈ WS) (n : Nat) (hdd : y.cls ≠ "java/lang/invoke/MethodHandle" ∧ y.cls ≠ "java/lang/invoke/VarHandle" ∧ (parseMethodDescriptor y.desc).map (fun d => d.parameters.length) = some n) (hn : As.length = n) (hst8 : st.length ≤ 8) (hd : decode cc pc = .ok (.invokestatic index, 3)) (kk : V p l e R s m args below meth c cells slots Q D A ly ids ad nL μ' (pc + 3) lv (nu r :: st)) : V p l e R s m args below meth c cells slots Q D A ly ids ad nL μ pc lv (As.reverse ++ st) := by
  subst hR
  intro ho hg H locs hP hD hS ls hl
  have hts := C.2.2.2.2.1
  have hlR : (rmk lev).frames + 1 ≤ (rmk lev').frames ∧ 8 + (mL + 11) + (rmk lev).locals ≤ (rmk lev').locals := ⟨hlev, by show 8 + (mL + 11) + 60 * lev ≤ 60 * lev'; omega⟩
  have hFc : ∀ q, va_A (wld ly ids ad μ) H.size q → A q := fun q h => by
    rcases h with ⟨k, ee, h⟩ | h
    · exact hD.2 k (q, ee) h
    · exact C.2.2.2.2.2.2.1 q (Nat.le_trans hS.1 h)
  have hpre : ∀ U : State, U.heap = H → s.WarmedH U.vm → va_Pc ((As).map (vv ad)) (PW D tys ly ids ad μ H.size) ((As).map (vv ad)).toArray U := fun U hU hW => ⟨rfl, by rw [hU], ho, hg, by rw [hU]; exact hP, va_K.moved hW.alike C.2.2.2.2.2.1, hD.weaken (fun _ _ _ _ => trivial), NW.warm hW C.2.2.2.2.2.2.2.2.2, hCF.move hW (fun q h1 h2 => by rw [hU]; exact hS.2.1 q h1 h2) hFc⟩
  have hbl : FrameBlind (va_Pc ((As).map (vv ad)) (PW D tys ly ids ad μ H.size)) := fun a U g mk q => by
    obtain ⟨q0, q1, q2, q3, q4, q5, q6, q7, q8⟩ := q
    exact ⟨q0, q1, q2, q3, q4, va_K.moved (u := U) (U := U.calling g mk a) (Vm.Alike.refl U.vm) q5, q6, fun w hw hn => va_Nw.same (u := U) (by cases w <;> first | rfl | (simp [nestW] at hn; done)) rfl (q7 w hw hn), CF.same q8⟩
  have hstk : ((As.reverse ++ st).map (vv ad)) = (As.map (vv ad)).reverse ++ st.map (vv ad) := by
    rw [List.map_append, List.map_reverse]
  rw [hstk]
  have hcz : cells + 0 ≤ (rmk lev').cells ∧ slots + 0 ≤ (rmk lev').slots := hcs
  refine va_calli (va_runS (As := As.map (vv ad)) (rest := st.map (vv ad)) (n := n) ⟨C.1, C.2.1, C.2.2.1, C.2.2.2.1, hts⟩ (hM H.size) ⟨callB_of n hts (WS_good hcode) rfl rfl rfl (hts _ hini) (hts _ hlk) hdd hlR, hts _ hst⟩ ⟨hbl, hpre⟩ rfl (by rw [List.length_map]; exact hn) hl.1 rfl (lv_room (by rw [List.map_map]; exact Nat.le_trans (Nat.le_of_eq (sum_cat ad st)) hst8)) hd ⟨hcz.1, hcz.2⟩) hS (fun q _ h => hFc q h) hFc (fun r0 u t H1 locs1 ht hvm hw hB hz1 hk1 hS1 => ?_)
  obtain ⟨rfl, rfl⟩ := hw
  obtain ⟨ho1, hg1, hP1, hK1, hD1⟩ := hB
  rw [ht] at hP1
  have K := kk ho1 hg1 H1 locs1 hP1 (hD1.weaken (fun k q _ h => hFc q.1 h)) hS1 ls hl
  exact K
theorem r_callSV (C : Cx p s m args meth c D tys A nL cc own ret) (hCF : CF ad A s) {y : MethodName} {bytes : ByteArray} {mL index lev lev' : Nat} {ret2 : Option FieldType} {As : List AV} (hM : KK aV l D tys ly ids ad lev y bytes mL ret2 (As) μ r μ') (hR : R = rmk lev') (hlev : lev + 1 ≤ lev') (hmL : mL ≤ 40) (hcs : cells + 0 ≤ (rmk lev').cells ∧ slots + 0 ≤ (rmk lev').slots) (hlk : Cond.methodLink own index y ∈ WS) (hcode : Cond.code y bytes mL ret2 ∈ WS) (hini : Cond.initialized y.cls ∈ WS) (hst : Cond.static y ∈ WS) (n : Nat) (hdd : y.cls ≠ "java/lang/invoke/MethodHandle" ∧ y.cls ≠ "java/lang/invoke/VarHandle" ∧ (parseMethodDescriptor y.desc).map (fun d => d.parameters.length) = some n) (hn : As.length = n) (hst8 : st.length ≤ 8) (hd : decode cc pc = .ok (.invokestatic index, 3)) (kk : V p l e R s m args below meth c cells slots Q D A ly ids ad nL μ' (pc + 3) lv st) : V p l e R s m args below meth c cells slots Q D A ly ids ad nL μ pc lv (As.reverse ++ st) := by
  subst hR
  intro ho hg H locs hP hD hS ls hl
  have hts := C.2.2.2.2.1
  have hlR : (rmk lev).frames + 1 ≤ (rmk lev').frames ∧ 8 + (mL + 11) + (rmk lev).locals ≤ (rmk lev').locals := ⟨hlev, by show 8 + (mL + 11) + 60 * lev ≤ 60 * lev'; omega⟩
  have hFc : ∀ q, va_A (wld ly ids ad μ) H.size q → A q := fun q h => by
    rcases h with ⟨k, ee, h⟩ | h
    · exact hD.2 k (q, ee) h
    · exact C.2.2.2.2.2.2.1 q (Nat.le_trans hS.1 h)
  have hpre : ∀ U : State, U.heap = H → s.WarmedH U.vm → va_Pc ((As).map (vv ad)) (PW D tys ly ids ad μ H.size) ((As).map (vv ad)).toArray U := fun U hU hW => ⟨rfl, by rw [hU], ho, hg, by rw [hU]; exact hP, va_K.moved hW.alike C.2.2.2.2.2.1, hD.weaken (fun _ _ _ _ => trivial), NW.warm hW C.2.2.2.2.2.2.2.2.2, hCF.move hW (fun q h1 h2 => by rw [hU]; exact hS.2.1 q h1 h2) hFc⟩
  have hbl : FrameBlind (va_Pc ((As).map (vv ad)) (PW D tys ly ids ad μ H.size)) := fun a U g mk q => by
    obtain ⟨q0, q1, q2, q3, q4, q5, q6, q7, q8⟩ := q
    exact ⟨q0, q1, q2, q3, q4, va_K.moved (u := U) (U := U.calling g mk a) (Vm.Alike.refl U.vm) q5, q6, fun w hw hn => va_Nw.same (u := U) (by cases w <;> first | rfl | (simp [nestW] at hn; done)) rfl (q7 w hw hn), CF.same q8⟩
  have hstk : ((As.reverse ++ st).map (vv ad)) = (As.map (vv ad)).reverse ++ st.map (vv ad) := by
    rw [List.map_append, List.map_reverse]
  rw [hstk]
  have hcz : cells + 0 ≤ (rmk lev').cells ∧ slots + 0 ≤ (rmk lev').slots := hcs
  refine va_callv (va_runS (As := As.map (vv ad)) (rest := st.map (vv ad)) (n := n) ⟨C.1, C.2.1, C.2.2.1, C.2.2.2.1, hts⟩ (hM H.size) ⟨callB_of n hts (WS_good hcode) rfl rfl rfl (hts _ hini) (hts _ hlk) hdd hlR, hts _ hst⟩ ⟨hbl, hpre⟩ rfl (by rw [List.length_map]; exact hn) hl.1 rfl (lv_room (by rw [List.map_map]; exact Nat.le_trans (Nat.le_of_eq (sum_cat ad st)) hst8)) hd ⟨hcz.1, hcz.2⟩) hS (fun q _ h => hFc q h) hFc (fun u t H1 locs1 ht hvm hw hB hz1 hk1 hS1 => ?_)
  subst hw
  obtain ⟨ho1, hg1, hP1, hK1, hD1⟩ := hB
  rw [ht] at hP1
  have K := kk ho1 hg1 H1 locs1 hP1 (hD1.weaken (fun k q _ h => hFc q.1 h)) hS1 ls hl
  exact K
theorem r_callSR (C : Cx p s m args meth c D tys A nL cc own ret) (hCF : CF ad A s) {y : MethodName} {bytes : ByteArray} {mL index lev lev' : Nat} {ret2 : Option FieldType} {As : List AV} (hM : KK aR l D tys ly ids ad lev y bytes mL ret2 (As) μ r μ') (hR : R = rmk lev') (hlev : lev + 1 ≤ lev') (hmL : mL ≤ 40) (hcs : cells + 0 ≤ (rmk lev').cells ∧ slots + 0 ≤ (rmk lev').slots) (hlk : Cond.methodLink own index y ∈ WS) (hcode : Cond.code y bytes mL ret2 ∈ WS) (hini : Cond.initialized y.cls ∈ WS) (hst : Cond.static y ∈ WS) (n : Nat) (hdd : y.cls ≠ "java/lang/invoke/MethodHandle" ∧ y.cls ≠ "java/lang/invoke/VarHandle" ∧ (parseMethodDescriptor y.desc).map (fun d => d.parameters.length) = some n) (hn : As.length = n) (hst8 : st.length ≤ 8) (hd : decode cc pc = .ok (.invokestatic index, 3)) (kk : V p l e R s m args below meth c cells slots Q D A ly ids ad nL μ' (pc + 3) lv (rf r :: st)) : V p l e R s m args below meth c cells slots Q D A ly ids ad nL μ pc lv (As.reverse ++ st) := by
  subst hR
  intro ho hg H locs hP hD hS ls hl
  have hts := C.2.2.2.2.1
  have hlR : (rmk lev).frames + 1 ≤ (rmk lev').frames ∧ 8 + (mL + 11) + (rmk lev).locals ≤ (rmk lev').locals := ⟨hlev, by show 8 + (mL + 11) + 60 * lev ≤ 60 * lev'; omega⟩
  have hFc : ∀ q, va_A (wld ly ids ad μ) H.size q → A q := fun q h => by
    rcases h with ⟨k, ee, h⟩ | h
    · exact hD.2 k (q, ee) h
    · exact C.2.2.2.2.2.2.1 q (Nat.le_trans hS.1 h)
  have hpre : ∀ U : State, U.heap = H → s.WarmedH U.vm → va_Pc ((As).map (vv ad)) (PW D tys ly ids ad μ H.size) ((As).map (vv ad)).toArray U := fun U hU hW => ⟨rfl, by rw [hU], ho, hg, by rw [hU]; exact hP, va_K.moved hW.alike C.2.2.2.2.2.1, hD.weaken (fun _ _ _ _ => trivial), NW.warm hW C.2.2.2.2.2.2.2.2.2, hCF.move hW (fun q h1 h2 => by rw [hU]; exact hS.2.1 q h1 h2) hFc⟩
  have hbl : FrameBlind (va_Pc ((As).map (vv ad)) (PW D tys ly ids ad μ H.size)) := fun a U g mk q => by
    obtain ⟨q0, q1, q2, q3, q4, q5, q6, q7, q8⟩ := q
    exact ⟨q0, q1, q2, q3, q4, va_K.moved (u := U) (U := U.calling g mk a) (Vm.Alike.refl U.vm) q5, q6, fun w hw hn => va_Nw.same (u := U) (by cases w <;> first | rfl | (simp [nestW] at hn; done)) rfl (q7 w hw hn), CF.same q8⟩
  have hstk : ((As.reverse ++ st).map (vv ad)) = (As.map (vv ad)).reverse ++ st.map (vv ad) := by
    rw [List.map_append, List.map_reverse]
  rw [hstk]
  have hcz : cells + 0 ≤ (rmk lev').cells ∧ slots + 0 ≤ (rmk lev').slots := hcs
  refine va_callq (va_runS (As := As.map (vv ad)) (rest := st.map (vv ad)) (n := n) ⟨C.1, C.2.1, C.2.2.1, C.2.2.2.1, hts⟩ (hM H.size) ⟨callB_of n hts (WS_good hcode) rfl rfl rfl (hts _ hini) (hts _ hlk) hdd hlR, hts _ hst⟩ ⟨hbl, hpre⟩ rfl (by rw [List.length_map]; exact hn) hl.1 rfl (lv_room (by rw [List.map_map]; exact Nat.le_trans (Nat.le_of_eq (sum_cat ad st)) hst8)) hd ⟨hcz.1, hcz.2⟩) hS (fun q _ h => hFc q h) hFc (fun r0 u t H1 locs1 ht hvm hw hB hz1 hk1 hS1 => ?_)
  obtain ⟨rfl, rfl⟩ := hw
  obtain ⟨ho1, hg1, hP1, hK1, hD1⟩ := hB
  rw [ht] at hP1
  have K := kk ho1 hg1 H1 locs1 hP1 (hD1.weaken (fun k q _ h => hFc q.1 h)) hS1 ls hl
  rw [ptr_rv]
  exact K
theorem r_callVNI (C : Cx p s m args meth c D tys A nL cc own ret) (hCF : CF ad A s) {y : MethodName} {bytes : ByteArray} {mL index lev lev' : Nat} {ret2 : Option FieldType} {As : List AV} {host : String} {x : Int} (o : Nat) (h0 : 0 ≤ x) (hxo : x.toNat = o) (hm : gho ids μ → o ∈ ids) {ci : Nat} {cs : List AV} (hly : ly ad o (μ o) = ceO ad ci cs) {T : u_T} {N : Nat} (hc : vwCl[ci]? = some (y.cls, T, N)) (hM : KK aI l D tys ly ids ad lev y bytes mL ret2 (rf x :: As) μ r μ') (hR : R = rmk lev') (hlev : lev + 1 ≤ lev') (hmL : mL ≤ 40) (hcs : cells + 0 ≤ (rmk lev').cells ∧ slots + 0 ≤ (rmk lev').slots) (hlk : Cond.methodLinkNest own index y host ∈ lw_tbl) (hcode : Cond.code y bytes mL ret2 ∈ WS) (hini : Cond.initialized y.cls ∈ WS) (hinst : Cond.instanceMethod y ∈ WS) (hsel : Cond.selects y.cls y y ∈ WS) (n : Nat) (hdd : y.cls ≠ "java/lang/invoke/MethodHandle" ∧ y.cls ≠ "java/lang/invoke/VarHandle" ∧ (parseMethodDescriptor y.desc).map (fun d => d.parameters.length) = some n) (hn : As.length = n) (hst8 : st.length ≤ 8) (hd : decode cc pc = .ok (.invokevirtual index, 3)) (kk : V p l e R s m args below meth c cells slots Q D A ly ids ad nL μ' (pc + 3) lv (nu r :: st)) : V p l e R s m args below meth c cells slots Q D A ly ids ad nL μ pc lv (As.reverse ++ rf x :: st) := by
  subst hR
  intro ho hg H locs hP hD hS ls hl
  have hts := C.2.2.2.2.1
  have hlR : (rmk lev).frames + 1 ≤ (rmk lev').frames ∧ 8 + (mL + 11) + (rmk lev).locals ≤ (rmk lev').locals := ⟨hlev, by show 8 + (mL + 11) + 60 * lev ≤ 60 * lev'; omega⟩
  have hFc : ∀ q, va_A (wld ly ids ad μ) H.size q → A q := fun q h => by
    rcases h with ⟨k, ee, h⟩ | h
    · exact hD.2 k (q, ee) h
    · exact C.2.2.2.2.2.2.1 q (Nat.le_trans hS.1 h)
  have hpre : ∀ U : State, U.heap = H → s.WarmedH U.vm → va_Pc ((rf x :: As).map (vv ad)) (PW D tys ly ids ad μ H.size) ((rf x :: As).map (vv ad)).toArray U := fun U hU hW => ⟨rfl, by rw [hU], ho, hg, by rw [hU]; exact hP, va_K.moved hW.alike C.2.2.2.2.2.1, hD.weaken (fun _ _ _ _ => trivial), NW.warm hW C.2.2.2.2.2.2.2.2.2, hCF.move hW (fun q h1 h2 => by rw [hU]; exact hS.2.1 q h1 h2) hFc⟩
  have hbl : FrameBlind (va_Pc ((rf x :: As).map (vv ad)) (PW D tys ly ids ad μ H.size)) := fun a U g mk q => by
    obtain ⟨q0, q1, q2, q3, q4, q5, q6, q7, q8⟩ := q
    exact ⟨q0, q1, q2, q3, q4, va_K.moved (u := U) (U := U.calling g mk a) (Vm.Alike.refl U.vm) q5, q6, fun w hw hn => va_Nw.same (u := U) (by cases w <;> first | rfl | (simp [nestW] at hn; done)) rfl (q7 w hw hn), CF.same q8⟩
  subst hxo
  obtain ⟨q0, hq, -⟩ := wld_get (ly := ly) (ad := ad) (μ := μ) (hm hg)
  rw [hly] at hq
  have hstk : ((As.reverse ++ rf x :: st).map (vv ad)) = (As.map (vv ad)).reverse ++ .ref (ad x.toNat) :: st.map (vv ad) := by
    rw [List.map_append, List.map_reverse, List.map_cons, vv_rf, rv_at h0]
  have hre : (Value.ref (ad x.toNat) :: As.map (vv ad)) = (rf x :: As).map (vv ad) := by
    rw [List.map_cons, vv_rf, rv_at h0]
  rw [hstk]
  have hcz : cells + 0 ≤ (rmk lev').cells ∧ slots + 0 ≤ (rmk lev').slots := hcs
  refine va_calli (va_runVN (As := As.map (vv ad)) (rest := st.map (vv ad)) (n := n) ⟨C.1, C.2.1, C.2.2.1, C.2.2.2.1, hts⟩ (hM H.size) ⟨va_cnB n hts (WS_good hcode) rfl rfl rfl (C.2.2.2.2.2.2.2.2.2 _ hlk rfl) (hts _ hini) hdd hlR, hts _ hinst, hts _ hsel⟩ ⟨hbl, va_recv C.2.2.2.2.2.1 hP hc hq, fun U hU hW => by rw [hre]; exact hpre U hU hW⟩ rfl (by rw [List.length_map]; exact hn) hl.1 rfl (lv_room (by rw [List.map_map]; exact Nat.le_trans (Nat.le_of_eq (sum_cat ad st)) hst8)) hd ⟨hcz.1, hcz.2⟩) hS (fun q _ h => hFc q h) hFc (fun r0 u t H1 locs1 ht hvm hw hB hz1 hk1 hS1 => ?_)
  obtain ⟨rfl, rfl⟩ := hw
  obtain ⟨ho1, hg1, hP1, hK1, hD1⟩ := hB
  rw [ht] at hP1
  have K := kk ho1 hg1 H1 locs1 hP1 (hD1.weaken (fun k q _ h => hFc q.1 h)) hS1 ls hl
  exact K
theorem r_callVNV (C : Cx p s m args meth c D tys A nL cc own ret) (hCF : CF ad A s) {y : MethodName} {bytes : ByteArray} {mL index lev lev' : Nat} {ret2 : Option FieldType} {As : List AV} {host : String} {x : Int} (o : Nat) (h0 : 0 ≤ x) (hxo : x.toNat = o) (hm : gho ids μ → o ∈ ids) {ci : Nat} {cs : List AV} (hly : ly ad o (μ o) = ceO ad ci cs) {T : u_T} {N : Nat} (hc : vwCl[ci]? = some (y.cls, T, N)) (hM : KK aV l D tys ly ids ad lev y bytes mL ret2 (rf x :: As) μ r μ') (hR : R = rmk lev') (hlev : lev + 1 ≤ lev') (hmL : mL ≤ 40) (hcs : cells + 0 ≤ (rmk lev').cells ∧ slots + 0 ≤ (rmk lev').slots) (hlk : Cond.methodLinkNest own index y host ∈ lw_tbl) (hcode : Cond.code y bytes mL ret2 ∈ WS) (hini : Cond.initialized y.cls ∈ WS) (hinst : Cond.instanceMethod y ∈ WS) (hsel : Cond.selects y.cls y y ∈ WS) (n : Nat) (hdd : y.cls ≠ "java/lang/invoke/MethodHandle" ∧ y.cls ≠ "java/lang/invoke/VarHandle" ∧ (parseMethodDescriptor y.desc).map (fun d => d.parameters.length) = some n) (hn : As.length = n) (hst8 : st.length ≤ 8) (hd : decode cc pc = .ok (.invokevirtual index, 3)) (kk : V p l e R s m args below meth c cells slots Q D A ly ids ad nL μ' (pc + 3) lv st) : V p l e R s m args below meth c cells slots Q D A ly ids ad nL μ pc lv (As.reverse ++ rf x :: st) := by
  subst hR
  intro ho hg H locs hP hD hS ls hl
  have hts := C.2.2.2.2.1
  have hlR : (rmk lev).frames + 1 ≤ (rmk lev').frames ∧ 8 + (mL + 11) + (rmk lev).locals ≤ (rmk lev').locals := ⟨hlev, by show 8 + (mL + 11) + 60 * lev ≤ 60 * lev'; omega⟩
  have hFc : ∀ q, va_A (wld ly ids ad μ) H.size q → A q := fun q h => by
    rcases h with ⟨k, ee, h⟩ | h
    · exact hD.2 k (q, ee) h
    · exact C.2.2.2.2.2.2.1 q (Nat.le_trans hS.1 h)
  have hpre : ∀ U : State, U.heap = H → s.WarmedH U.vm → va_Pc ((rf x :: As).map (vv ad)) (PW D tys ly ids ad μ H.size) ((rf x :: As).map (vv ad)).toArray U := fun U hU hW => ⟨rfl, by rw [hU], ho, hg, by rw [hU]; exact hP, va_K.moved hW.alike C.2.2.2.2.2.1, hD.weaken (fun _ _ _ _ => trivial), NW.warm hW C.2.2.2.2.2.2.2.2.2, hCF.move hW (fun q h1 h2 => by rw [hU]; exact hS.2.1 q h1 h2) hFc⟩
  have hbl : FrameBlind (va_Pc ((rf x :: As).map (vv ad)) (PW D tys ly ids ad μ H.size)) := fun a U g mk q => by
    obtain ⟨q0, q1, q2, q3, q4, q5, q6, q7, q8⟩ := q
    exact ⟨q0, q1, q2, q3, q4, va_K.moved (u := U) (U := U.calling g mk a) (Vm.Alike.refl U.vm) q5, q6, fun w hw hn => va_Nw.same (u := U) (by cases w <;> first | rfl | (simp [nestW] at hn; done)) rfl (q7 w hw hn), CF.same q8⟩
  subst hxo
  obtain ⟨q0, hq, -⟩ := wld_get (ly := ly) (ad := ad) (μ := μ) (hm hg)
  rw [hly] at hq
  have hstk : ((As.reverse ++ rf x :: st).map (vv ad)) = (As.map (vv ad)).reverse ++ .ref (ad x.toNat) :: st.map (vv ad) := by
    rw [List.map_append, List.map_reverse, List.map_cons, vv_rf, rv_at h0]
  have hre : (Value.ref (ad x.toNat) :: As.map (vv ad)) = (rf x :: As).map (vv ad) := by
    rw [List.map_cons, vv_rf, rv_at h0]
  rw [hstk]
  have hcz : cells + 0 ≤ (rmk lev').cells ∧ slots + 0 ≤ (rmk lev').slots := hcs
  refine va_callv (va_runVN (As := As.map (vv ad)) (rest := st.map (vv ad)) (n := n) ⟨C.1, C.2.1, C.2.2.1, C.2.2.2.1, hts⟩ (hM H.size) ⟨va_cnB n hts (WS_good hcode) rfl rfl rfl (C.2.2.2.2.2.2.2.2.2 _ hlk rfl) (hts _ hini) hdd hlR, hts _ hinst, hts _ hsel⟩ ⟨hbl, va_recv C.2.2.2.2.2.1 hP hc hq, fun U hU hW => by rw [hre]; exact hpre U hU hW⟩ rfl (by rw [List.length_map]; exact hn) hl.1 rfl (lv_room (by rw [List.map_map]; exact Nat.le_trans (Nat.le_of_eq (sum_cat ad st)) hst8)) hd ⟨hcz.1, hcz.2⟩) hS (fun q _ h => hFc q h) hFc (fun u t H1 locs1 ht hvm hw hB hz1 hk1 hS1 => ?_)
  subst hw
  obtain ⟨ho1, hg1, hP1, hK1, hD1⟩ := hB
  rw [ht] at hP1
  have K := kk ho1 hg1 H1 locs1 hP1 (hD1.weaken (fun k q _ h => hFc q.1 h)) hS1 ls hl
  exact K
theorem r_callSNI (C : Cx p s m args meth c D tys A nL cc own ret) (hCF : CF ad A s) {y : MethodName} {bytes : ByteArray} {mL index lev lev' : Nat} {ret2 : Option FieldType} {As : List AV} {host : String} (hM : KK aI l D tys ly ids ad lev y bytes mL ret2 (As) μ r μ') (hR : R = rmk lev') (hlev : lev + 1 ≤ lev') (hmL : mL ≤ 40) (hcs : cells + 0 ≤ (rmk lev').cells ∧ slots + 0 ≤ (rmk lev').slots) (hlk : Cond.methodLinkNest own index y host ∈ lw_tbl) (hcode : Cond.code y bytes mL ret2 ∈ WS) (hini : Cond.initialized y.cls ∈ WS) (hst : Cond.static y ∈ WS) (n : Nat) (hdd : y.cls ≠ "java/lang/invoke/MethodHandle" ∧ y.cls ≠ "java/lang/invoke/VarHandle" ∧ (parseMethodDescriptor y.desc).map (fun d => d.parameters.length) = some n) (hn : As.length = n) (hst8 : st.length ≤ 8) (hd : decode cc pc = .ok (.invokestatic index, 3)) (kk : V p l e R s m args below meth c cells slots Q D A ly ids ad nL μ' (pc + 3) lv (nu r :: st)) : V p l e R s m args below meth c cells slots Q D A ly ids ad nL μ pc lv (As.reverse ++ st) := by
  subst hR
  intro ho hg H locs hP hD hS ls hl
  have hts := C.2.2.2.2.1
  have hlR : (rmk lev).frames + 1 ≤ (rmk lev').frames ∧ 8 + (mL + 11) + (rmk lev).locals ≤ (rmk lev').locals := ⟨hlev, by show 8 + (mL + 11) + 60 * lev ≤ 60 * lev'; omega⟩
  have hFc : ∀ q, va_A (wld ly ids ad μ) H.size q → A q := fun q h => by
    rcases h with ⟨k, ee, h⟩ | h
    · exact hD.2 k (q, ee) h
    · exact C.2.2.2.2.2.2.1 q (Nat.le_trans hS.1 h)
  have hpre : ∀ U : State, U.heap = H → s.WarmedH U.vm → va_Pc ((As).map (vv ad)) (PW D tys ly ids ad μ H.size) ((As).map (vv ad)).toArray U := fun U hU hW => ⟨rfl, by rw [hU], ho, hg, by rw [hU]; exact hP, va_K.moved hW.alike C.2.2.2.2.2.1, hD.weaken (fun _ _ _ _ => trivial), NW.warm hW C.2.2.2.2.2.2.2.2.2, hCF.move hW (fun q h1 h2 => by rw [hU]; exact hS.2.1 q h1 h2) hFc⟩
  have hbl : FrameBlind (va_Pc ((As).map (vv ad)) (PW D tys ly ids ad μ H.size)) := fun a U g mk q => by
    obtain ⟨q0, q1, q2, q3, q4, q5, q6, q7, q8⟩ := q
    exact ⟨q0, q1, q2, q3, q4, va_K.moved (u := U) (U := U.calling g mk a) (Vm.Alike.refl U.vm) q5, q6, fun w hw hn => va_Nw.same (u := U) (by cases w <;> first | rfl | (simp [nestW] at hn; done)) rfl (q7 w hw hn), CF.same q8⟩
  have hstk : ((As.reverse ++ st).map (vv ad)) = (As.map (vv ad)).reverse ++ st.map (vv ad) := by
    rw [List.map_append, List.map_reverse]
  rw [hstk]
  have hcz : cells + 0 ≤ (rmk lev').cells ∧ slots + 0 ≤ (rmk lev').slots := hcs
  refine va_calli (va_runSN (As := As.map (vv ad)) (rest := st.map (vv ad)) (n := n) ⟨C.1, C.2.1, C.2.2.1, C.2.2.2.1, hts⟩ (hM H.size) ⟨va_cnB n hts (WS_good hcode) rfl rfl rfl (C.2.2.2.2.2.2.2.2.2 _ hlk rfl) (hts _ hini) hdd hlR, hts _ hst, trivial⟩ ⟨hbl, hpre⟩ rfl (by rw [List.length_map]; exact hn) hl.1 rfl (lv_room (by rw [List.map_map]; exact Nat.le_trans (Nat.le_of_eq (sum_cat ad st)) hst8)) hd ⟨hcz.1, hcz.2⟩) hS (fun q _ h => hFc q h) hFc (fun r0 u t H1 locs1 ht hvm hw hB hz1 hk1 hS1 => ?_)
  obtain ⟨rfl, rfl⟩ := hw
  obtain ⟨ho1, hg1, hP1, hK1, hD1⟩ := hB
  rw [ht] at hP1
  have K := kk ho1 hg1 H1 locs1 hP1 (hD1.weaken (fun k q _ h => hFc q.1 h)) hS1 ls hl
  exact K
theorem r_callSNV (C : Cx p s m args meth c D tys A nL cc own ret) (hCF : CF ad A s) {y : MethodName} {bytes : ByteArray} {mL index lev lev' : Nat} {ret2 : Option FieldType} {As : List AV} {host : String} (hM : KK aV l D tys ly ids ad lev y bytes mL ret2 (As) μ r μ') (hR : R = rmk lev') (hlev : lev + 1 ≤ lev') (hmL : mL ≤ 40) (hcs : cells + 0 ≤ (rmk lev').cells ∧ slots + 0 ≤ (rmk lev').slots) (hlk : Cond.methodLinkNest own index y host ∈ lw_tbl) (hcode : Cond.code y bytes mL ret2 ∈ WS) (hini : Cond.initialized y.cls ∈ WS) (hst : Cond.static y ∈ WS) (n : Nat) (hdd : y.cls ≠ "java/lang/invoke/MethodHandle" ∧ y.cls ≠ "java/lang/invoke/VarHandle" ∧ (parseMethodDescriptor y.desc).map (fun d => d.parameters.length) = some n) (hn : As.length = n) (hst8 : st.length ≤ 8) (hd : decode cc pc = .ok (.invokestatic index, 3)) (kk : V p l e R s m args below meth c cells slots Q D A ly ids ad nL μ' (pc + 3) lv st) : V p l e R s m args below meth c cells slots Q D A ly ids ad nL μ pc lv (As.reverse ++ st) := by
  subst hR
  intro ho hg H locs hP hD hS ls hl
  have hts := C.2.2.2.2.1
  have hlR : (rmk lev).frames + 1 ≤ (rmk lev').frames ∧ 8 + (mL + 11) + (rmk lev).locals ≤ (rmk lev').locals := ⟨hlev, by show 8 + (mL + 11) + 60 * lev ≤ 60 * lev'; omega⟩
  have hFc : ∀ q, va_A (wld ly ids ad μ) H.size q → A q := fun q h => by
    rcases h with ⟨k, ee, h⟩ | h
    · exact hD.2 k (q, ee) h
    · exact C.2.2.2.2.2.2.1 q (Nat.le_trans hS.1 h)
  have hpre : ∀ U : State, U.heap = H → s.WarmedH U.vm → va_Pc ((As).map (vv ad)) (PW D tys ly ids ad μ H.size) ((As).map (vv ad)).toArray U := fun U hU hW => ⟨rfl, by rw [hU], ho, hg, by rw [hU]; exact hP, va_K.moved hW.alike C.2.2.2.2.2.1, hD.weaken (fun _ _ _ _ => trivial), NW.warm hW C.2.2.2.2.2.2.2.2.2, hCF.move hW (fun q h1 h2 => by rw [hU]; exact hS.2.1 q h1 h2) hFc⟩
  have hbl : FrameBlind (va_Pc ((As).map (vv ad)) (PW D tys ly ids ad μ H.size)) := fun a U g mk q => by
    obtain ⟨q0, q1, q2, q3, q4, q5, q6, q7, q8⟩ := q
    exact ⟨q0, q1, q2, q3, q4, va_K.moved (u := U) (U := U.calling g mk a) (Vm.Alike.refl U.vm) q5, q6, fun w hw hn => va_Nw.same (u := U) (by cases w <;> first | rfl | (simp [nestW] at hn; done)) rfl (q7 w hw hn), CF.same q8⟩
  have hstk : ((As.reverse ++ st).map (vv ad)) = (As.map (vv ad)).reverse ++ st.map (vv ad) := by
    rw [List.map_append, List.map_reverse]
  rw [hstk]
  have hcz : cells + 0 ≤ (rmk lev').cells ∧ slots + 0 ≤ (rmk lev').slots := hcs
  refine va_callv (va_runSN (As := As.map (vv ad)) (rest := st.map (vv ad)) (n := n) ⟨C.1, C.2.1, C.2.2.1, C.2.2.2.1, hts⟩ (hM H.size) ⟨va_cnB n hts (WS_good hcode) rfl rfl rfl (C.2.2.2.2.2.2.2.2.2 _ hlk rfl) (hts _ hini) hdd hlR, hts _ hst, trivial⟩ ⟨hbl, hpre⟩ rfl (by rw [List.length_map]; exact hn) hl.1 rfl (lv_room (by rw [List.map_map]; exact Nat.le_trans (Nat.le_of_eq (sum_cat ad st)) hst8)) hd ⟨hcz.1, hcz.2⟩) hS (fun q _ h => hFc q h) hFc (fun u t H1 locs1 ht hvm hw hB hz1 hk1 hS1 => ?_)
  subst hw
  obtain ⟨ho1, hg1, hP1, hK1, hD1⟩ := hB
  rw [ht] at hP1
  have K := kk ho1 hg1 H1 locs1 hP1 (hD1.weaken (fun k q _ h => hFc q.1 h)) hS1 ls hl
  exact K
end VC
end
