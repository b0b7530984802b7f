-- ===== PART A: goes FIRST, ahead of the names: the tables' words, and 'selects' of the private methods out of them =====
/-- a private method of a class that the tables say can be made, by its rows of tables_1 -/
def lw_okq (q : MethodName × Nat) : Prop := (q.1.cls ≠ "java/lang/invoke/MethodHandle" ∧ q.1.cls ≠ "java/lang/invoke/VarHandle") ∧ Cond.instantiable q.1.cls q.2 ∈ tables_1 ∧ Cond.privateMethod q.1 ∈ tables_1 ∧ Cond.instanceMethod q.1 ∈ tables_1
theorem lw_p0 : lw_okq (⟨"RosetteGantry", "refuse", "(I)I"⟩, 8) := ⟨⟨by decide +kernel, by decide +kernel⟩, List.mem_of_getElem? (i := 13) (by decide +kernel), List.mem_of_getElem? (i := 320) (by decide +kernel), List.mem_of_getElem? (i := 321) (by decide +kernel)⟩
theorem lw_p1 : lw_okq (⟨"RosetteGantry$History", "dropOldest", "()V"⟩, 2) := ⟨⟨by decide +kernel, by decide +kernel⟩, List.mem_of_getElem? (i := 159) (by decide +kernel), List.mem_of_getElem? (i := 341) (by decide +kernel), List.mem_of_getElem? (i := 342) (by decide +kernel)⟩
theorem lw_p2 : lw_okq (⟨"RosetteGantry$Measure", "findStrains", "(LRosetteGantry$Rosette;)V"⟩, 15) := ⟨⟨by decide +kernel, by decide +kernel⟩, List.mem_of_getElem? (i := 221) (by decide +kernel), List.mem_of_getElem? (i := 383) (by decide +kernel), List.mem_of_getElem? (i := 384) (by decide +kernel)⟩
theorem lw_p3 : lw_okq (⟨"RosetteGantry$Measure", "findSignal", "(LRosetteGantry$Rosette;I)V"⟩, 15) := ⟨⟨by decide +kernel, by decide +kernel⟩, List.mem_of_getElem? (i := 221) (by decide +kernel), List.mem_of_getElem? (i := 387) (by decide +kernel), List.mem_of_getElem? (i := 388) (by decide +kernel)⟩
theorem lw_p4 : lw_okq (⟨"RosetteGantry$Measure", "findDeltaNumbers", "()V"⟩, 15) := ⟨⟨by decide +kernel, by decide +kernel⟩, List.mem_of_getElem? (i := 221) (by decide +kernel), List.mem_of_getElem? (i := 406) (by decide +kernel), List.mem_of_getElem? (i := 407) (by decide +kernel)⟩
theorem lw_p5 : lw_okq (⟨"RosetteGantry$Measure", "findRightNumbers", "()V"⟩, 15) := ⟨⟨by decide +kernel, by decide +kernel⟩, List.mem_of_getElem? (i := 221) (by decide +kernel), List.mem_of_getElem? (i := 412) (by decide +kernel), List.mem_of_getElem? (i := 413) (by decide +kernel)⟩
theorem lw_p6 : lw_okq (⟨"RosetteGantry$Measure", "findPrincipal", "()V"⟩, 15) := ⟨⟨by decide +kernel, by decide +kernel⟩, List.mem_of_getElem? (i := 221) (by decide +kernel), List.mem_of_getElem? (i := 416) (by decide +kernel), List.mem_of_getElem? (i := 417) (by decide +kernel)⟩
theorem lw_p7 : lw_okq (⟨"RosetteGantry$Plan", "isAhead", "(LRosetteGantry$State;II)Z"⟩, 4) := ⟨⟨by decide +kernel, by decide +kernel⟩, List.mem_of_getElem? (i := 199) (by decide +kernel), List.mem_of_getElem? (i := 501) (by decide +kernel), List.mem_of_getElem? (i := 502) (by decide +kernel)⟩
theorem lw_p8 : lw_okq (⟨"RosetteGantry$Plan", "distance", "(LRosetteGantry$State;I)I"⟩, 4) := ⟨⟨by decide +kernel, by decide +kernel⟩, List.mem_of_getElem? (i := 199) (by decide +kernel), List.mem_of_getElem? (i := 506) (by decide +kernel), List.mem_of_getElem? (i := 507) (by decide +kernel)⟩
theorem lw_p9 : lw_okq (⟨"RosetteGantry", "doJob", "(I)V"⟩, 8) := ⟨⟨by decide +kernel, by decide +kernel⟩, List.mem_of_getElem? (i := 13) (by decide +kernel), List.mem_of_getElem? (i := 515) (by decide +kernel), List.mem_of_getElem? (i := 516) (by decide +kernel)⟩
theorem lw_p10 : lw_okq (⟨"RosetteGantry", "reasonAgainst", "(ILRosetteGantry$Rosette;)I"⟩, 8) := ⟨⟨by decide +kernel, by decide +kernel⟩, List.mem_of_getElem? (i := 13) (by decide +kernel), List.mem_of_getElem? (i := 525) (by decide +kernel), List.mem_of_getElem? (i := 526) (by decide +kernel)⟩
theorem lw_p11 : lw_okq (⟨"RosetteGantry", "reasonAgainstBalance", "(LRosetteGantry$Rosette;)I"⟩, 8) := ⟨⟨by decide +kernel, by decide +kernel⟩, List.mem_of_getElem? (i := 13) (by decide +kernel), List.mem_of_getElem? (i := 529) (by decide +kernel), List.mem_of_getElem? (i := 530) (by decide +kernel)⟩
theorem lw_p12 : lw_okq (⟨"RosetteGantry", "reasonAgainstCheck", "()I"⟩, 8) := ⟨⟨by decide +kernel, by decide +kernel⟩, List.mem_of_getElem? (i := 13) (by decide +kernel), List.mem_of_getElem? (i := 533) (by decide +kernel), List.mem_of_getElem? (i := 534) (by decide +kernel)⟩
theorem lw_p13 : lw_okq (⟨"RosetteGantry", "perform", "(ILRosetteGantry$Rosette;)I"⟩, 8) := ⟨⟨by decide +kernel, by decide +kernel⟩, List.mem_of_getElem? (i := 13) (by decide +kernel), List.mem_of_getElem? (i := 537) (by decide +kernel), List.mem_of_getElem? (i := 538) (by decide +kernel)⟩
theorem lw_p14 : lw_okq (⟨"RosetteGantry", "setZeros", "(LRosetteGantry$Rosette;)I"⟩, 8) := ⟨⟨by decide +kernel, by decide +kernel⟩, List.mem_of_getElem? (i := 13) (by decide +kernel), List.mem_of_getElem? (i := 541) (by decide +kernel), List.mem_of_getElem? (i := 542) (by decide +kernel)⟩
theorem lw_p15 : lw_okq (⟨"RosetteGantry", "setGains", "(LRosetteGantry$Rosette;)I"⟩, 8) := ⟨⟨by decide +kernel, by decide +kernel⟩, List.mem_of_getElem? (i := 13) (by decide +kernel), List.mem_of_getElem? (i := 545) (by decide +kernel), List.mem_of_getElem? (i := 546) (by decide +kernel)⟩
def lw_privs_1 : List (MethodName × Nat) := [(⟨"RosetteGantry", "refuse", "(I)I"⟩, 8), (⟨"RosetteGantry$History", "dropOldest", "()V"⟩, 2), (⟨"RosetteGantry$Measure", "findStrains", "(LRosetteGantry$Rosette;)V"⟩, 15), (⟨"RosetteGantry$Measure", "findSignal", "(LRosetteGantry$Rosette;I)V"⟩, 15), (⟨"RosetteGantry$Measure", "findDeltaNumbers", "()V"⟩, 15), (⟨"RosetteGantry$Measure", "findRightNumbers", "()V"⟩, 15), (⟨"RosetteGantry$Measure", "findPrincipal", "()V"⟩, 15), (⟨"RosetteGantry$Plan", "isAhead", "(LRosetteGantry$State;II)Z"⟩, 4), (⟨"RosetteGantry$Plan", "distance", "(LRosetteGantry$State;I)I"⟩, 4), (⟨"RosetteGantry", "doJob", "(I)V"⟩, 8), (⟨"RosetteGantry", "reasonAgainst", "(ILRosetteGantry$Rosette;)I"⟩, 8), (⟨"RosetteGantry", "reasonAgainstBalance", "(LRosetteGantry$Rosette;)I"⟩, 8), (⟨"RosetteGantry", "reasonAgainstCheck", "()I"⟩, 8), (⟨"RosetteGantry", "perform", "(ILRosetteGantry$Rosette;)I"⟩, 8), (⟨"RosetteGantry", "setZeros", "(LRosetteGantry$Rosette;)I"⟩, 8), (⟨"RosetteGantry", "setGains", "(LRosetteGantry$Rosette;)I"⟩, 8)]
theorem lw_r1 : ∀ q ∈ lw_privs_1, lw_okq q := List.forall_mem_cons.mpr ⟨lw_p0, List.forall_mem_cons.mpr ⟨lw_p1, List.forall_mem_cons.mpr ⟨lw_p2, List.forall_mem_cons.mpr ⟨lw_p3, List.forall_mem_cons.mpr ⟨lw_p4, List.forall_mem_cons.mpr ⟨lw_p5, List.forall_mem_cons.mpr ⟨lw_p6, List.forall_mem_cons.mpr ⟨lw_p7, List.forall_mem_cons.mpr ⟨lw_p8, List.forall_mem_cons.mpr ⟨lw_p9, List.forall_mem_cons.mpr ⟨lw_p10, List.forall_mem_cons.mpr ⟨lw_p11, List.forall_mem_cons.mpr ⟨lw_p12, List.forall_mem_cons.mpr ⟨lw_p13, List.forall_mem_cons.mpr ⟨lw_p14, List.forall_mem_cons.mpr ⟨lw_p15, fun _ h => absurd h List.not_mem_nil⟩⟩⟩⟩⟩⟩⟩⟩⟩⟩⟩⟩⟩⟩⟩⟩
theorem lw_p16 : lw_okq (⟨"RosetteGantry$JobText", "take", "(II)I"⟩, 4) := ⟨⟨by decide +kernel, by decide +kernel⟩, List.mem_of_getElem? (i := 176) (by decide +kernel), List.mem_of_getElem? (i := 579) (by decide +kernel), List.mem_of_getElem? (i := 580) (by decide +kernel)⟩
theorem lw_p17 : lw_okq (⟨"RosetteGantry$JobText", "takeLetter", "(I)I"⟩, 4) := ⟨⟨by decide +kernel, by decide +kernel⟩, List.mem_of_getElem? (i := 176) (by decide +kernel), List.mem_of_getElem? (i := 583) (by decide +kernel), List.mem_of_getElem? (i := 584) (by decide +kernel)⟩
theorem lw_p18 : lw_okq (⟨"RosetteGantry$JobText", "takeRosette", "(I)I"⟩, 4) := ⟨⟨by decide +kernel, by decide +kernel⟩, List.mem_of_getElem? (i := 176) (by decide +kernel), List.mem_of_getElem? (i := 587) (by decide +kernel), List.mem_of_getElem? (i := 588) (by decide +kernel)⟩
theorem lw_p19 : lw_okq (⟨"RosetteGantry$JobText", "takeComma", "(I)I"⟩, 4) := ⟨⟨by decide +kernel, by decide +kernel⟩, List.mem_of_getElem? (i := 176) (by decide +kernel), List.mem_of_getElem? (i := 593) (by decide +kernel), List.mem_of_getElem? (i := 594) (by decide +kernel)⟩
theorem lw_p20 : lw_okq (⟨"RosetteGantry$JobText", "takeUrgency", "(I)I"⟩, 4) := ⟨⟨by decide +kernel, by decide +kernel⟩, List.mem_of_getElem? (i := 176) (by decide +kernel), List.mem_of_getElem? (i := 597) (by decide +kernel), List.mem_of_getElem? (i := 598) (by decide +kernel)⟩
theorem lw_p21 : lw_okq (⟨"RosetteGantryModel", "refuse", "(I)I"⟩, 17) := ⟨⟨by decide +kernel, by decide +kernel⟩, List.mem_of_getElem? (i := 657) (by decide +kernel), List.mem_of_getElem? (i := 724) (by decide +kernel), List.mem_of_getElem? (i := 725) (by decide +kernel)⟩
theorem lw_p22 : lw_okq (⟨"RosetteGantryModel", "isAt", "(I)I"⟩, 17) := ⟨⟨by decide +kernel, by decide +kernel⟩, List.mem_of_getElem? (i := 657) (by decide +kernel), List.mem_of_getElem? (i := 729) (by decide +kernel), List.mem_of_getElem? (i := 730) (by decide +kernel)⟩
theorem lw_p23 : lw_okq (⟨"RosetteGantryModel", "of", "(II)I"⟩, 17) := ⟨⟨by decide +kernel, by decide +kernel⟩, List.mem_of_getElem? (i := 657) (by decide +kernel), List.mem_of_getElem? (i := 733) (by decide +kernel), List.mem_of_getElem? (i := 734) (by decide +kernel)⟩
theorem lw_p24 : lw_okq (⟨"RosetteGantryModel", "save", "()V"⟩, 17) := ⟨⟨by decide +kernel, by decide +kernel⟩, List.mem_of_getElem? (i := 657) (by decide +kernel), List.mem_of_getElem? (i := 738) (by decide +kernel), List.mem_of_getElem? (i := 739) (by decide +kernel)⟩
theorem lw_p25 : lw_okq (⟨"RosetteGantryModel", "put", "(III)V"⟩, 17) := ⟨⟨by decide +kernel, by decide +kernel⟩, List.mem_of_getElem? (i := 657) (by decide +kernel), List.mem_of_getElem? (i := 742) (by decide +kernel), List.mem_of_getElem? (i := 743) (by decide +kernel)⟩
theorem lw_p26 : lw_okq (⟨"RosetteGantryModel", "putGauge", "(IIII)V"⟩, 17) := ⟨⟨by decide +kernel, by decide +kernel⟩, List.mem_of_getElem? (i := 657) (by decide +kernel), List.mem_of_getElem? (i := 746) (by decide +kernel), List.mem_of_getElem? (i := 747) (by decide +kernel)⟩
theorem lw_p27 : lw_okq (⟨"RosetteGantryModel", "noRosette", "(I)Z"⟩, 17) := ⟨⟨by decide +kernel, by decide +kernel⟩, List.mem_of_getElem? (i := 657) (by decide +kernel), List.mem_of_getElem? (i := 754) (by decide +kernel), List.mem_of_getElem? (i := 755) (by decide +kernel)⟩
theorem lw_p28 : lw_okq (⟨"RosetteGantryModel", "readingOf", "(II)I"⟩, 17) := ⟨⟨by decide +kernel, by decide +kernel⟩, List.mem_of_getElem? (i := 657) (by decide +kernel), List.mem_of_getElem? (i := 759) (by decide +kernel), List.mem_of_getElem? (i := 760) (by decide +kernel)⟩
theorem lw_p29 : lw_okq (⟨"RosetteGantryModel", "readingBy", "(III)I"⟩, 17) := ⟨⟨by decide +kernel, by decide +kernel⟩, List.mem_of_getElem? (i := 657) (by decide +kernel), List.mem_of_getElem? (i := 763) (by decide +kernel), List.mem_of_getElem? (i := 764) (by decide +kernel)⟩
theorem lw_p30 : lw_okq (⟨"RosetteGantryModel", "signalOf", "(III)I"⟩, 17) := ⟨⟨by decide +kernel, by decide +kernel⟩, List.mem_of_getElem? (i := 657) (by decide +kernel), List.mem_of_getElem? (i := 767) (by decide +kernel), List.mem_of_getElem? (i := 768) (by decide +kernel)⟩
theorem lw_p31 : lw_okq (⟨"RosetteGantryModel", "ofGauge", "(III)I"⟩, 17) := ⟨⟨by decide +kernel, by decide +kernel⟩, List.mem_of_getElem? (i := 657) (by decide +kernel), List.mem_of_getElem? (i := 771) (by decide +kernel), List.mem_of_getElem? (i := 772) (by decide +kernel)⟩
def lw_privs_2 : List (MethodName × Nat) := [(⟨"RosetteGantry$JobText", "take", "(II)I"⟩, 4), (⟨"RosetteGantry$JobText", "takeLetter", "(I)I"⟩, 4), (⟨"RosetteGantry$JobText", "takeRosette", "(I)I"⟩, 4), (⟨"RosetteGantry$JobText", "takeComma", "(I)I"⟩, 4), (⟨"RosetteGantry$JobText", "takeUrgency", "(I)I"⟩, 4), (⟨"RosetteGantryModel", "refuse", "(I)I"⟩, 17), (⟨"RosetteGantryModel", "isAt", "(I)I"⟩, 17), (⟨"RosetteGantryModel", "of", "(II)I"⟩, 17), (⟨"RosetteGantryModel", "save", "()V"⟩, 17), (⟨"RosetteGantryModel", "put", "(III)V"⟩, 17), (⟨"RosetteGantryModel", "putGauge", "(IIII)V"⟩, 17), (⟨"RosetteGantryModel", "noRosette", "(I)Z"⟩, 17), (⟨"RosetteGantryModel", "readingOf", "(II)I"⟩, 17), (⟨"RosetteGantryModel", "readingBy", "(III)I"⟩, 17), (⟨"RosetteGantryModel", "signalOf", "(III)I"⟩, 17), (⟨"RosetteGantryModel", "ofGauge", "(III)I"⟩, 17)]
theorem lw_r2 : ∀ q ∈ lw_privs_2, lw_okq q := List.forall_mem_cons.mpr ⟨lw_p16, List.forall_mem_cons.mpr ⟨lw_p17, List.forall_mem_cons.mpr ⟨lw_p18, List.forall_mem_cons.mpr ⟨lw_p19, List.forall_mem_cons.mpr ⟨lw_p20, List.forall_mem_cons.mpr ⟨lw_p21, List.forall_mem_cons.mpr ⟨lw_p22, List.forall_mem_cons.mpr ⟨lw_p23, List.forall_mem_cons.mpr ⟨lw_p24, List.forall_mem_cons.mpr ⟨lw_p25, List.forall_mem_cons.mpr ⟨lw_p26, List.forall_mem_cons.mpr ⟨lw_p27, List.forall_mem_cons.mpr ⟨lw_p28, List.forall_mem_cons.mpr ⟨lw_p29, List.forall_mem_cons.mpr ⟨lw_p30, List.forall_mem_cons.mpr ⟨lw_p31, fun _ h => absurd h List.not_mem_nil⟩⟩⟩⟩⟩⟩⟩⟩⟩⟩⟩⟩⟩⟩⟩⟩
theorem lw_p32 : lw_okq (⟨"RosetteGantryModel", "led", "(II)I"⟩, 17) := ⟨⟨by decide +kernel, by decide +kernel⟩, List.mem_of_getElem? (i := 657) (by decide +kernel), List.mem_of_getElem? (i := 775) (by decide +kernel), List.mem_of_getElem? (i := 776) (by decide +kernel)⟩
theorem lw_p33 : lw_okq (⟨"RosetteGantryModel", "strainOf", "(II)I"⟩, 17) := ⟨⟨by decide +kernel, by decide +kernel⟩, List.mem_of_getElem? (i := 657) (by decide +kernel), List.mem_of_getElem? (i := 780) (by decide +kernel), List.mem_of_getElem? (i := 781) (by decide +kernel)⟩
theorem lw_p34 : lw_okq (⟨"RosetteGantryModel", "shuntValue", "(I)I"⟩, 17) := ⟨⟨by decide +kernel, by decide +kernel⟩, List.mem_of_getElem? (i := 657) (by decide +kernel), List.mem_of_getElem? (i := 784) (by decide +kernel), List.mem_of_getElem? (i := 785) (by decide +kernel)⟩
theorem lw_p35 : lw_okq (⟨"RosetteGantryModel", "ask", "(III)V"⟩, 17) := ⟨⟨by decide +kernel, by decide +kernel⟩, List.mem_of_getElem? (i := 657) (by decide +kernel), List.mem_of_getElem? (i := 809) (by decide +kernel), List.mem_of_getElem? (i := 810) (by decide +kernel)⟩
theorem lw_p36 : lw_okq (⟨"RosetteGantryModel", "waitingFor", "(I)I"⟩, 17) := ⟨⟨by decide +kernel, by decide +kernel⟩, List.mem_of_getElem? (i := 657) (by decide +kernel), List.mem_of_getElem? (i := 817) (by decide +kernel), List.mem_of_getElem? (i := 818) (by decide +kernel)⟩
theorem lw_p37 : lw_okq (⟨"RosetteGantryModel", "ofJob", "(II)I"⟩, 17) := ⟨⟨by decide +kernel, by decide +kernel⟩, List.mem_of_getElem? (i := 657) (by decide +kernel), List.mem_of_getElem? (i := 821) (by decide +kernel), List.mem_of_getElem? (i := 822) (by decide +kernel)⟩
theorem lw_p38 : lw_okq (⟨"RosetteGantryModel", "takeOut", "(I)V"⟩, 17) := ⟨⟨by decide +kernel, by decide +kernel⟩, List.mem_of_getElem? (i := 657) (by decide +kernel), List.mem_of_getElem? (i := 825) (by decide +kernel), List.mem_of_getElem? (i := 826) (by decide +kernel)⟩
theorem lw_p39 : lw_okq (⟨"RosetteGantryModel", "first", "(II)I"⟩, 17) := ⟨⟨by decide +kernel, by decide +kernel⟩, List.mem_of_getElem? (i := 657) (by decide +kernel), List.mem_of_getElem? (i := 833) (by decide +kernel), List.mem_of_getElem? (i := 834) (by decide +kernel)⟩
theorem lw_p40 : lw_okq (⟨"RosetteGantryModel", "wayTo", "(II)I"⟩, 17) := ⟨⟨by decide +kernel, by decide +kernel⟩, List.mem_of_getElem? (i := 657) (by decide +kernel), List.mem_of_getElem? (i := 837) (by decide +kernel), List.mem_of_getElem? (i := 838) (by decide +kernel)⟩
theorem lw_p41 : lw_okq (⟨"RosetteGantryModel", "doNext", "()Z"⟩, 17) := ⟨⟨by decide +kernel, by decide +kernel⟩, List.mem_of_getElem? (i := 657) (by decide +kernel), List.mem_of_getElem? (i := 844) (by decide +kernel), List.mem_of_getElem? (i := 845) (by decide +kernel)⟩
theorem lw_p42 : lw_okq (⟨"RosetteGantryModel", "against", "(II)I"⟩, 17) := ⟨⟨by decide +kernel, by decide +kernel⟩, List.mem_of_getElem? (i := 657) (by decide +kernel), List.mem_of_getElem? (i := 848) (by decide +kernel), List.mem_of_getElem? (i := 849) (by decide +kernel)⟩
theorem lw_p43 : lw_okq (⟨"RosetteGantryModel", "overloaded", "(I)I"⟩, 17) := ⟨⟨by decide +kernel, by decide +kernel⟩, List.mem_of_getElem? (i := 657) (by decide +kernel), List.mem_of_getElem? (i := 852) (by decide +kernel), List.mem_of_getElem? (i := 853) (by decide +kernel)⟩
theorem lw_p44 : lw_okq (⟨"RosetteGantryModel", "isOver", "(III)Z"⟩, 17) := ⟨⟨by decide +kernel, by decide +kernel⟩, List.mem_of_getElem? (i := 657) (by decide +kernel), List.mem_of_getElem? (i := 856) (by decide +kernel), List.mem_of_getElem? (i := 857) (by decide +kernel)⟩
theorem lw_p45 : lw_okq (⟨"RosetteGantryModel", "zeroDue", "(II)I"⟩, 17) := ⟨⟨by decide +kernel, by decide +kernel⟩, List.mem_of_getElem? (i := 657) (by decide +kernel), List.mem_of_getElem? (i := 860) (by decide +kernel), List.mem_of_getElem? (i := 861) (by decide +kernel)⟩
theorem lw_p46 : lw_okq (⟨"RosetteGantryModel", "stepOf", "(II)I"⟩, 17) := ⟨⟨by decide +kernel, by decide +kernel⟩, List.mem_of_getElem? (i := 657) (by decide +kernel), List.mem_of_getElem? (i := 864) (by decide +kernel), List.mem_of_getElem? (i := 865) (by decide +kernel)⟩
theorem lw_p47 : lw_okq (⟨"RosetteGantryModel", "works", "(II)I"⟩, 17) := ⟨⟨by decide +kernel, by decide +kernel⟩, List.mem_of_getElem? (i := 657) (by decide +kernel), List.mem_of_getElem? (i := 868) (by decide +kernel), List.mem_of_getElem? (i := 869) (by decide +kernel)⟩
def lw_privs_3 : List (MethodName × Nat) := [(⟨"RosetteGantryModel", "led", "(II)I"⟩, 17), (⟨"RosetteGantryModel", "strainOf", "(II)I"⟩, 17), (⟨"RosetteGantryModel", "shuntValue", "(I)I"⟩, 17), (⟨"RosetteGantryModel", "ask", "(III)V"⟩, 17), (⟨"RosetteGantryModel", "waitingFor", "(I)I"⟩, 17), (⟨"RosetteGantryModel", "ofJob", "(II)I"⟩, 17), (⟨"RosetteGantryModel", "takeOut", "(I)V"⟩, 17), (⟨"RosetteGantryModel", "first", "(II)I"⟩, 17), (⟨"RosetteGantryModel", "wayTo", "(II)I"⟩, 17), (⟨"RosetteGantryModel", "doNext", "()Z"⟩, 17), (⟨"RosetteGantryModel", "against", "(II)I"⟩, 17), (⟨"RosetteGantryModel", "overloaded", "(I)I"⟩, 17), (⟨"RosetteGantryModel", "isOver", "(III)Z"⟩, 17), (⟨"RosetteGantryModel", "zeroDue", "(II)I"⟩, 17), (⟨"RosetteGantryModel", "stepOf", "(II)I"⟩, 17), (⟨"RosetteGantryModel", "works", "(II)I"⟩, 17)]
theorem lw_r3 : ∀ q ∈ lw_privs_3, lw_okq q := List.forall_mem_cons.mpr ⟨lw_p32, List.forall_mem_cons.mpr ⟨lw_p33, List.forall_mem_cons.mpr ⟨lw_p34, List.forall_mem_cons.mpr ⟨lw_p35, List.forall_mem_cons.mpr ⟨lw_p36, List.forall_mem_cons.mpr ⟨lw_p37, List.forall_mem_cons.mpr ⟨lw_p38, List.forall_mem_cons.mpr ⟨lw_p39, List.forall_mem_cons.mpr ⟨lw_p40, List.forall_mem_cons.mpr ⟨lw_p41, List.forall_mem_cons.mpr ⟨lw_p42, List.forall_mem_cons.mpr ⟨lw_p43, List.forall_mem_cons.mpr ⟨lw_p44, List.forall_mem_cons.mpr ⟨lw_p45, List.forall_mem_cons.mpr ⟨lw_p46, List.forall_mem_cons.mpr ⟨lw_p47, fun _ h => absurd h List.not_mem_nil⟩⟩⟩⟩⟩⟩⟩⟩⟩⟩⟩⟩⟩⟩⟩⟩
theorem lw_p48 : lw_okq (⟨"RosetteGantryModel", "find", "(I)V"⟩, 17) := ⟨⟨by decide +kernel, by decide +kernel⟩, List.mem_of_getElem? (i := 657) (by decide +kernel), List.mem_of_getElem? (i := 872) (by decide +kernel), List.mem_of_getElem? (i := 873) (by decide +kernel)⟩
theorem lw_p49 : lw_okq (⟨"RosetteGantryModel", "correctedOf", "(II)I"⟩, 17) := ⟨⟨by decide +kernel, by decide +kernel⟩, List.mem_of_getElem? (i := 657) (by decide +kernel), List.mem_of_getElem? (i := 876) (by decide +kernel), List.mem_of_getElem? (i := 877) (by decide +kernel)⟩
theorem lw_p50 : lw_okq (⟨"RosetteGantryModel", "pullOf", "(I)J"⟩, 17) := ⟨⟨by decide +kernel, by decide +kernel⟩, List.mem_of_getElem? (i := 657) (by decide +kernel), List.mem_of_getElem? (i := 885) (by decide +kernel), List.mem_of_getElem? (i := 886) (by decide +kernel)⟩
theorem lw_p51 : lw_okq (⟨"RosetteGantryModel", "mean", "()J"⟩, 17) := ⟨⟨by decide +kernel, by decide +kernel⟩, List.mem_of_getElem? (i := 657) (by decide +kernel), List.mem_of_getElem? (i := 898) (by decide +kernel), List.mem_of_getElem? (i := 899) (by decide +kernel)⟩
theorem lw_p52 : lw_okq (⟨"RosetteGantryModel", "radius", "()J"⟩, 17) := ⟨⟨by decide +kernel, by decide +kernel⟩, List.mem_of_getElem? (i := 657) (by decide +kernel), List.mem_of_getElem? (i := 902) (by decide +kernel), List.mem_of_getElem? (i := 903) (by decide +kernel)⟩
theorem lw_p53 : lw_okq (⟨"RosetteGantryModel", "note", "(IIII)V"⟩, 17) := ⟨⟨by decide +kernel, by decide +kernel⟩, List.mem_of_getElem? (i := 657) (by decide +kernel), List.mem_of_getElem? (i := 907) (by decide +kernel), List.mem_of_getElem? (i := 908) (by decide +kernel)⟩
theorem lw_p54 : lw_okq (⟨"RosetteGantryModel", "readsJob", "()Z"⟩, 17) := ⟨⟨by decide +kernel, by decide +kernel⟩, List.mem_of_getElem? (i := 657) (by decide +kernel), List.mem_of_getElem? (i := 927) (by decide +kernel), List.mem_of_getElem? (i := 928) (by decide +kernel)⟩
theorem lw_p55 : lw_okq (⟨"RosetteGantryModel", "isSign", "(C)Z"⟩, 17) := ⟨⟨by decide +kernel, by decide +kernel⟩, List.mem_of_getElem? (i := 657) (by decide +kernel), List.mem_of_getElem? (i := 931) (by decide +kernel), List.mem_of_getElem? (i := 932) (by decide +kernel)⟩
theorem lw_p56 : lw_okq (⟨"RosetteGantryModel", "digit", "(I)I"⟩, 17) := ⟨⟨by decide +kernel, by decide +kernel⟩, List.mem_of_getElem? (i := 657) (by decide +kernel), List.mem_of_getElem? (i := 935) (by decide +kernel), List.mem_of_getElem? (i := 936) (by decide +kernel)⟩
def lw_privs_4 : List (MethodName × Nat) := [(⟨"RosetteGantryModel", "find", "(I)V"⟩, 17), (⟨"RosetteGantryModel", "correctedOf", "(II)I"⟩, 17), (⟨"RosetteGantryModel", "pullOf", "(I)J"⟩, 17), (⟨"RosetteGantryModel", "mean", "()J"⟩, 17), (⟨"RosetteGantryModel", "radius", "()J"⟩, 17), (⟨"RosetteGantryModel", "note", "(IIII)V"⟩, 17), (⟨"RosetteGantryModel", "readsJob", "()Z"⟩, 17), (⟨"RosetteGantryModel", "isSign", "(C)Z"⟩, 17), (⟨"RosetteGantryModel", "digit", "(I)I"⟩, 17)]
theorem lw_r4 : ∀ q ∈ lw_privs_4, lw_okq q := List.forall_mem_cons.mpr ⟨lw_p48, List.forall_mem_cons.mpr ⟨lw_p49, List.forall_mem_cons.mpr ⟨lw_p50, List.forall_mem_cons.mpr ⟨lw_p51, List.forall_mem_cons.mpr ⟨lw_p52, List.forall_mem_cons.mpr ⟨lw_p53, List.forall_mem_cons.mpr ⟨lw_p54, List.forall_mem_cons.mpr ⟨lw_p55, List.forall_mem_cons.mpr ⟨lw_p56, fun _ h => absurd h List.not_mem_nil⟩⟩⟩⟩⟩⟩⟩⟩⟩
def lw_privs : List (MethodName × Nat) := lw_privs_1 ++ (lw_privs_2 ++ (lw_privs_3 ++ (lw_privs_4)))
def lw_tbl : List Cond := k2_sels lw_privs ++ tables_1
theorem lw_privs_ok : ∀ q ∈ lw_privs, lw_okq q := by
  show ∀ q ∈ lw_privs_1 ++ (lw_privs_2 ++ (lw_privs_3 ++ (lw_privs_4))), lw_okq q
  exact List.forall_mem_append.mpr ⟨lw_r1, List.forall_mem_append.mpr ⟨lw_r2, List.forall_mem_append.mpr ⟨lw_r3, lw_r4⟩⟩⟩

def RX0 : String := "RosetteGantry$History"
def TX0 : u_T := fun k => match k with
  | 0 => ("RosetteGantry$History", "states", "[LRosetteGantry$State;", true)
  | _ => ("RosetteGantry$History", "used", "I", false)
def tyX0 : Nat → FieldType := fun k => match k with
  | 0 => .array (.object "RosetteGantry$State")
  | _ => .int
abbrev wsX00 : List Cond := u_ws RX0 TX0 2
theorem nmX0 : ∀ a, a < 2 → ∀ b, b < 2 → a ≠ b → (TX0 a).2.1 ≠ (TX0 b).2.1 := by decide +kernel
theorem tyX0_ok : ∀ k, k < 2 → parseFieldDescriptor (TX0 k).2.2.1 = some (tyX0 k) := by decide +kernel
abbrev cX0_init : ByteArray := prog_2_method_1_code
def yX0_init : MethodName := ⟨RX0, "<init>", "()V"⟩
abbrev cX0_add : ByteArray := prog_2_method_2_code
def yX0_add : MethodName := ⟨RX0, "add", "(LRosetteGantry$State;)V"⟩
abbrev cX0_takeLatest : ByteArray := prog_2_method_3_code
def yX0_takeLatest : MethodName := ⟨RX0, "takeLatest", "()LRosetteGantry$State;"⟩
abbrev cX0_dropOldest : ByteArray := prog_2_method_4_code
def yX0_dropOldest : MethodName := ⟨RX0, "dropOldest", "()V"⟩
def RX1 : String := "RosetteGantry$JobText"
def TX1 : u_T := fun k => match k with
  | 0 => ("RosetteGantry$JobText", "signs", "[I", true)
  | 1 => ("RosetteGantry$JobText", "jobs", "LRosetteGantry$Rows;", true)
  | 2 => ("RosetteGantry$JobText", "length", "I", false)
  | _ => ("RosetteGantry$JobText", "kind", "I", false)
def tyX1 : Nat → FieldType := fun k => match k with
  | 0 => .array .int
  | 1 => .object "RosetteGantry$Rows"
  | 2 => .int
  | _ => .int
abbrev wsX10 : List Cond := u_ws RX1 TX1 4
theorem nmX1 : ∀ a, a < 4 → ∀ b, b < 4 → a ≠ b → (TX1 a).2.1 ≠ (TX1 b).2.1 := by decide +kernel
theorem tyX1_ok : ∀ k, k < 4 → parseFieldDescriptor (TX1 k).2.2.1 = some (tyX1 k) := by decide +kernel
abbrev cX1_init : ByteArray := prog_3_method_1_code
def yX1_init : MethodName := ⟨RX1, "<init>", "()V"⟩
abbrev cX1_append : ByteArray := prog_3_method_2_code
def yX1_append : MethodName := ⟨RX1, "append", "(C)Z"⟩
abbrev cX1_findFault : ByteArray := prog_3_method_3_code
def yX1_findFault : MethodName := ⟨RX1, "findFault", "()I"⟩
abbrev cX1_take : ByteArray := prog_3_method_4_code
def yX1_take : MethodName := ⟨RX1, "take", "(II)I"⟩
abbrev cX1_takeLetter : ByteArray := prog_3_method_5_code
def yX1_takeLetter : MethodName := ⟨RX1, "takeLetter", "(I)I"⟩
abbrev cX1_takeRosette : ByteArray := prog_3_method_6_code
def yX1_takeRosette : MethodName := ⟨RX1, "takeRosette", "(I)I"⟩
abbrev cX1_takeUrgency : ByteArray := prog_3_method_7_code
def yX1_takeUrgency : MethodName := ⟨RX1, "takeUrgency", "(I)I"⟩
abbrev cX1_takeComma : ByteArray := prog_3_method_8_code
def yX1_takeComma : MethodName := ⟨RX1, "takeComma", "(I)I"⟩
def RX2 : String := "RosetteGantry$Measure"
def TX2 : u_T := fun k => match k with
  | 0 => ("RosetteGantry$Measure", "strain", "[I", true)
  | 1 => ("RosetteGantry$Measure", "signal", "[I", true)
  | 2 => ("RosetteGantry$Measure", "reading", "[I", true)
  | 3 => ("RosetteGantry$Measure", "heldReading", "[I", true)
  | 4 => ("RosetteGantry$Measure", "step", "[I", true)
  | 5 => ("RosetteGantry$Measure", "corrected", "[I", true)
  | 6 => ("RosetteGantry$Measure", "shuntValue", "I", false)
  | 7 => ("RosetteGantry$Measure", "overloads", "I", false)
  | 8 => ("RosetteGantry$Measure", "checkOverloads", "Z", false)
  | 9 => ("RosetteGantry$Measure", "x", "I", false)
  | 10 => ("RosetteGantry$Measure", "y", "I", false)
  | 11 => ("RosetteGantry$Measure", "g", "I", false)
  | 12 => ("RosetteGantry$Measure", "mean", "I", false)
  | 13 => ("RosetteGantry$Measure", "direction", "I", false)
  | _ => ("RosetteGantry$Measure", "radius", "I", false)
def tyX2 : Nat → FieldType := fun k => match k with
  | 0 => .array .int
  | 1 => .array .int
  | 2 => .array .int
  | 3 => .array .int
  | 4 => .array .int
  | 5 => .array .int
  | 6 => .int
  | 7 => .int
  | 8 => .boolean
  | 9 => .int
  | 10 => .int
  | 11 => .int
  | 12 => .int
  | 13 => .int
  | _ => .int
abbrev wsX20 : List Cond := u_ws RX2 TX2 15
theorem nmX2 : ∀ a, a < 15 → ∀ b, b < 15 → a ≠ b → (TX2 a).2.1 ≠ (TX2 b).2.1 := by decide +kernel
theorem tyX2_ok : ∀ k, k < 15 → parseFieldDescriptor (TX2 k).2.2.1 = some (tyX2 k) := by decide +kernel
abbrev cX2_init : ByteArray := prog_4_method_1_code
def yX2_init : MethodName := ⟨RX2, "<init>", "()V"⟩
abbrev cX2_take : ByteArray := prog_4_method_2_code
def yX2_take : MethodName := ⟨RX2, "take", "(LRosetteGantry$Rosette;I)V"⟩
abbrev cX2_holdReadings : ByteArray := prog_4_method_3_code
def yX2_holdReadings : MethodName := ⟨RX2, "holdReadings", "()V"⟩
abbrev cX2_readingsChanged : ByteArray := prog_4_method_4_code
def yX2_readingsChanged : MethodName := ⟨RX2, "readingsChanged", "()I"⟩
abbrev cX2_pullTo : ByteArray := prog_4_method_5_code
def yX2_pullTo : MethodName := ⟨RX2, "pullTo", "(I)J"⟩
abbrev cX2_findStrains : ByteArray := prog_4_method_6_code
def yX2_findStrains : MethodName := ⟨RX2, "findStrains", "(LRosetteGantry$Rosette;)V"⟩
abbrev cX2_findSignal : ByteArray := prog_4_method_7_code
def yX2_findSignal : MethodName := ⟨RX2, "findSignal", "(LRosetteGantry$Rosette;I)V"⟩
abbrev cX2_comesOut : ByteArray := prog_4_method_8_code
def yX2_comesOut : MethodName := ⟨RX2, "comesOut", "(LRosetteGantry$Rosette;I)I"⟩
abbrev cX2_limited : ByteArray := prog_4_method_9_code
def yX2_limited : MethodName := ⟨RX2, "limited", "(I)I"⟩
abbrev cX2_isBeyond : ByteArray := prog_4_method_10_code
def yX2_isBeyond : MethodName := ⟨RX2, "isBeyond", "(I)Z"⟩
abbrev cX2_findRightNumbers : ByteArray := prog_4_method_11_code
def yX2_findRightNumbers : MethodName := ⟨RX2, "findRightNumbers", "()V"⟩
abbrev cX2_findDeltaNumbers : ByteArray := prog_4_method_12_code
def yX2_findDeltaNumbers : MethodName := ⟨RX2, "findDeltaNumbers", "()V"⟩
abbrev cX2_findPrincipal : ByteArray := prog_4_method_13_code
def yX2_findPrincipal : MethodName := ⟨RX2, "findPrincipal", "()V"⟩
def RX3 : String := "RosetteGantry$Plan"
def TX3 : u_T := fun k => match k with
  | 0 => ("RosetteGantry$Plan", "passed", "[Z", true)
  | 1 => ("RosetteGantry$Plan", "row", "I", false)
  | 2 => ("RosetteGantry$Plan", "place", "I", false)
  | _ => ("RosetteGantry$Plan", "way", "I", false)
def tyX3 : Nat → FieldType := fun k => match k with
  | 0 => .array .boolean
  | 1 => .int
  | 2 => .int
  | _ => .int
abbrev wsX30 : List Cond := u_ws RX3 TX3 4
theorem nmX3 : ∀ a, a < 4 → ∀ b, b < 4 → a ≠ b → (TX3 a).2.1 ≠ (TX3 b).2.1 := by decide +kernel
theorem tyX3_ok : ∀ k, k < 4 → parseFieldDescriptor (TX3 k).2.2.1 = some (tyX3 k) := by decide +kernel
abbrev cX3_init : ByteArray := prog_5_method_1_code
def yX3_init : MethodName := ⟨RX3, "<init>", "()V"⟩
abbrev cX3_begin : ByteArray := prog_5_method_2_code
def yX3_begin : MethodName := ⟨RX3, "begin", "(LRosetteGantry$State;)V"⟩
abbrev cX3_goOn : ByteArray := prog_5_method_3_code
def yX3_goOn : MethodName := ⟨RX3, "goOn", "(LRosetteGantry$State;)V"⟩
abbrev cX3_isAhead : ByteArray := prog_5_method_4_code
def yX3_isAhead : MethodName := ⟨RX3, "isAhead", "(LRosetteGantry$State;II)Z"⟩
abbrev cX3_distance : ByteArray := prog_5_method_5_code
def yX3_distance : MethodName := ⟨RX3, "distance", "(LRosetteGantry$State;I)I"⟩
def RX4 : String := "RosetteGantry$Rosette"
def TX4 : u_T := fun k => match k with
  | 0 => ("RosetteGantry$Rosette", "place", "I", false)
  | 1 => ("RosetteGantry$Rosette", "delta", "Z", false)
  | 2 => ("RosetteGantry$Rosette", "resistance", "I", false)
  | 3 => ("RosetteGantry$Rosette", "factor", "I", false)
  | 4 => ("RosetteGantry$Rosette", "leads", "I", false)
  | 5 => ("RosetteGantry$Rosette", "x", "I", false)
  | 6 => ("RosetteGantry$Rosette", "y", "I", false)
  | 7 => ("RosetteGantry$Rosette", "g", "I", false)
  | 8 => ("RosetteGantry$Rosette", "shunt", "Z", false)
  | 9 => ("RosetteGantry$Rosette", "offset", "[I", true)
  | 10 => ("RosetteGantry$Rosette", "zero", "[I", true)
  | _ => ("RosetteGantry$Rosette", "gain", "[I", true)
def tyX4 : Nat → FieldType := fun k => match k with
  | 0 => .int
  | 1 => .boolean
  | 2 => .int
  | 3 => .int
  | 4 => .int
  | 5 => .int
  | 6 => .int
  | 7 => .int
  | 8 => .boolean
  | 9 => .array .int
  | 10 => .array .int
  | _ => .array .int
abbrev wsX40 : List Cond := u_ws RX4 TX4 12
theorem nmX4 : ∀ a, a < 12 → ∀ b, b < 12 → a ≠ b → (TX4 a).2.1 ≠ (TX4 b).2.1 := by decide +kernel
theorem tyX4_ok : ∀ k, k < 12 → parseFieldDescriptor (TX4 k).2.2.1 = some (tyX4 k) := by decide +kernel
abbrev cX4_init : ByteArray := prog_6_method_1_code
def yX4_init : MethodName := ⟨RX4, "<init>", "()V"⟩
abbrev cX4_begin : ByteArray := prog_6_method_2_code
def yX4_begin : MethodName := ⟨RX4, "begin", "(IZII)V"⟩
abbrev cX4_copyFrom : ByteArray := prog_6_method_3_code
def yX4_copyFrom : MethodName := ⟨RX4, "copyFrom", "(LRosetteGantry$Rosette;)V"⟩
def RX5 : String := "RosetteGantry$Rows"
def TX5 : u_T := fun k => match k with
  | 0 => ("RosetteGantry$Rows", "cells", "[I", true)
  | _ => ("RosetteGantry$Rows", "used", "I", false)
def tyX5 : Nat → FieldType := fun k => match k with
  | 0 => .array .int
  | _ => .int
abbrev wsX50 : List Cond := u_ws RX5 TX5 2
theorem nmX5 : ∀ a, a < 2 → ∀ b, b < 2 → a ≠ b → (TX5 a).2.1 ≠ (TX5 b).2.1 := by decide +kernel
theorem tyX5_ok : ∀ k, k < 2 → parseFieldDescriptor (TX5 k).2.2.1 = some (tyX5 k) := by decide +kernel
abbrev cX5_init : ByteArray := prog_7_method_1_code
def yX5_init : MethodName := ⟨RX5, "<init>", "(I)V"⟩
abbrev cX5_add : ByteArray := prog_7_method_2_code
def yX5_add : MethodName := ⟨RX5, "add", "(IIII)V"⟩
abbrev cX5_at : ByteArray := prog_7_method_3_code
def yX5_at : MethodName := ⟨RX5, "at", "(II)I"⟩
abbrev cX5_set : ByteArray := prog_7_method_4_code
def yX5_set : MethodName := ⟨RX5, "set", "(III)V"⟩
abbrev cX5_drop : ByteArray := prog_7_method_5_code
def yX5_drop : MethodName := ⟨RX5, "drop", "(I)V"⟩
abbrev cX5_copyFrom : ByteArray := prog_7_method_6_code
def yX5_copyFrom : MethodName := ⟨RX5, "copyFrom", "(LRosetteGantry$Rows;)V"⟩
def RX6 : String := "RosetteGantry$State"
def TX6 : u_T := fun k => match k with
  | 0 => ("RosetteGantry$State", "rosettes", "[LRosetteGantry$Rosette;", true)
  | 1 => ("RosetteGantry$State", "jobs", "LRosetteGantry$Rows;", true)
  | 2 => ("RosetteGantry$State", "records", "LRosetteGantry$Rows;", true)
  | 3 => ("RosetteGantry$State", "rosettesUsed", "I", false)
  | 4 => ("RosetteGantry$State", "size", "I", false)
  | 5 => ("RosetteGantry$State", "place", "I", false)
  | 6 => ("RosetteGantry$State", "way", "I", false)
  | 7 => ("RosetteGantry$State", "requests", "I", false)
  | 8 => ("RosetteGantry$State", "done", "I", false)
  | _ => ("RosetteGantry$State", "refused", "I", false)
def tyX6 : Nat → FieldType := fun k => match k with
  | 0 => .array (.object "RosetteGantry$Rosette")
  | 1 => .object "RosetteGantry$Rows"
  | 2 => .object "RosetteGantry$Rows"
  | 3 => .int
  | 4 => .int
  | 5 => .int
  | 6 => .int
  | 7 => .int
  | 8 => .int
  | _ => .int
abbrev wsX60 : List Cond := u_ws RX6 TX6 10
theorem nmX6 : ∀ a, a < 10 → ∀ b, b < 10 → a ≠ b → (TX6 a).2.1 ≠ (TX6 b).2.1 := by decide +kernel
theorem tyX6_ok : ∀ k, k < 10 → parseFieldDescriptor (TX6 k).2.2.1 = some (tyX6 k) := by decide +kernel
abbrev cX6_init : ByteArray := prog_8_method_1_code
def yX6_init : MethodName := ⟨RX6, "<init>", "()V"⟩
abbrev cX6_copyFrom : ByteArray := prog_8_method_2_code
def yX6_copyFrom : MethodName := ⟨RX6, "copyFrom", "(LRosetteGantry$State;)V"⟩
abbrev cX6_find : ByteArray := prog_8_method_3_code
def yX6_find : MethodName := ⟨RX6, "find", "(I)LRosetteGantry$Rosette;"⟩
abbrev cX6_placeOf : ByteArray := prog_8_method_4_code
def yX6_placeOf : MethodName := ⟨RX6, "placeOf", "(I)I"⟩
abbrev cX6_hasRosetteAt : ByteArray := prog_8_method_5_code
def yX6_hasRosetteAt : MethodName := ⟨RX6, "hasRosetteAt", "(I)Z"⟩
abbrev cX6_addJob : ByteArray := prog_8_method_6_code
def yX6_addJob : MethodName := ⟨RX6, "addJob", "(III)I"⟩
abbrev cX6_jobsFor : ByteArray := prog_8_method_7_code
def yX6_jobsFor : MethodName := ⟨RX6, "jobsFor", "(I)I"⟩
abbrev cX6_dropJobsFor : ByteArray := prog_8_method_8_code
def yX6_dropJobsFor : MethodName := ⟨RX6, "dropJobsFor", "(I)V"⟩
abbrev cX6_goTo : ByteArray := prog_8_method_9_code
def yX6_goTo : MethodName := ⟨RX6, "goTo", "(I)V"⟩
abbrev cX6_leaveRecord : ByteArray := prog_8_method_10_code
def yX6_leaveRecord : MethodName := ⟨RX6, "leaveRecord", "(IIII)V"⟩
def RX7 : String := "RosetteGantry"
def TX7 : u_T := fun k => match k with
  | 0 => ("RosetteGantry", "state", "LRosetteGantry$State;", true)
  | 1 => ("RosetteGantry", "snapshot", "LRosetteGantry$State;", true)
  | 2 => ("RosetteGantry", "hasSnapshot", "Z", false)
  | 3 => ("RosetteGantry", "history", "LRosetteGantry$History;", true)
  | 4 => ("RosetteGantry", "text", "LRosetteGantry$JobText;", true)
  | 5 => ("RosetteGantry", "reason", "I", false)
  | 6 => ("RosetteGantry", "plan", "LRosetteGantry$Plan;", true)
  | _ => ("RosetteGantry", "measure", "LRosetteGantry$Measure;", true)
def tyX7 : Nat → FieldType := fun k => match k with
  | 0 => .object "RosetteGantry$State"
  | 1 => .object "RosetteGantry$State"
  | 2 => .boolean
  | 3 => .object "RosetteGantry$History"
  | 4 => .object "RosetteGantry$JobText"
  | 5 => .int
  | 6 => .object "RosetteGantry$Plan"
  | _ => .object "RosetteGantry$Measure"
abbrev wsX70 : List Cond := u_ws RX7 TX7 8
theorem nmX7 : ∀ a, a < 8 → ∀ b, b < 8 → a ≠ b → (TX7 a).2.1 ≠ (TX7 b).2.1 := by decide +kernel
theorem tyX7_ok : ∀ k, k < 8 → parseFieldDescriptor (TX7 k).2.2.1 = some (tyX7 k) := by decide +kernel
abbrev cX7_init : ByteArray := prog_1_method_1_code
def yX7_init : MethodName := ⟨RX7, "<init>", "()V"⟩
abbrev cX7_addRosette : ByteArray := prog_1_method_2_code
def yX7_addRosette : MethodName := ⟨RX7, "addRosette", "(IZII)I"⟩
abbrev cX7_setStrain : ByteArray := prog_1_method_3_code
def yX7_setStrain : MethodName := ⟨RX7, "setStrain", "(IIII)I"⟩
abbrev cX7_setLeads : ByteArray := prog_1_method_4_code
def yX7_setLeads : MethodName := ⟨RX7, "setLeads", "(II)I"⟩
abbrev cX7_setOffset : ByteArray := prog_1_method_5_code
def yX7_setOffset : MethodName := ⟨RX7, "setOffset", "(III)I"⟩
abbrev cX7_setShunt : ByteArray := prog_1_method_6_code
def yX7_setShunt : MethodName := ⟨RX7, "setShunt", "(IZ)I"⟩
abbrev cX7_setSize : ByteArray := prog_1_method_7_code
def yX7_setSize : MethodName := ⟨RX7, "setSize", "(I)I"⟩
abbrev cX7_request : ByteArray := prog_1_method_8_code
def yX7_request : MethodName := ⟨RX7, "request", "(III)I"⟩
abbrev cX7_cancel : ByteArray := prog_1_method_9_code
def yX7_cancel : MethodName := ⟨RX7, "cancel", "(I)I"⟩
abbrev cX7_next : ByteArray := prog_1_method_10_code
def yX7_next : MethodName := ⟨RX7, "next", "()I"⟩
abbrev cX7_workOff : ByteArray := prog_1_method_11_code
def yX7_workOff : MethodName := ⟨RX7, "workOff", "()I"⟩
abbrev cX7_type : ByteArray := prog_1_method_12_code
def yX7_type : MethodName := ⟨RX7, "type", "(C)I"⟩
abbrev cX7_clearText : ByteArray := prog_1_method_13_code
def yX7_clearText : MethodName := ⟨RX7, "clearText", "()I"⟩
abbrev cX7_readJobs : ByteArray := prog_1_method_14_code
def yX7_readJobs : MethodName := ⟨RX7, "readJobs", "()I"⟩
abbrev cX7_undo : ByteArray := prog_1_method_15_code
def yX7_undo : MethodName := ⟨RX7, "undo", "()I"⟩
abbrev cX7_keep : ByteArray := prog_1_method_16_code
def yX7_keep : MethodName := ⟨RX7, "keep", "()I"⟩
abbrev cX7_restore : ByteArray := prog_1_method_17_code
def yX7_restore : MethodName := ⟨RX7, "restore", "()I"⟩
abbrev cX7_rosette : ByteArray := prog_1_method_18_code
def yX7_rosette : MethodName := ⟨RX7, "rosette", "(II)I"⟩
abbrev cX7_gauge : ByteArray := prog_1_method_19_code
def yX7_gauge : MethodName := ⟨RX7, "gauge", "(III)I"⟩
abbrev cX7_principal : ByteArray := prog_1_method_20_code
def yX7_principal : MethodName := ⟨RX7, "principal", "(II)I"⟩
abbrev cX7_pull : ByteArray := prog_1_method_21_code
def yX7_pull : MethodName := ⟨RX7, "pull", "(II)I"⟩
abbrev cX7_job : ByteArray := prog_1_method_22_code
def yX7_job : MethodName := ⟨RX7, "job", "(II)I"⟩
abbrev cX7_record : ByteArray := prog_1_method_23_code
def yX7_record : MethodName := ⟨RX7, "record", "(II)I"⟩
abbrev cX7_neighbour : ByteArray := prog_1_method_24_code
def yX7_neighbour : MethodName := ⟨RX7, "neighbour", "(IZ)I"⟩
abbrev cX7_count : ByteArray := prog_1_method_25_code
def yX7_count : MethodName := ⟨RX7, "count", "(I)I"⟩
abbrev cX7_doJob : ByteArray := prog_1_method_26_code
def yX7_doJob : MethodName := ⟨RX7, "doJob", "(I)V"⟩
abbrev cX7_reasonAgainst : ByteArray := prog_1_method_27_code
def yX7_reasonAgainst : MethodName := ⟨RX7, "reasonAgainst", "(ILRosetteGantry$Rosette;)I"⟩
abbrev cX7_reasonAgainstBalance : ByteArray := prog_1_method_28_code
def yX7_reasonAgainstBalance : MethodName := ⟨RX7, "reasonAgainstBalance", "(LRosetteGantry$Rosette;)I"⟩
abbrev cX7_reasonAgainstCheck : ByteArray := prog_1_method_29_code
def yX7_reasonAgainstCheck : MethodName := ⟨RX7, "reasonAgainstCheck", "()I"⟩
abbrev cX7_perform : ByteArray := prog_1_method_30_code
def yX7_perform : MethodName := ⟨RX7, "perform", "(ILRosetteGantry$Rosette;)I"⟩
abbrev cX7_setZeros : ByteArray := prog_1_method_31_code
def yX7_setZeros : MethodName := ⟨RX7, "setZeros", "(LRosetteGantry$Rosette;)I"⟩
abbrev cX7_setGains : ByteArray := prog_1_method_32_code
def yX7_setGains : MethodName := ⟨RX7, "setGains", "(LRosetteGantry$Rosette;)I"⟩
abbrev cX7_refuse : ByteArray := prog_1_method_33_code
def yX7_refuse : MethodName := ⟨RX7, "refuse", "(I)I"⟩
abbrev cX7_isWithin : ByteArray := prog_1_method_34_code
def yX7_isWithin : MethodName := ⟨RX7, "isWithin", "(III)Z"⟩
abbrev cX7_isAround0 : ByteArray := prog_1_method_35_code
def yX7_isAround0 : MethodName := ⟨RX7, "isAround0", "(II)Z"⟩
abbrev cX7_quotient : ByteArray := prog_1_method_36_code
def yX7_quotient : MethodName := ⟨RX7, "quotient", "(JJ)J"⟩
def RX8 : String := "RosetteGantryModel"
def TX8 : u_T := fun k => match k with
  | 0 => ("RosetteGantryModel", "now", "[I", true)
  | 1 => ("RosetteGantryModel", "history", "[I", true)
  | 2 => ("RosetteGantryModel", "kept", "I", false)
  | 3 => ("RosetteGantryModel", "slot", "[I", true)
  | 4 => ("RosetteGantryModel", "isFilled", "Z", false)
  | 5 => ("RosetteGantryModel", "reason", "I", false)
  | 6 => ("RosetteGantryModel", "foundX", "J", false)
  | 7 => ("RosetteGantryModel", "foundY", "J", false)
  | 8 => ("RosetteGantryModel", "foundG", "J", false)
  | 9 => ("RosetteGantryModel", "direction", "I", false)
  | 10 => ("RosetteGantryModel", "greatest", "J", false)
  | 11 => ("RosetteGantryModel", "before", "[I", true)
  | 12 => ("RosetteGantryModel", "typed", "I", false)
  | 13 => ("RosetteGantryModel", "text", "[C", true)
  | 14 => ("RosetteGantryModel", "at", "I", false)
  | 15 => ("RosetteGantryModel", "readMany", "I", false)
  | _ => ("RosetteGantryModel", "readJob", "[I", true)
def tyX8 : Nat → FieldType := fun k => match k with
  | 0 => .array .int
  | 1 => .array .int
  | 2 => .int
  | 3 => .array .int
  | 4 => .boolean
  | 5 => .int
  | 6 => .long
  | 7 => .long
  | 8 => .long
  | 9 => .int
  | 10 => .long
  | 11 => .array .int
  | 12 => .int
  | 13 => .array .char
  | 14 => .int
  | 15 => .int
  | _ => .array .int
abbrev wsX80 : List Cond := u_ws RX8 TX8 17
theorem nmX8 : ∀ a, a < 17 → ∀ b, b < 17 → a ≠ b → (TX8 a).2.1 ≠ (TX8 b).2.1 := by decide +kernel
theorem tyX8_ok : ∀ k, k < 17 → parseFieldDescriptor (TX8 k).2.2.1 = some (tyX8 k) := by decide +kernel
abbrev cX8_init : ByteArray := prog_10_method_1_code
def yX8_init : MethodName := ⟨RX8, "<init>", "()V"⟩
abbrev cX8_in : ByteArray := prog_10_method_2_code
def yX8_in : MethodName := ⟨RX8, "in", "(III)Z"⟩
abbrev cX8_size : ByteArray := prog_10_method_3_code
def yX8_size : MethodName := ⟨RX8, "size", "(I)I"⟩
abbrev cX8_save : ByteArray := prog_10_method_4_code
def yX8_save : MethodName := ⟨RX8, "save", "()V"⟩
abbrev cX8_refuse : ByteArray := prog_10_method_5_code
def yX8_refuse : MethodName := ⟨RX8, "refuse", "(I)I"⟩
abbrev cX8_noRosette : ByteArray := prog_10_method_6_code
def yX8_noRosette : MethodName := ⟨RX8, "noRosette", "(I)Z"⟩
abbrev cX8_of : ByteArray := prog_10_method_7_code
def yX8_of : MethodName := ⟨RX8, "of", "(II)I"⟩
abbrev cX8_put : ByteArray := prog_10_method_8_code
def yX8_put : MethodName := ⟨RX8, "put", "(III)V"⟩
abbrev cX8_ofGauge : ByteArray := prog_10_method_9_code
def yX8_ofGauge : MethodName := ⟨RX8, "ofGauge", "(III)I"⟩
abbrev cX8_putGauge : ByteArray := prog_10_method_10_code
def yX8_putGauge : MethodName := ⟨RX8, "putGauge", "(IIII)V"⟩
abbrev cX8_isAt : ByteArray := prog_10_method_11_code
def yX8_isAt : MethodName := ⟨RX8, "isAt", "(I)I"⟩
abbrev cX8_addRosette : ByteArray := prog_10_method_12_code
def yX8_addRosette : MethodName := ⟨RX8, "addRosette", "(IZII)I"⟩
abbrev cX8_strainOf : ByteArray := prog_10_method_13_code
def yX8_strainOf : MethodName := ⟨RX8, "strainOf", "(II)I"⟩
abbrev cX8_led : ByteArray := prog_10_method_14_code
def yX8_led : MethodName := ⟨RX8, "led", "(II)I"⟩
abbrev cX8_shuntValue : ByteArray := prog_10_method_15_code
def yX8_shuntValue : MethodName := ⟨RX8, "shuntValue", "(I)I"⟩
abbrev cX8_signalOf : ByteArray := prog_10_method_16_code
def yX8_signalOf : MethodName := ⟨RX8, "signalOf", "(III)I"⟩
abbrev cX8_isOver : ByteArray := prog_10_method_17_code
def yX8_isOver : MethodName := ⟨RX8, "isOver", "(III)Z"⟩
abbrev cX8_readingBy : ByteArray := prog_10_method_18_code
def yX8_readingBy : MethodName := ⟨RX8, "readingBy", "(III)I"⟩
abbrev cX8_readingOf : ByteArray := prog_10_method_19_code
def yX8_readingOf : MethodName := ⟨RX8, "readingOf", "(II)I"⟩
abbrev cX8_stepOf : ByteArray := prog_10_method_20_code
def yX8_stepOf : MethodName := ⟨RX8, "stepOf", "(II)I"⟩
abbrev cX8_correctedOf : ByteArray := prog_10_method_21_code
def yX8_correctedOf : MethodName := ⟨RX8, "correctedOf", "(II)I"⟩
abbrev cX8_overloaded : ByteArray := prog_10_method_22_code
def yX8_overloaded : MethodName := ⟨RX8, "overloaded", "(I)I"⟩
abbrev cX8_firstOf : ByteArray := prog_10_method_23_code
def yX8_firstOf : MethodName := ⟨RX8, "firstOf", "(I)I"⟩
abbrev cX8_cos : ByteArray := prog_10_method_24_code
def yX8_cos : MethodName := ⟨RX8, "cos", "(I)I"⟩
abbrev cX8_sin : ByteArray := prog_10_method_25_code
def yX8_sin : MethodName := ⟨RX8, "sin", "(I)I"⟩
abbrev cX8_pullOf : ByteArray := prog_10_method_26_code
def yX8_pullOf : MethodName := ⟨RX8, "pullOf", "(I)J"⟩
abbrev cX8_mean : ByteArray := prog_10_method_27_code
def yX8_mean : MethodName := ⟨RX8, "mean", "()J"⟩
abbrev cX8_radius : ByteArray := prog_10_method_28_code
def yX8_radius : MethodName := ⟨RX8, "radius", "()J"⟩
abbrev cX8_find : ByteArray := prog_10_method_29_code
def yX8_find : MethodName := ⟨RX8, "find", "(I)V"⟩
abbrev cX8_setStrain : ByteArray := prog_10_method_30_code
def yX8_setStrain : MethodName := ⟨RX8, "setStrain", "(IIII)I"⟩
abbrev cX8_setLeads : ByteArray := prog_10_method_31_code
def yX8_setLeads : MethodName := ⟨RX8, "setLeads", "(II)I"⟩
abbrev cX8_setOffset : ByteArray := prog_10_method_32_code
def yX8_setOffset : MethodName := ⟨RX8, "setOffset", "(III)I"⟩
abbrev cX8_setShunt : ByteArray := prog_10_method_33_code
def yX8_setShunt : MethodName := ⟨RX8, "setShunt", "(IZ)I"⟩
abbrev cX8_setSize : ByteArray := prog_10_method_34_code
def yX8_setSize : MethodName := ⟨RX8, "setSize", "(I)I"⟩
abbrev cX8_ofJob : ByteArray := prog_10_method_35_code
def yX8_ofJob : MethodName := ⟨RX8, "ofJob", "(II)I"⟩
abbrev cX8_ask : ByteArray := prog_10_method_36_code
def yX8_ask : MethodName := ⟨RX8, "ask", "(III)V"⟩
abbrev cX8_takeOut : ByteArray := prog_10_method_37_code
def yX8_takeOut : MethodName := ⟨RX8, "takeOut", "(I)V"⟩
abbrev cX8_wayTo : ByteArray := prog_10_method_38_code
def yX8_wayTo : MethodName := ⟨RX8, "wayTo", "(II)I"⟩
abbrev cX8_first : ByteArray := prog_10_method_39_code
def yX8_first : MethodName := ⟨RX8, "first", "(II)I"⟩
abbrev cX8_request : ByteArray := prog_10_method_40_code
def yX8_request : MethodName := ⟨RX8, "request", "(III)I"⟩
abbrev cX8_waitingFor : ByteArray := prog_10_method_41_code
def yX8_waitingFor : MethodName := ⟨RX8, "waitingFor", "(I)I"⟩
abbrev cX8_cancel : ByteArray := prog_10_method_42_code
def yX8_cancel : MethodName := ⟨RX8, "cancel", "(I)I"⟩
abbrev cX8_against : ByteArray := prog_10_method_43_code
def yX8_against : MethodName := ⟨RX8, "against", "(II)I"⟩
abbrev cX8_zeroDue : ByteArray := prog_10_method_44_code
def yX8_zeroDue : MethodName := ⟨RX8, "zeroDue", "(II)I"⟩
abbrev cX8_works : ByteArray := prog_10_method_45_code
def yX8_works : MethodName := ⟨RX8, "works", "(II)I"⟩
abbrev cX8_note : ByteArray := prog_10_method_46_code
def yX8_note : MethodName := ⟨RX8, "note", "(IIII)V"⟩
abbrev cX8_doNext : ByteArray := prog_10_method_47_code
def yX8_doNext : MethodName := ⟨RX8, "doNext", "()Z"⟩
abbrev cX8_next : ByteArray := prog_10_method_48_code
def yX8_next : MethodName := ⟨RX8, "next", "()I"⟩
abbrev cX8_workOff : ByteArray := prog_10_method_49_code
def yX8_workOff : MethodName := ⟨RX8, "workOff", "()I"⟩
abbrev cX8_type : ByteArray := prog_10_method_50_code
def yX8_type : MethodName := ⟨RX8, "type", "(C)I"⟩
abbrev cX8_clearText : ByteArray := prog_10_method_51_code
def yX8_clearText : MethodName := ⟨RX8, "clearText", "()I"⟩
abbrev cX8_isSign : ByteArray := prog_10_method_52_code
def yX8_isSign : MethodName := ⟨RX8, "isSign", "(C)Z"⟩
abbrev cX8_digit : ByteArray := prog_10_method_53_code
def yX8_digit : MethodName := ⟨RX8, "digit", "(I)I"⟩
abbrev cX8_readsJob : ByteArray := prog_10_method_54_code
def yX8_readsJob : MethodName := ⟨RX8, "readsJob", "()Z"⟩
abbrev cX8_readJobs : ByteArray := prog_10_method_55_code
def yX8_readJobs : MethodName := ⟨RX8, "readJobs", "()I"⟩
abbrev cX8_undo : ByteArray := prog_10_method_56_code
def yX8_undo : MethodName := ⟨RX8, "undo", "()I"⟩
abbrev cX8_keep : ByteArray := prog_10_method_57_code
def yX8_keep : MethodName := ⟨RX8, "keep", "()I"⟩
abbrev cX8_restore : ByteArray := prog_10_method_58_code
def yX8_restore : MethodName := ⟨RX8, "restore", "()I"⟩
abbrev cX8_rosette : ByteArray := prog_10_method_59_code
def yX8_rosette : MethodName := ⟨RX8, "rosette", "(II)I"⟩
abbrev cX8_gauge : ByteArray := prog_10_method_60_code
def yX8_gauge : MethodName := ⟨RX8, "gauge", "(III)I"⟩
abbrev cX8_principal : ByteArray := prog_10_method_61_code
def yX8_principal : MethodName := ⟨RX8, "principal", "(II)I"⟩
abbrev cX8_pull : ByteArray := prog_10_method_62_code
def yX8_pull : MethodName := ⟨RX8, "pull", "(II)I"⟩
abbrev cX8_job : ByteArray := prog_10_method_63_code
def yX8_job : MethodName := ⟨RX8, "job", "(II)I"⟩
abbrev cX8_record : ByteArray := prog_10_method_64_code
def yX8_record : MethodName := ⟨RX8, "record", "(II)I"⟩
abbrev cX8_neighbour : ByteArray := prog_10_method_65_code
def yX8_neighbour : MethodName := ⟨RX8, "neighbour", "(IZ)I"⟩
abbrev cX8_count : ByteArray := prog_10_method_66_code
def yX8_count : MethodName := ⟨RX8, "count", "(I)I"⟩
def RJ9 : String := "java/lang/Math"
def TJ9 : u_T := fun k => match k with
  | _ => ("", "", "", false)
def tyJ9 : Nat → FieldType := fun k => match k with
  | _ => .int
abbrev wsJ90 : List Cond := u_ws RJ9 TJ9 0
theorem nmJ9 : ∀ a, a < 0 → ∀ b, b < 0 → a ≠ b → (TJ9 a).2.1 ≠ (TJ9 b).2.1 := by decide +kernel
theorem tyJ9_ok : ∀ k, k < 0 → parseFieldDescriptor (TJ9 k).2.2.1 = some (tyJ9 k) := by decide +kernel
abbrev cJ9_abs_0f7a4 : ByteArray := prog_11_method_59_code
def yJ9_abs_0f7a4 : MethodName := ⟨RJ9, "abs", "(I)I"⟩
abbrev cJ9_max_7cf53 : ByteArray := prog_11_method_65_code
def yJ9_max_7cf53 : MethodName := ⟨RJ9, "max", "(II)I"⟩
abbrev cJ9_min_7cf53 : ByteArray := prog_11_method_69_code
def yJ9_min_7cf53 : MethodName := ⟨RJ9, "min", "(II)I"⟩
def RJ10 : String := "java/lang/System"
def TJ10 : u_T := fun k => match k with
  | _ => ("", "", "", false)
def tyJ10 : Nat → FieldType := fun k => match k with
  | _ => .int
abbrev wsJ100 : List Cond := u_ws RJ10 TJ10 0
theorem nmJ10 : ∀ a, a < 0 → ∀ b, b < 0 → a ≠ b → (TJ10 a).2.1 ≠ (TJ10 b).2.1 := by decide +kernel
theorem tyJ10_ok : ∀ k, k < 0 → parseFieldDescriptor (TJ10 k).2.2.1 = some (tyJ10 k) := by decide +kernel
def RL : String := "RosetteGantryLaw"
abbrev cL_law : ByteArray := code
def yL_law : MethodName := ⟨RL, "law", "([I)Z"⟩
