section
-- ===== PART A: goes FIRST, ahead of the names: the tables' words, and 'selects' of the private methods out of them =====
/-- a private method of a class that the tables say can be made, by its rows of tables_1 -/
def lw_okq (q : MethodName × Nat) : Prop := (q.1.cls ≠ "java/lang/invoke/MethodHandle" ∧ q.1.cls ≠ "java/lang/invoke/VarHandle") ∧ Cond.instantiable q.1.cls q.2 ∈ tables_1 ∧ Cond.privateMethod q.1 ∈ tables_1 ∧ Cond.instanceMethod q.1 ∈ tables_1
theorem lw_p0 : lw_okq (⟨"RosetteGantry", "refuse", "(I)I"⟩, 8) := ⟨⟨by decide +kernel, by decide +kernel⟩, List.mem_of_getElem? (i := 13) (by decide +kernel), List.mem_of_getElem? (i := 320) (by decide +kernel), List.mem_of_getElem? (i := 321) (by decide +kernel)⟩
theorem lw_p1 : lw_okq (⟨"RosetteGantry$History", "dropOldest", "()V"⟩, 2) := ⟨⟨by decide +kernel, by decide +kernel⟩, List.mem_of_getElem? (i := 159) (by decide +kernel), List.mem_of_getElem? (i := 341) (by decide +kernel), List.mem_of_getElem? (i := 342) (by decide +kernel)⟩
theorem lw_p2 : lw_okq (⟨"RosetteGantry$Measure", "findStrains", "(LRosetteGantry$Rosette;)V"⟩, 15) := ⟨⟨by decide +kernel, by decide +kernel⟩, List.mem_of_getElem? (i := 221) (by decide +kernel), List.mem_of_getElem? (i := 383) (by decide +kernel), List.mem_of_getElem? (i := 384) (by decide +kernel)⟩
theorem lw_p3 : lw_okq (⟨"RosetteGantry$Measure", "findSignal", "(LRosetteGantry$Rosette;I)V"⟩, 15) := ⟨⟨by decide +kernel, by decide +kernel⟩, List.mem_of_getElem? (i := 221) (by decide +kernel), List.mem_of_getElem? (i := 387) (by decide +kernel), List.mem_of_getElem? (i := 388) (by decide +kernel)⟩
theorem lw_p4 : lw_okq (⟨"RosetteGantry$Measure", "findDeltaNumbers", "()V"⟩, 15) := ⟨⟨by decide +kernel, by decide +kernel⟩, List.mem_of_getElem? (i := 221) (by decide +kernel), List.mem_of_getElem? (i := 406) (by decide +kernel), List.mem_of_getElem? (i := 407) (by decide +kernel)⟩
theorem lw_p5 : lw_okq (⟨"RosetteGantry$Measure", "findRightNumbers", "()V"⟩, 15) := ⟨⟨by decide +kernel, by decide +kernel⟩, List.mem_of_getElem? (i := 221) (by decide +kernel), List.mem_of_getElem? (i := 412) (by decide +kernel), List.mem_of_getElem? (i := 413) (by decide +kernel)⟩
theorem lw_p6 : lw_okq (⟨"RosetteGantry$Measure", "findPrincipal", "()V"⟩, 15) := ⟨⟨by decide +kernel, by decide +kernel⟩, List.mem_of_getElem? (i := 221) (by decide +kernel), List.mem_of_getElem? (i := 416) (by decide +kernel), List.mem_of_getElem? (i := 417) (by decide +kernel)⟩
theorem lw_p7 : lw_okq (⟨"RosetteGantry$Plan", "isAhead", "(LRosetteGantry$State;II)Z"⟩, 4) := ⟨⟨by decide +kernel, by decide +kernel⟩, List.mem_of_getElem? (i := 199) (by decide +kernel), List.mem_of_getElem? (i := 501) (by decide +kernel), List.mem_of_getElem? (i := 502) (by decide +kernel)⟩
theorem lw_p8 : lw_okq (⟨"RosetteGantry$Plan", "distance", "(LRosetteGantry$State;I)I"⟩, 4) := ⟨⟨by decide +kernel, by decide +kernel⟩, List.mem_of_getElem? (i := 199) (by decide +kernel), List.mem_of_getElem? (i := 506) (by decide +kernel), List.mem_of_getElem? (i := 507) (by decide +kernel)⟩
theorem lw_p9 : lw_okq (⟨"RosetteGantry", "doJob", "(I)V"⟩, 8) := ⟨⟨by decide +kernel, by decide +kernel⟩, List.mem_of_getElem? (i := 13) (by decide +kernel), List.mem_of_getElem? (i := 515) (by decide +kernel), List.mem_of_getElem? (i := 516) (by decide +kernel)⟩
theorem lw_p10 : lw_okq (⟨"RosetteGantry", "reasonAgainst", "(ILRosetteGantry$Rosette;)I"⟩, 8) := ⟨⟨by decide +kernel, by decide +kernel⟩, List.mem_of_getElem? (i := 13) (by decide +kernel), List.mem_of_getElem? (i := 525) (by decide +kernel), List.mem_of_getElem? (i := 526) (by decide +kernel)⟩
theorem lw_p11 : lw_okq (⟨"RosetteGantry", "reasonAgainstBalance", "(LRosetteGantry$Rosette;)I"⟩, 8) := ⟨⟨by decide +kernel, by decide +kernel⟩, List.mem_of_getElem? (i := 13) (by decide +kernel), List.mem_of_getElem? (i := 529) (by decide +kernel), List.mem_of_getElem? (i := 530) (by decide +kernel)⟩
theorem lw_p12 : lw_okq (⟨"RosetteGantry", "reasonAgainstCheck", "()I"⟩, 8) := ⟨⟨by decide +kernel, by decide +kernel⟩, List.mem_of_getElem? (i := 13) (by decide +kernel), List.mem_of_getElem? (i := 533) (by decide +kernel), List.mem_of_getElem? (i := 534) (by decide +kernel)⟩
theorem lw_p13 : lw_okq (⟨"RosetteGantry", "perform", "(ILRosetteGantry$Rosette;)I"⟩, 8) := ⟨⟨by decide +kernel, by decide +kernel⟩, List.mem_of_getElem? (i := 13) (by decide +kernel), List.mem_of_getElem? (i := 537) (by decide +kernel), List.mem_of_getElem? (i := 538) (by decide +kernel)⟩
theorem lw_p14 : lw_okq (⟨"RosetteGantry", "setZeros", "(LRosetteGantry$Rosette;)I"⟩, 8) := ⟨⟨by decide +kernel, by decide +kernel⟩, List.mem_of_getElem? (i := 13) (by decide +kernel), List.mem_of_getElem? (i := 541) (by decide +kernel), List.mem_of_getElem? (i := 542) (by decide +kernel)⟩
theorem lw_p15 : lw_okq (⟨"RosetteGantry", "setGains", "(LRosetteGantry$Rosette;)I"⟩, 8) := ⟨⟨by decide +kernel, by decide +kernel⟩, List.mem_of_getElem? (i := 13) (by decide +kernel), List.mem_of_getElem? (i := 545) (by decide +kernel), List.mem_of_getElem? (i := 546) (by decide +kernel)⟩
def lw_privs_1 : List (MethodName × Nat) := [(⟨"RosetteGantry", "refuse", "(I)I"⟩, 8), (⟨"RosetteGantry$History", "dropOldest", "()V"⟩, 2), (⟨"RosetteGantry$Measure", "findStrains", "(LRosetteGantry$Rosette;)V"⟩, 15), (⟨"RosetteGantry$Measure", "findSignal", "(LRosetteGantry$Rosette;I)V"⟩, 15), (⟨"RosetteGantry$Measure", "findDeltaNumbers", "()V"⟩, 15), (⟨"RosetteGantry$Measure", "findRightNumbers", "()V"⟩, 15), (⟨"RosetteGantry$Measure", "findPrincipal", "()V"⟩, 15), (⟨"RosetteGantry$Plan", "isAhead", "(LRosetteGantry$State;II)Z"⟩, 4), (⟨"RosetteGantry$Plan", "distance", "(LRosetteGantry$State;I)I"⟩, 4), (⟨"RosetteGantry", "doJob", "(I)V"⟩, 8), (⟨"RosetteGantry", "reasonAgainst", "(ILRosetteGantry$Rosette;)I"⟩, 8), (⟨"RosetteGantry", "reasonAgainstBalance", "(LRosetteGantry$Rosette;)I"⟩, 8), (⟨"RosetteGantry", "reasonAgainstCheck", "()I"⟩, 8), (⟨"RosetteGantry", "perform", "(ILRosetteGantry$Rosette;)I"⟩, 8), (⟨"RosetteGantry", "setZeros", "(LRosetteGantry$Rosette;)I"⟩, 8), (⟨"RosetteGantry", "setGains", "(LRosetteGantry$Rosette;)I"⟩, 8)]
theorem lw_r1 : ∀ q ∈ lw_privs_1, lw_okq q := List.forall_mem_cons.mpr ⟨lw_p0, List.forall_mem_cons.mpr ⟨lw_p1, List.forall_mem_cons.mpr ⟨lw_p2, List.forall_mem_cons.mpr ⟨lw_p3, List.forall_mem_cons.mpr ⟨lw_p4, List.forall_mem_cons.mpr ⟨lw_p5, List.forall_mem_cons.mpr ⟨lw_p6, List.forall_mem_cons.mpr ⟨lw_p7, List.forall_mem_cons.mpr ⟨lw_p8, List.forall_mem_cons.mpr ⟨lw_p9, List.forall_mem_cons.mpr ⟨lw_p10, List.forall_mem_cons.mpr ⟨lw_p11, List.forall_mem_cons.mpr ⟨lw_p12, List.forall_mem_cons.mpr ⟨lw_p13, List.forall_mem_cons.mpr ⟨lw_p14, List.forall_mem_cons.mpr ⟨lw_p15, fun _ h => absurd h List.not_mem_nil⟩⟩⟩⟩⟩⟩⟩⟩⟩⟩⟩⟩⟩⟩⟩⟩
theorem lw_p16 : lw_okq (⟨"RosetteGantry$JobText", "take", "(II)I"⟩, 4) := ⟨⟨by decide +kernel, by decide +kernel⟩, List.mem_of_getElem? (i := 176) (by decide +kernel), List.mem_of_getElem? (i := 579) (by decide +kernel), List.mem_of_getElem? (i := 580) (by decide +kernel)⟩
theorem lw_p17 : lw_okq (⟨"RosetteGantry$JobText", "takeLetter", "(I)I"⟩, 4) := ⟨⟨by decide +kernel, by decide +kernel⟩, List.mem_of_getElem? (i := 176) (by decide +kernel), List.mem_of_getElem? (i := 583) (by decide +kernel), List.mem_of_getElem? (i := 584) (by decide +kernel)⟩
theorem lw_p18 : lw_okq (⟨"RosetteGantry$JobText", "takeRosette", "(I)I"⟩, 4) := ⟨⟨by decide +kernel, by decide +kernel⟩, List.mem_of_getElem? (i := 176) (by decide +kernel), List.mem_of_getElem? (i := 587) (by decide +kernel), List.mem_of_getElem? (i := 588) (by decide +kernel)⟩
theorem lw_p19 : lw_okq (⟨"RosetteGantry$JobText", "takeComma", "(I)I"⟩, 4) := ⟨⟨by decide +kernel, by decide +kernel⟩, List.mem_of_getElem? (i := 176) (by decide +kernel), List.mem_of_getElem? (i := 593) (by decide +kernel), List.mem_of_getElem? (i := 594) (by decide +kernel)⟩
theorem lw_p20 : lw_okq (⟨"RosetteGantry$JobText", "takeUrgency", "(I)I"⟩, 4) := ⟨⟨by decide +kernel, by decide +kernel⟩, List.mem_of_getElem? (i := 176) (by decide +kernel), List.mem_of_getElem? (i := 597) (by decide +kernel), List.mem_of_getElem? (i := 598) (by decide +kernel)⟩
theorem lw_p21 : lw_okq (⟨"RosetteGantryModel", "refuse", "(I)I"⟩, 17) := ⟨⟨by decide +kernel, by decide +kernel⟩, List.mem_of_getElem? (i := 657) (by decide +kernel), List.mem_of_getElem? (i := 724) (by decide +kernel), List.mem_of_getElem? (i := 725) (by decide +kernel)⟩
theorem lw_p22 : lw_okq (⟨"RosetteGantryModel", "isAt", "(I)I"⟩, 17) := ⟨⟨by decide +kernel, by decide +kernel⟩, List.mem_of_getElem? (i := 657) (by decide +kernel), List.mem_of_getElem? (i := 729) (by decide +kernel), List.mem_of_getElem? (i := 730) (by decide +kernel)⟩
theorem lw_p23 : lw_okq (⟨"RosetteGantryModel", "of", "(II)I"⟩, 17) := ⟨⟨by decide +kernel, by decide +kernel⟩, List.mem_of_getElem? (i := 657) (by decide +kernel), List.mem_of_getElem? (i := 733) (by decide +kernel), List.mem_of_getElem? (i := 734) (by decide +kernel)⟩
theorem lw_p24 : lw_okq (⟨"RosetteGantryModel", "save", "()V"⟩, 17) := ⟨⟨by decide +kernel, by decide +kernel⟩, List.mem_of_getElem? (i := 657) (by decide +kernel), List.mem_of_getElem? (i := 738) (by decide +kernel), List.mem_of_getElem? (i := 739) (by decide +kernel)⟩
theorem lw_p25 : lw_okq (⟨"RosetteGantryModel", "put", "(III)V"⟩, 17) := ⟨⟨by decide +kernel, by decide +kernel⟩, List.mem_of_getElem? (i := 657) (by decide +kernel), List.mem_of_getElem? (i := 742) (by decide +kernel), List.mem_of_getElem? (i := 743) (by decide +kernel)⟩
theorem lw_p26 : lw_okq (⟨"RosetteGantryModel", "putGauge", "(IIII)V"⟩, 17) := ⟨⟨by decide +kernel, by decide +kernel⟩, List.mem_of_getElem? (i := 657) (by decide +kernel), List.mem_of_getElem? (i := 746) (by decide +kernel), List.mem_of_getElem? (i := 747) (by decide +kernel)⟩
theorem lw_p27 : lw_okq (⟨"RosetteGantryModel", "noRosette", "(I)Z"⟩, 17) := ⟨⟨by decide +kernel, by decide +kernel⟩, List.mem_of_getElem? (i := 657) (by decide +kernel), List.mem_of_getElem? (i := 754) (by decide +kernel), List.mem_of_getElem? (i := 755) (by decide +kernel)⟩
theorem lw_p28 : lw_okq (⟨"RosetteGantryModel", "readingOf", "(II)I"⟩, 17) := ⟨⟨by decide +kernel, by decide +kernel⟩, List.mem_of_getElem? (i := 657) (by decide +kernel), List.mem_of_getElem? (i := 759) (by decide +kernel), List.mem_of_getElem? (i := 760) (by decide +kernel)⟩
theorem lw_p29 : lw_okq (⟨"RosetteGantryModel", "readingBy", "(III)I"⟩, 17) := ⟨⟨by decide +kernel, by decide +kernel⟩, List.mem_of_getElem? (i := 657) (by decide +kernel), List.mem_of_getElem? (i := 763) (by decide +kernel), List.mem_of_getElem? (i := 764) (by decide +kernel)⟩
theorem lw_p30 : lw_okq (⟨"RosetteGantryModel", "signalOf", "(III)I"⟩, 17) := ⟨⟨by decide +kernel, by decide +kernel⟩, List.mem_of_getElem? (i := 657) (by decide +kernel), List.mem_of_getElem? (i := 767) (by decide +kernel), List.mem_of_getElem? (i := 768) (by decide +kernel)⟩
theorem lw_p31 : lw_okq (⟨"RosetteGantryModel", "ofGauge", "(III)I"⟩, 17) := ⟨⟨by decide +kernel, by decide +kernel⟩, List.mem_of_getElem? (i := 657) (by decide +kernel), List.mem_of_getElem? (i := 771) (by decide +kernel), List.mem_of_getElem? (i := 772) (by decide +kernel)⟩
def lw_privs_2 : List (MethodName × Nat) := [(⟨"RosetteGantry$JobText", "take", "(II)I"⟩, 4), (⟨"RosetteGantry$JobText", "takeLetter", "(I)I"⟩, 4), (⟨"RosetteGantry$JobText", "takeRosette", "(I)I"⟩, 4), (⟨"RosetteGantry$JobText", "takeComma", "(I)I"⟩, 4), (⟨"RosetteGantry$JobText", "takeUrgency", "(I)I"⟩, 4), (⟨"RosetteGantryModel", "refuse", "(I)I"⟩, 17), (⟨"RosetteGantryModel", "isAt", "(I)I"⟩, 17), (⟨"RosetteGantryModel", "of", "(II)I"⟩, 17), (⟨"RosetteGantryModel", "save", "()V"⟩, 17), (⟨"RosetteGantryModel", "put", "(III)V"⟩, 17), (⟨"RosetteGantryModel", "putGauge", "(IIII)V"⟩, 17), (⟨"RosetteGantryModel", "noRosette", "(I)Z"⟩, 17), (⟨"RosetteGantryModel", "readingOf", "(II)I"⟩, 17), (⟨"RosetteGantryModel", "readingBy", "(III)I"⟩, 17), (⟨"RosetteGantryModel", "signalOf", "(III)I"⟩, 17), (⟨"RosetteGantryModel", "ofGauge", "(III)I"⟩, 17)]
theorem lw_r2 : ∀ q ∈ lw_privs_2, lw_okq q := List.forall_mem_cons.mpr ⟨lw_p16, List.forall_mem_cons.mpr ⟨lw_p17, List.forall_mem_cons.mpr ⟨lw_p18, List.forall_mem_cons.mpr ⟨lw_p19, List.forall_mem_cons.mpr ⟨lw_p20, List.forall_mem_cons.mpr ⟨lw_p21, List.forall_mem_cons.mpr ⟨lw_p22, List.forall_mem_cons.mpr ⟨lw_p23, List.forall_mem_cons.mpr ⟨lw_p24, List.forall_mem_cons.mpr ⟨lw_p25, List.forall_mem_cons.mpr ⟨lw_p26, List.forall_mem_cons.mpr ⟨lw_p27, List.forall_mem_cons.mpr ⟨lw_p28, List.forall_mem_cons.mpr ⟨lw_p29, List.forall_mem_cons.mpr ⟨lw_p30, List.forall_mem_cons.mpr ⟨lw_p31, fun _ h => absurd h List.not_mem_nil⟩⟩⟩⟩⟩⟩⟩⟩⟩⟩⟩⟩⟩⟩⟩⟩
theorem lw_p32 : lw_okq (⟨"RosetteGantryModel", "led", "(II)I"⟩, 17) := ⟨⟨by decide +kernel, by decide +kernel⟩, List.mem_of_getElem? (i := 657) (by decide +kernel), List.mem_of_getElem? (i := 775) (by decide +kernel), List.mem_of_getElem? (i := 776) (by decide +kernel)⟩
theorem lw_p33 : lw_okq (⟨"RosetteGantryModel", "strainOf", "(II)I"⟩, 17) := ⟨⟨by decide +kernel, by decide +kernel⟩, List.mem_of_getElem? (i := 657) (by decide +kernel), List.mem_of_getElem? (i := 780) (by decide +kernel), List.mem_of_getElem? (i := 781) (by decide +kernel)⟩
theorem lw_p34 : lw_okq (⟨"RosetteGantryModel", "shuntValue", "(I)I"⟩, 17) := ⟨⟨by decide +kernel, by decide +kernel⟩, List.mem_of_getElem? (i := 657) (by decide +kernel), List.mem_of_getElem? (i := 784) (by decide +kernel), List.mem_of_getElem? (i := 785) (by decide +kernel)⟩
theorem lw_p35 : lw_okq (⟨"RosetteGantryModel", "ask", "(III)V"⟩, 17) := ⟨⟨by decide +kernel, by decide +kernel⟩, List.mem_of_getElem? (i := 657) (by decide +kernel), List.mem_of_getElem? (i := 809) (by decide +kernel), List.mem_of_getElem? (i := 810) (by decide +kernel)⟩
theorem lw_p36 : lw_okq (⟨"RosetteGantryModel", "waitingFor", "(I)I"⟩, 17) := ⟨⟨by decide +kernel, by decide +kernel⟩, List.mem_of_getElem? (i := 657) (by decide +kernel), List.mem_of_getElem? (i := 817) (by decide +kernel), List.mem_of_getElem? (i := 818) (by decide +kernel)⟩
theorem lw_p37 : lw_okq (⟨"RosetteGantryModel", "ofJob", "(II)I"⟩, 17) := ⟨⟨by decide +kernel, by decide +kernel⟩, List.mem_of_getElem? (i := 657) (by decide +kernel), List.mem_of_getElem? (i := 821) (by decide +kernel), List.mem_of_getElem? (i := 822) (by decide +kernel)⟩
theorem lw_p38 : lw_okq (⟨"RosetteGantryModel", "takeOut", "(I)V"⟩, 17) := ⟨⟨by decide +kernel, by decide +kernel⟩, List.mem_of_getElem? (i := 657) (by decide +kernel), List.mem_of_getElem? (i := 825) (by decide +kernel), List.mem_of_getElem? (i := 826) (by decide +kernel)⟩
theorem lw_p39 : lw_okq (⟨"RosetteGantryModel", "first", "(II)I"⟩, 17) := ⟨⟨by decide +kernel, by decide +kernel⟩, List.mem_of_getElem? (i := 657) (by decide +kernel), List.mem_of_getElem? (i := 833) (by decide +kernel), List.mem_of_getElem? (i := 834) (by decide +kernel)⟩
theorem lw_p40 : lw_okq (⟨"RosetteGantryModel", "wayTo", "(II)I"⟩, 17) := ⟨⟨by decide +kernel, by decide +kernel⟩, List.mem_of_getElem? (i := 657) (by decide +kernel), List.mem_of_getElem? (i := 837) (by decide +kernel), List.mem_of_getElem? (i := 838) (by decide +kernel)⟩
theorem lw_p41 : lw_okq (⟨"RosetteGantryModel", "doNext", "()Z"⟩, 17) := ⟨⟨by decide +kernel, by decide +kernel⟩, List.mem_of_getElem? (i := 657) (by decide +kernel), List.mem_of_getElem? (i := 844) (by decide +kernel), List.mem_of_getElem? (i := 845) (by decide +kernel)⟩
theorem lw_p42 : lw_okq (⟨"RosetteGantryModel", "against", "(II)I"⟩, 17) := ⟨⟨by decide +kernel, by decide +kernel⟩, List.mem_of_getElem? (i := 657) (by decide +kernel), List.mem_of_getElem? (i := 848) (by decide +kernel), List.mem_of_getElem? (i := 849) (by decide +kernel)⟩
theorem lw_p43 : lw_okq (⟨"RosetteGantryModel", "overloaded", "(I)I"⟩, 17) := ⟨⟨by decide +kernel, by decide +kernel⟩, List.mem_of_getElem? (i := 657) (by decide +kernel), List.mem_of_getElem? (i := 852) (by decide +kernel), List.mem_of_getElem? (i := 853) (by decide +kernel)⟩
theorem lw_p44 : lw_okq (⟨"RosetteGantryModel", "isOver", "(III)Z"⟩, 17) := ⟨⟨by decide +kernel, by decide +kernel⟩, List.mem_of_getElem? (i := 657) (by decide +kernel), List.mem_of_getElem? (i := 856) (by decide +kernel), List.mem_of_getElem? (i := 857) (by decide +kernel)⟩
theorem lw_p45 : lw_okq (⟨"RosetteGantryModel", "zeroDue", "(II)I"⟩, 17) := ⟨⟨by decide +kernel, by decide +kernel⟩, List.mem_of_getElem? (i := 657) (by decide +kernel), List.mem_of_getElem? (i := 860) (by decide +kernel), List.mem_of_getElem? (i := 861) (by decide +kernel)⟩
theorem lw_p46 : lw_okq (⟨"RosetteGantryModel", "stepOf", "(II)I"⟩, 17) := ⟨⟨by decide +kernel, by decide +kernel⟩, List.mem_of_getElem? (i := 657) (by decide +kernel), List.mem_of_getElem? (i := 864) (by decide +kernel), List.mem_of_getElem? (i := 865) (by decide +kernel)⟩
theorem lw_p47 : lw_okq (⟨"RosetteGantryModel", "works", "(II)I"⟩, 17) := ⟨⟨by decide +kernel, by decide +kernel⟩, List.mem_of_getElem? (i := 657) (by decide +kernel), List.mem_of_getElem? (i := 868) (by decide +kernel), List.mem_of_getElem? (i := 869) (by decide +kernel)⟩
def lw_privs_3 : List (MethodName × Nat) := [(⟨"RosetteGantryModel", "led", "(II)I"⟩, 17), (⟨"RosetteGantryModel", "strainOf", "(II)I"⟩, 17), (⟨"RosetteGantryModel", "shuntValue", "(I)I"⟩, 17), (⟨"RosetteGantryModel", "ask", "(III)V"⟩, 17), (⟨"RosetteGantryModel", "waitingFor", "(I)I"⟩, 17), (⟨"RosetteGantryModel", "ofJob", "(II)I"⟩, 17), (⟨"RosetteGantryModel", "takeOut", "(I)V"⟩, 17), (⟨"RosetteGantryModel", "first", "(II)I"⟩, 17), (⟨"RosetteGantryModel", "wayTo", "(II)I"⟩, 17), (⟨"RosetteGantryModel", "doNext", "()Z"⟩, 17), (⟨"RosetteGantryModel", "against", "(II)I"⟩, 17), (⟨"RosetteGantryModel", "overloaded", "(I)I"⟩, 17), (⟨"RosetteGantryModel", "isOver", "(III)Z"⟩, 17), (⟨"RosetteGantryModel", "zeroDue", "(II)I"⟩, 17), (⟨"RosetteGantryModel", "stepOf", "(II)I"⟩, 17), (⟨"RosetteGantryModel", "works", "(II)I"⟩, 17)]
theorem lw_r3 : ∀ q ∈ lw_privs_3, lw_okq q := List.forall_mem_cons.mpr ⟨lw_p32, List.forall_mem_cons.mpr ⟨lw_p33, List.forall_mem_cons.mpr ⟨lw_p34, List.forall_mem_cons.mpr ⟨lw_p35, List.forall_mem_cons.mpr ⟨lw_p36, List.forall_mem_cons.mpr ⟨lw_p37, List.forall_mem_cons.mpr ⟨lw_p38, List.forall_mem_cons.mpr ⟨lw_p39, List.forall_mem_cons.mpr ⟨lw_p40, List.forall_mem_cons.mpr ⟨lw_p41, List.forall_mem_cons.mpr ⟨lw_p42, List.forall_mem_cons.mpr ⟨lw_p43, List.forall_mem_cons.mpr ⟨lw_p44, List.forall_mem_cons.mpr ⟨lw_p45, List.forall_mem_cons.mpr ⟨lw_p46, List.forall_mem_cons.mpr ⟨lw_p47, fun _ h => absurd h List.not_mem_nil⟩⟩⟩⟩⟩⟩⟩⟩⟩⟩⟩⟩⟩⟩⟩⟩
theorem lw_p48 : lw_okq (⟨"RosetteGantryModel", "find", "(I)V"⟩, 17) := ⟨⟨by decide +kernel, by decide +kernel⟩, List.mem_of_getElem? (i := 657) (by decide +kernel), List.mem_of_getElem? (i := 872) (by decide +kernel), List.mem_of_getElem? (i := 873) (by decide +kernel)⟩
theorem lw_p49 : lw_okq (⟨"RosetteGantryModel", "correctedOf", "(II)I"⟩, 17) := ⟨⟨by decide +kernel, by decide +kernel⟩, List.mem_of_getElem? (i := 657) (by decide +kernel), List.mem_of_getElem? (i := 876) (by decide +kernel), List.mem_of_getElem? (i := 877) (by decide +kernel)⟩
theorem lw_p50 : lw_okq (⟨"RosetteGantryModel", "pullOf", "(I)J"⟩, 17) := ⟨⟨by decide +kernel, by decide +kernel⟩, List.mem_of_getElem? (i := 657) (by decide +kernel), List.mem_of_getElem? (i := 885) (by decide +kernel), List.mem_of_getElem? (i := 886) (by decide +kernel)⟩
theorem lw_p51 : lw_okq (⟨"RosetteGantryModel", "mean", "()J"⟩, 17) := ⟨⟨by decide +kernel, by decide +kernel⟩, List.mem_of_getElem? (i := 657) (by decide +kernel), List.mem_of_getElem? (i := 898) (by decide +kernel), List.mem_of_getElem? (i := 899) (by decide +kernel)⟩
theorem lw_p52 : lw_okq (⟨"RosetteGantryModel", "radius", "()J"⟩, 17) := ⟨⟨by decide +kernel, by decide +kernel⟩, List.mem_of_getElem? (i := 657) (by decide +kernel), List.mem_of_getElem? (i := 902) (by decide +kernel), List.mem_of_getElem? (i := 903) (by decide +kernel)⟩
theorem lw_p53 : lw_okq (⟨"RosetteGantryModel", "note", "(IIII)V"⟩, 17) := ⟨⟨by decide +kernel, by decide +kernel⟩, List.mem_of_getElem? (i := 657) (by decide +kernel), List.mem_of_getElem? (i := 907) (by decide +kernel), List.mem_of_getElem? (i := 908) (by decide +kernel)⟩
theorem lw_p54 : lw_okq (⟨"RosetteGantryModel", "readsJob", "()Z"⟩, 17) := ⟨⟨by decide +kernel, by decide +kernel⟩, List.mem_of_getElem? (i := 657) (by decide +kernel), List.mem_of_getElem? (i := 927) (by decide +kernel), List.mem_of_getElem? (i := 928) (by decide +kernel)⟩
theorem lw_p55 : lw_okq (⟨"RosetteGantryModel", "isSign", "(C)Z"⟩, 17) := ⟨⟨by decide +kernel, by decide +kernel⟩, List.mem_of_getElem? (i := 657) (by decide +kernel), List.mem_of_getElem? (i := 931) (by decide +kernel), List.mem_of_getElem? (i := 932) (by decide +kernel)⟩
theorem lw_p56 : lw_okq (⟨"RosetteGantryModel", "digit", "(I)I"⟩, 17) := ⟨⟨by decide +kernel, by decide +kernel⟩, List.mem_of_getElem? (i := 657) (by decide +kernel), List.mem_of_getElem? (i := 935) (by decide +kernel), List.mem_of_getElem? (i := 936) (by decide +kernel)⟩
def lw_privs_4 : List (MethodName × Nat) := [(⟨"RosetteGantryModel", "find", "(I)V"⟩, 17), (⟨"RosetteGantryModel", "correctedOf", "(II)I"⟩, 17), (⟨"RosetteGantryModel", "pullOf", "(I)J"⟩, 17), (⟨"RosetteGantryModel", "mean", "()J"⟩, 17), (⟨"RosetteGantryModel", "radius", "()J"⟩, 17), (⟨"RosetteGantryModel", "note", "(IIII)V"⟩, 17), (⟨"RosetteGantryModel", "readsJob", "()Z"⟩, 17), (⟨"RosetteGantryModel", "isSign", "(C)Z"⟩, 17), (⟨"RosetteGantryModel", "digit", "(I)I"⟩, 17)]
theorem lw_r4 : ∀ q ∈ lw_privs_4, lw_okq q := List.forall_mem_cons.mpr ⟨lw_p48, List.forall_mem_cons.mpr ⟨lw_p49, List.forall_mem_cons.mpr ⟨lw_p50, List.forall_mem_cons.mpr ⟨lw_p51, List.forall_mem_cons.mpr ⟨lw_p52, List.forall_mem_cons.mpr ⟨lw_p53, List.forall_mem_cons.mpr ⟨lw_p54, List.forall_mem_cons.mpr ⟨lw_p55, List.forall_mem_cons.mpr ⟨lw_p56, fun _ h => absurd h List.not_mem_nil⟩⟩⟩⟩⟩⟩⟩⟩⟩
def lw_privs : List (MethodName × Nat) := lw_privs_1 ++ (lw_privs_2 ++ (lw_privs_3 ++ (lw_privs_4)))
def lw_tbl : List Cond := k2_sels lw_privs ++ tables_1
theorem lw_privs_ok : ∀ q ∈ lw_privs, lw_okq q := by
  show ∀ q ∈ lw_privs_1 ++ (lw_privs_2 ++ (lw_privs_3 ++ (lw_privs_4))), lw_okq q
  exact List.forall_mem_append.mpr ⟨lw_r1, List.forall_mem_append.mpr ⟨lw_r2, List.forall_mem_append.mpr ⟨lw_r3, lw_r4⟩⟩⟩

def RX0 : String := "RosetteGantry$History"
def TX0 : u_T := fun k => match k with
  | 0 => ("RosetteGantry$History", "states", "[LRosetteGantry$State;", true)
  | _ => ("RosetteGantry$History", "used", "I", false)
def tyX0 : Nat → FieldType := fun k => match k with
  | 0 => .array (.object "RosetteGantry$State")
  | _ => .int
abbrev wsX00 : List Cond := u_ws RX0 TX0 2
theorem nmX0 : ∀ a, a < 2 → ∀ b, b < 2 → a ≠ b → (TX0 a).2.1 ≠ (TX0 b).2.1 := by decide +kernel
theorem tyX0_ok : ∀ k, k < 2 → parseFieldDescriptor (TX0 k).2.2.1 = some (tyX0 k) := by decide +kernel
abbrev cX0_init : ByteArray := prog_2_method_1_code
def yX0_init : MethodName := ⟨RX0, "<init>", "()V"⟩
abbrev cX0_add : ByteArray := prog_2_method_2_code
def yX0_add : MethodName := ⟨RX0, "add", "(LRosetteGantry$State;)V"⟩
abbrev cX0_takeLatest : ByteArray := prog_2_method_3_code
def yX0_takeLatest : MethodName := ⟨RX0, "takeLatest", "()LRosetteGantry$State;"⟩
abbrev cX0_dropOldest : ByteArray := prog_2_method_4_code
def yX0_dropOldest : MethodName := ⟨RX0, "dropOldest", "()V"⟩
def RX1 : String := "RosetteGantry$JobText"
def TX1 : u_T := fun k => match k with
  | 0 => ("RosetteGantry$JobText", "signs", "[I", true)
  | 1 => ("RosetteGantry$JobText", "jobs", "LRosetteGantry$Rows;", true)
  | 2 => ("RosetteGantry$JobText", "length", "I", false)
  | _ => ("RosetteGantry$JobText", "kind", "I", false)
def tyX1 : Nat → FieldType := fun k => match k with
  | 0 => .array .int
  | 1 => .object "RosetteGantry$Rows"
  | 2 => .int
  | _ => .int
abbrev wsX10 : List Cond := u_ws RX1 TX1 4
theorem nmX1 : ∀ a, a < 4 → ∀ b, b < 4 → a ≠ b → (TX1 a).2.1 ≠ (TX1 b).2.1 := by decide +kernel
theorem tyX1_ok : ∀ k, k < 4 → parseFieldDescriptor (TX1 k).2.2.1 = some (tyX1 k) := by decide +kernel
abbrev cX1_init : ByteArray := prog_3_method_1_code
def yX1_init : MethodName := ⟨RX1, "<init>", "()V"⟩
abbrev cX1_append : ByteArray := prog_3_method_2_code
def yX1_append : MethodName := ⟨RX1, "append", "(C)Z"⟩
abbrev cX1_findFault : ByteArray := prog_3_method_3_code
def yX1_findFault : MethodName := ⟨RX1, "findFault", "()I"⟩
abbrev cX1_take : ByteArray := prog_3_method_4_code
def yX1_take : MethodName := ⟨RX1, "take", "(II)I"⟩
abbrev cX1_takeLetter : ByteArray := prog_3_method_5_code
def yX1_takeLetter : MethodName := ⟨RX1, "takeLetter", "(I)I"⟩
abbrev cX1_takeRosette : ByteArray := prog_3_method_6_code
def yX1_takeRosette : MethodName := ⟨RX1, "takeRosette", "(I)I"⟩
abbrev cX1_takeUrgency : ByteArray := prog_3_method_7_code
def yX1_takeUrgency : MethodName := ⟨RX1, "takeUrgency", "(I)I"⟩
abbrev cX1_takeComma : ByteArray := prog_3_method_8_code
def yX1_takeComma : MethodName := ⟨RX1, "takeComma", "(I)I"⟩
def RX2 : String := "RosetteGantry$Measure"
def TX2 : u_T := fun k => match k with
  | 0 => ("RosetteGantry$Measure", "strain", "[I", true)
  | 1 => ("RosetteGantry$Measure", "signal", "[I", true)
  | 2 => ("RosetteGantry$Measure", "reading", "[I", true)
  | 3 => ("RosetteGantry$Measure", "heldReading", "[I", true)
  | 4 => ("RosetteGantry$Measure", "step", "[I", true)
  | 5 => ("RosetteGantry$Measure", "corrected", "[I", true)
  | 6 => ("RosetteGantry$Measure", "shuntValue", "I", false)
  | 7 => ("RosetteGantry$Measure", "overloads", "I", false)
  | 8 => ("RosetteGantry$Measure", "checkOverloads", "Z", false)
  | 9 => ("RosetteGantry$Measure", "x", "I", false)
  | 10 => ("RosetteGantry$Measure", "y", "I", false)
  | 11 => ("RosetteGantry$Measure", "g", "I", false)
  | 12 => ("RosetteGantry$Measure", "mean", "I", false)
  | 13 => ("RosetteGantry$Measure", "direction", "I", false)
  | _ => ("RosetteGantry$Measure", "radius", "I", false)
def tyX2 : Nat → FieldType := fun k => match k with
  | 0 => .array .int
  | 1 => .array .int
  | 2 => .array .int
  | 3 => .array .int
  | 4 => .array .int
  | 5 => .array .int
  | 6 => .int
  | 7 => .int
  | 8 => .boolean
  | 9 => .int
  | 10 => .int
  | 11 => .int
  | 12 => .int
  | 13 => .int
  | _ => .int
abbrev wsX20 : List Cond := u_ws RX2 TX2 15
theorem nmX2 : ∀ a, a < 15 → ∀ b, b < 15 → a ≠ b → (TX2 a).2.1 ≠ (TX2 b).2.1 := by decide +kernel
theorem tyX2_ok : ∀ k, k < 15 → parseFieldDescriptor (TX2 k).2.2.1 = some (tyX2 k) := by decide +kernel
abbrev cX2_init : ByteArray := prog_4_method_1_code
def yX2_init : MethodName := ⟨RX2, "<init>", "()V"⟩
abbrev cX2_take : ByteArray := prog_4_method_2_code
def yX2_take : MethodName := ⟨RX2, "take", "(LRosetteGantry$Rosette;I)V"⟩
abbrev cX2_holdReadings : ByteArray := prog_4_method_3_code
def yX2_holdReadings : MethodName := ⟨RX2, "holdReadings", "()V"⟩
abbrev cX2_readingsChanged : ByteArray := prog_4_method_4_code
def yX2_readingsChanged : MethodName := ⟨RX2, "readingsChanged", "()I"⟩
abbrev cX2_pullTo : ByteArray := prog_4_method_5_code
def yX2_pullTo : MethodName := ⟨RX2, "pullTo", "(I)J"⟩
abbrev cX2_findStrains : ByteArray := prog_4_method_6_code
def yX2_findStrains : MethodName := ⟨RX2, "findStrains", "(LRosetteGantry$Rosette;)V"⟩
abbrev cX2_findSignal : ByteArray := prog_4_method_7_code
def yX2_findSignal : MethodName := ⟨RX2, "findSignal", "(LRosetteGantry$Rosette;I)V"⟩
abbrev cX2_comesOut : ByteArray := prog_4_method_8_code
def yX2_comesOut : MethodName := ⟨RX2, "comesOut", "(LRosetteGantry$Rosette;I)I"⟩
abbrev cX2_limited : ByteArray := prog_4_method_9_code
def yX2_limited : MethodName := ⟨RX2, "limited", "(I)I"⟩
abbrev cX2_isBeyond : ByteArray := prog_4_method_10_code
def yX2_isBeyond : MethodName := ⟨RX2, "isBeyond", "(I)Z"⟩
abbrev cX2_findRightNumbers : ByteArray := prog_4_method_11_code
def yX2_findRightNumbers : MethodName := ⟨RX2, "findRightNumbers", "()V"⟩
abbrev cX2_findDeltaNumbers : ByteArray := prog_4_method_12_code
def yX2_findDeltaNumbers : MethodName := ⟨RX2, "findDeltaNumbers", "()V"⟩
abbrev cX2_findPrincipal : ByteArray := prog_4_method_13_code
def yX2_findPrincipal : MethodName := ⟨RX2, "findPrincipal", "()V"⟩
def RX3 : String := "RosetteGantry$Plan"
def TX3 : u_T := fun k => match k with
  | 0 => ("RosetteGantry$Plan", "passed", "[Z", true)
  | 1 => ("RosetteGantry$Plan", "row", "I", false)
  | 2 => ("RosetteGantry$Plan", "place", "I", false)
  | _ => ("RosetteGantry$Plan", "way", "I", false)
def tyX3 : Nat → FieldType := fun k => match k with
  | 0 => .array .boolean
  | 1 => .int
  | 2 => .int
  | _ => .int
abbrev wsX30 : List Cond := u_ws RX3 TX3 4
theorem nmX3 : ∀ a, a < 4 → ∀ b, b < 4 → a ≠ b → (TX3 a).2.1 ≠ (TX3 b).2.1 := by decide +kernel
theorem tyX3_ok : ∀ k, k < 4 → parseFieldDescriptor (TX3 k).2.2.1 = some (tyX3 k) := by decide +kernel
abbrev cX3_init : ByteArray := prog_5_method_1_code
def yX3_init : MethodName := ⟨RX3, "<init>", "()V"⟩
abbrev cX3_begin : ByteArray := prog_5_method_2_code
def yX3_begin : MethodName := ⟨RX3, "begin", "(LRosetteGantry$State;)V"⟩
abbrev cX3_goOn : ByteArray := prog_5_method_3_code
def yX3_goOn : MethodName := ⟨RX3, "goOn", "(LRosetteGantry$State;)V"⟩
abbrev cX3_isAhead : ByteArray := prog_5_method_4_code
def yX3_isAhead : MethodName := ⟨RX3, "isAhead", "(LRosetteGantry$State;II)Z"⟩
abbrev cX3_distance : ByteArray := prog_5_method_5_code
def yX3_distance : MethodName := ⟨RX3, "distance", "(LRosetteGantry$State;I)I"⟩
def RX4 : String := "RosetteGantry$Rosette"
def TX4 : u_T := fun k => match k with
  | 0 => ("RosetteGantry$Rosette", "place", "I", false)
  | 1 => ("RosetteGantry$Rosette", "delta", "Z", false)
  | 2 => ("RosetteGantry$Rosette", "resistance", "I", false)
  | 3 => ("RosetteGantry$Rosette", "factor", "I", false)
  | 4 => ("RosetteGantry$Rosette", "leads", "I", false)
  | 5 => ("RosetteGantry$Rosette", "x", "I", false)
  | 6 => ("RosetteGantry$Rosette", "y", "I", false)
  | 7 => ("RosetteGantry$Rosette", "g", "I", false)
  | 8 => ("RosetteGantry$Rosette", "shunt", "Z", false)
  | 9 => ("RosetteGantry$Rosette", "offset", "[I", true)
  | 10 => ("RosetteGantry$Rosette", "zero", "[I", true)
  | _ => ("RosetteGantry$Rosette", "gain", "[I", true)
def tyX4 : Nat → FieldType := fun k => match k with
  | 0 => .int
  | 1 => .boolean
  | 2 => .int
  | 3 => .int
  | 4 => .int
  | 5 => .int
  | 6 => .int
  | 7 => .int
  | 8 => .boolean
  | 9 => .array .int
  | 10 => .array .int
  | _ => .array .int
abbrev wsX40 : List Cond := u_ws RX4 TX4 12
theorem nmX4 : ∀ a, a < 12 → ∀ b, b < 12 → a ≠ b → (TX4 a).2.1 ≠ (TX4 b).2.1 := by decide +kernel
theorem tyX4_ok : ∀ k, k < 12 → parseFieldDescriptor (TX4 k).2.2.1 = some (tyX4 k) := by decide +kernel
abbrev cX4_init : ByteArray := prog_6_method_1_code
def yX4_init : MethodName := ⟨RX4, "<init>", "()V"⟩
abbrev cX4_begin : ByteArray := prog_6_method_2_code
def yX4_begin : MethodName := ⟨RX4, "begin", "(IZII)V"⟩
abbrev cX4_copyFrom : ByteArray := prog_6_method_3_code
def yX4_copyFrom : MethodName := ⟨RX4, "copyFrom", "(LRosetteGantry$Rosette;)V"⟩
def RX5 : String := "RosetteGantry$Rows"
def TX5 : u_T := fun k => match k with
  | 0 => ("RosetteGantry$Rows", "cells", "[I", true)
  | _ => ("RosetteGantry$Rows", "used", "I", false)
def tyX5 : Nat → FieldType := fun k => match k with
  | 0 => .array .int
  | _ => .int
abbrev wsX50 : List Cond := u_ws RX5 TX5 2
theorem nmX5 : ∀ a, a < 2 → ∀ b, b < 2 → a ≠ b → (TX5 a).2.1 ≠ (TX5 b).2.1 := by decide +kernel
theorem tyX5_ok : ∀ k, k < 2 → parseFieldDescriptor (TX5 k).2.2.1 = some (tyX5 k) := by decide +kernel
abbrev cX5_init : ByteArray := prog_7_method_1_code
def yX5_init : MethodName := ⟨RX5, "<init>", "(I)V"⟩
abbrev cX5_add : ByteArray := prog_7_method_2_code
def yX5_add : MethodName := ⟨RX5, "add", "(IIII)V"⟩
abbrev cX5_at : ByteArray := prog_7_method_3_code
def yX5_at : MethodName := ⟨RX5, "at", "(II)I"⟩
abbrev cX5_set : ByteArray := prog_7_method_4_code
def yX5_set : MethodName := ⟨RX5, "set", "(III)V"⟩
abbrev cX5_drop : ByteArray := prog_7_method_5_code
def yX5_drop : MethodName := ⟨RX5, "drop", "(I)V"⟩
abbrev cX5_copyFrom : ByteArray := prog_7_method_6_code
def yX5_copyFrom : MethodName := ⟨RX5, "copyFrom", "(LRosetteGantry$Rows;)V"⟩
def RX6 : String := "RosetteGantry$State"
def TX6 : u_T := fun k => match k with
  | 0 => ("RosetteGantry$State", "rosettes", "[LRosetteGantry$Rosette;", true)
  | 1 => ("RosetteGantry$State", "jobs", "LRosetteGantry$Rows;", true)
  | 2 => ("RosetteGantry$State", "records", "LRosetteGantry$Rows;", true)
  | 3 => ("RosetteGantry$State", "rosettesUsed", "I", false)
  | 4 => ("RosetteGantry$State", "size", "I", false)
  | 5 => ("RosetteGantry$State", "place", "I", false)
  | 6 => ("RosetteGantry$State", "way", "I", false)
  | 7 => ("RosetteGantry$State", "requests", "I", false)
  | 8 => ("RosetteGantry$State", "done", "I", false)
  | _ => ("RosetteGantry$State", "refused", "I", false)
def tyX6 : Nat → FieldType := fun k => match k with
  | 0 => .array (.object "RosetteGantry$Rosette")
  | 1 => .object "RosetteGantry$Rows"
  | 2 => .object "RosetteGantry$Rows"
  | 3 => .int
  | 4 => .int
  | 5 => .int
  | 6 => .int
  | 7 => .int
  | 8 => .int
  | _ => .int
abbrev wsX60 : List Cond := u_ws RX6 TX6 10
theorem nmX6 : ∀ a, a < 10 → ∀ b, b < 10 → a ≠ b → (TX6 a).2.1 ≠ (TX6 b).2.1 := by decide +kernel
theorem tyX6_ok : ∀ k, k < 10 → parseFieldDescriptor (TX6 k).2.2.1 = some (tyX6 k) := by decide +kernel
abbrev cX6_init : ByteArray := prog_8_method_1_code
def yX6_init : MethodName := ⟨RX6, "<init>", "()V"⟩
abbrev cX6_copyFrom : ByteArray := prog_8_method_2_code
def yX6_copyFrom : MethodName := ⟨RX6, "copyFrom", "(LRosetteGantry$State;)V"⟩
abbrev cX6_find : ByteArray := prog_8_method_3_code
def yX6_find : MethodName := ⟨RX6, "find", "(I)LRosetteGantry$Rosette;"⟩
abbrev cX6_placeOf : ByteArray := prog_8_method_4_code
def yX6_placeOf : MethodName := ⟨RX6, "placeOf", "(I)I"⟩
abbrev cX6_hasRosetteAt : ByteArray := prog_8_method_5_code
def yX6_hasRosetteAt : MethodName := ⟨RX6, "hasRosetteAt", "(I)Z"⟩
abbrev cX6_addJob : ByteArray := prog_8_method_6_code
def yX6_addJob : MethodName := ⟨RX6, "addJob", "(III)I"⟩
abbrev cX6_jobsFor : ByteArray := prog_8_method_7_code
def yX6_jobsFor : MethodName := ⟨RX6, "jobsFor", "(I)I"⟩
abbrev cX6_dropJobsFor : ByteArray := prog_8_method_8_code
def yX6_dropJobsFor : MethodName := ⟨RX6, "dropJobsFor", "(I)V"⟩
abbrev cX6_goTo : ByteArray := prog_8_method_9_code
def yX6_goTo : MethodName := ⟨RX6, "goTo", "(I)V"⟩
abbrev cX6_leaveRecord : ByteArray := prog_8_method_10_code
def yX6_leaveRecord : MethodName := ⟨RX6, "leaveRecord", "(IIII)V"⟩
def RX7 : String := "RosetteGantry"
def TX7 : u_T := fun k => match k with
  | 0 => ("RosetteGantry", "state", "LRosetteGantry$State;", true)
  | 1 => ("RosetteGantry", "snapshot", "LRosetteGantry$State;", true)
  | 2 => ("RosetteGantry", "hasSnapshot", "Z", false)
  | 3 => ("RosetteGantry", "history", "LRosetteGantry$History;", true)
  | 4 => ("RosetteGantry", "text", "LRosetteGantry$JobText;", true)
  | 5 => ("RosetteGantry", "reason", "I", false)
  | 6 => ("RosetteGantry", "plan", "LRosetteGantry$Plan;", true)
  | _ => ("RosetteGantry", "measure", "LRosetteGantry$Measure;", true)
def tyX7 : Nat → FieldType := fun k => match k with
  | 0 => .object "RosetteGantry$State"
  | 1 => .object "RosetteGantry$State"
  | 2 => .boolean
  | 3 => .object "RosetteGantry$History"
  | 4 => .object "RosetteGantry$JobText"
  | 5 => .int
  | 6 => .object "RosetteGantry$Plan"
  | _ => .object "RosetteGantry$Measure"
abbrev wsX70 : List Cond := u_ws RX7 TX7 8
theorem nmX7 : ∀ a, a < 8 → ∀ b, b < 8 → a ≠ b → (TX7 a).2.1 ≠ (TX7 b).2.1 := by decide +kernel
theorem tyX7_ok : ∀ k, k < 8 → parseFieldDescriptor (TX7 k).2.2.1 = some (tyX7 k) := by decide +kernel
abbrev cX7_init : ByteArray := prog_1_method_1_code
def yX7_init : MethodName := ⟨RX7, "<init>", "()V"⟩
abbrev cX7_addRosette : ByteArray := prog_1_method_2_code
def yX7_addRosette : MethodName := ⟨RX7, "addRosette", "(IZII)I"⟩
abbrev cX7_setStrain : ByteArray := prog_1_method_3_code
def yX7_setStrain : MethodName := ⟨RX7, "setStrain", "(IIII)I"⟩
abbrev cX7_setLeads : ByteArray := prog_1_method_4_code
def yX7_setLeads : MethodName := ⟨RX7, "setLeads", "(II)I"⟩
abbrev cX7_setOffset : ByteArray := prog_1_method_5_code
def yX7_setOffset : MethodName := ⟨RX7, "setOffset", "(III)I"⟩
abbrev cX7_setShunt : ByteArray := prog_1_method_6_code
def yX7_setShunt : MethodName := ⟨RX7, "setShunt", "(IZ)I"⟩
abbrev cX7_setSize : ByteArray := prog_1_method_7_code
def yX7_setSize : MethodName := ⟨RX7, "setSize", "(I)I"⟩
abbrev cX7_request : ByteArray := prog_1_method_8_code
def yX7_request : MethodName := ⟨RX7, "request", "(III)I"⟩
abbrev cX7_cancel : ByteArray := prog_1_method_9_code
def yX7_cancel : MethodName := ⟨RX7, "cancel", "(I)I"⟩
abbrev cX7_next : ByteArray := prog_1_method_10_code
def yX7_next : MethodName := ⟨RX7, "next", "()I"⟩
abbrev cX7_workOff : ByteArray := prog_1_method_11_code
def yX7_workOff : MethodName := ⟨RX7, "workOff", "()I"⟩
abbrev cX7_type : ByteArray := prog_1_method_12_code
def yX7_type : MethodName := ⟨RX7, "type", "(C)I"⟩
abbrev cX7_clearText : ByteArray := prog_1_method_13_code
def yX7_clearText : MethodName := ⟨RX7, "clearText", "()I"⟩
abbrev cX7_readJobs : ByteArray := prog_1_method_14_code
def yX7_readJobs : MethodName := ⟨RX7, "readJobs", "()I"⟩
abbrev cX7_undo : ByteArray := prog_1_method_15_code
def yX7_undo : MethodName := ⟨RX7, "undo", "()I"⟩
abbrev cX7_keep : ByteArray := prog_1_method_16_code
def yX7_keep : MethodName := ⟨RX7, "keep", "()I"⟩
abbrev cX7_restore : ByteArray := prog_1_method_17_code
def yX7_restore : MethodName := ⟨RX7, "restore", "()I"⟩
abbrev cX7_rosette : ByteArray := prog_1_method_18_code
def yX7_rosette : MethodName := ⟨RX7, "rosette", "(II)I"⟩
abbrev cX7_gauge : ByteArray := prog_1_method_19_code
def yX7_gauge : MethodName := ⟨RX7, "gauge", "(III)I"⟩
abbrev cX7_principal : ByteArray := prog_1_method_20_code
def yX7_principal : MethodName := ⟨RX7, "principal", "(II)I"⟩
abbrev cX7_pull : ByteArray := prog_1_method_21_code
def yX7_pull : MethodName := ⟨RX7, "pull", "(II)I"⟩
abbrev cX7_job : ByteArray := prog_1_method_22_code
def yX7_job : MethodName := ⟨RX7, "job", "(II)I"⟩
abbrev cX7_record : ByteArray := prog_1_method_23_code
def yX7_record : MethodName := ⟨RX7, "record", "(II)I"⟩
abbrev cX7_neighbour : ByteArray := prog_1_method_24_code
def yX7_neighbour : MethodName := ⟨RX7, "neighbour", "(IZ)I"⟩
abbrev cX7_count : ByteArray := prog_1_method_25_code
def yX7_count : MethodName := ⟨RX7, "count", "(I)I"⟩
abbrev cX7_doJob : ByteArray := prog_1_method_26_code
def yX7_doJob : MethodName := ⟨RX7, "doJob", "(I)V"⟩
abbrev cX7_reasonAgainst : ByteArray := prog_1_method_27_code
def yX7_reasonAgainst : MethodName := ⟨RX7, "reasonAgainst", "(ILRosetteGantry$Rosette;)I"⟩
abbrev cX7_reasonAgainstBalance : ByteArray := prog_1_method_28_code
def yX7_reasonAgainstBalance : MethodName := ⟨RX7, "reasonAgainstBalance", "(LRosetteGantry$Rosette;)I"⟩
abbrev cX7_reasonAgainstCheck : ByteArray := prog_1_method_29_code
def yX7_reasonAgainstCheck : MethodName := ⟨RX7, "reasonAgainstCheck", "()I"⟩
abbrev cX7_perform : ByteArray := prog_1_method_30_code
def yX7_perform : MethodName := ⟨RX7, "perform", "(ILRosetteGantry$Rosette;)I"⟩
abbrev cX7_setZeros : ByteArray := prog_1_method_31_code
def yX7_setZeros : MethodName := ⟨RX7, "setZeros", "(LRosetteGantry$Rosette;)I"⟩
abbrev cX7_setGains : ByteArray := prog_1_method_32_code
def yX7_setGains : MethodName := ⟨RX7, "setGains", "(LRosetteGantry$Rosette;)I"⟩
abbrev cX7_refuse : ByteArray := prog_1_method_33_code
def yX7_refuse : MethodName := ⟨RX7, "refuse", "(I)I"⟩
abbrev cX7_isWithin : ByteArray := prog_1_method_34_code
def yX7_isWithin : MethodName := ⟨RX7, "isWithin", "(III)Z"⟩
abbrev cX7_isAround0 : ByteArray := prog_1_method_35_code
def yX7_isAround0 : MethodName := ⟨RX7, "isAround0", "(II)Z"⟩
abbrev cX7_quotient : ByteArray := prog_1_method_36_code
def yX7_quotient : MethodName := ⟨RX7, "quotient", "(JJ)J"⟩
def RX8 : String := "RosetteGantryModel"
def TX8 : u_T := fun k => match k with
  | 0 => ("RosetteGantryModel", "now", "[I", true)
  | 1 => ("RosetteGantryModel", "history", "[I", true)
  | 2 => ("RosetteGantryModel", "kept", "I", false)
  | 3 => ("RosetteGantryModel", "slot", "[I", true)
  | 4 => ("RosetteGantryModel", "isFilled", "Z", false)
  | 5 => ("RosetteGantryModel", "reason", "I", false)
  | 6 => ("RosetteGantryModel", "foundX", "J", false)
  | 7 => ("RosetteGantryModel", "foundY", "J", false)
  | 8 => ("RosetteGantryModel", "foundG", "J", false)
  | 9 => ("RosetteGantryModel", "direction", "I", false)
  | 10 => ("RosetteGantryModel", "greatest", "J", false)
  | 11 => ("RosetteGantryModel", "before", "[I", true)
  | 12 => ("RosetteGantryModel", "typed", "I", false)
  | 13 => ("RosetteGantryModel", "text", "[C", true)
  | 14 => ("RosetteGantryModel", "at", "I", false)
  | 15 => ("RosetteGantryModel", "readMany", "I", false)
  | _ => ("RosetteGantryModel", "readJob", "[I", true)
def tyX8 : Nat → FieldType := fun k => match k with
  | 0 => .array .int
  | 1 => .array .int
  | 2 => .int
  | 3 => .array .int
  | 4 => .boolean
  | 5 => .int
  | 6 => .long
  | 7 => .long
  | 8 => .long
  | 9 => .int
  | 10 => .long
  | 11 => .array .int
  | 12 => .int
  | 13 => .array .char
  | 14 => .int
  | 15 => .int
  | _ => .array .int
abbrev wsX80 : List Cond := u_ws RX8 TX8 17
theorem nmX8 : ∀ a, a < 17 → ∀ b, b < 17 → a ≠ b → (TX8 a).2.1 ≠ (TX8 b).2.1 := by decide +kernel
theorem tyX8_ok : ∀ k, k < 17 → parseFieldDescriptor (TX8 k).2.2.1 = some (tyX8 k) := by decide +kernel
abbrev cX8_init : ByteArray := prog_10_method_1_code
def yX8_init : MethodName := ⟨RX8, "<init>", "()V"⟩
abbrev cX8_in : ByteArray := prog_10_method_2_code
def yX8_in : MethodName := ⟨RX8, "in", "(III)Z"⟩
abbrev cX8_size : ByteArray := prog_10_method_3_code
def yX8_size : MethodName := ⟨RX8, "size", "(I)I"⟩
abbrev cX8_save : ByteArray := prog_10_method_4_code
def yX8_save : MethodName := ⟨RX8, "save", "()V"⟩
abbrev cX8_refuse : ByteArray := prog_10_method_5_code
def yX8_refuse : MethodName := ⟨RX8, "refuse", "(I)I"⟩
abbrev cX8_noRosette : ByteArray := prog_10_method_6_code
def yX8_noRosette : MethodName := ⟨RX8, "noRosette", "(I)Z"⟩
abbrev cX8_of : ByteArray := prog_10_method_7_code
def yX8_of : MethodName := ⟨RX8, "of", "(II)I"⟩
abbrev cX8_put : ByteArray := prog_10_method_8_code
def yX8_put : MethodName := ⟨RX8, "put", "(III)V"⟩
abbrev cX8_ofGauge : ByteArray := prog_10_method_9_code
def yX8_ofGauge : MethodName := ⟨RX8, "ofGauge", "(III)I"⟩
abbrev cX8_putGauge : ByteArray := prog_10_method_10_code
def yX8_putGauge : MethodName := ⟨RX8, "putGauge", "(IIII)V"⟩
abbrev cX8_isAt : ByteArray := prog_10_method_11_code
def yX8_isAt : MethodName := ⟨RX8, "isAt", "(I)I"⟩
abbrev cX8_addRosette : ByteArray := prog_10_method_12_code
def yX8_addRosette : MethodName := ⟨RX8, "addRosette", "(IZII)I"⟩
abbrev cX8_strainOf : ByteArray := prog_10_method_13_code
def yX8_strainOf : MethodName := ⟨RX8, "strainOf", "(II)I"⟩
abbrev cX8_led : ByteArray := prog_10_method_14_code
def yX8_led : MethodName := ⟨RX8, "led", "(II)I"⟩
abbrev cX8_shuntValue : ByteArray := prog_10_method_15_code
def yX8_shuntValue : MethodName := ⟨RX8, "shuntValue", "(I)I"⟩
abbrev cX8_signalOf : ByteArray := prog_10_method_16_code
def yX8_signalOf : MethodName := ⟨RX8, "signalOf", "(III)I"⟩
abbrev cX8_isOver : ByteArray := prog_10_method_17_code
def yX8_isOver : MethodName := ⟨RX8, "isOver", "(III)Z"⟩
abbrev cX8_readingBy : ByteArray := prog_10_method_18_code
def yX8_readingBy : MethodName := ⟨RX8, "readingBy", "(III)I"⟩
abbrev cX8_readingOf : ByteArray := prog_10_method_19_code
def yX8_readingOf : MethodName := ⟨RX8, "readingOf", "(II)I"⟩
abbrev cX8_stepOf : ByteArray := prog_10_method_20_code
def yX8_stepOf : MethodName := ⟨RX8, "stepOf", "(II)I"⟩
abbrev cX8_correctedOf : ByteArray := prog_10_method_21_code
def yX8_correctedOf : MethodName := ⟨RX8, "correctedOf", "(II)I"⟩
abbrev cX8_overloaded : ByteArray := prog_10_method_22_code
def yX8_overloaded : MethodName := ⟨RX8, "overloaded", "(I)I"⟩
abbrev cX8_firstOf : ByteArray := prog_10_method_23_code
def yX8_firstOf : MethodName := ⟨RX8, "firstOf", "(I)I"⟩
abbrev cX8_cos : ByteArray := prog_10_method_24_code
def yX8_cos : MethodName := ⟨RX8, "cos", "(I)I"⟩
abbrev cX8_sin : ByteArray := prog_10_method_25_code
def yX8_sin : MethodName := ⟨RX8, "sin", "(I)I"⟩
abbrev cX8_pullOf : ByteArray := prog_10_method_26_code
def yX8_pullOf : MethodName := ⟨RX8, "pullOf", "(I)J"⟩
abbrev cX8_mean : ByteArray := prog_10_method_27_code
def yX8_mean : MethodName := ⟨RX8, "mean", "()J"⟩
abbrev cX8_radius : ByteArray := prog_10_method_28_code
def yX8_radius : MethodName := ⟨RX8, "radius", "()J"⟩
abbrev cX8_find : ByteArray := prog_10_method_29_code
def yX8_find : MethodName := ⟨RX8, "find", "(I)V"⟩
abbrev cX8_setStrain : ByteArray := prog_10_method_30_code
def yX8_setStrain : MethodName := ⟨RX8, "setStrain", "(IIII)I"⟩
abbrev cX8_setLeads : ByteArray := prog_10_method_31_code
def yX8_setLeads : MethodName := ⟨RX8, "setLeads", "(II)I"⟩
abbrev cX8_setOffset : ByteArray := prog_10_method_32_code
def yX8_setOffset : MethodName := ⟨RX8, "setOffset", "(III)I"⟩
abbrev cX8_setShunt : ByteArray := prog_10_method_33_code
def yX8_setShunt : MethodName := ⟨RX8, "setShunt", "(IZ)I"⟩
abbrev cX8_setSize : ByteArray := prog_10_method_34_code
def yX8_setSize : MethodName := ⟨RX8, "setSize", "(I)I"⟩
abbrev cX8_ofJob : ByteArray := prog_10_method_35_code
def yX8_ofJob : MethodName := ⟨RX8, "ofJob", "(II)I"⟩
abbrev cX8_ask : ByteArray := prog_10_method_36_code
def yX8_ask : MethodName := ⟨RX8, "ask", "(III)V"⟩
abbrev cX8_takeOut : ByteArray := prog_10_method_37_code
def yX8_takeOut : MethodName := ⟨RX8, "takeOut", "(I)V"⟩
abbrev cX8_wayTo : ByteArray := prog_10_method_38_code
def yX8_wayTo : MethodName := ⟨RX8, "wayTo", "(II)I"⟩
abbrev cX8_first : ByteArray := prog_10_method_39_code
def yX8_first : MethodName := ⟨RX8, "first", "(II)I"⟩
abbrev cX8_request : ByteArray := prog_10_method_40_code
def yX8_request : MethodName := ⟨RX8, "request", "(III)I"⟩
abbrev cX8_waitingFor : ByteArray := prog_10_method_41_code
def yX8_waitingFor : MethodName := ⟨RX8, "waitingFor", "(I)I"⟩
abbrev cX8_cancel : ByteArray := prog_10_method_42_code
def yX8_cancel : MethodName := ⟨RX8, "cancel", "(I)I"⟩
abbrev cX8_against : ByteArray := prog_10_method_43_code
def yX8_against : MethodName := ⟨RX8, "against", "(II)I"⟩
abbrev cX8_zeroDue : ByteArray := prog_10_method_44_code
def yX8_zeroDue : MethodName := ⟨RX8, "zeroDue", "(II)I"⟩
abbrev cX8_works : ByteArray := prog_10_method_45_code
def yX8_works : MethodName := ⟨RX8, "works", "(II)I"⟩
abbrev cX8_note : ByteArray := prog_10_method_46_code
def yX8_note : MethodName := ⟨RX8, "note", "(IIII)V"⟩
abbrev cX8_doNext : ByteArray := prog_10_method_47_code
def yX8_doNext : MethodName := ⟨RX8, "doNext", "()Z"⟩
abbrev cX8_next : ByteArray := prog_10_method_48_code
def yX8_next : MethodName := ⟨RX8, "next", "()I"⟩
abbrev cX8_workOff : ByteArray := prog_10_method_49_code
def yX8_workOff : MethodName := ⟨RX8, "workOff", "()I"⟩
abbrev cX8_type : ByteArray := prog_10_method_50_code
def yX8_type : MethodName := ⟨RX8, "type", "(C)I"⟩
abbrev cX8_clearText : ByteArray := prog_10_method_51_code
def yX8_clearText : MethodName := ⟨RX8, "clearText", "()I"⟩
abbrev cX8_isSign : ByteArray := prog_10_method_52_code
def yX8_isSign : MethodName := ⟨RX8, "isSign", "(C)Z"⟩
abbrev cX8_digit : ByteArray := prog_10_method_53_code
def yX8_digit : MethodName := ⟨RX8, "digit", "(I)I"⟩
abbrev cX8_readsJob : ByteArray := prog_10_method_54_code
def yX8_readsJob : MethodName := ⟨RX8, "readsJob", "()Z"⟩
abbrev cX8_readJobs : ByteArray := prog_10_method_55_code
def yX8_readJobs : MethodName := ⟨RX8, "readJobs", "()I"⟩
abbrev cX8_undo : ByteArray := prog_10_method_56_code
def yX8_undo : MethodName := ⟨RX8, "undo", "()I"⟩
abbrev cX8_keep : ByteArray := prog_10_method_57_code
def yX8_keep : MethodName := ⟨RX8, "keep", "()I"⟩
abbrev cX8_restore : ByteArray := prog_10_method_58_code
def yX8_restore : MethodName := ⟨RX8, "restore", "()I"⟩
abbrev cX8_rosette : ByteArray := prog_10_method_59_code
def yX8_rosette : MethodName := ⟨RX8, "rosette", "(II)I"⟩
abbrev cX8_gauge : ByteArray := prog_10_method_60_code
def yX8_gauge : MethodName := ⟨RX8, "gauge", "(III)I"⟩
abbrev cX8_principal : ByteArray := prog_10_method_61_code
def yX8_principal : MethodName := ⟨RX8, "principal", "(II)I"⟩
abbrev cX8_pull : ByteArray := prog_10_method_62_code
def yX8_pull : MethodName := ⟨RX8, "pull", "(II)I"⟩
abbrev cX8_job : ByteArray := prog_10_method_63_code
def yX8_job : MethodName := ⟨RX8, "job", "(II)I"⟩
abbrev cX8_record : ByteArray := prog_10_method_64_code
def yX8_record : MethodName := ⟨RX8, "record", "(II)I"⟩
abbrev cX8_neighbour : ByteArray := prog_10_method_65_code
def yX8_neighbour : MethodName := ⟨RX8, "neighbour", "(IZ)I"⟩
abbrev cX8_count : ByteArray := prog_10_method_66_code
def yX8_count : MethodName := ⟨RX8, "count", "(I)I"⟩
def RJ9 : String := "java/lang/Math"
def TJ9 : u_T := fun k => match k with
  | _ => ("", "", "", false)
def tyJ9 : Nat → FieldType := fun k => match k with
  | _ => .int
abbrev wsJ90 : List Cond := u_ws RJ9 TJ9 0
theorem nmJ9 : ∀ a, a < 0 → ∀ b, b < 0 → a ≠ b → (TJ9 a).2.1 ≠ (TJ9 b).2.1 := by decide +kernel
theorem tyJ9_ok : ∀ k, k < 0 → parseFieldDescriptor (TJ9 k).2.2.1 = some (tyJ9 k) := by decide +kernel
abbrev cJ9_abs_0f7a4 : ByteArray := prog_11_method_59_code
def yJ9_abs_0f7a4 : MethodName := ⟨RJ9, "abs", "(I)I"⟩
abbrev cJ9_max_7cf53 : ByteArray := prog_11_method_65_code
def yJ9_max_7cf53 : MethodName := ⟨RJ9, "max", "(II)I"⟩
abbrev cJ9_min_7cf53 : ByteArray := prog_11_method_69_code
def yJ9_min_7cf53 : MethodName := ⟨RJ9, "min", "(II)I"⟩
def RJ10 : String := "java/lang/System"
def TJ10 : u_T := fun k => match k with
  | _ => ("", "", "", false)
def tyJ10 : Nat → FieldType := fun k => match k with
  | _ => .int
abbrev wsJ100 : List Cond := u_ws RJ10 TJ10 0
theorem nmJ10 : ∀ a, a < 0 → ∀ b, b < 0 → a ≠ b → (TJ10 a).2.1 ≠ (TJ10 b).2.1 := by decide +kernel
theorem tyJ10_ok : ∀ k, k < 0 → parseFieldDescriptor (TJ10 k).2.2.1 = some (tyJ10 k) := by decide +kernel
def RL : String := "RosetteGantryLaw"
abbrev cL_law : ByteArray := code
def yL_law : MethodName := ⟨RL, "law", "([I)Z"⟩
end
section
theorem dX0_init_0 : decode cX0_init 0 = .ok (.aload_n 0, 1) := by decide +kernel
theorem dX0_init_1 : decode cX0_init 1 = .ok (.invokespecial 3, 3) := by decide +kernel
theorem dX0_init_4 : decode cX0_init 4 = .ok (.aload_n 0, 1) := by decide +kernel
theorem dX0_init_5 : decode cX0_init 5 = .ok (.iconst 5, 1) := by decide +kernel
theorem dX0_init_6 : decode cX0_init 6 = .ok (.anewarray 9, 3) := by decide +kernel
theorem dX0_init_9 : decode cX0_init 9 = .ok (.putfield 11, 3) := by decide +kernel
theorem dX0_init_12 : decode cX0_init 12 = .ok (.iconst 0, 1) := by decide +kernel
theorem dX0_init_13 : decode cX0_init 13 = .ok (.istore_n 1, 1) := by decide +kernel
theorem dX0_init_14 : decode cX0_init 14 = .ok (.iload_n 1, 1) := by decide +kernel
theorem dX0_init_15 : decode cX0_init 15 = .ok (.iconst 5, 1) := by decide +kernel
theorem dX0_init_16 : decode cX0_init 16 = .ok (.if_icmp .ge 22, 3) := by decide +kernel
theorem dX0_init_19 : decode cX0_init 19 = .ok (.aload_n 0, 1) := by decide +kernel
theorem dX0_init_20 : decode cX0_init 20 = .ok (.getfield 11, 3) := by decide +kernel
theorem dX0_init_23 : decode cX0_init 23 = .ok (.iload_n 1, 1) := by decide +kernel
theorem dX0_init_24 : decode cX0_init 24 = .ok (.new 9, 3) := by decide +kernel
theorem dX0_init_27 : decode cX0_init 27 = .ok (.dup, 1) := by decide +kernel
theorem dX0_init_28 : decode cX0_init 28 = .ok (.invokespecial 17, 3) := by decide +kernel
theorem dX0_init_31 : decode cX0_init 31 = .ok (.aastore, 1) := by decide +kernel
theorem dX0_init_32 : decode cX0_init 32 = .ok (.iinc 1 1, 3) := by decide +kernel
theorem dX0_init_35 : decode cX0_init 35 = .ok (.goto (-21), 3) := by decide +kernel
theorem dX0_init_38 : decode cX0_init 38 = .ok (.return_, 1) := by decide +kernel
theorem dX0_add_0 : decode cX0_add 0 = .ok (.aload_n 0, 1) := by decide +kernel
theorem dX0_add_1 : decode cX0_add 1 = .ok (.getfield 18, 3) := by decide +kernel
theorem dX0_add_4 : decode cX0_add 4 = .ok (.iconst 5, 1) := by decide +kernel
theorem dX0_add_5 : decode cX0_add 5 = .ok (.if_icmp .lt 7, 3) := by decide +kernel
theorem dX0_add_8 : decode cX0_add 8 = .ok (.aload_n 0, 1) := by decide +kernel
theorem dX0_add_9 : decode cX0_add 9 = .ok (.invokevirtual 22, 3) := by decide +kernel
theorem dX0_add_12 : decode cX0_add 12 = .ok (.aload_n 0, 1) := by decide +kernel
theorem dX0_add_13 : decode cX0_add 13 = .ok (.getfield 11, 3) := by decide +kernel
theorem dX0_add_16 : decode cX0_add 16 = .ok (.aload_n 0, 1) := by decide +kernel
theorem dX0_add_17 : decode cX0_add 17 = .ok (.getfield 18, 3) := by decide +kernel
theorem dX0_add_20 : decode cX0_add 20 = .ok (.aaload, 1) := by decide +kernel
theorem dX0_add_21 : decode cX0_add 21 = .ok (.aload_n 1, 1) := by decide +kernel
theorem dX0_add_22 : decode cX0_add 22 = .ok (.invokevirtual 25, 3) := by decide +kernel
theorem dX0_add_25 : decode cX0_add 25 = .ok (.aload_n 0, 1) := by decide +kernel
theorem dX0_add_26 : decode cX0_add 26 = .ok (.dup, 1) := by decide +kernel
theorem dX0_add_27 : decode cX0_add 27 = .ok (.getfield 18, 3) := by decide +kernel
theorem dX0_add_30 : decode cX0_add 30 = .ok (.iconst 1, 1) := by decide +kernel
theorem dX0_add_31 : decode cX0_add 31 = .ok (.iadd, 1) := by decide +kernel
theorem dX0_add_32 : decode cX0_add 32 = .ok (.putfield 18, 3) := by decide +kernel
theorem dX0_add_35 : decode cX0_add 35 = .ok (.return_, 1) := by decide +kernel
theorem dX0_takeLatest_0 : decode cX0_takeLatest 0 = .ok (.aload_n 0, 1) := by decide +kernel
theorem dX0_takeLatest_1 : decode cX0_takeLatest 1 = .ok (.getfield 18, 3) := by decide +kernel
theorem dX0_takeLatest_4 : decode cX0_takeLatest 4 = .ok (.ifCond .gt 5, 3) := by decide +kernel
theorem dX0_takeLatest_7 : decode cX0_takeLatest 7 = .ok (.aconst_null, 1) := by decide +kernel
theorem dX0_takeLatest_8 : decode cX0_takeLatest 8 = .ok (.areturn, 1) := by decide +kernel
theorem dX0_takeLatest_9 : decode cX0_takeLatest 9 = .ok (.aload_n 0, 1) := by decide +kernel
theorem dX0_takeLatest_10 : decode cX0_takeLatest 10 = .ok (.dup, 1) := by decide +kernel
theorem dX0_takeLatest_11 : decode cX0_takeLatest 11 = .ok (.getfield 18, 3) := by decide +kernel
theorem dX0_takeLatest_14 : decode cX0_takeLatest 14 = .ok (.iconst 1, 1) := by decide +kernel
theorem dX0_takeLatest_15 : decode cX0_takeLatest 15 = .ok (.isub, 1) := by decide +kernel
theorem dX0_takeLatest_16 : decode cX0_takeLatest 16 = .ok (.putfield 18, 3) := by decide +kernel
theorem dX0_takeLatest_19 : decode cX0_takeLatest 19 = .ok (.aload_n 0, 1) := by decide +kernel
theorem dX0_takeLatest_20 : decode cX0_takeLatest 20 = .ok (.getfield 11, 3) := by decide +kernel
theorem dX0_takeLatest_23 : decode cX0_takeLatest 23 = .ok (.aload_n 0, 1) := by decide +kernel
theorem dX0_takeLatest_24 : decode cX0_takeLatest 24 = .ok (.getfield 18, 3) := by decide +kernel
theorem dX0_takeLatest_27 : decode cX0_takeLatest 27 = .ok (.aaload, 1) := by decide +kernel
theorem dX0_takeLatest_28 : decode cX0_takeLatest 28 = .ok (.areturn, 1) := by decide +kernel
theorem dX0_dropOldest_0 : decode cX0_dropOldest 0 = .ok (.aload_n 0, 1) := by decide +kernel
theorem dX0_dropOldest_1 : decode cX0_dropOldest 1 = .ok (.getfield 11, 3) := by decide +kernel
theorem dX0_dropOldest_4 : decode cX0_dropOldest 4 = .ok (.iconst 0, 1) := by decide +kernel
theorem dX0_dropOldest_5 : decode cX0_dropOldest 5 = .ok (.aaload, 1) := by decide +kernel
theorem dX0_dropOldest_6 : decode cX0_dropOldest 6 = .ok (.astore_n 1, 1) := by decide +kernel
theorem dX0_dropOldest_7 : decode cX0_dropOldest 7 = .ok (.iconst 1, 1) := by decide +kernel
theorem dX0_dropOldest_8 : decode cX0_dropOldest 8 = .ok (.istore_n 2, 1) := by decide +kernel
theorem dX0_dropOldest_9 : decode cX0_dropOldest 9 = .ok (.iload_n 2, 1) := by decide +kernel
theorem dX0_dropOldest_10 : decode cX0_dropOldest 10 = .ok (.iconst 5, 1) := by decide +kernel
theorem dX0_dropOldest_11 : decode cX0_dropOldest 11 = .ok (.if_icmp .ge 23, 3) := by decide +kernel
theorem dX0_dropOldest_14 : decode cX0_dropOldest 14 = .ok (.aload_n 0, 1) := by decide +kernel
theorem dX0_dropOldest_15 : decode cX0_dropOldest 15 = .ok (.getfield 11, 3) := by decide +kernel
theorem dX0_dropOldest_18 : decode cX0_dropOldest 18 = .ok (.iload_n 2, 1) := by decide +kernel
theorem dX0_dropOldest_19 : decode cX0_dropOldest 19 = .ok (.iconst 1, 1) := by decide +kernel
theorem dX0_dropOldest_20 : decode cX0_dropOldest 20 = .ok (.isub, 1) := by decide +kernel
theorem dX0_dropOldest_21 : decode cX0_dropOldest 21 = .ok (.aload_n 0, 1) := by decide +kernel
theorem dX0_dropOldest_22 : decode cX0_dropOldest 22 = .ok (.getfield 11, 3) := by decide +kernel
theorem dX0_dropOldest_25 : decode cX0_dropOldest 25 = .ok (.iload_n 2, 1) := by decide +kernel
theorem dX0_dropOldest_26 : decode cX0_dropOldest 26 = .ok (.aaload, 1) := by decide +kernel
theorem dX0_dropOldest_27 : decode cX0_dropOldest 27 = .ok (.aastore, 1) := by decide +kernel
theorem dX0_dropOldest_28 : decode cX0_dropOldest 28 = .ok (.iinc 2 1, 3) := by decide +kernel
theorem dX0_dropOldest_31 : decode cX0_dropOldest 31 = .ok (.goto (-22), 3) := by decide +kernel
theorem dX0_dropOldest_34 : decode cX0_dropOldest 34 = .ok (.aload_n 0, 1) := by decide +kernel
theorem dX0_dropOldest_35 : decode cX0_dropOldest 35 = .ok (.getfield 11, 3) := by decide +kernel
theorem dX0_dropOldest_38 : decode cX0_dropOldest 38 = .ok (.iconst 4, 1) := by decide +kernel
theorem dX0_dropOldest_39 : decode cX0_dropOldest 39 = .ok (.aload_n 1, 1) := by decide +kernel
theorem dX0_dropOldest_40 : decode cX0_dropOldest 40 = .ok (.aastore, 1) := by decide +kernel
theorem dX0_dropOldest_41 : decode cX0_dropOldest 41 = .ok (.aload_n 0, 1) := by decide +kernel
theorem dX0_dropOldest_42 : decode cX0_dropOldest 42 = .ok (.iconst 4, 1) := by decide +kernel
theorem dX0_dropOldest_43 : decode cX0_dropOldest 43 = .ok (.putfield 18, 3) := by decide +kernel
theorem dX0_dropOldest_46 : decode cX0_dropOldest 46 = .ok (.return_, 1) := by decide +kernel
theorem dX1_init_0 : decode cX1_init 0 = .ok (.aload_n 0, 1) := by decide +kernel
theorem dX1_init_1 : decode cX1_init 1 = .ok (.invokespecial 3, 3) := by decide +kernel
theorem dX1_init_4 : decode cX1_init 4 = .ok (.aload_n 0, 1) := by decide +kernel
theorem dX1_init_5 : decode cX1_init 5 = .ok (.bipush 60, 2) := by decide +kernel
theorem dX1_init_7 : decode cX1_init 7 = .ok (.newarray .int, 2) := by decide +kernel
theorem dX1_init_9 : decode cX1_init 9 = .ok (.putfield 9, 3) := by decide +kernel
theorem dX1_init_12 : decode cX1_init 12 = .ok (.aload_n 0, 1) := by decide +kernel
theorem dX1_init_13 : decode cX1_init 13 = .ok (.new 15, 3) := by decide +kernel
theorem dX1_init_16 : decode cX1_init 16 = .ok (.dup, 1) := by decide +kernel
theorem dX1_init_17 : decode cX1_init 17 = .ok (.bipush 20, 2) := by decide +kernel
theorem dX1_init_19 : decode cX1_init 19 = .ok (.invokespecial 17, 3) := by decide +kernel
theorem dX1_init_22 : decode cX1_init 22 = .ok (.putfield 20, 3) := by decide +kernel
theorem dX1_init_25 : decode cX1_init 25 = .ok (.return_, 1) := by decide +kernel
theorem dX1_append_0 : decode cX1_append 0 = .ok (.aload_n 0, 1) := by decide +kernel
theorem dX1_append_1 : decode cX1_append 1 = .ok (.getfield 24, 3) := by decide +kernel
theorem dX1_append_4 : decode cX1_append 4 = .ok (.ifCond .lt 15, 3) := by decide +kernel
theorem dX1_append_7 : decode cX1_append 7 = .ok (.aload_n 0, 1) := by decide +kernel
theorem dX1_append_8 : decode cX1_append 8 = .ok (.getfield 24, 3) := by decide +kernel
theorem dX1_append_11 : decode cX1_append 11 = .ok (.aload_n 0, 1) := by decide +kernel
theorem dX1_append_12 : decode cX1_append 12 = .ok (.getfield 9, 3) := by decide +kernel
theorem dX1_append_15 : decode cX1_append 15 = .ok (.arraylength, 1) := by decide +kernel
theorem dX1_append_16 : decode cX1_append 16 = .ok (.if_icmp .lt 5, 3) := by decide +kernel
theorem dX1_append_19 : decode cX1_append 19 = .ok (.iconst 0, 1) := by decide +kernel
theorem dX1_append_20 : decode cX1_append 20 = .ok (.ireturn, 1) := by decide +kernel
theorem dX1_append_21 : decode cX1_append 21 = .ok (.aload_n 0, 1) := by decide +kernel
theorem dX1_append_22 : decode cX1_append 22 = .ok (.getfield 9, 3) := by decide +kernel
theorem dX1_append_25 : decode cX1_append 25 = .ok (.aload_n 0, 1) := by decide +kernel
theorem dX1_append_26 : decode cX1_append 26 = .ok (.getfield 24, 3) := by decide +kernel
theorem dX1_append_29 : decode cX1_append 29 = .ok (.iload_n 1, 1) := by decide +kernel
theorem dX1_append_30 : decode cX1_append 30 = .ok (.iastore, 1) := by decide +kernel
theorem dX1_append_31 : decode cX1_append 31 = .ok (.aload_n 0, 1) := by decide +kernel
theorem dX1_append_32 : decode cX1_append 32 = .ok (.dup, 1) := by decide +kernel
theorem dX1_append_33 : decode cX1_append 33 = .ok (.getfield 24, 3) := by decide +kernel
theorem dX1_append_36 : decode cX1_append 36 = .ok (.iconst 1, 1) := by decide +kernel
theorem dX1_append_37 : decode cX1_append 37 = .ok (.iadd, 1) := by decide +kernel
theorem dX1_append_38 : decode cX1_append 38 = .ok (.putfield 24, 3) := by decide +kernel
theorem dX1_append_41 : decode cX1_append 41 = .ok (.iconst 1, 1) := by decide +kernel
theorem dX1_append_42 : decode cX1_append 42 = .ok (.ireturn, 1) := by decide +kernel
theorem dX1_findFault_0 : decode cX1_findFault 0 = .ok (.aload_n 0, 1) := by decide +kernel
theorem dX1_findFault_1 : decode cX1_findFault 1 = .ok (.getfield 20, 3) := by decide +kernel
theorem dX1_findFault_4 : decode cX1_findFault 4 = .ok (.iconst 0, 1) := by decide +kernel
theorem dX1_findFault_5 : decode cX1_findFault 5 = .ok (.putfield 28, 3) := by decide +kernel
theorem dX1_findFault_8 : decode cX1_findFault 8 = .ok (.iconst 0, 1) := by decide +kernel
theorem dX1_findFault_9 : decode cX1_findFault 9 = .ok (.istore_n 1, 1) := by decide +kernel
theorem dX1_findFault_10 : decode cX1_findFault 10 = .ok (.iconst 0, 1) := by decide +kernel
theorem dX1_findFault_11 : decode cX1_findFault 11 = .ok (.istore_n 2, 1) := by decide +kernel
theorem dX1_findFault_12 : decode cX1_findFault 12 = .ok (.iload_n 2, 1) := by decide +kernel
theorem dX1_findFault_13 : decode cX1_findFault 13 = .ok (.aload_n 0, 1) := by decide +kernel
theorem dX1_findFault_14 : decode cX1_findFault 14 = .ok (.getfield 24, 3) := by decide +kernel
theorem dX1_findFault_17 : decode cX1_findFault 17 = .ok (.if_icmp .ge 37, 3) := by decide +kernel
theorem dX1_findFault_20 : decode cX1_findFault 20 = .ok (.iload_n 2, 1) := by decide +kernel
theorem dX1_findFault_21 : decode cX1_findFault 21 = .ok (.aload_n 0, 1) := by decide +kernel
theorem dX1_findFault_22 : decode cX1_findFault 22 = .ok (.getfield 9, 3) := by decide +kernel
theorem dX1_findFault_25 : decode cX1_findFault 25 = .ok (.arraylength, 1) := by decide +kernel
theorem dX1_findFault_26 : decode cX1_findFault 26 = .ok (.if_icmp .ge 28, 3) := by decide +kernel
theorem dX1_findFault_29 : decode cX1_findFault 29 = .ok (.aload_n 0, 1) := by decide +kernel
theorem dX1_findFault_30 : decode cX1_findFault 30 = .ok (.aload_n 0, 1) := by decide +kernel
theorem dX1_findFault_31 : decode cX1_findFault 31 = .ok (.getfield 9, 3) := by decide +kernel
theorem dX1_findFault_34 : decode cX1_findFault 34 = .ok (.iload_n 2, 1) := by decide +kernel
theorem dX1_findFault_35 : decode cX1_findFault 35 = .ok (.iaload, 1) := by decide +kernel
theorem dX1_findFault_36 : decode cX1_findFault 36 = .ok (.iload_n 1, 1) := by decide +kernel
theorem dX1_findFault_37 : decode cX1_findFault 37 = .ok (.invokevirtual 31, 3) := by decide +kernel
theorem dX1_findFault_40 : decode cX1_findFault 40 = .ok (.istore_n 1, 1) := by decide +kernel
theorem dX1_findFault_41 : decode cX1_findFault 41 = .ok (.iload_n 1, 1) := by decide +kernel
theorem dX1_findFault_42 : decode cX1_findFault 42 = .ok (.iconst 5, 1) := by decide +kernel
theorem dX1_findFault_43 : decode cX1_findFault 43 = .ok (.if_icmp .ne 5, 3) := by decide +kernel
theorem dX1_findFault_46 : decode cX1_findFault 46 = .ok (.iload_n 2, 1) := by decide +kernel
theorem dX1_findFault_47 : decode cX1_findFault 47 = .ok (.ireturn, 1) := by decide +kernel
theorem dX1_findFault_48 : decode cX1_findFault 48 = .ok (.iinc 2 1, 3) := by decide +kernel
theorem dX1_findFault_51 : decode cX1_findFault 51 = .ok (.goto (-39), 3) := by decide +kernel
theorem dX1_findFault_54 : decode cX1_findFault 54 = .ok (.iload_n 1, 1) := by decide +kernel
theorem dX1_findFault_55 : decode cX1_findFault 55 = .ok (.iconst 2, 1) := by decide +kernel
theorem dX1_findFault_56 : decode cX1_findFault 56 = .ok (.if_icmp .eq 8, 3) := by decide +kernel
theorem dX1_findFault_59 : decode cX1_findFault 59 = .ok (.iload_n 1, 1) := by decide +kernel
theorem dX1_findFault_60 : decode cX1_findFault 60 = .ok (.iconst 4, 1) := by decide +kernel
theorem dX1_findFault_61 : decode cX1_findFault 61 = .ok (.if_icmp .ne 7, 3) := by decide +kernel
theorem dX1_findFault_64 : decode cX1_findFault 64 = .ok (.iconst (-1), 1) := by decide +kernel
theorem dX1_findFault_65 : decode cX1_findFault 65 = .ok (.goto 7, 3) := by decide +kernel
theorem dX1_findFault_68 : decode cX1_findFault 68 = .ok (.aload_n 0, 1) := by decide +kernel
theorem dX1_findFault_69 : decode cX1_findFault 69 = .ok (.getfield 24, 3) := by decide +kernel
theorem dX1_findFault_72 : decode cX1_findFault 72 = .ok (.ireturn, 1) := by decide +kernel
theorem dX1_take_0 : decode cX1_take 0 = .ok (.iload_n 2, 1) := by decide +kernel
theorem dX1_take_1 : decode cX1_take 1 = .ok (.tableswitch 75 0 4 #[35, 41, 47, 63, 69], 35) := by decide +kernel
theorem dX1_take_36 : decode cX1_take 36 = .ok (.aload_n 0, 1) := by decide +kernel
theorem dX1_take_37 : decode cX1_take 37 = .ok (.iload_n 1, 1) := by decide +kernel
theorem dX1_take_38 : decode cX1_take 38 = .ok (.invokevirtual 35, 3) := by decide +kernel
theorem dX1_take_41 : decode cX1_take 41 = .ok (.ireturn, 1) := by decide +kernel
theorem dX1_take_42 : decode cX1_take 42 = .ok (.aload_n 0, 1) := by decide +kernel
theorem dX1_take_43 : decode cX1_take 43 = .ok (.iload_n 1, 1) := by decide +kernel
theorem dX1_take_44 : decode cX1_take 44 = .ok (.invokevirtual 39, 3) := by decide +kernel
theorem dX1_take_47 : decode cX1_take 47 = .ok (.ireturn, 1) := by decide +kernel
theorem dX1_take_48 : decode cX1_take 48 = .ok (.iload_n 1, 1) := by decide +kernel
theorem dX1_take_49 : decode cX1_take 49 = .ok (.bipush 33, 2) := by decide +kernel
theorem dX1_take_51 : decode cX1_take 51 = .ok (.if_icmp .ne 7, 3) := by decide +kernel
theorem dX1_take_54 : decode cX1_take 54 = .ok (.iconst 3, 1) := by decide +kernel
theorem dX1_take_55 : decode cX1_take 55 = .ok (.goto 8, 3) := by decide +kernel
theorem dX1_take_58 : decode cX1_take 58 = .ok (.aload_n 0, 1) := by decide +kernel
theorem dX1_take_59 : decode cX1_take 59 = .ok (.iload_n 1, 1) := by decide +kernel
theorem dX1_take_60 : decode cX1_take 60 = .ok (.invokevirtual 42, 3) := by decide +kernel
theorem dX1_take_63 : decode cX1_take 63 = .ok (.ireturn, 1) := by decide +kernel
theorem dX1_take_64 : decode cX1_take 64 = .ok (.aload_n 0, 1) := by decide +kernel
theorem dX1_take_65 : decode cX1_take 65 = .ok (.iload_n 1, 1) := by decide +kernel
theorem dX1_take_66 : decode cX1_take 66 = .ok (.invokevirtual 45, 3) := by decide +kernel
theorem dX1_take_69 : decode cX1_take 69 = .ok (.ireturn, 1) := by decide +kernel
theorem dX1_take_70 : decode cX1_take 70 = .ok (.aload_n 0, 1) := by decide +kernel
theorem dX1_take_71 : decode cX1_take 71 = .ok (.iload_n 1, 1) := by decide +kernel
theorem dX1_take_72 : decode cX1_take 72 = .ok (.invokevirtual 42, 3) := by decide +kernel
theorem dX1_take_75 : decode cX1_take 75 = .ok (.ireturn, 1) := by decide +kernel
theorem dX1_take_76 : decode cX1_take 76 = .ok (.iconst 5, 1) := by decide +kernel
theorem dX1_take_77 : decode cX1_take 77 = .ok (.ireturn, 1) := by decide +kernel
theorem dX1_takeLetter_0 : decode cX1_takeLetter 0 = .ok (.iload_n 1, 1) := by decide +kernel
theorem dX1_takeLetter_1 : decode cX1_takeLetter 1 = .ok (.lookupswitch 59 #[(98, 43), (114, 35), (115, 51)], 35) := by decide +kernel
theorem dX1_takeLetter_36 : decode cX1_takeLetter 36 = .ok (.aload_n 0, 1) := by decide +kernel
theorem dX1_takeLetter_37 : decode cX1_takeLetter 37 = .ok (.iconst 0, 1) := by decide +kernel
theorem dX1_takeLetter_38 : decode cX1_takeLetter 38 = .ok (.putfield 48, 3) := by decide +kernel
theorem dX1_takeLetter_41 : decode cX1_takeLetter 41 = .ok (.goto 21, 3) := by decide +kernel
theorem dX1_takeLetter_44 : decode cX1_takeLetter 44 = .ok (.aload_n 0, 1) := by decide +kernel
theorem dX1_takeLetter_45 : decode cX1_takeLetter 45 = .ok (.iconst 1, 1) := by decide +kernel
theorem dX1_takeLetter_46 : decode cX1_takeLetter 46 = .ok (.putfield 48, 3) := by decide +kernel
theorem dX1_takeLetter_49 : decode cX1_takeLetter 49 = .ok (.goto 13, 3) := by decide +kernel
theorem dX1_takeLetter_52 : decode cX1_takeLetter 52 = .ok (.aload_n 0, 1) := by decide +kernel
theorem dX1_takeLetter_53 : decode cX1_takeLetter 53 = .ok (.iconst 2, 1) := by decide +kernel
theorem dX1_takeLetter_54 : decode cX1_takeLetter 54 = .ok (.putfield 48, 3) := by decide +kernel
theorem dX1_takeLetter_57 : decode cX1_takeLetter 57 = .ok (.goto 5, 3) := by decide +kernel
theorem dX1_takeLetter_60 : decode cX1_takeLetter 60 = .ok (.iconst 5, 1) := by decide +kernel
theorem dX1_takeLetter_61 : decode cX1_takeLetter 61 = .ok (.ireturn, 1) := by decide +kernel
theorem dX1_takeLetter_62 : decode cX1_takeLetter 62 = .ok (.iconst 1, 1) := by decide +kernel
theorem dX1_takeLetter_63 : decode cX1_takeLetter 63 = .ok (.ireturn, 1) := by decide +kernel
theorem dX1_takeRosette_0 : decode cX1_takeRosette 0 = .ok (.iload_n 1, 1) := by decide +kernel
theorem dX1_takeRosette_1 : decode cX1_takeRosette 1 = .ok (.bipush 48, 2) := by decide +kernel
theorem dX1_takeRosette_3 : decode cX1_takeRosette 3 = .ok (.bipush 55, 2) := by decide +kernel
theorem dX1_takeRosette_5 : decode cX1_takeRosette 5 = .ok (.invokestatic 51, 3) := by decide +kernel
theorem dX1_takeRosette_8 : decode cX1_takeRosette 8 = .ok (.ifCond .ne 5, 3) := by decide +kernel
theorem dX1_takeRosette_11 : decode cX1_takeRosette 11 = .ok (.iconst 5, 1) := by decide +kernel
theorem dX1_takeRosette_12 : decode cX1_takeRosette 12 = .ok (.ireturn, 1) := by decide +kernel
theorem dX1_takeRosette_13 : decode cX1_takeRosette 13 = .ok (.aload_n 0, 1) := by decide +kernel
theorem dX1_takeRosette_14 : decode cX1_takeRosette 14 = .ok (.getfield 20, 3) := by decide +kernel
theorem dX1_takeRosette_17 : decode cX1_takeRosette 17 = .ok (.iconst 0, 1) := by decide +kernel
theorem dX1_takeRosette_18 : decode cX1_takeRosette 18 = .ok (.aload_n 0, 1) := by decide +kernel
theorem dX1_takeRosette_19 : decode cX1_takeRosette 19 = .ok (.getfield 48, 3) := by decide +kernel
theorem dX1_takeRosette_22 : decode cX1_takeRosette 22 = .ok (.iload_n 1, 1) := by decide +kernel
theorem dX1_takeRosette_23 : decode cX1_takeRosette 23 = .ok (.bipush 48, 2) := by decide +kernel
theorem dX1_takeRosette_25 : decode cX1_takeRosette 25 = .ok (.isub, 1) := by decide +kernel
theorem dX1_takeRosette_26 : decode cX1_takeRosette 26 = .ok (.iconst 5, 1) := by decide +kernel
theorem dX1_takeRosette_27 : decode cX1_takeRosette 27 = .ok (.invokevirtual 55, 3) := by decide +kernel
theorem dX1_takeRosette_30 : decode cX1_takeRosette 30 = .ok (.iconst 2, 1) := by decide +kernel
theorem dX1_takeRosette_31 : decode cX1_takeRosette 31 = .ok (.ireturn, 1) := by decide +kernel
theorem dX1_takeUrgency_0 : decode cX1_takeUrgency 0 = .ok (.iload_n 1, 1) := by decide +kernel
theorem dX1_takeUrgency_1 : decode cX1_takeUrgency 1 = .ok (.bipush 48, 2) := by decide +kernel
theorem dX1_takeUrgency_3 : decode cX1_takeUrgency 3 = .ok (.bipush 57, 2) := by decide +kernel
theorem dX1_takeUrgency_5 : decode cX1_takeUrgency 5 = .ok (.invokestatic 51, 3) := by decide +kernel
theorem dX1_takeUrgency_8 : decode cX1_takeUrgency 8 = .ok (.ifCond .ne 5, 3) := by decide +kernel
theorem dX1_takeUrgency_11 : decode cX1_takeUrgency 11 = .ok (.iconst 5, 1) := by decide +kernel
theorem dX1_takeUrgency_12 : decode cX1_takeUrgency 12 = .ok (.ireturn, 1) := by decide +kernel
theorem dX1_takeUrgency_13 : decode cX1_takeUrgency 13 = .ok (.aload_n 0, 1) := by decide +kernel
theorem dX1_takeUrgency_14 : decode cX1_takeUrgency 14 = .ok (.getfield 20, 3) := by decide +kernel
theorem dX1_takeUrgency_17 : decode cX1_takeUrgency 17 = .ok (.aload_n 0, 1) := by decide +kernel
theorem dX1_takeUrgency_18 : decode cX1_takeUrgency 18 = .ok (.getfield 20, 3) := by decide +kernel
theorem dX1_takeUrgency_21 : decode cX1_takeUrgency 21 = .ok (.getfield 28, 3) := by decide +kernel
theorem dX1_takeUrgency_24 : decode cX1_takeUrgency 24 = .ok (.iconst 1, 1) := by decide +kernel
theorem dX1_takeUrgency_25 : decode cX1_takeUrgency 25 = .ok (.isub, 1) := by decide +kernel
theorem dX1_takeUrgency_26 : decode cX1_takeUrgency 26 = .ok (.iconst 3, 1) := by decide +kernel
theorem dX1_takeUrgency_27 : decode cX1_takeUrgency 27 = .ok (.iload_n 1, 1) := by decide +kernel
theorem dX1_takeUrgency_28 : decode cX1_takeUrgency 28 = .ok (.bipush 48, 2) := by decide +kernel
theorem dX1_takeUrgency_30 : decode cX1_takeUrgency 30 = .ok (.isub, 1) := by decide +kernel
theorem dX1_takeUrgency_31 : decode cX1_takeUrgency 31 = .ok (.invokevirtual 59, 3) := by decide +kernel
theorem dX1_takeUrgency_34 : decode cX1_takeUrgency 34 = .ok (.iconst 4, 1) := by decide +kernel
theorem dX1_takeUrgency_35 : decode cX1_takeUrgency 35 = .ok (.ireturn, 1) := by decide +kernel
theorem dX1_takeComma_0 : decode cX1_takeComma 0 = .ok (.iload_n 1, 1) := by decide +kernel
theorem dX1_takeComma_1 : decode cX1_takeComma 1 = .ok (.bipush 44, 2) := by decide +kernel
theorem dX1_takeComma_3 : decode cX1_takeComma 3 = .ok (.if_icmp .ne 7, 3) := by decide +kernel
theorem dX1_takeComma_6 : decode cX1_takeComma 6 = .ok (.iconst 0, 1) := by decide +kernel
theorem dX1_takeComma_7 : decode cX1_takeComma 7 = .ok (.goto 4, 3) := by decide +kernel
theorem dX1_takeComma_10 : decode cX1_takeComma 10 = .ok (.iconst 5, 1) := by decide +kernel
theorem dX1_takeComma_11 : decode cX1_takeComma 11 = .ok (.ireturn, 1) := by decide +kernel
theorem dX2_init_0 : decode cX2_init 0 = .ok (.aload_n 0, 1) := by decide +kernel
theorem dX2_init_1 : decode cX2_init 1 = .ok (.invokespecial 3, 3) := by decide +kernel
theorem dX2_init_4 : decode cX2_init 4 = .ok (.aload_n 0, 1) := by decide +kernel
theorem dX2_init_5 : decode cX2_init 5 = .ok (.iconst 3, 1) := by decide +kernel
theorem dX2_init_6 : decode cX2_init 6 = .ok (.newarray .int, 2) := by decide +kernel
theorem dX2_init_8 : decode cX2_init 8 = .ok (.putfield 9, 3) := by decide +kernel
theorem dX2_init_11 : decode cX2_init 11 = .ok (.aload_n 0, 1) := by decide +kernel
theorem dX2_init_12 : decode cX2_init 12 = .ok (.iconst 3, 1) := by decide +kernel
theorem dX2_init_13 : decode cX2_init 13 = .ok (.newarray .int, 2) := by decide +kernel
theorem dX2_init_15 : decode cX2_init 15 = .ok (.putfield 15, 3) := by decide +kernel
theorem dX2_init_18 : decode cX2_init 18 = .ok (.aload_n 0, 1) := by decide +kernel
theorem dX2_init_19 : decode cX2_init 19 = .ok (.iconst 3, 1) := by decide +kernel
theorem dX2_init_20 : decode cX2_init 20 = .ok (.newarray .int, 2) := by decide +kernel
theorem dX2_init_22 : decode cX2_init 22 = .ok (.putfield 18, 3) := by decide +kernel
theorem dX2_init_25 : decode cX2_init 25 = .ok (.aload_n 0, 1) := by decide +kernel
theorem dX2_init_26 : decode cX2_init 26 = .ok (.iconst 3, 1) := by decide +kernel
theorem dX2_init_27 : decode cX2_init 27 = .ok (.newarray .int, 2) := by decide +kernel
theorem dX2_init_29 : decode cX2_init 29 = .ok (.putfield 21, 3) := by decide +kernel
theorem dX2_init_32 : decode cX2_init 32 = .ok (.aload_n 0, 1) := by decide +kernel
theorem dX2_init_33 : decode cX2_init 33 = .ok (.iconst 3, 1) := by decide +kernel
theorem dX2_init_34 : decode cX2_init 34 = .ok (.newarray .int, 2) := by decide +kernel
theorem dX2_init_36 : decode cX2_init 36 = .ok (.putfield 24, 3) := by decide +kernel
theorem dX2_init_39 : decode cX2_init 39 = .ok (.aload_n 0, 1) := by decide +kernel
theorem dX2_init_40 : decode cX2_init 40 = .ok (.iconst 3, 1) := by decide +kernel
theorem dX2_init_41 : decode cX2_init 41 = .ok (.newarray .int, 2) := by decide +kernel
theorem dX2_init_43 : decode cX2_init 43 = .ok (.putfield 27, 3) := by decide +kernel
theorem dX2_init_46 : decode cX2_init 46 = .ok (.return_, 1) := by decide +kernel
theorem dX2_take_0 : decode cX2_take 0 = .ok (.aload_n 0, 1) := by decide +kernel
theorem dX2_take_1 : decode cX2_take 1 = .ok (.aload_n 1, 1) := by decide +kernel
theorem dX2_take_2 : decode cX2_take 2 = .ok (.getfield 30, 3) := by decide +kernel
theorem dX2_take_5 : decode cX2_take 5 = .ok (.i2l, 1) := by decide +kernel
theorem dX2_take_6 : decode cX2_take 6 = .ok (.ldc2_w 36, 3) := by decide +kernel
theorem dX2_take_9 : decode cX2_take 9 = .ok (.lmul, 1) := by decide +kernel
theorem dX2_take_10 : decode cX2_take 10 = .ok (.aload_n 1, 1) := by decide +kernel
theorem dX2_take_11 : decode cX2_take 11 = .ok (.getfield 30, 3) := by decide +kernel
theorem dX2_take_14 : decode cX2_take 14 = .ok (.i2l, 1) := by decide +kernel
theorem dX2_take_15 : decode cX2_take 15 = .ok (.ldc2_w 38, 3) := by decide +kernel
theorem dX2_take_18 : decode cX2_take 18 = .ok (.iload_n 2, 1) := by decide +kernel
theorem dX2_take_19 : decode cX2_take 19 = .ok (.i2l, 1) := by decide +kernel
theorem dX2_take_20 : decode cX2_take 20 = .ok (.lmul, 1) := by decide +kernel
theorem dX2_take_21 : decode cX2_take 21 = .ok (.ladd, 1) := by decide +kernel
theorem dX2_take_22 : decode cX2_take 22 = .ok (.invokestatic 40, 3) := by decide +kernel
theorem dX2_take_25 : decode cX2_take 25 = .ok (.l2i, 1) := by decide +kernel
theorem dX2_take_26 : decode cX2_take 26 = .ok (.putfield 44, 3) := by decide +kernel
theorem dX2_take_29 : decode cX2_take 29 = .ok (.aload_n 0, 1) := by decide +kernel
theorem dX2_take_30 : decode cX2_take 30 = .ok (.iconst 0, 1) := by decide +kernel
theorem dX2_take_31 : decode cX2_take 31 = .ok (.putfield 47, 3) := by decide +kernel
theorem dX2_take_34 : decode cX2_take 34 = .ok (.aload_n 0, 1) := by decide +kernel
theorem dX2_take_35 : decode cX2_take 35 = .ok (.iconst 0, 1) := by decide +kernel
theorem dX2_take_36 : decode cX2_take 36 = .ok (.putfield 50, 3) := by decide +kernel
theorem dX2_take_39 : decode cX2_take 39 = .ok (.aload_n 0, 1) := by decide +kernel
theorem dX2_take_40 : decode cX2_take 40 = .ok (.aload_n 1, 1) := by decide +kernel
theorem dX2_take_41 : decode cX2_take 41 = .ok (.invokevirtual 54, 3) := by decide +kernel
theorem dX2_take_44 : decode cX2_take 44 = .ok (.iconst 0, 1) := by decide +kernel
theorem dX2_take_45 : decode cX2_take 45 = .ok (.istore_n 3, 1) := by decide +kernel
theorem dX2_take_46 : decode cX2_take 46 = .ok (.iload_n 3, 1) := by decide +kernel
theorem dX2_take_47 : decode cX2_take 47 = .ok (.iconst 3, 1) := by decide +kernel
theorem dX2_take_48 : decode cX2_take 48 = .ok (.if_icmp .ge 53, 3) := by decide +kernel
theorem dX2_take_51 : decode cX2_take 51 = .ok (.aload_n 0, 1) := by decide +kernel
theorem dX2_take_52 : decode cX2_take 52 = .ok (.aload_n 1, 1) := by decide +kernel
theorem dX2_take_53 : decode cX2_take 53 = .ok (.iload_n 3, 1) := by decide +kernel
theorem dX2_take_54 : decode cX2_take 54 = .ok (.invokevirtual 58, 3) := by decide +kernel
theorem dX2_take_57 : decode cX2_take 57 = .ok (.aload_n 0, 1) := by decide +kernel
theorem dX2_take_58 : decode cX2_take 58 = .ok (.getfield 27, 3) := by decide +kernel
theorem dX2_take_61 : decode cX2_take 61 = .ok (.iload_n 3, 1) := by decide +kernel
theorem dX2_take_62 : decode cX2_take 62 = .ok (.aload_n 0, 1) := by decide +kernel
theorem dX2_take_63 : decode cX2_take 63 = .ok (.getfield 18, 3) := by decide +kernel
theorem dX2_take_66 : decode cX2_take 66 = .ok (.iload_n 3, 1) := by decide +kernel
theorem dX2_take_67 : decode cX2_take 67 = .ok (.iaload, 1) := by decide +kernel
theorem dX2_take_68 : decode cX2_take 68 = .ok (.i2l, 1) := by decide +kernel
theorem dX2_take_69 : decode cX2_take 69 = .ok (.aload_n 1, 1) := by decide +kernel
theorem dX2_take_70 : decode cX2_take 70 = .ok (.getfield 62, 3) := by decide +kernel
theorem dX2_take_73 : decode cX2_take 73 = .ok (.iload_n 3, 1) := by decide +kernel
theorem dX2_take_74 : decode cX2_take 74 = .ok (.iaload, 1) := by decide +kernel
theorem dX2_take_75 : decode cX2_take 75 = .ok (.i2l, 1) := by decide +kernel
theorem dX2_take_76 : decode cX2_take 76 = .ok (.lmul, 1) := by decide +kernel
theorem dX2_take_77 : decode cX2_take 77 = .ok (.ldc2_w 38, 3) := by decide +kernel
theorem dX2_take_80 : decode cX2_take 80 = .ok (.ldiv, 1) := by decide +kernel
theorem dX2_take_81 : decode cX2_take 81 = .ok (.ldc2_w 65, 3) := by decide +kernel
theorem dX2_take_84 : decode cX2_take 84 = .ok (.lmul, 1) := by decide +kernel
theorem dX2_take_85 : decode cX2_take 85 = .ok (.aload_n 1, 1) := by decide +kernel
theorem dX2_take_86 : decode cX2_take 86 = .ok (.getfield 67, 3) := by decide +kernel
theorem dX2_take_89 : decode cX2_take 89 = .ok (.i2l, 1) := by decide +kernel
theorem dX2_take_90 : decode cX2_take 90 = .ok (.invokestatic 40, 3) := by decide +kernel
theorem dX2_take_93 : decode cX2_take 93 = .ok (.l2i, 1) := by decide +kernel
theorem dX2_take_94 : decode cX2_take 94 = .ok (.iastore, 1) := by decide +kernel
theorem dX2_take_95 : decode cX2_take 95 = .ok (.iinc 3 1, 3) := by decide +kernel
theorem dX2_take_98 : decode cX2_take 98 = .ok (.goto (-52), 3) := by decide +kernel
theorem dX2_take_101 : decode cX2_take 101 = .ok (.aload_n 1, 1) := by decide +kernel
theorem dX2_take_102 : decode cX2_take 102 = .ok (.getfield 70, 3) := by decide +kernel
theorem dX2_take_105 : decode cX2_take 105 = .ok (.ifCond .eq 10, 3) := by decide +kernel
theorem dX2_take_108 : decode cX2_take 108 = .ok (.aload_n 0, 1) := by decide +kernel
theorem dX2_take_109 : decode cX2_take 109 = .ok (.invokevirtual 73, 3) := by decide +kernel
theorem dX2_take_112 : decode cX2_take 112 = .ok (.goto 7, 3) := by decide +kernel
theorem dX2_take_115 : decode cX2_take 115 = .ok (.aload_n 0, 1) := by decide +kernel
theorem dX2_take_116 : decode cX2_take 116 = .ok (.invokevirtual 76, 3) := by decide +kernel
theorem dX2_take_119 : decode cX2_take 119 = .ok (.aload_n 0, 1) := by decide +kernel
theorem dX2_take_120 : decode cX2_take 120 = .ok (.invokevirtual 79, 3) := by decide +kernel
theorem dX2_take_123 : decode cX2_take 123 = .ok (.return_, 1) := by decide +kernel
theorem dX2_holdReadings_0 : decode cX2_holdReadings 0 = .ok (.aload_n 0, 1) := by decide +kernel
theorem dX2_holdReadings_1 : decode cX2_holdReadings 1 = .ok (.getfield 18, 3) := by decide +kernel
theorem dX2_holdReadings_4 : decode cX2_holdReadings 4 = .ok (.iconst 0, 1) := by decide +kernel
theorem dX2_holdReadings_5 : decode cX2_holdReadings 5 = .ok (.aload_n 0, 1) := by decide +kernel
theorem dX2_holdReadings_6 : decode cX2_holdReadings 6 = .ok (.getfield 21, 3) := by decide +kernel
theorem dX2_holdReadings_9 : decode cX2_holdReadings 9 = .ok (.iconst 0, 1) := by decide +kernel
theorem dX2_holdReadings_10 : decode cX2_holdReadings 10 = .ok (.iconst 3, 1) := by decide +kernel
theorem dX2_holdReadings_11 : decode cX2_holdReadings 11 = .ok (.invokestatic 82, 3) := by decide +kernel
theorem dX2_holdReadings_14 : decode cX2_holdReadings 14 = .ok (.return_, 1) := by decide +kernel
theorem dX2_readingsChanged_0 : decode cX2_readingsChanged 0 = .ok (.iconst 0, 1) := by decide +kernel
theorem dX2_readingsChanged_1 : decode cX2_readingsChanged 1 = .ok (.istore_n 1, 1) := by decide +kernel
theorem dX2_readingsChanged_2 : decode cX2_readingsChanged 2 = .ok (.iconst 0, 1) := by decide +kernel
theorem dX2_readingsChanged_3 : decode cX2_readingsChanged 3 = .ok (.istore_n 2, 1) := by decide +kernel
theorem dX2_readingsChanged_4 : decode cX2_readingsChanged 4 = .ok (.iload_n 2, 1) := by decide +kernel
theorem dX2_readingsChanged_5 : decode cX2_readingsChanged 5 = .ok (.iconst 3, 1) := by decide +kernel
theorem dX2_readingsChanged_6 : decode cX2_readingsChanged 6 = .ok (.if_icmp .ge 27, 3) := by decide +kernel
theorem dX2_readingsChanged_9 : decode cX2_readingsChanged 9 = .ok (.aload_n 0, 1) := by decide +kernel
theorem dX2_readingsChanged_10 : decode cX2_readingsChanged 10 = .ok (.getfield 18, 3) := by decide +kernel
theorem dX2_readingsChanged_13 : decode cX2_readingsChanged 13 = .ok (.iload_n 2, 1) := by decide +kernel
theorem dX2_readingsChanged_14 : decode cX2_readingsChanged 14 = .ok (.iaload, 1) := by decide +kernel
theorem dX2_readingsChanged_15 : decode cX2_readingsChanged 15 = .ok (.aload_n 0, 1) := by decide +kernel
theorem dX2_readingsChanged_16 : decode cX2_readingsChanged 16 = .ok (.getfield 21, 3) := by decide +kernel
theorem dX2_readingsChanged_19 : decode cX2_readingsChanged 19 = .ok (.iload_n 2, 1) := by decide +kernel
theorem dX2_readingsChanged_20 : decode cX2_readingsChanged 20 = .ok (.iaload, 1) := by decide +kernel
theorem dX2_readingsChanged_21 : decode cX2_readingsChanged 21 = .ok (.if_icmp .eq 6, 3) := by decide +kernel
theorem dX2_readingsChanged_24 : decode cX2_readingsChanged 24 = .ok (.iinc 1 1, 3) := by decide +kernel
theorem dX2_readingsChanged_27 : decode cX2_readingsChanged 27 = .ok (.iinc 2 1, 3) := by decide +kernel
theorem dX2_readingsChanged_30 : decode cX2_readingsChanged 30 = .ok (.goto (-26), 3) := by decide +kernel
theorem dX2_readingsChanged_33 : decode cX2_readingsChanged 33 = .ok (.iload_n 1, 1) := by decide +kernel
theorem dX2_readingsChanged_34 : decode cX2_readingsChanged 34 = .ok (.ireturn, 1) := by decide +kernel
theorem dX2_pullTo_0 : decode cX2_pullTo 0 = .ok (.iload_n 1, 1) := by decide +kernel
theorem dX2_pullTo_1 : decode cX2_pullTo 1 = .ok (.iconst 0, 1) := by decide +kernel
theorem dX2_pullTo_2 : decode cX2_pullTo 2 = .ok (.bipush 23, 2) := by decide +kernel
theorem dX2_pullTo_4 : decode cX2_pullTo 4 = .ok (.invokestatic 88, 3) := by decide +kernel
theorem dX2_pullTo_7 : decode cX2_pullTo 7 = .ok (.ifCond .ne 5, 3) := by decide +kernel
theorem dX2_pullTo_10 : decode cX2_pullTo 10 = .ok (.lconst 0, 1) := by decide +kernel
theorem dX2_pullTo_11 : decode cX2_pullTo 11 = .ok (.lreturn, 1) := by decide +kernel
theorem dX2_pullTo_12 : decode cX2_pullTo 12 = .ok (.aload_n 0, 1) := by decide +kernel
theorem dX2_pullTo_13 : decode cX2_pullTo 13 = .ok (.getfield 92, 3) := by decide +kernel
theorem dX2_pullTo_16 : decode cX2_pullTo 16 = .ok (.aload_n 0, 1) := by decide +kernel
theorem dX2_pullTo_17 : decode cX2_pullTo 17 = .ok (.getfield 95, 3) := by decide +kernel
theorem dX2_pullTo_20 : decode cX2_pullTo 20 = .ok (.isub, 1) := by decide +kernel
theorem dX2_pullTo_21 : decode cX2_pullTo 21 = .ok (.i2l, 1) := by decide +kernel
theorem dX2_pullTo_22 : decode cX2_pullTo 22 = .ok (.getstatic 98, 3) := by decide +kernel
theorem dX2_pullTo_25 : decode cX2_pullTo 25 = .ok (.iload_n 1, 1) := by decide +kernel
theorem dX2_pullTo_26 : decode cX2_pullTo 26 = .ok (.iaload, 1) := by decide +kernel
theorem dX2_pullTo_27 : decode cX2_pullTo 27 = .ok (.i2l, 1) := by decide +kernel
theorem dX2_pullTo_28 : decode cX2_pullTo 28 = .ok (.lmul, 1) := by decide +kernel
theorem dX2_pullTo_29 : decode cX2_pullTo 29 = .ok (.aload_n 0, 1) := by decide +kernel
theorem dX2_pullTo_30 : decode cX2_pullTo 30 = .ok (.getfield 101, 3) := by decide +kernel
theorem dX2_pullTo_33 : decode cX2_pullTo 33 = .ok (.i2l, 1) := by decide +kernel
theorem dX2_pullTo_34 : decode cX2_pullTo 34 = .ok (.getstatic 104, 3) := by decide +kernel
theorem dX2_pullTo_37 : decode cX2_pullTo 37 = .ok (.iload_n 1, 1) := by decide +kernel
theorem dX2_pullTo_38 : decode cX2_pullTo 38 = .ok (.iaload, 1) := by decide +kernel
theorem dX2_pullTo_39 : decode cX2_pullTo 39 = .ok (.i2l, 1) := by decide +kernel
theorem dX2_pullTo_40 : decode cX2_pullTo 40 = .ok (.lmul, 1) := by decide +kernel
theorem dX2_pullTo_41 : decode cX2_pullTo 41 = .ok (.ladd, 1) := by decide +kernel
theorem dX2_pullTo_42 : decode cX2_pullTo 42 = .ok (.lreturn, 1) := by decide +kernel
theorem dX2_findStrains_0 : decode cX2_findStrains 0 = .ok (.aload_n 1, 1) := by decide +kernel
theorem dX2_findStrains_1 : decode cX2_findStrains 1 = .ok (.getfield 70, 3) := by decide +kernel
theorem dX2_findStrains_4 : decode cX2_findStrains 4 = .ok (.ifCond .eq 61, 3) := by decide +kernel
theorem dX2_findStrains_7 : decode cX2_findStrains 7 = .ok (.aload_n 1, 1) := by decide +kernel
theorem dX2_findStrains_8 : decode cX2_findStrains 8 = .ok (.getfield 107, 3) := by decide +kernel
theorem dX2_findStrains_11 : decode cX2_findStrains 11 = .ok (.iconst 3, 1) := by decide +kernel
theorem dX2_findStrains_12 : decode cX2_findStrains 12 = .ok (.aload_n 1, 1) := by decide +kernel
theorem dX2_findStrains_13 : decode cX2_findStrains 13 = .ok (.getfield 108, 3) := by decide +kernel
theorem dX2_findStrains_16 : decode cX2_findStrains 16 = .ok (.imul, 1) := by decide +kernel
theorem dX2_findStrains_17 : decode cX2_findStrains 17 = .ok (.iadd, 1) := by decide +kernel
theorem dX2_findStrains_18 : decode cX2_findStrains 18 = .ok (.iconst 4, 1) := by decide +kernel
theorem dX2_findStrains_19 : decode cX2_findStrains 19 = .ok (.idiv, 1) := by decide +kernel
theorem dX2_findStrains_20 : decode cX2_findStrains 20 = .ok (.istore_n 2, 1) := by decide +kernel
theorem dX2_findStrains_21 : decode cX2_findStrains 21 = .ok (.aload_n 1, 1) := by decide +kernel
theorem dX2_findStrains_22 : decode cX2_findStrains 22 = .ok (.getfield 109, 3) := by decide +kernel
theorem dX2_findStrains_25 : decode cX2_findStrains 25 = .ok (.sipush 433, 3) := by decide +kernel
theorem dX2_findStrains_28 : decode cX2_findStrains 28 = .ok (.imul, 1) := by decide +kernel
theorem dX2_findStrains_29 : decode cX2_findStrains 29 = .ok (.sipush 1000, 3) := by decide +kernel
theorem dX2_findStrains_32 : decode cX2_findStrains 32 = .ok (.idiv, 1) := by decide +kernel
theorem dX2_findStrains_33 : decode cX2_findStrains 33 = .ok (.istore_n 3, 1) := by decide +kernel
theorem dX2_findStrains_34 : decode cX2_findStrains 34 = .ok (.aload_n 0, 1) := by decide +kernel
theorem dX2_findStrains_35 : decode cX2_findStrains 35 = .ok (.getfield 9, 3) := by decide +kernel
theorem dX2_findStrains_38 : decode cX2_findStrains 38 = .ok (.iconst 0, 1) := by decide +kernel
theorem dX2_findStrains_39 : decode cX2_findStrains 39 = .ok (.aload_n 1, 1) := by decide +kernel
theorem dX2_findStrains_40 : decode cX2_findStrains 40 = .ok (.getfield 107, 3) := by decide +kernel
theorem dX2_findStrains_43 : decode cX2_findStrains 43 = .ok (.iastore, 1) := by decide +kernel
theorem dX2_findStrains_44 : decode cX2_findStrains 44 = .ok (.aload_n 0, 1) := by decide +kernel
theorem dX2_findStrains_45 : decode cX2_findStrains 45 = .ok (.getfield 9, 3) := by decide +kernel
theorem dX2_findStrains_48 : decode cX2_findStrains 48 = .ok (.iconst 1, 1) := by decide +kernel
theorem dX2_findStrains_49 : decode cX2_findStrains 49 = .ok (.iload_n 2, 1) := by decide +kernel
theorem dX2_findStrains_50 : decode cX2_findStrains 50 = .ok (.iload_n 3, 1) := by decide +kernel
theorem dX2_findStrains_51 : decode cX2_findStrains 51 = .ok (.iadd, 1) := by decide +kernel
theorem dX2_findStrains_52 : decode cX2_findStrains 52 = .ok (.iastore, 1) := by decide +kernel
theorem dX2_findStrains_53 : decode cX2_findStrains 53 = .ok (.aload_n 0, 1) := by decide +kernel
theorem dX2_findStrains_54 : decode cX2_findStrains 54 = .ok (.getfield 9, 3) := by decide +kernel
theorem dX2_findStrains_57 : decode cX2_findStrains 57 = .ok (.iconst 2, 1) := by decide +kernel
theorem dX2_findStrains_58 : decode cX2_findStrains 58 = .ok (.iload_n 2, 1) := by decide +kernel
theorem dX2_findStrains_59 : decode cX2_findStrains 59 = .ok (.iload_n 3, 1) := by decide +kernel
theorem dX2_findStrains_60 : decode cX2_findStrains 60 = .ok (.isub, 1) := by decide +kernel
theorem dX2_findStrains_61 : decode cX2_findStrains 61 = .ok (.iastore, 1) := by decide +kernel
theorem dX2_findStrains_62 : decode cX2_findStrains 62 = .ok (.goto 45, 3) := by decide +kernel
theorem dX2_findStrains_65 : decode cX2_findStrains 65 = .ok (.aload_n 0, 1) := by decide +kernel
theorem dX2_findStrains_66 : decode cX2_findStrains 66 = .ok (.getfield 9, 3) := by decide +kernel
theorem dX2_findStrains_69 : decode cX2_findStrains 69 = .ok (.iconst 0, 1) := by decide +kernel
theorem dX2_findStrains_70 : decode cX2_findStrains 70 = .ok (.aload_n 1, 1) := by decide +kernel
theorem dX2_findStrains_71 : decode cX2_findStrains 71 = .ok (.getfield 107, 3) := by decide +kernel
theorem dX2_findStrains_74 : decode cX2_findStrains 74 = .ok (.iastore, 1) := by decide +kernel
theorem dX2_findStrains_75 : decode cX2_findStrains 75 = .ok (.aload_n 0, 1) := by decide +kernel
theorem dX2_findStrains_76 : decode cX2_findStrains 76 = .ok (.getfield 9, 3) := by decide +kernel
theorem dX2_findStrains_79 : decode cX2_findStrains 79 = .ok (.iconst 1, 1) := by decide +kernel
theorem dX2_findStrains_80 : decode cX2_findStrains 80 = .ok (.aload_n 1, 1) := by decide +kernel
theorem dX2_findStrains_81 : decode cX2_findStrains 81 = .ok (.getfield 107, 3) := by decide +kernel
theorem dX2_findStrains_84 : decode cX2_findStrains 84 = .ok (.aload_n 1, 1) := by decide +kernel
theorem dX2_findStrains_85 : decode cX2_findStrains 85 = .ok (.getfield 108, 3) := by decide +kernel
theorem dX2_findStrains_88 : decode cX2_findStrains 88 = .ok (.iadd, 1) := by decide +kernel
theorem dX2_findStrains_89 : decode cX2_findStrains 89 = .ok (.aload_n 1, 1) := by decide +kernel
theorem dX2_findStrains_90 : decode cX2_findStrains 90 = .ok (.getfield 109, 3) := by decide +kernel
theorem dX2_findStrains_93 : decode cX2_findStrains 93 = .ok (.iadd, 1) := by decide +kernel
theorem dX2_findStrains_94 : decode cX2_findStrains 94 = .ok (.iconst 2, 1) := by decide +kernel
theorem dX2_findStrains_95 : decode cX2_findStrains 95 = .ok (.idiv, 1) := by decide +kernel
theorem dX2_findStrains_96 : decode cX2_findStrains 96 = .ok (.iastore, 1) := by decide +kernel
theorem dX2_findStrains_97 : decode cX2_findStrains 97 = .ok (.aload_n 0, 1) := by decide +kernel
theorem dX2_findStrains_98 : decode cX2_findStrains 98 = .ok (.getfield 9, 3) := by decide +kernel
theorem dX2_findStrains_101 : decode cX2_findStrains 101 = .ok (.iconst 2, 1) := by decide +kernel
theorem dX2_findStrains_102 : decode cX2_findStrains 102 = .ok (.aload_n 1, 1) := by decide +kernel
theorem dX2_findStrains_103 : decode cX2_findStrains 103 = .ok (.getfield 108, 3) := by decide +kernel
theorem dX2_findStrains_106 : decode cX2_findStrains 106 = .ok (.iastore, 1) := by decide +kernel
theorem dX2_findStrains_107 : decode cX2_findStrains 107 = .ok (.return_, 1) := by decide +kernel
theorem dX2_findSignal_0 : decode cX2_findSignal 0 = .ok (.aload_n 1, 1) := by decide +kernel
theorem dX2_findSignal_1 : decode cX2_findSignal 1 = .ok (.aload_n 1, 1) := by decide +kernel
theorem dX2_findSignal_2 : decode cX2_findSignal 2 = .ok (.getfield 110, 3) := by decide +kernel
theorem dX2_findSignal_5 : decode cX2_findSignal 5 = .ok (.iload_n 2, 1) := by decide +kernel
theorem dX2_findSignal_6 : decode cX2_findSignal 6 = .ok (.iaload, 1) := by decide +kernel
theorem dX2_findSignal_7 : decode cX2_findSignal 7 = .ok (.invokestatic 113, 3) := by decide +kernel
theorem dX2_findSignal_10 : decode cX2_findSignal 10 = .ok (.aload_n 1, 1) := by decide +kernel
theorem dX2_findSignal_11 : decode cX2_findSignal 11 = .ok (.aload_n 0, 1) := by decide +kernel
theorem dX2_findSignal_12 : decode cX2_findSignal 12 = .ok (.getfield 9, 3) := by decide +kernel
theorem dX2_findSignal_15 : decode cX2_findSignal 15 = .ok (.iload_n 2, 1) := by decide +kernel
theorem dX2_findSignal_16 : decode cX2_findSignal 16 = .ok (.iaload, 1) := by decide +kernel
theorem dX2_findSignal_17 : decode cX2_findSignal 17 = .ok (.aload_n 1, 1) := by decide +kernel
theorem dX2_findSignal_18 : decode cX2_findSignal 18 = .ok (.getfield 67, 3) := by decide +kernel
theorem dX2_findSignal_21 : decode cX2_findSignal 21 = .ok (.imul, 1) := by decide +kernel
theorem dX2_findSignal_22 : decode cX2_findSignal 22 = .ok (.bipush 100, 2) := by decide +kernel
theorem dX2_findSignal_24 : decode cX2_findSignal 24 = .ok (.idiv, 1) := by decide +kernel
theorem dX2_findSignal_25 : decode cX2_findSignal 25 = .ok (.invokestatic 113, 3) := by decide +kernel
theorem dX2_findSignal_28 : decode cX2_findSignal 28 = .ok (.iadd, 1) := by decide +kernel
theorem dX2_findSignal_29 : decode cX2_findSignal 29 = .ok (.aload_n 1, 1) := by decide +kernel
theorem dX2_findSignal_30 : decode cX2_findSignal 30 = .ok (.getfield 117, 3) := by decide +kernel
theorem dX2_findSignal_33 : decode cX2_findSignal 33 = .ok (.iload_n 2, 1) := by decide +kernel
theorem dX2_findSignal_34 : decode cX2_findSignal 34 = .ok (.iaload, 1) := by decide +kernel
theorem dX2_findSignal_35 : decode cX2_findSignal 35 = .ok (.isub, 1) := by decide +kernel
theorem dX2_findSignal_36 : decode cX2_findSignal 36 = .ok (.istore_n 3, 1) := by decide +kernel
theorem dX2_findSignal_37 : decode cX2_findSignal 37 = .ok (.iload_n 3, 1) := by decide +kernel
theorem dX2_findSignal_38 : decode cX2_findSignal 38 = .ok (.aload_n 1, 1) := by decide +kernel
theorem dX2_findSignal_39 : decode cX2_findSignal 39 = .ok (.aload_n 0, 1) := by decide +kernel
theorem dX2_findSignal_40 : decode cX2_findSignal 40 = .ok (.getfield 44, 3) := by decide +kernel
theorem dX2_findSignal_43 : decode cX2_findSignal 43 = .ok (.invokestatic 113, 3) := by decide +kernel
theorem dX2_findSignal_46 : decode cX2_findSignal 46 = .ok (.iadd, 1) := by decide +kernel
theorem dX2_findSignal_47 : decode cX2_findSignal 47 = .ok (.istore 4, 2) := by decide +kernel
theorem dX2_findSignal_49 : decode cX2_findSignal 49 = .ok (.aload_n 0, 1) := by decide +kernel
theorem dX2_findSignal_50 : decode cX2_findSignal 50 = .ok (.getfield 15, 3) := by decide +kernel
theorem dX2_findSignal_53 : decode cX2_findSignal 53 = .ok (.iload_n 2, 1) := by decide +kernel
theorem dX2_findSignal_54 : decode cX2_findSignal 54 = .ok (.aload_n 1, 1) := by decide +kernel
theorem dX2_findSignal_55 : decode cX2_findSignal 55 = .ok (.getfield 120, 3) := by decide +kernel
theorem dX2_findSignal_58 : decode cX2_findSignal 58 = .ok (.ifCond .eq 8, 3) := by decide +kernel
theorem dX2_findSignal_61 : decode cX2_findSignal 61 = .ok (.iload 4, 2) := by decide +kernel
theorem dX2_findSignal_63 : decode cX2_findSignal 63 = .ok (.goto 4, 3) := by decide +kernel
theorem dX2_findSignal_66 : decode cX2_findSignal 66 = .ok (.iload_n 3, 1) := by decide +kernel
theorem dX2_findSignal_67 : decode cX2_findSignal 67 = .ok (.iastore, 1) := by decide +kernel
theorem dX2_findSignal_68 : decode cX2_findSignal 68 = .ok (.aload_n 0, 1) := by decide +kernel
theorem dX2_findSignal_69 : decode cX2_findSignal 69 = .ok (.getfield 18, 3) := by decide +kernel
theorem dX2_findSignal_72 : decode cX2_findSignal 72 = .ok (.iload_n 2, 1) := by decide +kernel
theorem dX2_findSignal_73 : decode cX2_findSignal 73 = .ok (.aload_n 0, 1) := by decide +kernel
theorem dX2_findSignal_74 : decode cX2_findSignal 74 = .ok (.getfield 15, 3) := by decide +kernel
theorem dX2_findSignal_77 : decode cX2_findSignal 77 = .ok (.iload_n 2, 1) := by decide +kernel
theorem dX2_findSignal_78 : decode cX2_findSignal 78 = .ok (.iaload, 1) := by decide +kernel
theorem dX2_findSignal_79 : decode cX2_findSignal 79 = .ok (.invokestatic 123, 3) := by decide +kernel
theorem dX2_findSignal_82 : decode cX2_findSignal 82 = .ok (.iastore, 1) := by decide +kernel
theorem dX2_findSignal_83 : decode cX2_findSignal 83 = .ok (.aload_n 0, 1) := by decide +kernel
theorem dX2_findSignal_84 : decode cX2_findSignal 84 = .ok (.getfield 24, 3) := by decide +kernel
theorem dX2_findSignal_87 : decode cX2_findSignal 87 = .ok (.iload_n 2, 1) := by decide +kernel
theorem dX2_findSignal_88 : decode cX2_findSignal 88 = .ok (.iload 4, 2) := by decide +kernel
theorem dX2_findSignal_90 : decode cX2_findSignal 90 = .ok (.invokestatic 123, 3) := by decide +kernel
theorem dX2_findSignal_93 : decode cX2_findSignal 93 = .ok (.iload_n 3, 1) := by decide +kernel
theorem dX2_findSignal_94 : decode cX2_findSignal 94 = .ok (.invokestatic 123, 3) := by decide +kernel
theorem dX2_findSignal_97 : decode cX2_findSignal 97 = .ok (.isub, 1) := by decide +kernel
theorem dX2_findSignal_98 : decode cX2_findSignal 98 = .ok (.iastore, 1) := by decide +kernel
theorem dX2_findSignal_99 : decode cX2_findSignal 99 = .ok (.aload_n 0, 1) := by decide +kernel
theorem dX2_findSignal_100 : decode cX2_findSignal 100 = .ok (.getfield 15, 3) := by decide +kernel
theorem dX2_findSignal_103 : decode cX2_findSignal 103 = .ok (.iload_n 2, 1) := by decide +kernel
theorem dX2_findSignal_104 : decode cX2_findSignal 104 = .ok (.iaload, 1) := by decide +kernel
theorem dX2_findSignal_105 : decode cX2_findSignal 105 = .ok (.invokestatic 127, 3) := by decide +kernel
theorem dX2_findSignal_108 : decode cX2_findSignal 108 = .ok (.ifCond .eq 13, 3) := by decide +kernel
theorem dX2_findSignal_111 : decode cX2_findSignal 111 = .ok (.aload_n 0, 1) := by decide +kernel
theorem dX2_findSignal_112 : decode cX2_findSignal 112 = .ok (.dup, 1) := by decide +kernel
theorem dX2_findSignal_113 : decode cX2_findSignal 113 = .ok (.getfield 47, 3) := by decide +kernel
theorem dX2_findSignal_116 : decode cX2_findSignal 116 = .ok (.iconst 1, 1) := by decide +kernel
theorem dX2_findSignal_117 : decode cX2_findSignal 117 = .ok (.iadd, 1) := by decide +kernel
theorem dX2_findSignal_118 : decode cX2_findSignal 118 = .ok (.putfield 47, 3) := by decide +kernel
theorem dX2_findSignal_121 : decode cX2_findSignal 121 = .ok (.aload_n 0, 1) := by decide +kernel
theorem dX2_findSignal_122 : decode cX2_findSignal 122 = .ok (.aload_n 0, 1) := by decide +kernel
theorem dX2_findSignal_123 : decode cX2_findSignal 123 = .ok (.getfield 50, 3) := by decide +kernel
theorem dX2_findSignal_126 : decode cX2_findSignal 126 = .ok (.ifCond .ne 18, 3) := by decide +kernel
theorem dX2_findSignal_129 : decode cX2_findSignal 129 = .ok (.iload 4, 2) := by decide +kernel
theorem dX2_findSignal_131 : decode cX2_findSignal 131 = .ok (.invokestatic 127, 3) := by decide +kernel
theorem dX2_findSignal_134 : decode cX2_findSignal 134 = .ok (.ifCond .ne 10, 3) := by decide +kernel
theorem dX2_findSignal_137 : decode cX2_findSignal 137 = .ok (.iload_n 3, 1) := by decide +kernel
theorem dX2_findSignal_138 : decode cX2_findSignal 138 = .ok (.invokestatic 127, 3) := by decide +kernel
theorem dX2_findSignal_141 : decode cX2_findSignal 141 = .ok (.ifCond .eq 7, 3) := by decide +kernel
theorem dX2_findSignal_144 : decode cX2_findSignal 144 = .ok (.iconst 1, 1) := by decide +kernel
theorem dX2_findSignal_145 : decode cX2_findSignal 145 = .ok (.goto 4, 3) := by decide +kernel
theorem dX2_findSignal_148 : decode cX2_findSignal 148 = .ok (.iconst 0, 1) := by decide +kernel
theorem dX2_findSignal_149 : decode cX2_findSignal 149 = .ok (.putfield 50, 3) := by decide +kernel
theorem dX2_findSignal_152 : decode cX2_findSignal 152 = .ok (.return_, 1) := by decide +kernel
theorem dX2_comesOut_0 : decode cX2_comesOut 0 = .ok (.aload_n 0, 1) := by decide +kernel
theorem dX2_comesOut_1 : decode cX2_comesOut 1 = .ok (.getfield 30, 3) := by decide +kernel
theorem dX2_comesOut_4 : decode cX2_comesOut 4 = .ok (.i2l, 1) := by decide +kernel
theorem dX2_comesOut_5 : decode cX2_comesOut 5 = .ok (.ldc2_w 38, 3) := by decide +kernel
theorem dX2_comesOut_8 : decode cX2_comesOut 8 = .ok (.lmul, 1) := by decide +kernel
theorem dX2_comesOut_9 : decode cX2_comesOut 9 = .ok (.lstore_n 2, 1) := by decide +kernel
theorem dX2_comesOut_10 : decode cX2_comesOut 10 = .ok (.iload_n 1, 1) := by decide +kernel
theorem dX2_comesOut_11 : decode cX2_comesOut 11 = .ok (.i2l, 1) := by decide +kernel
theorem dX2_comesOut_12 : decode cX2_comesOut 12 = .ok (.lload_n 2, 1) := by decide +kernel
theorem dX2_comesOut_13 : decode cX2_comesOut 13 = .ok (.lmul, 1) := by decide +kernel
theorem dX2_comesOut_14 : decode cX2_comesOut 14 = .ok (.lload_n 2, 1) := by decide +kernel
theorem dX2_comesOut_15 : decode cX2_comesOut 15 = .ok (.aload_n 0, 1) := by decide +kernel
theorem dX2_comesOut_16 : decode cX2_comesOut 16 = .ok (.getfield 131, 3) := by decide +kernel
theorem dX2_comesOut_19 : decode cX2_comesOut 19 = .ok (.i2l, 1) := by decide +kernel
theorem dX2_comesOut_20 : decode cX2_comesOut 20 = .ok (.ladd, 1) := by decide +kernel
theorem dX2_comesOut_21 : decode cX2_comesOut 21 = .ok (.invokestatic 40, 3) := by decide +kernel
theorem dX2_comesOut_24 : decode cX2_comesOut 24 = .ok (.l2i, 1) := by decide +kernel
theorem dX2_comesOut_25 : decode cX2_comesOut 25 = .ok (.ireturn, 1) := by decide +kernel
theorem dX2_limited_0 : decode cX2_limited 0 = .ok (.sipush (-30000), 3) := by decide +kernel
theorem dX2_limited_3 : decode cX2_limited 3 = .ok (.sipush 30000, 3) := by decide +kernel
theorem dX2_limited_6 : decode cX2_limited 6 = .ok (.iload_n 0, 1) := by decide +kernel
theorem dX2_limited_7 : decode cX2_limited 7 = .ok (.invokestatic 134, 3) := by decide +kernel
theorem dX2_limited_10 : decode cX2_limited 10 = .ok (.invokestatic 140, 3) := by decide +kernel
theorem dX2_limited_13 : decode cX2_limited 13 = .ok (.ireturn, 1) := by decide +kernel
theorem dX2_isBeyond_0 : decode cX2_isBeyond 0 = .ok (.iload_n 0, 1) := by decide +kernel
theorem dX2_isBeyond_1 : decode cX2_isBeyond 1 = .ok (.sipush 30000, 3) := by decide +kernel
theorem dX2_isBeyond_4 : decode cX2_isBeyond 4 = .ok (.invokestatic 143, 3) := by decide +kernel
theorem dX2_isBeyond_7 : decode cX2_isBeyond 7 = .ok (.ifCond .ne 7, 3) := by decide +kernel
theorem dX2_isBeyond_10 : decode cX2_isBeyond 10 = .ok (.iconst 1, 1) := by decide +kernel
theorem dX2_isBeyond_11 : decode cX2_isBeyond 11 = .ok (.goto 4, 3) := by decide +kernel
theorem dX2_isBeyond_14 : decode cX2_isBeyond 14 = .ok (.iconst 0, 1) := by decide +kernel
theorem dX2_isBeyond_15 : decode cX2_isBeyond 15 = .ok (.ireturn, 1) := by decide +kernel
theorem dX2_findRightNumbers_0 : decode cX2_findRightNumbers 0 = .ok (.aload_n 0, 1) := by decide +kernel
theorem dX2_findRightNumbers_1 : decode cX2_findRightNumbers 1 = .ok (.aload_n 0, 1) := by decide +kernel
theorem dX2_findRightNumbers_2 : decode cX2_findRightNumbers 2 = .ok (.getfield 27, 3) := by decide +kernel
theorem dX2_findRightNumbers_5 : decode cX2_findRightNumbers 5 = .ok (.iconst 0, 1) := by decide +kernel
theorem dX2_findRightNumbers_6 : decode cX2_findRightNumbers 6 = .ok (.iaload, 1) := by decide +kernel
theorem dX2_findRightNumbers_7 : decode cX2_findRightNumbers 7 = .ok (.putfield 92, 3) := by decide +kernel
theorem dX2_findRightNumbers_10 : decode cX2_findRightNumbers 10 = .ok (.aload_n 0, 1) := by decide +kernel
theorem dX2_findRightNumbers_11 : decode cX2_findRightNumbers 11 = .ok (.aload_n 0, 1) := by decide +kernel
theorem dX2_findRightNumbers_12 : decode cX2_findRightNumbers 12 = .ok (.getfield 27, 3) := by decide +kernel
theorem dX2_findRightNumbers_15 : decode cX2_findRightNumbers 15 = .ok (.iconst 2, 1) := by decide +kernel
theorem dX2_findRightNumbers_16 : decode cX2_findRightNumbers 16 = .ok (.iaload, 1) := by decide +kernel
theorem dX2_findRightNumbers_17 : decode cX2_findRightNumbers 17 = .ok (.putfield 95, 3) := by decide +kernel
theorem dX2_findRightNumbers_20 : decode cX2_findRightNumbers 20 = .ok (.aload_n 0, 1) := by decide +kernel
theorem dX2_findRightNumbers_21 : decode cX2_findRightNumbers 21 = .ok (.iconst 2, 1) := by decide +kernel
theorem dX2_findRightNumbers_22 : decode cX2_findRightNumbers 22 = .ok (.aload_n 0, 1) := by decide +kernel
theorem dX2_findRightNumbers_23 : decode cX2_findRightNumbers 23 = .ok (.getfield 27, 3) := by decide +kernel
theorem dX2_findRightNumbers_26 : decode cX2_findRightNumbers 26 = .ok (.iconst 1, 1) := by decide +kernel
theorem dX2_findRightNumbers_27 : decode cX2_findRightNumbers 27 = .ok (.iaload, 1) := by decide +kernel
theorem dX2_findRightNumbers_28 : decode cX2_findRightNumbers 28 = .ok (.imul, 1) := by decide +kernel
theorem dX2_findRightNumbers_29 : decode cX2_findRightNumbers 29 = .ok (.aload_n 0, 1) := by decide +kernel
theorem dX2_findRightNumbers_30 : decode cX2_findRightNumbers 30 = .ok (.getfield 27, 3) := by decide +kernel
theorem dX2_findRightNumbers_33 : decode cX2_findRightNumbers 33 = .ok (.iconst 0, 1) := by decide +kernel
theorem dX2_findRightNumbers_34 : decode cX2_findRightNumbers 34 = .ok (.iaload, 1) := by decide +kernel
theorem dX2_findRightNumbers_35 : decode cX2_findRightNumbers 35 = .ok (.isub, 1) := by decide +kernel
theorem dX2_findRightNumbers_36 : decode cX2_findRightNumbers 36 = .ok (.aload_n 0, 1) := by decide +kernel
theorem dX2_findRightNumbers_37 : decode cX2_findRightNumbers 37 = .ok (.getfield 27, 3) := by decide +kernel
theorem dX2_findRightNumbers_40 : decode cX2_findRightNumbers 40 = .ok (.iconst 2, 1) := by decide +kernel
theorem dX2_findRightNumbers_41 : decode cX2_findRightNumbers 41 = .ok (.iaload, 1) := by decide +kernel
theorem dX2_findRightNumbers_42 : decode cX2_findRightNumbers 42 = .ok (.isub, 1) := by decide +kernel
theorem dX2_findRightNumbers_43 : decode cX2_findRightNumbers 43 = .ok (.putfield 101, 3) := by decide +kernel
theorem dX2_findRightNumbers_46 : decode cX2_findRightNumbers 46 = .ok (.return_, 1) := by decide +kernel
theorem dX2_findDeltaNumbers_0 : decode cX2_findDeltaNumbers 0 = .ok (.aload_n 0, 1) := by decide +kernel
theorem dX2_findDeltaNumbers_1 : decode cX2_findDeltaNumbers 1 = .ok (.aload_n 0, 1) := by decide +kernel
theorem dX2_findDeltaNumbers_2 : decode cX2_findDeltaNumbers 2 = .ok (.getfield 27, 3) := by decide +kernel
theorem dX2_findDeltaNumbers_5 : decode cX2_findDeltaNumbers 5 = .ok (.iconst 0, 1) := by decide +kernel
theorem dX2_findDeltaNumbers_6 : decode cX2_findDeltaNumbers 6 = .ok (.iaload, 1) := by decide +kernel
theorem dX2_findDeltaNumbers_7 : decode cX2_findDeltaNumbers 7 = .ok (.putfield 92, 3) := by decide +kernel
theorem dX2_findDeltaNumbers_10 : decode cX2_findDeltaNumbers 10 = .ok (.aload_n 0, 1) := by decide +kernel
theorem dX2_findDeltaNumbers_11 : decode cX2_findDeltaNumbers 11 = .ok (.iconst 2, 1) := by decide +kernel
theorem dX2_findDeltaNumbers_12 : decode cX2_findDeltaNumbers 12 = .ok (.aload_n 0, 1) := by decide +kernel
theorem dX2_findDeltaNumbers_13 : decode cX2_findDeltaNumbers 13 = .ok (.getfield 27, 3) := by decide +kernel
theorem dX2_findDeltaNumbers_16 : decode cX2_findDeltaNumbers 16 = .ok (.iconst 1, 1) := by decide +kernel
theorem dX2_findDeltaNumbers_17 : decode cX2_findDeltaNumbers 17 = .ok (.iaload, 1) := by decide +kernel
theorem dX2_findDeltaNumbers_18 : decode cX2_findDeltaNumbers 18 = .ok (.imul, 1) := by decide +kernel
theorem dX2_findDeltaNumbers_19 : decode cX2_findDeltaNumbers 19 = .ok (.iconst 2, 1) := by decide +kernel
theorem dX2_findDeltaNumbers_20 : decode cX2_findDeltaNumbers 20 = .ok (.aload_n 0, 1) := by decide +kernel
theorem dX2_findDeltaNumbers_21 : decode cX2_findDeltaNumbers 21 = .ok (.getfield 27, 3) := by decide +kernel
theorem dX2_findDeltaNumbers_24 : decode cX2_findDeltaNumbers 24 = .ok (.iconst 2, 1) := by decide +kernel
theorem dX2_findDeltaNumbers_25 : decode cX2_findDeltaNumbers 25 = .ok (.iaload, 1) := by decide +kernel
theorem dX2_findDeltaNumbers_26 : decode cX2_findDeltaNumbers 26 = .ok (.imul, 1) := by decide +kernel
theorem dX2_findDeltaNumbers_27 : decode cX2_findDeltaNumbers 27 = .ok (.iadd, 1) := by decide +kernel
theorem dX2_findDeltaNumbers_28 : decode cX2_findDeltaNumbers 28 = .ok (.aload_n 0, 1) := by decide +kernel
theorem dX2_findDeltaNumbers_29 : decode cX2_findDeltaNumbers 29 = .ok (.getfield 27, 3) := by decide +kernel
theorem dX2_findDeltaNumbers_32 : decode cX2_findDeltaNumbers 32 = .ok (.iconst 0, 1) := by decide +kernel
theorem dX2_findDeltaNumbers_33 : decode cX2_findDeltaNumbers 33 = .ok (.iaload, 1) := by decide +kernel
theorem dX2_findDeltaNumbers_34 : decode cX2_findDeltaNumbers 34 = .ok (.isub, 1) := by decide +kernel
theorem dX2_findDeltaNumbers_35 : decode cX2_findDeltaNumbers 35 = .ok (.iconst 3, 1) := by decide +kernel
theorem dX2_findDeltaNumbers_36 : decode cX2_findDeltaNumbers 36 = .ok (.idiv, 1) := by decide +kernel
theorem dX2_findDeltaNumbers_37 : decode cX2_findDeltaNumbers 37 = .ok (.putfield 95, 3) := by decide +kernel
theorem dX2_findDeltaNumbers_40 : decode cX2_findDeltaNumbers 40 = .ok (.aload_n 0, 1) := by decide +kernel
theorem dX2_findDeltaNumbers_41 : decode cX2_findDeltaNumbers 41 = .ok (.aload_n 0, 1) := by decide +kernel
theorem dX2_findDeltaNumbers_42 : decode cX2_findDeltaNumbers 42 = .ok (.getfield 27, 3) := by decide +kernel
theorem dX2_findDeltaNumbers_45 : decode cX2_findDeltaNumbers 45 = .ok (.iconst 1, 1) := by decide +kernel
theorem dX2_findDeltaNumbers_46 : decode cX2_findDeltaNumbers 46 = .ok (.iaload, 1) := by decide +kernel
theorem dX2_findDeltaNumbers_47 : decode cX2_findDeltaNumbers 47 = .ok (.aload_n 0, 1) := by decide +kernel
theorem dX2_findDeltaNumbers_48 : decode cX2_findDeltaNumbers 48 = .ok (.getfield 27, 3) := by decide +kernel
theorem dX2_findDeltaNumbers_51 : decode cX2_findDeltaNumbers 51 = .ok (.iconst 2, 1) := by decide +kernel
theorem dX2_findDeltaNumbers_52 : decode cX2_findDeltaNumbers 52 = .ok (.iaload, 1) := by decide +kernel
theorem dX2_findDeltaNumbers_53 : decode cX2_findDeltaNumbers 53 = .ok (.isub, 1) := by decide +kernel
theorem dX2_findDeltaNumbers_54 : decode cX2_findDeltaNumbers 54 = .ok (.i2l, 1) := by decide +kernel
theorem dX2_findDeltaNumbers_55 : decode cX2_findDeltaNumbers 55 = .ok (.ldc2_w 147, 3) := by decide +kernel
theorem dX2_findDeltaNumbers_58 : decode cX2_findDeltaNumbers 58 = .ok (.lmul, 1) := by decide +kernel
theorem dX2_findDeltaNumbers_59 : decode cX2_findDeltaNumbers 59 = .ok (.ldc2_w 149, 3) := by decide +kernel
theorem dX2_findDeltaNumbers_62 : decode cX2_findDeltaNumbers 62 = .ok (.ldiv, 1) := by decide +kernel
theorem dX2_findDeltaNumbers_63 : decode cX2_findDeltaNumbers 63 = .ok (.l2i, 1) := by decide +kernel
theorem dX2_findDeltaNumbers_64 : decode cX2_findDeltaNumbers 64 = .ok (.putfield 101, 3) := by decide +kernel
theorem dX2_findDeltaNumbers_67 : decode cX2_findDeltaNumbers 67 = .ok (.return_, 1) := by decide +kernel
theorem dX2_findPrincipal_0 : decode cX2_findPrincipal 0 = .ok (.aload_n 0, 1) := by decide +kernel
theorem dX2_findPrincipal_1 : decode cX2_findPrincipal 1 = .ok (.aload_n 0, 1) := by decide +kernel
theorem dX2_findPrincipal_2 : decode cX2_findPrincipal 2 = .ok (.getfield 92, 3) := by decide +kernel
theorem dX2_findPrincipal_5 : decode cX2_findPrincipal 5 = .ok (.aload_n 0, 1) := by decide +kernel
theorem dX2_findPrincipal_6 : decode cX2_findPrincipal 6 = .ok (.getfield 95, 3) := by decide +kernel
theorem dX2_findPrincipal_9 : decode cX2_findPrincipal 9 = .ok (.iadd, 1) := by decide +kernel
theorem dX2_findPrincipal_10 : decode cX2_findPrincipal 10 = .ok (.iconst 2, 1) := by decide +kernel
theorem dX2_findPrincipal_11 : decode cX2_findPrincipal 11 = .ok (.idiv, 1) := by decide +kernel
theorem dX2_findPrincipal_12 : decode cX2_findPrincipal 12 = .ok (.putfield 151, 3) := by decide +kernel
theorem dX2_findPrincipal_15 : decode cX2_findPrincipal 15 = .ok (.aload_n 0, 1) := by decide +kernel
theorem dX2_findPrincipal_16 : decode cX2_findPrincipal 16 = .ok (.iconst 0, 1) := by decide +kernel
theorem dX2_findPrincipal_17 : decode cX2_findPrincipal 17 = .ok (.putfield 154, 3) := by decide +kernel
theorem dX2_findPrincipal_20 : decode cX2_findPrincipal 20 = .ok (.aload_n 0, 1) := by decide +kernel
theorem dX2_findPrincipal_21 : decode cX2_findPrincipal 21 = .ok (.iconst 0, 1) := by decide +kernel
theorem dX2_findPrincipal_22 : decode cX2_findPrincipal 22 = .ok (.invokevirtual 157, 3) := by decide +kernel
theorem dX2_findPrincipal_25 : decode cX2_findPrincipal 25 = .ok (.lstore_n 1, 1) := by decide +kernel
theorem dX2_findPrincipal_26 : decode cX2_findPrincipal 26 = .ok (.iconst 1, 1) := by decide +kernel
theorem dX2_findPrincipal_27 : decode cX2_findPrincipal 27 = .ok (.istore_n 3, 1) := by decide +kernel
theorem dX2_findPrincipal_28 : decode cX2_findPrincipal 28 = .ok (.iload_n 3, 1) := by decide +kernel
theorem dX2_findPrincipal_29 : decode cX2_findPrincipal 29 = .ok (.bipush 24, 2) := by decide +kernel
theorem dX2_findPrincipal_31 : decode cX2_findPrincipal 31 = .ok (.if_icmp .ge 31, 3) := by decide +kernel
theorem dX2_findPrincipal_34 : decode cX2_findPrincipal 34 = .ok (.aload_n 0, 1) := by decide +kernel
theorem dX2_findPrincipal_35 : decode cX2_findPrincipal 35 = .ok (.iload_n 3, 1) := by decide +kernel
theorem dX2_findPrincipal_36 : decode cX2_findPrincipal 36 = .ok (.invokevirtual 157, 3) := by decide +kernel
theorem dX2_findPrincipal_39 : decode cX2_findPrincipal 39 = .ok (.lstore 4, 2) := by decide +kernel
theorem dX2_findPrincipal_41 : decode cX2_findPrincipal 41 = .ok (.lload 4, 2) := by decide +kernel
theorem dX2_findPrincipal_43 : decode cX2_findPrincipal 43 = .ok (.lload_n 1, 1) := by decide +kernel
theorem dX2_findPrincipal_44 : decode cX2_findPrincipal 44 = .ok (.lcmp, 1) := by decide +kernel
theorem dX2_findPrincipal_45 : decode cX2_findPrincipal 45 = .ok (.ifCond .le 11, 3) := by decide +kernel
theorem dX2_findPrincipal_48 : decode cX2_findPrincipal 48 = .ok (.aload_n 0, 1) := by decide +kernel
theorem dX2_findPrincipal_49 : decode cX2_findPrincipal 49 = .ok (.iload_n 3, 1) := by decide +kernel
theorem dX2_findPrincipal_50 : decode cX2_findPrincipal 50 = .ok (.putfield 154, 3) := by decide +kernel
theorem dX2_findPrincipal_53 : decode cX2_findPrincipal 53 = .ok (.lload 4, 2) := by decide +kernel
theorem dX2_findPrincipal_55 : decode cX2_findPrincipal 55 = .ok (.lstore_n 1, 1) := by decide +kernel
theorem dX2_findPrincipal_56 : decode cX2_findPrincipal 56 = .ok (.iinc 3 1, 3) := by decide +kernel
theorem dX2_findPrincipal_59 : decode cX2_findPrincipal 59 = .ok (.goto (-31), 3) := by decide +kernel
theorem dX2_findPrincipal_62 : decode cX2_findPrincipal 62 = .ok (.aload_n 0, 1) := by decide +kernel
theorem dX2_findPrincipal_63 : decode cX2_findPrincipal 63 = .ok (.lload_n 1, 1) := by decide +kernel
theorem dX2_findPrincipal_64 : decode cX2_findPrincipal 64 = .ok (.ldc2_w 161, 3) := by decide +kernel
theorem dX2_findPrincipal_67 : decode cX2_findPrincipal 67 = .ok (.ldiv, 1) := by decide +kernel
theorem dX2_findPrincipal_68 : decode cX2_findPrincipal 68 = .ok (.l2i, 1) := by decide +kernel
theorem dX2_findPrincipal_69 : decode cX2_findPrincipal 69 = .ok (.putfield 163, 3) := by decide +kernel
theorem dX2_findPrincipal_72 : decode cX2_findPrincipal 72 = .ok (.return_, 1) := by decide +kernel
theorem dX3_init_0 : decode cX3_init 0 = .ok (.aload_n 0, 1) := by decide +kernel
theorem dX3_init_1 : decode cX3_init 1 = .ok (.invokespecial 3, 3) := by decide +kernel
theorem dX3_init_4 : decode cX3_init 4 = .ok (.aload_n 0, 1) := by decide +kernel
theorem dX3_init_5 : decode cX3_init 5 = .ok (.bipush 20, 2) := by decide +kernel
theorem dX3_init_7 : decode cX3_init 7 = .ok (.newarray .boolean, 2) := by decide +kernel
theorem dX3_init_9 : decode cX3_init 9 = .ok (.putfield 9, 3) := by decide +kernel
theorem dX3_init_12 : decode cX3_init 12 = .ok (.return_, 1) := by decide +kernel
theorem dX3_begin_0 : decode cX3_begin 0 = .ok (.iconst 0, 1) := by decide +kernel
theorem dX3_begin_1 : decode cX3_begin 1 = .ok (.istore_n 2, 1) := by decide +kernel
theorem dX3_begin_2 : decode cX3_begin 2 = .ok (.iload_n 2, 1) := by decide +kernel
theorem dX3_begin_3 : decode cX3_begin 3 = .ok (.bipush 20, 2) := by decide +kernel
theorem dX3_begin_5 : decode cX3_begin 5 = .ok (.if_icmp .ge 16, 3) := by decide +kernel
theorem dX3_begin_8 : decode cX3_begin 8 = .ok (.aload_n 0, 1) := by decide +kernel
theorem dX3_begin_9 : decode cX3_begin 9 = .ok (.getfield 9, 3) := by decide +kernel
theorem dX3_begin_12 : decode cX3_begin 12 = .ok (.iload_n 2, 1) := by decide +kernel
theorem dX3_begin_13 : decode cX3_begin 13 = .ok (.iconst 0, 1) := by decide +kernel
theorem dX3_begin_14 : decode cX3_begin 14 = .ok (.bastore, 1) := by decide +kernel
theorem dX3_begin_15 : decode cX3_begin 15 = .ok (.iinc 2 1, 3) := by decide +kernel
theorem dX3_begin_18 : decode cX3_begin 18 = .ok (.goto (-16), 3) := by decide +kernel
theorem dX3_begin_21 : decode cX3_begin 21 = .ok (.aload_n 0, 1) := by decide +kernel
theorem dX3_begin_22 : decode cX3_begin 22 = .ok (.iconst (-1), 1) := by decide +kernel
theorem dX3_begin_23 : decode cX3_begin 23 = .ok (.putfield 15, 3) := by decide +kernel
theorem dX3_begin_26 : decode cX3_begin 26 = .ok (.aload_n 0, 1) := by decide +kernel
theorem dX3_begin_27 : decode cX3_begin 27 = .ok (.aload_n 1, 1) := by decide +kernel
theorem dX3_begin_28 : decode cX3_begin 28 = .ok (.getfield 19, 3) := by decide +kernel
theorem dX3_begin_31 : decode cX3_begin 31 = .ok (.putfield 24, 3) := by decide +kernel
theorem dX3_begin_34 : decode cX3_begin 34 = .ok (.aload_n 0, 1) := by decide +kernel
theorem dX3_begin_35 : decode cX3_begin 35 = .ok (.iconst 0, 1) := by decide +kernel
theorem dX3_begin_36 : decode cX3_begin 36 = .ok (.putfield 25, 3) := by decide +kernel
theorem dX3_begin_39 : decode cX3_begin 39 = .ok (.return_, 1) := by decide +kernel
theorem dX3_goOn_0 : decode cX3_goOn 0 = .ok (.aload_n 0, 1) := by decide +kernel
theorem dX3_goOn_1 : decode cX3_goOn 1 = .ok (.iconst (-1), 1) := by decide +kernel
theorem dX3_goOn_2 : decode cX3_goOn 2 = .ok (.putfield 15, 3) := by decide +kernel
theorem dX3_goOn_5 : decode cX3_goOn 5 = .ok (.iconst 0, 1) := by decide +kernel
theorem dX3_goOn_6 : decode cX3_goOn 6 = .ok (.istore_n 2, 1) := by decide +kernel
theorem dX3_goOn_7 : decode cX3_goOn 7 = .ok (.iload_n 2, 1) := by decide +kernel
theorem dX3_goOn_8 : decode cX3_goOn 8 = .ok (.aload_n 1, 1) := by decide +kernel
theorem dX3_goOn_9 : decode cX3_goOn 9 = .ok (.getfield 28, 3) := by decide +kernel
theorem dX3_goOn_12 : decode cX3_goOn 12 = .ok (.getfield 32, 3) := by decide +kernel
theorem dX3_goOn_15 : decode cX3_goOn 15 = .ok (.if_icmp .ge 49, 3) := by decide +kernel
theorem dX3_goOn_18 : decode cX3_goOn 18 = .ok (.iload_n 2, 1) := by decide +kernel
theorem dX3_goOn_19 : decode cX3_goOn 19 = .ok (.bipush 20, 2) := by decide +kernel
theorem dX3_goOn_21 : decode cX3_goOn 21 = .ok (.if_icmp .ge 43, 3) := by decide +kernel
theorem dX3_goOn_24 : decode cX3_goOn 24 = .ok (.aload_n 0, 1) := by decide +kernel
theorem dX3_goOn_25 : decode cX3_goOn 25 = .ok (.getfield 9, 3) := by decide +kernel
theorem dX3_goOn_28 : decode cX3_goOn 28 = .ok (.iload_n 2, 1) := by decide +kernel
theorem dX3_goOn_29 : decode cX3_goOn 29 = .ok (.baload, 1) := by decide +kernel
theorem dX3_goOn_30 : decode cX3_goOn 30 = .ok (.ifCond .ne 28, 3) := by decide +kernel
theorem dX3_goOn_33 : decode cX3_goOn 33 = .ok (.aload_n 0, 1) := by decide +kernel
theorem dX3_goOn_34 : decode cX3_goOn 34 = .ok (.getfield 15, 3) := by decide +kernel
theorem dX3_goOn_37 : decode cX3_goOn 37 = .ok (.ifCond .lt 16, 3) := by decide +kernel
theorem dX3_goOn_40 : decode cX3_goOn 40 = .ok (.aload_n 0, 1) := by decide +kernel
theorem dX3_goOn_41 : decode cX3_goOn 41 = .ok (.aload_n 1, 1) := by decide +kernel
theorem dX3_goOn_42 : decode cX3_goOn 42 = .ok (.iload_n 2, 1) := by decide +kernel
theorem dX3_goOn_43 : decode cX3_goOn 43 = .ok (.aload_n 0, 1) := by decide +kernel
theorem dX3_goOn_44 : decode cX3_goOn 44 = .ok (.getfield 15, 3) := by decide +kernel
theorem dX3_goOn_47 : decode cX3_goOn 47 = .ok (.invokevirtual 37, 3) := by decide +kernel
theorem dX3_goOn_50 : decode cX3_goOn 50 = .ok (.ifCond .eq 8, 3) := by decide +kernel
theorem dX3_goOn_53 : decode cX3_goOn 53 = .ok (.aload_n 0, 1) := by decide +kernel
theorem dX3_goOn_54 : decode cX3_goOn 54 = .ok (.iload_n 2, 1) := by decide +kernel
theorem dX3_goOn_55 : decode cX3_goOn 55 = .ok (.putfield 15, 3) := by decide +kernel
theorem dX3_goOn_58 : decode cX3_goOn 58 = .ok (.iinc 2 1, 3) := by decide +kernel
theorem dX3_goOn_61 : decode cX3_goOn 61 = .ok (.goto (-54), 3) := by decide +kernel
theorem dX3_goOn_64 : decode cX3_goOn 64 = .ok (.aload_n 0, 1) := by decide +kernel
theorem dX3_goOn_65 : decode cX3_goOn 65 = .ok (.getfield 15, 3) := by decide +kernel
theorem dX3_goOn_68 : decode cX3_goOn 68 = .ok (.ifCond .lt 53, 3) := by decide +kernel
theorem dX3_goOn_71 : decode cX3_goOn 71 = .ok (.aload_n 0, 1) := by decide +kernel
theorem dX3_goOn_72 : decode cX3_goOn 72 = .ok (.getfield 9, 3) := by decide +kernel
theorem dX3_goOn_75 : decode cX3_goOn 75 = .ok (.aload_n 0, 1) := by decide +kernel
theorem dX3_goOn_76 : decode cX3_goOn 76 = .ok (.getfield 15, 3) := by decide +kernel
theorem dX3_goOn_79 : decode cX3_goOn 79 = .ok (.iconst 1, 1) := by decide +kernel
theorem dX3_goOn_80 : decode cX3_goOn 80 = .ok (.bastore, 1) := by decide +kernel
theorem dX3_goOn_81 : decode cX3_goOn 81 = .ok (.aload_n 1, 1) := by decide +kernel
theorem dX3_goOn_82 : decode cX3_goOn 82 = .ok (.aload_n 1, 1) := by decide +kernel
theorem dX3_goOn_83 : decode cX3_goOn 83 = .ok (.getfield 28, 3) := by decide +kernel
theorem dX3_goOn_86 : decode cX3_goOn 86 = .ok (.aload_n 0, 1) := by decide +kernel
theorem dX3_goOn_87 : decode cX3_goOn 87 = .ok (.getfield 15, 3) := by decide +kernel
theorem dX3_goOn_90 : decode cX3_goOn 90 = .ok (.iconst 2, 1) := by decide +kernel
theorem dX3_goOn_91 : decode cX3_goOn 91 = .ok (.invokevirtual 41, 3) := by decide +kernel
theorem dX3_goOn_94 : decode cX3_goOn 94 = .ok (.invokevirtual 45, 3) := by decide +kernel
theorem dX3_goOn_97 : decode cX3_goOn 97 = .ok (.istore_n 2, 1) := by decide +kernel
theorem dX3_goOn_98 : decode cX3_goOn 98 = .ok (.aload_n 0, 1) := by decide +kernel
theorem dX3_goOn_99 : decode cX3_goOn 99 = .ok (.dup, 1) := by decide +kernel
theorem dX3_goOn_100 : decode cX3_goOn 100 = .ok (.getfield 25, 3) := by decide +kernel
theorem dX3_goOn_103 : decode cX3_goOn 103 = .ok (.iload_n 2, 1) := by decide +kernel
theorem dX3_goOn_104 : decode cX3_goOn 104 = .ok (.aload_n 0, 1) := by decide +kernel
theorem dX3_goOn_105 : decode cX3_goOn 105 = .ok (.getfield 24, 3) := by decide +kernel
theorem dX3_goOn_108 : decode cX3_goOn 108 = .ok (.isub, 1) := by decide +kernel
theorem dX3_goOn_109 : decode cX3_goOn 109 = .ok (.invokestatic 49, 3) := by decide +kernel
theorem dX3_goOn_112 : decode cX3_goOn 112 = .ok (.iadd, 1) := by decide +kernel
theorem dX3_goOn_113 : decode cX3_goOn 113 = .ok (.putfield 25, 3) := by decide +kernel
theorem dX3_goOn_116 : decode cX3_goOn 116 = .ok (.aload_n 0, 1) := by decide +kernel
theorem dX3_goOn_117 : decode cX3_goOn 117 = .ok (.iload_n 2, 1) := by decide +kernel
theorem dX3_goOn_118 : decode cX3_goOn 118 = .ok (.putfield 24, 3) := by decide +kernel
theorem dX3_goOn_121 : decode cX3_goOn 121 = .ok (.return_, 1) := by decide +kernel
theorem dX3_isAhead_0 : decode cX3_isAhead 0 = .ok (.aload_n 1, 1) := by decide +kernel
theorem dX3_isAhead_1 : decode cX3_isAhead 1 = .ok (.getfield 28, 3) := by decide +kernel
theorem dX3_isAhead_4 : decode cX3_isAhead 4 = .ok (.astore 4, 2) := by decide +kernel
theorem dX3_isAhead_6 : decode cX3_isAhead 6 = .ok (.aload 4, 2) := by decide +kernel
theorem dX3_isAhead_8 : decode cX3_isAhead 8 = .ok (.iload_n 2, 1) := by decide +kernel
theorem dX3_isAhead_9 : decode cX3_isAhead 9 = .ok (.iconst 3, 1) := by decide +kernel
theorem dX3_isAhead_10 : decode cX3_isAhead 10 = .ok (.invokevirtual 41, 3) := by decide +kernel
theorem dX3_isAhead_13 : decode cX3_isAhead 13 = .ok (.aload 4, 2) := by decide +kernel
theorem dX3_isAhead_15 : decode cX3_isAhead 15 = .ok (.iload_n 3, 1) := by decide +kernel
theorem dX3_isAhead_16 : decode cX3_isAhead 16 = .ok (.iconst 3, 1) := by decide +kernel
theorem dX3_isAhead_17 : decode cX3_isAhead 17 = .ok (.invokevirtual 41, 3) := by decide +kernel
theorem dX3_isAhead_20 : decode cX3_isAhead 20 = .ok (.isub, 1) := by decide +kernel
theorem dX3_isAhead_21 : decode cX3_isAhead 21 = .ok (.istore 5, 2) := by decide +kernel
theorem dX3_isAhead_23 : decode cX3_isAhead 23 = .ok (.iload 5, 2) := by decide +kernel
theorem dX3_isAhead_25 : decode cX3_isAhead 25 = .ok (.ifCond .eq 14, 3) := by decide +kernel
theorem dX3_isAhead_28 : decode cX3_isAhead 28 = .ok (.iload 5, 2) := by decide +kernel
theorem dX3_isAhead_30 : decode cX3_isAhead 30 = .ok (.ifCond .le 7, 3) := by decide +kernel
theorem dX3_isAhead_33 : decode cX3_isAhead 33 = .ok (.iconst 1, 1) := by decide +kernel
theorem dX3_isAhead_34 : decode cX3_isAhead 34 = .ok (.goto 4, 3) := by decide +kernel
theorem dX3_isAhead_37 : decode cX3_isAhead 37 = .ok (.iconst 0, 1) := by decide +kernel
theorem dX3_isAhead_38 : decode cX3_isAhead 38 = .ok (.ireturn, 1) := by decide +kernel
theorem dX3_isAhead_39 : decode cX3_isAhead 39 = .ok (.aload_n 0, 1) := by decide +kernel
theorem dX3_isAhead_40 : decode cX3_isAhead 40 = .ok (.aload_n 1, 1) := by decide +kernel
theorem dX3_isAhead_41 : decode cX3_isAhead 41 = .ok (.iload_n 2, 1) := by decide +kernel
theorem dX3_isAhead_42 : decode cX3_isAhead 42 = .ok (.invokevirtual 54, 3) := by decide +kernel
theorem dX3_isAhead_45 : decode cX3_isAhead 45 = .ok (.aload_n 0, 1) := by decide +kernel
theorem dX3_isAhead_46 : decode cX3_isAhead 46 = .ok (.aload_n 1, 1) := by decide +kernel
theorem dX3_isAhead_47 : decode cX3_isAhead 47 = .ok (.iload_n 3, 1) := by decide +kernel
theorem dX3_isAhead_48 : decode cX3_isAhead 48 = .ok (.invokevirtual 54, 3) := by decide +kernel
theorem dX3_isAhead_51 : decode cX3_isAhead 51 = .ok (.isub, 1) := by decide +kernel
theorem dX3_isAhead_52 : decode cX3_isAhead 52 = .ok (.istore 6, 2) := by decide +kernel
theorem dX3_isAhead_54 : decode cX3_isAhead 54 = .ok (.iload 6, 2) := by decide +kernel
theorem dX3_isAhead_56 : decode cX3_isAhead 56 = .ok (.ifCond .eq 14, 3) := by decide +kernel
theorem dX3_isAhead_59 : decode cX3_isAhead 59 = .ok (.iload 6, 2) := by decide +kernel
theorem dX3_isAhead_61 : decode cX3_isAhead 61 = .ok (.ifCond .ge 7, 3) := by decide +kernel
theorem dX3_isAhead_64 : decode cX3_isAhead 64 = .ok (.iconst 1, 1) := by decide +kernel
theorem dX3_isAhead_65 : decode cX3_isAhead 65 = .ok (.goto 4, 3) := by decide +kernel
theorem dX3_isAhead_68 : decode cX3_isAhead 68 = .ok (.iconst 0, 1) := by decide +kernel
theorem dX3_isAhead_69 : decode cX3_isAhead 69 = .ok (.ireturn, 1) := by decide +kernel
theorem dX3_isAhead_70 : decode cX3_isAhead 70 = .ok (.aload 4, 2) := by decide +kernel
theorem dX3_isAhead_72 : decode cX3_isAhead 72 = .ok (.iload_n 2, 1) := by decide +kernel
theorem dX3_isAhead_73 : decode cX3_isAhead 73 = .ok (.iconst 0, 1) := by decide +kernel
theorem dX3_isAhead_74 : decode cX3_isAhead 74 = .ok (.invokevirtual 41, 3) := by decide +kernel
theorem dX3_isAhead_77 : decode cX3_isAhead 77 = .ok (.aload 4, 2) := by decide +kernel
theorem dX3_isAhead_79 : decode cX3_isAhead 79 = .ok (.iload_n 3, 1) := by decide +kernel
theorem dX3_isAhead_80 : decode cX3_isAhead 80 = .ok (.iconst 0, 1) := by decide +kernel
theorem dX3_isAhead_81 : decode cX3_isAhead 81 = .ok (.invokevirtual 41, 3) := by decide +kernel
theorem dX3_isAhead_84 : decode cX3_isAhead 84 = .ok (.if_icmp .ge 7, 3) := by decide +kernel
theorem dX3_isAhead_87 : decode cX3_isAhead 87 = .ok (.iconst 1, 1) := by decide +kernel
theorem dX3_isAhead_88 : decode cX3_isAhead 88 = .ok (.goto 4, 3) := by decide +kernel
theorem dX3_isAhead_91 : decode cX3_isAhead 91 = .ok (.iconst 0, 1) := by decide +kernel
theorem dX3_isAhead_92 : decode cX3_isAhead 92 = .ok (.ireturn, 1) := by decide +kernel
theorem dX3_distance_0 : decode cX3_distance 0 = .ok (.aload_n 1, 1) := by decide +kernel
theorem dX3_distance_1 : decode cX3_distance 1 = .ok (.aload_n 1, 1) := by decide +kernel
theorem dX3_distance_2 : decode cX3_distance 2 = .ok (.getfield 28, 3) := by decide +kernel
theorem dX3_distance_5 : decode cX3_distance 5 = .ok (.iload_n 2, 1) := by decide +kernel
theorem dX3_distance_6 : decode cX3_distance 6 = .ok (.iconst 2, 1) := by decide +kernel
theorem dX3_distance_7 : decode cX3_distance 7 = .ok (.invokevirtual 41, 3) := by decide +kernel
theorem dX3_distance_10 : decode cX3_distance 10 = .ok (.invokevirtual 45, 3) := by decide +kernel
theorem dX3_distance_13 : decode cX3_distance 13 = .ok (.aload_n 0, 1) := by decide +kernel
theorem dX3_distance_14 : decode cX3_distance 14 = .ok (.getfield 24, 3) := by decide +kernel
theorem dX3_distance_17 : decode cX3_distance 17 = .ok (.isub, 1) := by decide +kernel
theorem dX3_distance_18 : decode cX3_distance 18 = .ok (.invokestatic 49, 3) := by decide +kernel
theorem dX3_distance_21 : decode cX3_distance 21 = .ok (.ireturn, 1) := by decide +kernel
theorem dX4_init_0 : decode cX4_init 0 = .ok (.aload_n 0, 1) := by decide +kernel
theorem dX4_init_1 : decode cX4_init 1 = .ok (.invokespecial 3, 3) := by decide +kernel
theorem dX4_init_4 : decode cX4_init 4 = .ok (.aload_n 0, 1) := by decide +kernel
theorem dX4_init_5 : decode cX4_init 5 = .ok (.iconst 3, 1) := by decide +kernel
theorem dX4_init_6 : decode cX4_init 6 = .ok (.newarray .int, 2) := by decide +kernel
theorem dX4_init_8 : decode cX4_init 8 = .ok (.putfield 9, 3) := by decide +kernel
theorem dX4_init_11 : decode cX4_init 11 = .ok (.aload_n 0, 1) := by decide +kernel
theorem dX4_init_12 : decode cX4_init 12 = .ok (.iconst 3, 1) := by decide +kernel
theorem dX4_init_13 : decode cX4_init 13 = .ok (.newarray .int, 2) := by decide +kernel
theorem dX4_init_15 : decode cX4_init 15 = .ok (.putfield 15, 3) := by decide +kernel
theorem dX4_init_18 : decode cX4_init 18 = .ok (.aload_n 0, 1) := by decide +kernel
theorem dX4_init_19 : decode cX4_init 19 = .ok (.iconst 3, 1) := by decide +kernel
theorem dX4_init_20 : decode cX4_init 20 = .ok (.newarray .int, 2) := by decide +kernel
theorem dX4_init_22 : decode cX4_init 22 = .ok (.putfield 18, 3) := by decide +kernel
theorem dX4_init_25 : decode cX4_init 25 = .ok (.return_, 1) := by decide +kernel
theorem dX4_begin_0 : decode cX4_begin 0 = .ok (.aload_n 0, 1) := by decide +kernel
theorem dX4_begin_1 : decode cX4_begin 1 = .ok (.iload_n 1, 1) := by decide +kernel
theorem dX4_begin_2 : decode cX4_begin 2 = .ok (.putfield 21, 3) := by decide +kernel
theorem dX4_begin_5 : decode cX4_begin 5 = .ok (.aload_n 0, 1) := by decide +kernel
theorem dX4_begin_6 : decode cX4_begin 6 = .ok (.iload_n 2, 1) := by decide +kernel
theorem dX4_begin_7 : decode cX4_begin 7 = .ok (.putfield 25, 3) := by decide +kernel
theorem dX4_begin_10 : decode cX4_begin 10 = .ok (.aload_n 0, 1) := by decide +kernel
theorem dX4_begin_11 : decode cX4_begin 11 = .ok (.iload_n 3, 1) := by decide +kernel
theorem dX4_begin_12 : decode cX4_begin 12 = .ok (.putfield 29, 3) := by decide +kernel
theorem dX4_begin_15 : decode cX4_begin 15 = .ok (.aload_n 0, 1) := by decide +kernel
theorem dX4_begin_16 : decode cX4_begin 16 = .ok (.iload 4, 2) := by decide +kernel
theorem dX4_begin_18 : decode cX4_begin 18 = .ok (.putfield 32, 3) := by decide +kernel
theorem dX4_begin_21 : decode cX4_begin 21 = .ok (.aload_n 0, 1) := by decide +kernel
theorem dX4_begin_22 : decode cX4_begin 22 = .ok (.iconst 0, 1) := by decide +kernel
theorem dX4_begin_23 : decode cX4_begin 23 = .ok (.putfield 35, 3) := by decide +kernel
theorem dX4_begin_26 : decode cX4_begin 26 = .ok (.aload_n 0, 1) := by decide +kernel
theorem dX4_begin_27 : decode cX4_begin 27 = .ok (.iconst 0, 1) := by decide +kernel
theorem dX4_begin_28 : decode cX4_begin 28 = .ok (.putfield 38, 3) := by decide +kernel
theorem dX4_begin_31 : decode cX4_begin 31 = .ok (.aload_n 0, 1) := by decide +kernel
theorem dX4_begin_32 : decode cX4_begin 32 = .ok (.iconst 0, 1) := by decide +kernel
theorem dX4_begin_33 : decode cX4_begin 33 = .ok (.putfield 41, 3) := by decide +kernel
theorem dX4_begin_36 : decode cX4_begin 36 = .ok (.aload_n 0, 1) := by decide +kernel
theorem dX4_begin_37 : decode cX4_begin 37 = .ok (.iconst 0, 1) := by decide +kernel
theorem dX4_begin_38 : decode cX4_begin 38 = .ok (.putfield 44, 3) := by decide +kernel
theorem dX4_begin_41 : decode cX4_begin 41 = .ok (.aload_n 0, 1) := by decide +kernel
theorem dX4_begin_42 : decode cX4_begin 42 = .ok (.iconst 0, 1) := by decide +kernel
theorem dX4_begin_43 : decode cX4_begin 43 = .ok (.putfield 47, 3) := by decide +kernel
theorem dX4_begin_46 : decode cX4_begin 46 = .ok (.iconst 0, 1) := by decide +kernel
theorem dX4_begin_47 : decode cX4_begin 47 = .ok (.istore 5, 2) := by decide +kernel
theorem dX4_begin_49 : decode cX4_begin 49 = .ok (.iload 5, 2) := by decide +kernel
theorem dX4_begin_51 : decode cX4_begin 51 = .ok (.iconst 3, 1) := by decide +kernel
theorem dX4_begin_52 : decode cX4_begin 52 = .ok (.if_icmp .ge 35, 3) := by decide +kernel
theorem dX4_begin_55 : decode cX4_begin 55 = .ok (.aload_n 0, 1) := by decide +kernel
theorem dX4_begin_56 : decode cX4_begin 56 = .ok (.getfield 9, 3) := by decide +kernel
theorem dX4_begin_59 : decode cX4_begin 59 = .ok (.iload 5, 2) := by decide +kernel
theorem dX4_begin_61 : decode cX4_begin 61 = .ok (.iconst 0, 1) := by decide +kernel
theorem dX4_begin_62 : decode cX4_begin 62 = .ok (.iastore, 1) := by decide +kernel
theorem dX4_begin_63 : decode cX4_begin 63 = .ok (.aload_n 0, 1) := by decide +kernel
theorem dX4_begin_64 : decode cX4_begin 64 = .ok (.getfield 15, 3) := by decide +kernel
theorem dX4_begin_67 : decode cX4_begin 67 = .ok (.iload 5, 2) := by decide +kernel
theorem dX4_begin_69 : decode cX4_begin 69 = .ok (.iconst 0, 1) := by decide +kernel
theorem dX4_begin_70 : decode cX4_begin 70 = .ok (.iastore, 1) := by decide +kernel
theorem dX4_begin_71 : decode cX4_begin 71 = .ok (.aload_n 0, 1) := by decide +kernel
theorem dX4_begin_72 : decode cX4_begin 72 = .ok (.getfield 18, 3) := by decide +kernel
theorem dX4_begin_75 : decode cX4_begin 75 = .ok (.iload 5, 2) := by decide +kernel
theorem dX4_begin_77 : decode cX4_begin 77 = .ok (.sipush 1000, 3) := by decide +kernel
theorem dX4_begin_80 : decode cX4_begin 80 = .ok (.iastore, 1) := by decide +kernel
theorem dX4_begin_81 : decode cX4_begin 81 = .ok (.iinc 5 1, 3) := by decide +kernel
theorem dX4_begin_84 : decode cX4_begin 84 = .ok (.goto (-35), 3) := by decide +kernel
theorem dX4_begin_87 : decode cX4_begin 87 = .ok (.return_, 1) := by decide +kernel
theorem dX4_copyFrom_0 : decode cX4_copyFrom 0 = .ok (.aload_n 0, 1) := by decide +kernel
theorem dX4_copyFrom_1 : decode cX4_copyFrom 1 = .ok (.aload_n 1, 1) := by decide +kernel
theorem dX4_copyFrom_2 : decode cX4_copyFrom 2 = .ok (.getfield 21, 3) := by decide +kernel
theorem dX4_copyFrom_5 : decode cX4_copyFrom 5 = .ok (.putfield 21, 3) := by decide +kernel
theorem dX4_copyFrom_8 : decode cX4_copyFrom 8 = .ok (.aload_n 0, 1) := by decide +kernel
theorem dX4_copyFrom_9 : decode cX4_copyFrom 9 = .ok (.aload_n 1, 1) := by decide +kernel
theorem dX4_copyFrom_10 : decode cX4_copyFrom 10 = .ok (.getfield 25, 3) := by decide +kernel
theorem dX4_copyFrom_13 : decode cX4_copyFrom 13 = .ok (.putfield 25, 3) := by decide +kernel
theorem dX4_copyFrom_16 : decode cX4_copyFrom 16 = .ok (.aload_n 0, 1) := by decide +kernel
theorem dX4_copyFrom_17 : decode cX4_copyFrom 17 = .ok (.aload_n 1, 1) := by decide +kernel
theorem dX4_copyFrom_18 : decode cX4_copyFrom 18 = .ok (.getfield 29, 3) := by decide +kernel
theorem dX4_copyFrom_21 : decode cX4_copyFrom 21 = .ok (.putfield 29, 3) := by decide +kernel
theorem dX4_copyFrom_24 : decode cX4_copyFrom 24 = .ok (.aload_n 0, 1) := by decide +kernel
theorem dX4_copyFrom_25 : decode cX4_copyFrom 25 = .ok (.aload_n 1, 1) := by decide +kernel
theorem dX4_copyFrom_26 : decode cX4_copyFrom 26 = .ok (.getfield 32, 3) := by decide +kernel
theorem dX4_copyFrom_29 : decode cX4_copyFrom 29 = .ok (.putfield 32, 3) := by decide +kernel
theorem dX4_copyFrom_32 : decode cX4_copyFrom 32 = .ok (.aload_n 0, 1) := by decide +kernel
theorem dX4_copyFrom_33 : decode cX4_copyFrom 33 = .ok (.aload_n 1, 1) := by decide +kernel
theorem dX4_copyFrom_34 : decode cX4_copyFrom 34 = .ok (.getfield 35, 3) := by decide +kernel
theorem dX4_copyFrom_37 : decode cX4_copyFrom 37 = .ok (.putfield 35, 3) := by decide +kernel
theorem dX4_copyFrom_40 : decode cX4_copyFrom 40 = .ok (.aload_n 0, 1) := by decide +kernel
theorem dX4_copyFrom_41 : decode cX4_copyFrom 41 = .ok (.aload_n 1, 1) := by decide +kernel
theorem dX4_copyFrom_42 : decode cX4_copyFrom 42 = .ok (.getfield 38, 3) := by decide +kernel
theorem dX4_copyFrom_45 : decode cX4_copyFrom 45 = .ok (.putfield 38, 3) := by decide +kernel
theorem dX4_copyFrom_48 : decode cX4_copyFrom 48 = .ok (.aload_n 0, 1) := by decide +kernel
theorem dX4_copyFrom_49 : decode cX4_copyFrom 49 = .ok (.aload_n 1, 1) := by decide +kernel
theorem dX4_copyFrom_50 : decode cX4_copyFrom 50 = .ok (.getfield 41, 3) := by decide +kernel
theorem dX4_copyFrom_53 : decode cX4_copyFrom 53 = .ok (.putfield 41, 3) := by decide +kernel
theorem dX4_copyFrom_56 : decode cX4_copyFrom 56 = .ok (.aload_n 0, 1) := by decide +kernel
theorem dX4_copyFrom_57 : decode cX4_copyFrom 57 = .ok (.aload_n 1, 1) := by decide +kernel
theorem dX4_copyFrom_58 : decode cX4_copyFrom 58 = .ok (.getfield 44, 3) := by decide +kernel
theorem dX4_copyFrom_61 : decode cX4_copyFrom 61 = .ok (.putfield 44, 3) := by decide +kernel
theorem dX4_copyFrom_64 : decode cX4_copyFrom 64 = .ok (.aload_n 0, 1) := by decide +kernel
theorem dX4_copyFrom_65 : decode cX4_copyFrom 65 = .ok (.aload_n 1, 1) := by decide +kernel
theorem dX4_copyFrom_66 : decode cX4_copyFrom 66 = .ok (.getfield 47, 3) := by decide +kernel
theorem dX4_copyFrom_69 : decode cX4_copyFrom 69 = .ok (.putfield 47, 3) := by decide +kernel
theorem dX4_copyFrom_72 : decode cX4_copyFrom 72 = .ok (.iconst 0, 1) := by decide +kernel
theorem dX4_copyFrom_73 : decode cX4_copyFrom 73 = .ok (.istore_n 2, 1) := by decide +kernel
theorem dX4_copyFrom_74 : decode cX4_copyFrom 74 = .ok (.iload_n 2, 1) := by decide +kernel
theorem dX4_copyFrom_75 : decode cX4_copyFrom 75 = .ok (.iconst 3, 1) := by decide +kernel
theorem dX4_copyFrom_76 : decode cX4_copyFrom 76 = .ok (.if_icmp .ge 45, 3) := by decide +kernel
theorem dX4_copyFrom_79 : decode cX4_copyFrom 79 = .ok (.aload_n 0, 1) := by decide +kernel
theorem dX4_copyFrom_80 : decode cX4_copyFrom 80 = .ok (.getfield 9, 3) := by decide +kernel
theorem dX4_copyFrom_83 : decode cX4_copyFrom 83 = .ok (.iload_n 2, 1) := by decide +kernel
theorem dX4_copyFrom_84 : decode cX4_copyFrom 84 = .ok (.aload_n 1, 1) := by decide +kernel
theorem dX4_copyFrom_85 : decode cX4_copyFrom 85 = .ok (.getfield 9, 3) := by decide +kernel
theorem dX4_copyFrom_88 : decode cX4_copyFrom 88 = .ok (.iload_n 2, 1) := by decide +kernel
theorem dX4_copyFrom_89 : decode cX4_copyFrom 89 = .ok (.iaload, 1) := by decide +kernel
theorem dX4_copyFrom_90 : decode cX4_copyFrom 90 = .ok (.iastore, 1) := by decide +kernel
theorem dX4_copyFrom_91 : decode cX4_copyFrom 91 = .ok (.aload_n 0, 1) := by decide +kernel
theorem dX4_copyFrom_92 : decode cX4_copyFrom 92 = .ok (.getfield 15, 3) := by decide +kernel
theorem dX4_copyFrom_95 : decode cX4_copyFrom 95 = .ok (.iload_n 2, 1) := by decide +kernel
theorem dX4_copyFrom_96 : decode cX4_copyFrom 96 = .ok (.aload_n 1, 1) := by decide +kernel
theorem dX4_copyFrom_97 : decode cX4_copyFrom 97 = .ok (.getfield 15, 3) := by decide +kernel
theorem dX4_copyFrom_100 : decode cX4_copyFrom 100 = .ok (.iload_n 2, 1) := by decide +kernel
theorem dX4_copyFrom_101 : decode cX4_copyFrom 101 = .ok (.iaload, 1) := by decide +kernel
theorem dX4_copyFrom_102 : decode cX4_copyFrom 102 = .ok (.iastore, 1) := by decide +kernel
theorem dX4_copyFrom_103 : decode cX4_copyFrom 103 = .ok (.aload_n 0, 1) := by decide +kernel
theorem dX4_copyFrom_104 : decode cX4_copyFrom 104 = .ok (.getfield 18, 3) := by decide +kernel
theorem dX4_copyFrom_107 : decode cX4_copyFrom 107 = .ok (.iload_n 2, 1) := by decide +kernel
theorem dX4_copyFrom_108 : decode cX4_copyFrom 108 = .ok (.aload_n 1, 1) := by decide +kernel
theorem dX4_copyFrom_109 : decode cX4_copyFrom 109 = .ok (.getfield 18, 3) := by decide +kernel
theorem dX4_copyFrom_112 : decode cX4_copyFrom 112 = .ok (.iload_n 2, 1) := by decide +kernel
theorem dX4_copyFrom_113 : decode cX4_copyFrom 113 = .ok (.iaload, 1) := by decide +kernel
theorem dX4_copyFrom_114 : decode cX4_copyFrom 114 = .ok (.iastore, 1) := by decide +kernel
theorem dX4_copyFrom_115 : decode cX4_copyFrom 115 = .ok (.iinc 2 1, 3) := by decide +kernel
theorem dX4_copyFrom_118 : decode cX4_copyFrom 118 = .ok (.goto (-44), 3) := by decide +kernel
theorem dX4_copyFrom_121 : decode cX4_copyFrom 121 = .ok (.return_, 1) := by decide +kernel
theorem dX5_init_0 : decode cX5_init 0 = .ok (.aload_n 0, 1) := by decide +kernel
theorem dX5_init_1 : decode cX5_init 1 = .ok (.invokespecial 3, 3) := by decide +kernel
theorem dX5_init_4 : decode cX5_init 4 = .ok (.aload_n 0, 1) := by decide +kernel
theorem dX5_init_5 : decode cX5_init 5 = .ok (.iload_n 1, 1) := by decide +kernel
theorem dX5_init_6 : decode cX5_init 6 = .ok (.iconst 0, 1) := by decide +kernel
theorem dX5_init_7 : decode cX5_init 7 = .ok (.invokestatic 9, 3) := by decide +kernel
theorem dX5_init_10 : decode cX5_init 10 = .ok (.iconst 4, 1) := by decide +kernel
theorem dX5_init_11 : decode cX5_init 11 = .ok (.imul, 1) := by decide +kernel
theorem dX5_init_12 : decode cX5_init 12 = .ok (.newarray .int, 2) := by decide +kernel
theorem dX5_init_14 : decode cX5_init 14 = .ok (.putfield 15, 3) := by decide +kernel
theorem dX5_init_17 : decode cX5_init 17 = .ok (.return_, 1) := by decide +kernel
theorem dX5_add_0 : decode cX5_add 0 = .ok (.aload_n 0, 1) := by decide +kernel
theorem dX5_add_1 : decode cX5_add 1 = .ok (.getfield 21, 3) := by decide +kernel
theorem dX5_add_4 : decode cX5_add 4 = .ok (.iconst 4, 1) := by decide +kernel
theorem dX5_add_5 : decode cX5_add 5 = .ok (.imul, 1) := by decide +kernel
theorem dX5_add_6 : decode cX5_add 6 = .ok (.istore 5, 2) := by decide +kernel
theorem dX5_add_8 : decode cX5_add 8 = .ok (.iload 5, 2) := by decide +kernel
theorem dX5_add_10 : decode cX5_add 10 = .ok (.ifCond .lt 15, 3) := by decide +kernel
theorem dX5_add_13 : decode cX5_add 13 = .ok (.iload 5, 2) := by decide +kernel
theorem dX5_add_15 : decode cX5_add 15 = .ok (.iconst 4, 1) := by decide +kernel
theorem dX5_add_16 : decode cX5_add 16 = .ok (.iadd, 1) := by decide +kernel
theorem dX5_add_17 : decode cX5_add 17 = .ok (.aload_n 0, 1) := by decide +kernel
theorem dX5_add_18 : decode cX5_add 18 = .ok (.getfield 15, 3) := by decide +kernel
theorem dX5_add_21 : decode cX5_add 21 = .ok (.arraylength, 1) := by decide +kernel
theorem dX5_add_22 : decode cX5_add 22 = .ok (.if_icmp .le 4, 3) := by decide +kernel
theorem dX5_add_25 : decode cX5_add 25 = .ok (.return_, 1) := by decide +kernel
theorem dX5_add_26 : decode cX5_add 26 = .ok (.aload_n 0, 1) := by decide +kernel
theorem dX5_add_27 : decode cX5_add 27 = .ok (.getfield 15, 3) := by decide +kernel
theorem dX5_add_30 : decode cX5_add 30 = .ok (.iload 5, 2) := by decide +kernel
theorem dX5_add_32 : decode cX5_add 32 = .ok (.iload_n 1, 1) := by decide +kernel
theorem dX5_add_33 : decode cX5_add 33 = .ok (.iastore, 1) := by decide +kernel
theorem dX5_add_34 : decode cX5_add 34 = .ok (.aload_n 0, 1) := by decide +kernel
theorem dX5_add_35 : decode cX5_add 35 = .ok (.getfield 15, 3) := by decide +kernel
theorem dX5_add_38 : decode cX5_add 38 = .ok (.iload 5, 2) := by decide +kernel
theorem dX5_add_40 : decode cX5_add 40 = .ok (.iconst 1, 1) := by decide +kernel
theorem dX5_add_41 : decode cX5_add 41 = .ok (.iadd, 1) := by decide +kernel
theorem dX5_add_42 : decode cX5_add 42 = .ok (.iload_n 2, 1) := by decide +kernel
theorem dX5_add_43 : decode cX5_add 43 = .ok (.iastore, 1) := by decide +kernel
theorem dX5_add_44 : decode cX5_add 44 = .ok (.aload_n 0, 1) := by decide +kernel
theorem dX5_add_45 : decode cX5_add 45 = .ok (.getfield 15, 3) := by decide +kernel
theorem dX5_add_48 : decode cX5_add 48 = .ok (.iload 5, 2) := by decide +kernel
theorem dX5_add_50 : decode cX5_add 50 = .ok (.iconst 2, 1) := by decide +kernel
theorem dX5_add_51 : decode cX5_add 51 = .ok (.iadd, 1) := by decide +kernel
theorem dX5_add_52 : decode cX5_add 52 = .ok (.iload_n 3, 1) := by decide +kernel
theorem dX5_add_53 : decode cX5_add 53 = .ok (.iastore, 1) := by decide +kernel
theorem dX5_add_54 : decode cX5_add 54 = .ok (.aload_n 0, 1) := by decide +kernel
theorem dX5_add_55 : decode cX5_add 55 = .ok (.getfield 15, 3) := by decide +kernel
theorem dX5_add_58 : decode cX5_add 58 = .ok (.iload 5, 2) := by decide +kernel
theorem dX5_add_60 : decode cX5_add 60 = .ok (.iconst 3, 1) := by decide +kernel
theorem dX5_add_61 : decode cX5_add 61 = .ok (.iadd, 1) := by decide +kernel
theorem dX5_add_62 : decode cX5_add 62 = .ok (.iload 4, 2) := by decide +kernel
theorem dX5_add_64 : decode cX5_add 64 = .ok (.iastore, 1) := by decide +kernel
theorem dX5_add_65 : decode cX5_add 65 = .ok (.aload_n 0, 1) := by decide +kernel
theorem dX5_add_66 : decode cX5_add 66 = .ok (.dup, 1) := by decide +kernel
theorem dX5_add_67 : decode cX5_add 67 = .ok (.getfield 21, 3) := by decide +kernel
theorem dX5_add_70 : decode cX5_add 70 = .ok (.iconst 1, 1) := by decide +kernel
theorem dX5_add_71 : decode cX5_add 71 = .ok (.iadd, 1) := by decide +kernel
theorem dX5_add_72 : decode cX5_add 72 = .ok (.putfield 21, 3) := by decide +kernel
theorem dX5_add_75 : decode cX5_add 75 = .ok (.return_, 1) := by decide +kernel
theorem dX5_at_0 : decode cX5_at 0 = .ok (.iload_n 1, 1) := by decide +kernel
theorem dX5_at_1 : decode cX5_at 1 = .ok (.ifCond .lt 20, 3) := by decide +kernel
theorem dX5_at_4 : decode cX5_at 4 = .ok (.iload_n 1, 1) := by decide +kernel
theorem dX5_at_5 : decode cX5_at 5 = .ok (.aload_n 0, 1) := by decide +kernel
theorem dX5_at_6 : decode cX5_at 6 = .ok (.getfield 21, 3) := by decide +kernel
theorem dX5_at_9 : decode cX5_at 9 = .ok (.if_icmp .ge 12, 3) := by decide +kernel
theorem dX5_at_12 : decode cX5_at 12 = .ok (.iload_n 2, 1) := by decide +kernel
theorem dX5_at_13 : decode cX5_at 13 = .ok (.iconst 0, 1) := by decide +kernel
theorem dX5_at_14 : decode cX5_at 14 = .ok (.iconst 3, 1) := by decide +kernel
theorem dX5_at_15 : decode cX5_at 15 = .ok (.invokestatic 25, 3) := by decide +kernel
theorem dX5_at_18 : decode cX5_at 18 = .ok (.ifCond .ne 6, 3) := by decide +kernel
theorem dX5_at_21 : decode cX5_at 21 = .ok (.ldc 29, 2) := by decide +kernel
theorem dX5_at_23 : decode cX5_at 23 = .ok (.ireturn, 1) := by decide +kernel
theorem dX5_at_24 : decode cX5_at 24 = .ok (.aload_n 0, 1) := by decide +kernel
theorem dX5_at_25 : decode cX5_at 25 = .ok (.getfield 15, 3) := by decide +kernel
theorem dX5_at_28 : decode cX5_at 28 = .ok (.iload_n 1, 1) := by decide +kernel
theorem dX5_at_29 : decode cX5_at 29 = .ok (.iconst 4, 1) := by decide +kernel
theorem dX5_at_30 : decode cX5_at 30 = .ok (.imul, 1) := by decide +kernel
theorem dX5_at_31 : decode cX5_at 31 = .ok (.iload_n 2, 1) := by decide +kernel
theorem dX5_at_32 : decode cX5_at 32 = .ok (.iadd, 1) := by decide +kernel
theorem dX5_at_33 : decode cX5_at 33 = .ok (.iaload, 1) := by decide +kernel
theorem dX5_at_34 : decode cX5_at 34 = .ok (.ireturn, 1) := by decide +kernel
theorem dX5_set_0 : decode cX5_set 0 = .ok (.iload_n 1, 1) := by decide +kernel
theorem dX5_set_1 : decode cX5_set 1 = .ok (.ifCond .lt 31, 3) := by decide +kernel
theorem dX5_set_4 : decode cX5_set 4 = .ok (.iload_n 1, 1) := by decide +kernel
theorem dX5_set_5 : decode cX5_set 5 = .ok (.aload_n 0, 1) := by decide +kernel
theorem dX5_set_6 : decode cX5_set 6 = .ok (.getfield 21, 3) := by decide +kernel
theorem dX5_set_9 : decode cX5_set 9 = .ok (.if_icmp .ge 23, 3) := by decide +kernel
theorem dX5_set_12 : decode cX5_set 12 = .ok (.iload_n 2, 1) := by decide +kernel
theorem dX5_set_13 : decode cX5_set 13 = .ok (.iconst 0, 1) := by decide +kernel
theorem dX5_set_14 : decode cX5_set 14 = .ok (.iconst 3, 1) := by decide +kernel
theorem dX5_set_15 : decode cX5_set 15 = .ok (.invokestatic 25, 3) := by decide +kernel
theorem dX5_set_18 : decode cX5_set 18 = .ok (.ifCond .eq 14, 3) := by decide +kernel
theorem dX5_set_21 : decode cX5_set 21 = .ok (.aload_n 0, 1) := by decide +kernel
theorem dX5_set_22 : decode cX5_set 22 = .ok (.getfield 15, 3) := by decide +kernel
theorem dX5_set_25 : decode cX5_set 25 = .ok (.iload_n 1, 1) := by decide +kernel
theorem dX5_set_26 : decode cX5_set 26 = .ok (.iconst 4, 1) := by decide +kernel
theorem dX5_set_27 : decode cX5_set 27 = .ok (.imul, 1) := by decide +kernel
theorem dX5_set_28 : decode cX5_set 28 = .ok (.iload_n 2, 1) := by decide +kernel
theorem dX5_set_29 : decode cX5_set 29 = .ok (.iadd, 1) := by decide +kernel
theorem dX5_set_30 : decode cX5_set 30 = .ok (.iload_n 3, 1) := by decide +kernel
theorem dX5_set_31 : decode cX5_set 31 = .ok (.iastore, 1) := by decide +kernel
theorem dX5_set_32 : decode cX5_set 32 = .ok (.return_, 1) := by decide +kernel
theorem dX5_drop_0 : decode cX5_drop 0 = .ok (.iload_n 1, 1) := by decide +kernel
theorem dX5_drop_1 : decode cX5_drop 1 = .ok (.ifCond .lt 11, 3) := by decide +kernel
theorem dX5_drop_4 : decode cX5_drop 4 = .ok (.iload_n 1, 1) := by decide +kernel
theorem dX5_drop_5 : decode cX5_drop 5 = .ok (.aload_n 0, 1) := by decide +kernel
theorem dX5_drop_6 : decode cX5_drop 6 = .ok (.getfield 21, 3) := by decide +kernel
theorem dX5_drop_9 : decode cX5_drop 9 = .ok (.if_icmp .lt 4, 3) := by decide +kernel
theorem dX5_drop_12 : decode cX5_drop 12 = .ok (.return_, 1) := by decide +kernel
theorem dX5_drop_13 : decode cX5_drop 13 = .ok (.iload_n 1, 1) := by decide +kernel
theorem dX5_drop_14 : decode cX5_drop 14 = .ok (.iconst 1, 1) := by decide +kernel
theorem dX5_drop_15 : decode cX5_drop 15 = .ok (.iadd, 1) := by decide +kernel
theorem dX5_drop_16 : decode cX5_drop 16 = .ok (.iconst 4, 1) := by decide +kernel
theorem dX5_drop_17 : decode cX5_drop 17 = .ok (.imul, 1) := by decide +kernel
theorem dX5_drop_18 : decode cX5_drop 18 = .ok (.istore_n 2, 1) := by decide +kernel
theorem dX5_drop_19 : decode cX5_drop 19 = .ok (.aload_n 0, 1) := by decide +kernel
theorem dX5_drop_20 : decode cX5_drop 20 = .ok (.getfield 15, 3) := by decide +kernel
theorem dX5_drop_23 : decode cX5_drop 23 = .ok (.iload_n 2, 1) := by decide +kernel
theorem dX5_drop_24 : decode cX5_drop 24 = .ok (.aload_n 0, 1) := by decide +kernel
theorem dX5_drop_25 : decode cX5_drop 25 = .ok (.getfield 15, 3) := by decide +kernel
theorem dX5_drop_28 : decode cX5_drop 28 = .ok (.iload_n 1, 1) := by decide +kernel
theorem dX5_drop_29 : decode cX5_drop 29 = .ok (.iconst 4, 1) := by decide +kernel
theorem dX5_drop_30 : decode cX5_drop 30 = .ok (.imul, 1) := by decide +kernel
theorem dX5_drop_31 : decode cX5_drop 31 = .ok (.aload_n 0, 1) := by decide +kernel
theorem dX5_drop_32 : decode cX5_drop 32 = .ok (.getfield 21, 3) := by decide +kernel
theorem dX5_drop_35 : decode cX5_drop 35 = .ok (.iconst 4, 1) := by decide +kernel
theorem dX5_drop_36 : decode cX5_drop 36 = .ok (.imul, 1) := by decide +kernel
theorem dX5_drop_37 : decode cX5_drop 37 = .ok (.iload_n 2, 1) := by decide +kernel
theorem dX5_drop_38 : decode cX5_drop 38 = .ok (.isub, 1) := by decide +kernel
theorem dX5_drop_39 : decode cX5_drop 39 = .ok (.invokestatic 30, 3) := by decide +kernel
theorem dX5_drop_42 : decode cX5_drop 42 = .ok (.aload_n 0, 1) := by decide +kernel
theorem dX5_drop_43 : decode cX5_drop 43 = .ok (.dup, 1) := by decide +kernel
theorem dX5_drop_44 : decode cX5_drop 44 = .ok (.getfield 21, 3) := by decide +kernel
theorem dX5_drop_47 : decode cX5_drop 47 = .ok (.iconst 1, 1) := by decide +kernel
theorem dX5_drop_48 : decode cX5_drop 48 = .ok (.isub, 1) := by decide +kernel
theorem dX5_drop_49 : decode cX5_drop 49 = .ok (.putfield 21, 3) := by decide +kernel
theorem dX5_drop_52 : decode cX5_drop 52 = .ok (.return_, 1) := by decide +kernel
theorem dX5_copyFrom_0 : decode cX5_copyFrom 0 = .ok (.aload_n 1, 1) := by decide +kernel
theorem dX5_copyFrom_1 : decode cX5_copyFrom 1 = .ok (.getfield 15, 3) := by decide +kernel
theorem dX5_copyFrom_4 : decode cX5_copyFrom 4 = .ok (.arraylength, 1) := by decide +kernel
theorem dX5_copyFrom_5 : decode cX5_copyFrom 5 = .ok (.aload_n 0, 1) := by decide +kernel
theorem dX5_copyFrom_6 : decode cX5_copyFrom 6 = .ok (.getfield 15, 3) := by decide +kernel
theorem dX5_copyFrom_9 : decode cX5_copyFrom 9 = .ok (.arraylength, 1) := by decide +kernel
theorem dX5_copyFrom_10 : decode cX5_copyFrom 10 = .ok (.if_icmp .ne 29, 3) := by decide +kernel
theorem dX5_copyFrom_13 : decode cX5_copyFrom 13 = .ok (.aload_n 1, 1) := by decide +kernel
theorem dX5_copyFrom_14 : decode cX5_copyFrom 14 = .ok (.getfield 15, 3) := by decide +kernel
theorem dX5_copyFrom_17 : decode cX5_copyFrom 17 = .ok (.iconst 0, 1) := by decide +kernel
theorem dX5_copyFrom_18 : decode cX5_copyFrom 18 = .ok (.aload_n 0, 1) := by decide +kernel
theorem dX5_copyFrom_19 : decode cX5_copyFrom 19 = .ok (.getfield 15, 3) := by decide +kernel
theorem dX5_copyFrom_22 : decode cX5_copyFrom 22 = .ok (.iconst 0, 1) := by decide +kernel
theorem dX5_copyFrom_23 : decode cX5_copyFrom 23 = .ok (.aload_n 0, 1) := by decide +kernel
theorem dX5_copyFrom_24 : decode cX5_copyFrom 24 = .ok (.getfield 15, 3) := by decide +kernel
theorem dX5_copyFrom_27 : decode cX5_copyFrom 27 = .ok (.arraylength, 1) := by decide +kernel
theorem dX5_copyFrom_28 : decode cX5_copyFrom 28 = .ok (.invokestatic 30, 3) := by decide +kernel
theorem dX5_copyFrom_31 : decode cX5_copyFrom 31 = .ok (.aload_n 0, 1) := by decide +kernel
theorem dX5_copyFrom_32 : decode cX5_copyFrom 32 = .ok (.aload_n 1, 1) := by decide +kernel
theorem dX5_copyFrom_33 : decode cX5_copyFrom 33 = .ok (.getfield 21, 3) := by decide +kernel
theorem dX5_copyFrom_36 : decode cX5_copyFrom 36 = .ok (.putfield 21, 3) := by decide +kernel
theorem dX5_copyFrom_39 : decode cX5_copyFrom 39 = .ok (.return_, 1) := by decide +kernel
theorem dX6_init_0 : decode cX6_init 0 = .ok (.aload_n 0, 1) := by decide +kernel
theorem dX6_init_1 : decode cX6_init 1 = .ok (.invokespecial 3, 3) := by decide +kernel
theorem dX6_init_4 : decode cX6_init 4 = .ok (.aload_n 0, 1) := by decide +kernel
theorem dX6_init_5 : decode cX6_init 5 = .ok (.bipush 8, 2) := by decide +kernel
theorem dX6_init_7 : decode cX6_init 7 = .ok (.anewarray 9, 3) := by decide +kernel
theorem dX6_init_10 : decode cX6_init 10 = .ok (.putfield 11, 3) := by decide +kernel
theorem dX6_init_13 : decode cX6_init 13 = .ok (.aload_n 0, 1) := by decide +kernel
theorem dX6_init_14 : decode cX6_init 14 = .ok (.new 17, 3) := by decide +kernel
theorem dX6_init_17 : decode cX6_init 17 = .ok (.dup, 1) := by decide +kernel
theorem dX6_init_18 : decode cX6_init 18 = .ok (.bipush 20, 2) := by decide +kernel
theorem dX6_init_20 : decode cX6_init 20 = .ok (.invokespecial 19, 3) := by decide +kernel
theorem dX6_init_23 : decode cX6_init 23 = .ok (.putfield 22, 3) := by decide +kernel
theorem dX6_init_26 : decode cX6_init 26 = .ok (.aload_n 0, 1) := by decide +kernel
theorem dX6_init_27 : decode cX6_init 27 = .ok (.new 17, 3) := by decide +kernel
theorem dX6_init_30 : decode cX6_init 30 = .ok (.dup, 1) := by decide +kernel
theorem dX6_init_31 : decode cX6_init 31 = .ok (.bipush 12, 2) := by decide +kernel
theorem dX6_init_33 : decode cX6_init 33 = .ok (.invokespecial 19, 3) := by decide +kernel
theorem dX6_init_36 : decode cX6_init 36 = .ok (.putfield 26, 3) := by decide +kernel
theorem dX6_init_39 : decode cX6_init 39 = .ok (.aload_n 0, 1) := by decide +kernel
theorem dX6_init_40 : decode cX6_init 40 = .ok (.bipush 100, 2) := by decide +kernel
theorem dX6_init_42 : decode cX6_init 42 = .ok (.putfield 29, 3) := by decide +kernel
theorem dX6_init_45 : decode cX6_init 45 = .ok (.iconst 0, 1) := by decide +kernel
theorem dX6_init_46 : decode cX6_init 46 = .ok (.istore_n 1, 1) := by decide +kernel
theorem dX6_init_47 : decode cX6_init 47 = .ok (.iload_n 1, 1) := by decide +kernel
theorem dX6_init_48 : decode cX6_init 48 = .ok (.bipush 8, 2) := by decide +kernel
theorem dX6_init_50 : decode cX6_init 50 = .ok (.if_icmp .ge 22, 3) := by decide +kernel
theorem dX6_init_53 : decode cX6_init 53 = .ok (.aload_n 0, 1) := by decide +kernel
theorem dX6_init_54 : decode cX6_init 54 = .ok (.getfield 11, 3) := by decide +kernel
theorem dX6_init_57 : decode cX6_init 57 = .ok (.iload_n 1, 1) := by decide +kernel
theorem dX6_init_58 : decode cX6_init 58 = .ok (.new 9, 3) := by decide +kernel
theorem dX6_init_61 : decode cX6_init 61 = .ok (.dup, 1) := by decide +kernel
theorem dX6_init_62 : decode cX6_init 62 = .ok (.invokespecial 33, 3) := by decide +kernel
theorem dX6_init_65 : decode cX6_init 65 = .ok (.aastore, 1) := by decide +kernel
theorem dX6_init_66 : decode cX6_init 66 = .ok (.iinc 1 1, 3) := by decide +kernel
theorem dX6_init_69 : decode cX6_init 69 = .ok (.goto (-22), 3) := by decide +kernel
theorem dX6_init_72 : decode cX6_init 72 = .ok (.return_, 1) := by decide +kernel
theorem dX6_copyFrom_0 : decode cX6_copyFrom 0 = .ok (.iconst 0, 1) := by decide +kernel
theorem dX6_copyFrom_1 : decode cX6_copyFrom 1 = .ok (.istore_n 2, 1) := by decide +kernel
theorem dX6_copyFrom_2 : decode cX6_copyFrom 2 = .ok (.iload_n 2, 1) := by decide +kernel
theorem dX6_copyFrom_3 : decode cX6_copyFrom 3 = .ok (.bipush 8, 2) := by decide +kernel
theorem dX6_copyFrom_5 : decode cX6_copyFrom 5 = .ok (.if_icmp .ge 24, 3) := by decide +kernel
theorem dX6_copyFrom_8 : decode cX6_copyFrom 8 = .ok (.aload_n 0, 1) := by decide +kernel
theorem dX6_copyFrom_9 : decode cX6_copyFrom 9 = .ok (.getfield 11, 3) := by decide +kernel
theorem dX6_copyFrom_12 : decode cX6_copyFrom 12 = .ok (.iload_n 2, 1) := by decide +kernel
theorem dX6_copyFrom_13 : decode cX6_copyFrom 13 = .ok (.aaload, 1) := by decide +kernel
theorem dX6_copyFrom_14 : decode cX6_copyFrom 14 = .ok (.aload_n 1, 1) := by decide +kernel
theorem dX6_copyFrom_15 : decode cX6_copyFrom 15 = .ok (.getfield 11, 3) := by decide +kernel
theorem dX6_copyFrom_18 : decode cX6_copyFrom 18 = .ok (.iload_n 2, 1) := by decide +kernel
theorem dX6_copyFrom_19 : decode cX6_copyFrom 19 = .ok (.aaload, 1) := by decide +kernel
theorem dX6_copyFrom_20 : decode cX6_copyFrom 20 = .ok (.invokevirtual 34, 3) := by decide +kernel
theorem dX6_copyFrom_23 : decode cX6_copyFrom 23 = .ok (.iinc 2 1, 3) := by decide +kernel
theorem dX6_copyFrom_26 : decode cX6_copyFrom 26 = .ok (.goto (-24), 3) := by decide +kernel
theorem dX6_copyFrom_29 : decode cX6_copyFrom 29 = .ok (.aload_n 0, 1) := by decide +kernel
theorem dX6_copyFrom_30 : decode cX6_copyFrom 30 = .ok (.getfield 22, 3) := by decide +kernel
theorem dX6_copyFrom_33 : decode cX6_copyFrom 33 = .ok (.aload_n 1, 1) := by decide +kernel
theorem dX6_copyFrom_34 : decode cX6_copyFrom 34 = .ok (.getfield 22, 3) := by decide +kernel
theorem dX6_copyFrom_37 : decode cX6_copyFrom 37 = .ok (.invokevirtual 38, 3) := by decide +kernel
theorem dX6_copyFrom_40 : decode cX6_copyFrom 40 = .ok (.aload_n 0, 1) := by decide +kernel
theorem dX6_copyFrom_41 : decode cX6_copyFrom 41 = .ok (.getfield 26, 3) := by decide +kernel
theorem dX6_copyFrom_44 : decode cX6_copyFrom 44 = .ok (.aload_n 1, 1) := by decide +kernel
theorem dX6_copyFrom_45 : decode cX6_copyFrom 45 = .ok (.getfield 26, 3) := by decide +kernel
theorem dX6_copyFrom_48 : decode cX6_copyFrom 48 = .ok (.invokevirtual 38, 3) := by decide +kernel
theorem dX6_copyFrom_51 : decode cX6_copyFrom 51 = .ok (.aload_n 0, 1) := by decide +kernel
theorem dX6_copyFrom_52 : decode cX6_copyFrom 52 = .ok (.aload_n 1, 1) := by decide +kernel
theorem dX6_copyFrom_53 : decode cX6_copyFrom 53 = .ok (.getfield 41, 3) := by decide +kernel
theorem dX6_copyFrom_56 : decode cX6_copyFrom 56 = .ok (.putfield 41, 3) := by decide +kernel
theorem dX6_copyFrom_59 : decode cX6_copyFrom 59 = .ok (.aload_n 0, 1) := by decide +kernel
theorem dX6_copyFrom_60 : decode cX6_copyFrom 60 = .ok (.aload_n 1, 1) := by decide +kernel
theorem dX6_copyFrom_61 : decode cX6_copyFrom 61 = .ok (.getfield 29, 3) := by decide +kernel
theorem dX6_copyFrom_64 : decode cX6_copyFrom 64 = .ok (.putfield 29, 3) := by decide +kernel
theorem dX6_copyFrom_67 : decode cX6_copyFrom 67 = .ok (.aload_n 0, 1) := by decide +kernel
theorem dX6_copyFrom_68 : decode cX6_copyFrom 68 = .ok (.aload_n 1, 1) := by decide +kernel
theorem dX6_copyFrom_69 : decode cX6_copyFrom 69 = .ok (.getfield 44, 3) := by decide +kernel
theorem dX6_copyFrom_72 : decode cX6_copyFrom 72 = .ok (.putfield 44, 3) := by decide +kernel
theorem dX6_copyFrom_75 : decode cX6_copyFrom 75 = .ok (.aload_n 0, 1) := by decide +kernel
theorem dX6_copyFrom_76 : decode cX6_copyFrom 76 = .ok (.aload_n 1, 1) := by decide +kernel
theorem dX6_copyFrom_77 : decode cX6_copyFrom 77 = .ok (.getfield 47, 3) := by decide +kernel
theorem dX6_copyFrom_80 : decode cX6_copyFrom 80 = .ok (.putfield 47, 3) := by decide +kernel
theorem dX6_copyFrom_83 : decode cX6_copyFrom 83 = .ok (.aload_n 0, 1) := by decide +kernel
theorem dX6_copyFrom_84 : decode cX6_copyFrom 84 = .ok (.aload_n 1, 1) := by decide +kernel
theorem dX6_copyFrom_85 : decode cX6_copyFrom 85 = .ok (.getfield 50, 3) := by decide +kernel
theorem dX6_copyFrom_88 : decode cX6_copyFrom 88 = .ok (.putfield 50, 3) := by decide +kernel
theorem dX6_copyFrom_91 : decode cX6_copyFrom 91 = .ok (.aload_n 0, 1) := by decide +kernel
theorem dX6_copyFrom_92 : decode cX6_copyFrom 92 = .ok (.aload_n 1, 1) := by decide +kernel
theorem dX6_copyFrom_93 : decode cX6_copyFrom 93 = .ok (.getfield 53, 3) := by decide +kernel
theorem dX6_copyFrom_96 : decode cX6_copyFrom 96 = .ok (.putfield 53, 3) := by decide +kernel
theorem dX6_copyFrom_99 : decode cX6_copyFrom 99 = .ok (.aload_n 0, 1) := by decide +kernel
theorem dX6_copyFrom_100 : decode cX6_copyFrom 100 = .ok (.aload_n 1, 1) := by decide +kernel
theorem dX6_copyFrom_101 : decode cX6_copyFrom 101 = .ok (.getfield 56, 3) := by decide +kernel
theorem dX6_copyFrom_104 : decode cX6_copyFrom 104 = .ok (.putfield 56, 3) := by decide +kernel
theorem dX6_copyFrom_107 : decode cX6_copyFrom 107 = .ok (.return_, 1) := by decide +kernel
theorem dX6_find_0 : decode cX6_find 0 = .ok (.iload_n 1, 1) := by decide +kernel
theorem dX6_find_1 : decode cX6_find 1 = .ok (.ifCond .lt 20, 3) := by decide +kernel
theorem dX6_find_4 : decode cX6_find 4 = .ok (.iload_n 1, 1) := by decide +kernel
theorem dX6_find_5 : decode cX6_find 5 = .ok (.aload_n 0, 1) := by decide +kernel
theorem dX6_find_6 : decode cX6_find 6 = .ok (.getfield 41, 3) := by decide +kernel
theorem dX6_find_9 : decode cX6_find 9 = .ok (.if_icmp .ge 12, 3) := by decide +kernel
theorem dX6_find_12 : decode cX6_find 12 = .ok (.iload_n 1, 1) := by decide +kernel
theorem dX6_find_13 : decode cX6_find 13 = .ok (.aload_n 0, 1) := by decide +kernel
theorem dX6_find_14 : decode cX6_find 14 = .ok (.getfield 11, 3) := by decide +kernel
theorem dX6_find_17 : decode cX6_find 17 = .ok (.arraylength, 1) := by decide +kernel
theorem dX6_find_18 : decode cX6_find 18 = .ok (.if_icmp .lt 5, 3) := by decide +kernel
theorem dX6_find_21 : decode cX6_find 21 = .ok (.aconst_null, 1) := by decide +kernel
theorem dX6_find_22 : decode cX6_find 22 = .ok (.areturn, 1) := by decide +kernel
theorem dX6_find_23 : decode cX6_find 23 = .ok (.aload_n 0, 1) := by decide +kernel
theorem dX6_find_24 : decode cX6_find 24 = .ok (.getfield 11, 3) := by decide +kernel
theorem dX6_find_27 : decode cX6_find 27 = .ok (.iload_n 1, 1) := by decide +kernel
theorem dX6_find_28 : decode cX6_find 28 = .ok (.aaload, 1) := by decide +kernel
theorem dX6_find_29 : decode cX6_find 29 = .ok (.areturn, 1) := by decide +kernel
theorem dX6_placeOf_0 : decode cX6_placeOf 0 = .ok (.aload_n 0, 1) := by decide +kernel
theorem dX6_placeOf_1 : decode cX6_placeOf 1 = .ok (.iload_n 1, 1) := by decide +kernel
theorem dX6_placeOf_2 : decode cX6_placeOf 2 = .ok (.invokevirtual 59, 3) := by decide +kernel
theorem dX6_placeOf_5 : decode cX6_placeOf 5 = .ok (.astore_n 2, 1) := by decide +kernel
theorem dX6_placeOf_6 : decode cX6_placeOf 6 = .ok (.aload_n 2, 1) := by decide +kernel
theorem dX6_placeOf_7 : decode cX6_placeOf 7 = .ok (.ifnonnull 7, 3) := by decide +kernel
theorem dX6_placeOf_10 : decode cX6_placeOf 10 = .ok (.iconst 0, 1) := by decide +kernel
theorem dX6_placeOf_11 : decode cX6_placeOf 11 = .ok (.goto 7, 3) := by decide +kernel
theorem dX6_placeOf_14 : decode cX6_placeOf 14 = .ok (.aload_n 2, 1) := by decide +kernel
theorem dX6_placeOf_15 : decode cX6_placeOf 15 = .ok (.getfield 63, 3) := by decide +kernel
theorem dX6_placeOf_18 : decode cX6_placeOf 18 = .ok (.ireturn, 1) := by decide +kernel
theorem dX6_hasRosetteAt_0 : decode cX6_hasRosetteAt 0 = .ok (.iconst 0, 1) := by decide +kernel
theorem dX6_hasRosetteAt_1 : decode cX6_hasRosetteAt 1 = .ok (.istore_n 2, 1) := by decide +kernel
theorem dX6_hasRosetteAt_2 : decode cX6_hasRosetteAt 2 = .ok (.iload_n 2, 1) := by decide +kernel
theorem dX6_hasRosetteAt_3 : decode cX6_hasRosetteAt 3 = .ok (.aload_n 0, 1) := by decide +kernel
theorem dX6_hasRosetteAt_4 : decode cX6_hasRosetteAt 4 = .ok (.getfield 41, 3) := by decide +kernel
theorem dX6_hasRosetteAt_7 : decode cX6_hasRosetteAt 7 = .ok (.if_icmp .ge 20, 3) := by decide +kernel
theorem dX6_hasRosetteAt_10 : decode cX6_hasRosetteAt 10 = .ok (.aload_n 0, 1) := by decide +kernel
theorem dX6_hasRosetteAt_11 : decode cX6_hasRosetteAt 11 = .ok (.iload_n 2, 1) := by decide +kernel
theorem dX6_hasRosetteAt_12 : decode cX6_hasRosetteAt 12 = .ok (.invokevirtual 64, 3) := by decide +kernel
theorem dX6_hasRosetteAt_15 : decode cX6_hasRosetteAt 15 = .ok (.iload_n 1, 1) := by decide +kernel
theorem dX6_hasRosetteAt_16 : decode cX6_hasRosetteAt 16 = .ok (.if_icmp .ne 5, 3) := by decide +kernel
theorem dX6_hasRosetteAt_19 : decode cX6_hasRosetteAt 19 = .ok (.iconst 1, 1) := by decide +kernel
theorem dX6_hasRosetteAt_20 : decode cX6_hasRosetteAt 20 = .ok (.ireturn, 1) := by decide +kernel
theorem dX6_hasRosetteAt_21 : decode cX6_hasRosetteAt 21 = .ok (.iinc 2 1, 3) := by decide +kernel
theorem dX6_hasRosetteAt_24 : decode cX6_hasRosetteAt 24 = .ok (.goto (-22), 3) := by decide +kernel
theorem dX6_hasRosetteAt_27 : decode cX6_hasRosetteAt 27 = .ok (.iconst 0, 1) := by decide +kernel
theorem dX6_hasRosetteAt_28 : decode cX6_hasRosetteAt 28 = .ok (.ireturn, 1) := by decide +kernel
theorem dX6_addJob_0 : decode cX6_addJob 0 = .ok (.aload_n 0, 1) := by decide +kernel
theorem dX6_addJob_1 : decode cX6_addJob 1 = .ok (.getfield 50, 3) := by decide +kernel
theorem dX6_addJob_4 : decode cX6_addJob 4 = .ok (.istore 4, 2) := by decide +kernel
theorem dX6_addJob_6 : decode cX6_addJob 6 = .ok (.aload_n 0, 1) := by decide +kernel
theorem dX6_addJob_7 : decode cX6_addJob 7 = .ok (.getfield 22, 3) := by decide +kernel
theorem dX6_addJob_10 : decode cX6_addJob 10 = .ok (.iload 4, 2) := by decide +kernel
theorem dX6_addJob_12 : decode cX6_addJob 12 = .ok (.iload_n 1, 1) := by decide +kernel
theorem dX6_addJob_13 : decode cX6_addJob 13 = .ok (.iload_n 2, 1) := by decide +kernel
theorem dX6_addJob_14 : decode cX6_addJob 14 = .ok (.iload_n 3, 1) := by decide +kernel
theorem dX6_addJob_15 : decode cX6_addJob 15 = .ok (.invokevirtual 68, 3) := by decide +kernel
theorem dX6_addJob_18 : decode cX6_addJob 18 = .ok (.aload_n 0, 1) := by decide +kernel
theorem dX6_addJob_19 : decode cX6_addJob 19 = .ok (.dup, 1) := by decide +kernel
theorem dX6_addJob_20 : decode cX6_addJob 20 = .ok (.getfield 50, 3) := by decide +kernel
theorem dX6_addJob_23 : decode cX6_addJob 23 = .ok (.iconst 1, 1) := by decide +kernel
theorem dX6_addJob_24 : decode cX6_addJob 24 = .ok (.iadd, 1) := by decide +kernel
theorem dX6_addJob_25 : decode cX6_addJob 25 = .ok (.putfield 50, 3) := by decide +kernel
theorem dX6_addJob_28 : decode cX6_addJob 28 = .ok (.iload 4, 2) := by decide +kernel
theorem dX6_addJob_30 : decode cX6_addJob 30 = .ok (.ireturn, 1) := by decide +kernel
theorem dX6_jobsFor_0 : decode cX6_jobsFor 0 = .ok (.iconst 0, 1) := by decide +kernel
theorem dX6_jobsFor_1 : decode cX6_jobsFor 1 = .ok (.istore_n 2, 1) := by decide +kernel
theorem dX6_jobsFor_2 : decode cX6_jobsFor 2 = .ok (.iconst 0, 1) := by decide +kernel
theorem dX6_jobsFor_3 : decode cX6_jobsFor 3 = .ok (.istore_n 3, 1) := by decide +kernel
theorem dX6_jobsFor_4 : decode cX6_jobsFor 4 = .ok (.iload_n 3, 1) := by decide +kernel
theorem dX6_jobsFor_5 : decode cX6_jobsFor 5 = .ok (.aload_n 0, 1) := by decide +kernel
theorem dX6_jobsFor_6 : decode cX6_jobsFor 6 = .ok (.getfield 22, 3) := by decide +kernel
theorem dX6_jobsFor_9 : decode cX6_jobsFor 9 = .ok (.getfield 72, 3) := by decide +kernel
theorem dX6_jobsFor_12 : decode cX6_jobsFor 12 = .ok (.if_icmp .ge 25, 3) := by decide +kernel
theorem dX6_jobsFor_15 : decode cX6_jobsFor 15 = .ok (.aload_n 0, 1) := by decide +kernel
theorem dX6_jobsFor_16 : decode cX6_jobsFor 16 = .ok (.getfield 22, 3) := by decide +kernel
theorem dX6_jobsFor_19 : decode cX6_jobsFor 19 = .ok (.iload_n 3, 1) := by decide +kernel
theorem dX6_jobsFor_20 : decode cX6_jobsFor 20 = .ok (.iconst 2, 1) := by decide +kernel
theorem dX6_jobsFor_21 : decode cX6_jobsFor 21 = .ok (.invokevirtual 75, 3) := by decide +kernel
theorem dX6_jobsFor_24 : decode cX6_jobsFor 24 = .ok (.iload_n 1, 1) := by decide +kernel
theorem dX6_jobsFor_25 : decode cX6_jobsFor 25 = .ok (.if_icmp .ne 6, 3) := by decide +kernel
theorem dX6_jobsFor_28 : decode cX6_jobsFor 28 = .ok (.iinc 2 1, 3) := by decide +kernel
theorem dX6_jobsFor_31 : decode cX6_jobsFor 31 = .ok (.iinc 3 1, 3) := by decide +kernel
theorem dX6_jobsFor_34 : decode cX6_jobsFor 34 = .ok (.goto (-30), 3) := by decide +kernel
theorem dX6_jobsFor_37 : decode cX6_jobsFor 37 = .ok (.iload_n 2, 1) := by decide +kernel
theorem dX6_jobsFor_38 : decode cX6_jobsFor 38 = .ok (.ireturn, 1) := by decide +kernel
theorem dX6_dropJobsFor_0 : decode cX6_dropJobsFor 0 = .ok (.aload_n 0, 1) := by decide +kernel
theorem dX6_dropJobsFor_1 : decode cX6_dropJobsFor 1 = .ok (.getfield 22, 3) := by decide +kernel
theorem dX6_dropJobsFor_4 : decode cX6_dropJobsFor 4 = .ok (.getfield 72, 3) := by decide +kernel
theorem dX6_dropJobsFor_7 : decode cX6_dropJobsFor 7 = .ok (.iconst 1, 1) := by decide +kernel
theorem dX6_dropJobsFor_8 : decode cX6_dropJobsFor 8 = .ok (.isub, 1) := by decide +kernel
theorem dX6_dropJobsFor_9 : decode cX6_dropJobsFor 9 = .ok (.istore_n 2, 1) := by decide +kernel
theorem dX6_dropJobsFor_10 : decode cX6_dropJobsFor 10 = .ok (.iload_n 2, 1) := by decide +kernel
theorem dX6_dropJobsFor_11 : decode cX6_dropJobsFor 11 = .ok (.ifCond .lt 30, 3) := by decide +kernel
theorem dX6_dropJobsFor_14 : decode cX6_dropJobsFor 14 = .ok (.aload_n 0, 1) := by decide +kernel
theorem dX6_dropJobsFor_15 : decode cX6_dropJobsFor 15 = .ok (.getfield 22, 3) := by decide +kernel
theorem dX6_dropJobsFor_18 : decode cX6_dropJobsFor 18 = .ok (.iload_n 2, 1) := by decide +kernel
theorem dX6_dropJobsFor_19 : decode cX6_dropJobsFor 19 = .ok (.iconst 2, 1) := by decide +kernel
theorem dX6_dropJobsFor_20 : decode cX6_dropJobsFor 20 = .ok (.invokevirtual 75, 3) := by decide +kernel
theorem dX6_dropJobsFor_23 : decode cX6_dropJobsFor 23 = .ok (.iload_n 1, 1) := by decide +kernel
theorem dX6_dropJobsFor_24 : decode cX6_dropJobsFor 24 = .ok (.if_icmp .ne 11, 3) := by decide +kernel
theorem dX6_dropJobsFor_27 : decode cX6_dropJobsFor 27 = .ok (.aload_n 0, 1) := by decide +kernel
theorem dX6_dropJobsFor_28 : decode cX6_dropJobsFor 28 = .ok (.getfield 22, 3) := by decide +kernel
theorem dX6_dropJobsFor_31 : decode cX6_dropJobsFor 31 = .ok (.iload_n 2, 1) := by decide +kernel
theorem dX6_dropJobsFor_32 : decode cX6_dropJobsFor 32 = .ok (.invokevirtual 79, 3) := by decide +kernel
theorem dX6_dropJobsFor_35 : decode cX6_dropJobsFor 35 = .ok (.iinc 2 (-1), 3) := by decide +kernel
theorem dX6_dropJobsFor_38 : decode cX6_dropJobsFor 38 = .ok (.goto (-28), 3) := by decide +kernel
theorem dX6_dropJobsFor_41 : decode cX6_dropJobsFor 41 = .ok (.return_, 1) := by decide +kernel
theorem dX6_goTo_0 : decode cX6_goTo 0 = .ok (.aload_n 0, 1) := by decide +kernel
theorem dX6_goTo_1 : decode cX6_goTo 1 = .ok (.dup, 1) := by decide +kernel
theorem dX6_goTo_2 : decode cX6_goTo 2 = .ok (.getfield 47, 3) := by decide +kernel
theorem dX6_goTo_5 : decode cX6_goTo 5 = .ok (.iload_n 1, 1) := by decide +kernel
theorem dX6_goTo_6 : decode cX6_goTo 6 = .ok (.aload_n 0, 1) := by decide +kernel
theorem dX6_goTo_7 : decode cX6_goTo 7 = .ok (.getfield 44, 3) := by decide +kernel
theorem dX6_goTo_10 : decode cX6_goTo 10 = .ok (.isub, 1) := by decide +kernel
theorem dX6_goTo_11 : decode cX6_goTo 11 = .ok (.invokestatic 82, 3) := by decide +kernel
theorem dX6_goTo_14 : decode cX6_goTo 14 = .ok (.iadd, 1) := by decide +kernel
theorem dX6_goTo_15 : decode cX6_goTo 15 = .ok (.putfield 47, 3) := by decide +kernel
theorem dX6_goTo_18 : decode cX6_goTo 18 = .ok (.aload_n 0, 1) := by decide +kernel
theorem dX6_goTo_19 : decode cX6_goTo 19 = .ok (.iload_n 1, 1) := by decide +kernel
theorem dX6_goTo_20 : decode cX6_goTo 20 = .ok (.putfield 44, 3) := by decide +kernel
theorem dX6_goTo_23 : decode cX6_goTo 23 = .ok (.return_, 1) := by decide +kernel
theorem dX6_leaveRecord_0 : decode cX6_leaveRecord 0 = .ok (.aload_n 0, 1) := by decide +kernel
theorem dX6_leaveRecord_1 : decode cX6_leaveRecord 1 = .ok (.getfield 26, 3) := by decide +kernel
theorem dX6_leaveRecord_4 : decode cX6_leaveRecord 4 = .ok (.getfield 72, 3) := by decide +kernel
theorem dX6_leaveRecord_7 : decode cX6_leaveRecord 7 = .ok (.bipush 12, 2) := by decide +kernel
theorem dX6_leaveRecord_9 : decode cX6_leaveRecord 9 = .ok (.if_icmp .lt 11, 3) := by decide +kernel
theorem dX6_leaveRecord_12 : decode cX6_leaveRecord 12 = .ok (.aload_n 0, 1) := by decide +kernel
theorem dX6_leaveRecord_13 : decode cX6_leaveRecord 13 = .ok (.getfield 26, 3) := by decide +kernel
theorem dX6_leaveRecord_16 : decode cX6_leaveRecord 16 = .ok (.iconst 0, 1) := by decide +kernel
theorem dX6_leaveRecord_17 : decode cX6_leaveRecord 17 = .ok (.invokevirtual 79, 3) := by decide +kernel
theorem dX6_leaveRecord_20 : decode cX6_leaveRecord 20 = .ok (.aload_n 0, 1) := by decide +kernel
theorem dX6_leaveRecord_21 : decode cX6_leaveRecord 21 = .ok (.getfield 26, 3) := by decide +kernel
theorem dX6_leaveRecord_24 : decode cX6_leaveRecord 24 = .ok (.iload_n 1, 1) := by decide +kernel
theorem dX6_leaveRecord_25 : decode cX6_leaveRecord 25 = .ok (.iload_n 2, 1) := by decide +kernel
theorem dX6_leaveRecord_26 : decode cX6_leaveRecord 26 = .ok (.iload_n 3, 1) := by decide +kernel
theorem dX6_leaveRecord_27 : decode cX6_leaveRecord 27 = .ok (.iload 4, 2) := by decide +kernel
theorem dX6_leaveRecord_29 : decode cX6_leaveRecord 29 = .ok (.invokevirtual 68, 3) := by decide +kernel
theorem dX6_leaveRecord_32 : decode cX6_leaveRecord 32 = .ok (.return_, 1) := by decide +kernel
theorem dX7_init_0 : decode cX7_init 0 = .ok (.aload_n 0, 1) := by decide +kernel
theorem dX7_init_1 : decode cX7_init 1 = .ok (.invokespecial 1, 3) := by decide +kernel
theorem dX7_init_4 : decode cX7_init 4 = .ok (.aload_n 0, 1) := by decide +kernel
theorem dX7_init_5 : decode cX7_init 5 = .ok (.new 7, 3) := by decide +kernel
theorem dX7_init_8 : decode cX7_init 8 = .ok (.dup, 1) := by decide +kernel
theorem dX7_init_9 : decode cX7_init 9 = .ok (.invokespecial 9, 3) := by decide +kernel
theorem dX7_init_12 : decode cX7_init 12 = .ok (.putfield 10, 3) := by decide +kernel
theorem dX7_init_15 : decode cX7_init 15 = .ok (.aload_n 0, 1) := by decide +kernel
theorem dX7_init_16 : decode cX7_init 16 = .ok (.new 7, 3) := by decide +kernel
theorem dX7_init_19 : decode cX7_init 19 = .ok (.dup, 1) := by decide +kernel
theorem dX7_init_20 : decode cX7_init 20 = .ok (.invokespecial 9, 3) := by decide +kernel
theorem dX7_init_23 : decode cX7_init 23 = .ok (.putfield 16, 3) := by decide +kernel
theorem dX7_init_26 : decode cX7_init 26 = .ok (.aload_n 0, 1) := by decide +kernel
theorem dX7_init_27 : decode cX7_init 27 = .ok (.new 19, 3) := by decide +kernel
theorem dX7_init_30 : decode cX7_init 30 = .ok (.dup, 1) := by decide +kernel
theorem dX7_init_31 : decode cX7_init 31 = .ok (.invokespecial 21, 3) := by decide +kernel
theorem dX7_init_34 : decode cX7_init 34 = .ok (.putfield 22, 3) := by decide +kernel
theorem dX7_init_37 : decode cX7_init 37 = .ok (.aload_n 0, 1) := by decide +kernel
theorem dX7_init_38 : decode cX7_init 38 = .ok (.new 26, 3) := by decide +kernel
theorem dX7_init_41 : decode cX7_init 41 = .ok (.dup, 1) := by decide +kernel
theorem dX7_init_42 : decode cX7_init 42 = .ok (.invokespecial 28, 3) := by decide +kernel
theorem dX7_init_45 : decode cX7_init 45 = .ok (.putfield 29, 3) := by decide +kernel
theorem dX7_init_48 : decode cX7_init 48 = .ok (.aload_n 0, 1) := by decide +kernel
theorem dX7_init_49 : decode cX7_init 49 = .ok (.new 33, 3) := by decide +kernel
theorem dX7_init_52 : decode cX7_init 52 = .ok (.dup, 1) := by decide +kernel
end
section
theorem dX7_init_53 : decode cX7_init 53 = .ok (.invokespecial 35, 3) := by decide +kernel
theorem dX7_init_56 : decode cX7_init 56 = .ok (.putfield 36, 3) := by decide +kernel
theorem dX7_init_59 : decode cX7_init 59 = .ok (.aload_n 0, 1) := by decide +kernel
theorem dX7_init_60 : decode cX7_init 60 = .ok (.new 40, 3) := by decide +kernel
theorem dX7_init_63 : decode cX7_init 63 = .ok (.dup, 1) := by decide +kernel
theorem dX7_init_64 : decode cX7_init 64 = .ok (.invokespecial 42, 3) := by decide +kernel
theorem dX7_init_67 : decode cX7_init 67 = .ok (.putfield 43, 3) := by decide +kernel
theorem dX7_init_70 : decode cX7_init 70 = .ok (.return_, 1) := by decide +kernel
theorem dX7_addRosette_0 : decode cX7_addRosette 0 = .ok (.iload_n 3, 1) := by decide +kernel
theorem dX7_addRosette_1 : decode cX7_addRosette 1 = .ok (.bipush 120, 2) := by decide +kernel
theorem dX7_addRosette_3 : decode cX7_addRosette 3 = .ok (.if_icmp .eq 10, 3) := by decide +kernel
theorem dX7_addRosette_6 : decode cX7_addRosette 6 = .ok (.iload_n 3, 1) := by decide +kernel
theorem dX7_addRosette_7 : decode cX7_addRosette 7 = .ok (.sipush 350, 3) := by decide +kernel
theorem dX7_addRosette_10 : decode cX7_addRosette 10 = .ok (.if_icmp .ne 7, 3) := by decide +kernel
theorem dX7_addRosette_13 : decode cX7_addRosette 13 = .ok (.iconst 1, 1) := by decide +kernel
theorem dX7_addRosette_14 : decode cX7_addRosette 14 = .ok (.goto 4, 3) := by decide +kernel
theorem dX7_addRosette_17 : decode cX7_addRosette 17 = .ok (.iconst 0, 1) := by decide +kernel
theorem dX7_addRosette_18 : decode cX7_addRosette 18 = .ok (.istore 5, 2) := by decide +kernel
theorem dX7_addRosette_20 : decode cX7_addRosette 20 = .ok (.iload_n 1, 1) := by decide +kernel
theorem dX7_addRosette_21 : decode cX7_addRosette 21 = .ok (.iconst 0, 1) := by decide +kernel
theorem dX7_addRosette_22 : decode cX7_addRosette 22 = .ok (.sipush 1000, 3) := by decide +kernel
theorem dX7_addRosette_25 : decode cX7_addRosette 25 = .ok (.invokestatic 47, 3) := by decide +kernel
theorem dX7_addRosette_28 : decode cX7_addRosette 28 = .ok (.ifCond .eq 22, 3) := by decide +kernel
theorem dX7_addRosette_31 : decode cX7_addRosette 31 = .ok (.iload 5, 2) := by decide +kernel
theorem dX7_addRosette_33 : decode cX7_addRosette 33 = .ok (.ifCond .eq 17, 3) := by decide +kernel
theorem dX7_addRosette_36 : decode cX7_addRosette 36 = .ok (.iload 4, 2) := by decide +kernel
theorem dX7_addRosette_38 : decode cX7_addRosette 38 = .ok (.sipush 180, 3) := by decide +kernel
theorem dX7_addRosette_41 : decode cX7_addRosette 41 = .ok (.sipush 240, 3) := by decide +kernel
theorem dX7_addRosette_44 : decode cX7_addRosette 44 = .ok (.invokestatic 47, 3) := by decide +kernel
theorem dX7_addRosette_47 : decode cX7_addRosette 47 = .ok (.ifCond .ne 6, 3) := by decide +kernel
theorem dX7_addRosette_50 : decode cX7_addRosette 50 = .ok (.ldc 51, 2) := by decide +kernel
theorem dX7_addRosette_52 : decode cX7_addRosette 52 = .ok (.ireturn, 1) := by decide +kernel
theorem dX7_addRosette_53 : decode cX7_addRosette 53 = .ok (.aload_n 0, 1) := by decide +kernel
theorem dX7_addRosette_54 : decode cX7_addRosette 54 = .ok (.getfield 10, 3) := by decide +kernel
theorem dX7_addRosette_57 : decode cX7_addRosette 57 = .ok (.getfield 52, 3) := by decide +kernel
theorem dX7_addRosette_60 : decode cX7_addRosette 60 = .ok (.istore 6, 2) := by decide +kernel
theorem dX7_addRosette_62 : decode cX7_addRosette 62 = .ok (.iload 6, 2) := by decide +kernel
theorem dX7_addRosette_64 : decode cX7_addRosette 64 = .ok (.ifCond .lt 16, 3) := by decide +kernel
theorem dX7_addRosette_67 : decode cX7_addRosette 67 = .ok (.iload 6, 2) := by decide +kernel
theorem dX7_addRosette_69 : decode cX7_addRosette 69 = .ok (.aload_n 0, 1) := by decide +kernel
theorem dX7_addRosette_70 : decode cX7_addRosette 70 = .ok (.getfield 10, 3) := by decide +kernel
theorem dX7_addRosette_73 : decode cX7_addRosette 73 = .ok (.getfield 56, 3) := by decide +kernel
theorem dX7_addRosette_76 : decode cX7_addRosette 76 = .ok (.arraylength, 1) := by decide +kernel
theorem dX7_addRosette_77 : decode cX7_addRosette 77 = .ok (.if_icmp .lt 9, 3) := by decide +kernel
theorem dX7_addRosette_80 : decode cX7_addRosette 80 = .ok (.aload_n 0, 1) := by decide +kernel
theorem dX7_addRosette_81 : decode cX7_addRosette 81 = .ok (.iconst 1, 1) := by decide +kernel
theorem dX7_addRosette_82 : decode cX7_addRosette 82 = .ok (.invokevirtual 60, 3) := by decide +kernel
theorem dX7_addRosette_85 : decode cX7_addRosette 85 = .ok (.ireturn, 1) := by decide +kernel
theorem dX7_addRosette_86 : decode cX7_addRosette 86 = .ok (.aload_n 0, 1) := by decide +kernel
theorem dX7_addRosette_87 : decode cX7_addRosette 87 = .ok (.getfield 10, 3) := by decide +kernel
theorem dX7_addRosette_90 : decode cX7_addRosette 90 = .ok (.iload_n 1, 1) := by decide +kernel
theorem dX7_addRosette_91 : decode cX7_addRosette 91 = .ok (.invokevirtual 64, 3) := by decide +kernel
theorem dX7_addRosette_94 : decode cX7_addRosette 94 = .ok (.ifCond .eq 10, 3) := by decide +kernel
theorem dX7_addRosette_97 : decode cX7_addRosette 97 = .ok (.aload_n 0, 1) := by decide +kernel
theorem dX7_addRosette_98 : decode cX7_addRosette 98 = .ok (.bipush 6, 2) := by decide +kernel
theorem dX7_addRosette_100 : decode cX7_addRosette 100 = .ok (.invokevirtual 60, 3) := by decide +kernel
theorem dX7_addRosette_103 : decode cX7_addRosette 103 = .ok (.ireturn, 1) := by decide +kernel
theorem dX7_addRosette_104 : decode cX7_addRosette 104 = .ok (.aload_n 0, 1) := by decide +kernel
theorem dX7_addRosette_105 : decode cX7_addRosette 105 = .ok (.getfield 22, 3) := by decide +kernel
theorem dX7_addRosette_108 : decode cX7_addRosette 108 = .ok (.aload_n 0, 1) := by decide +kernel
theorem dX7_addRosette_109 : decode cX7_addRosette 109 = .ok (.getfield 10, 3) := by decide +kernel
theorem dX7_addRosette_112 : decode cX7_addRosette 112 = .ok (.invokevirtual 68, 3) := by decide +kernel
theorem dX7_addRosette_115 : decode cX7_addRosette 115 = .ok (.aload_n 0, 1) := by decide +kernel
theorem dX7_addRosette_116 : decode cX7_addRosette 116 = .ok (.getfield 10, 3) := by decide +kernel
theorem dX7_addRosette_119 : decode cX7_addRosette 119 = .ok (.getfield 56, 3) := by decide +kernel
theorem dX7_addRosette_122 : decode cX7_addRosette 122 = .ok (.iload 6, 2) := by decide +kernel
theorem dX7_addRosette_124 : decode cX7_addRosette 124 = .ok (.aaload, 1) := by decide +kernel
theorem dX7_addRosette_125 : decode cX7_addRosette 125 = .ok (.iload_n 1, 1) := by decide +kernel
theorem dX7_addRosette_126 : decode cX7_addRosette 126 = .ok (.iload_n 2, 1) := by decide +kernel
theorem dX7_addRosette_127 : decode cX7_addRosette 127 = .ok (.iload_n 3, 1) := by decide +kernel
theorem dX7_addRosette_128 : decode cX7_addRosette 128 = .ok (.iload 4, 2) := by decide +kernel
theorem dX7_addRosette_130 : decode cX7_addRosette 130 = .ok (.invokevirtual 72, 3) := by decide +kernel
theorem dX7_addRosette_133 : decode cX7_addRosette 133 = .ok (.aload_n 0, 1) := by decide +kernel
theorem dX7_addRosette_134 : decode cX7_addRosette 134 = .ok (.getfield 10, 3) := by decide +kernel
theorem dX7_addRosette_137 : decode cX7_addRosette 137 = .ok (.dup, 1) := by decide +kernel
theorem dX7_addRosette_138 : decode cX7_addRosette 138 = .ok (.getfield 52, 3) := by decide +kernel
theorem dX7_addRosette_141 : decode cX7_addRosette 141 = .ok (.iconst 1, 1) := by decide +kernel
theorem dX7_addRosette_142 : decode cX7_addRosette 142 = .ok (.iadd, 1) := by decide +kernel
theorem dX7_addRosette_143 : decode cX7_addRosette 143 = .ok (.putfield 52, 3) := by decide +kernel
theorem dX7_addRosette_146 : decode cX7_addRosette 146 = .ok (.iload 6, 2) := by decide +kernel
theorem dX7_addRosette_148 : decode cX7_addRosette 148 = .ok (.ireturn, 1) := by decide +kernel
theorem dX7_setStrain_0 : decode cX7_setStrain 0 = .ok (.aload_n 0, 1) := by decide +kernel
theorem dX7_setStrain_1 : decode cX7_setStrain 1 = .ok (.getfield 10, 3) := by decide +kernel
theorem dX7_setStrain_4 : decode cX7_setStrain 4 = .ok (.iload_n 1, 1) := by decide +kernel
theorem dX7_setStrain_5 : decode cX7_setStrain 5 = .ok (.invokevirtual 78, 3) := by decide +kernel
theorem dX7_setStrain_8 : decode cX7_setStrain 8 = .ok (.astore 5, 2) := by decide +kernel
theorem dX7_setStrain_10 : decode cX7_setStrain 10 = .ok (.aload 5, 2) := by decide +kernel
theorem dX7_setStrain_12 : decode cX7_setStrain 12 = .ok (.ifnonnull 6, 3) := by decide +kernel
theorem dX7_setStrain_15 : decode cX7_setStrain 15 = .ok (.ldc 82, 2) := by decide +kernel
theorem dX7_setStrain_17 : decode cX7_setStrain 17 = .ok (.ireturn, 1) := by decide +kernel
theorem dX7_setStrain_18 : decode cX7_setStrain 18 = .ok (.iload_n 2, 1) := by decide +kernel
theorem dX7_setStrain_19 : decode cX7_setStrain 19 = .ok (.sipush 5000, 3) := by decide +kernel
theorem dX7_setStrain_22 : decode cX7_setStrain 22 = .ok (.invokestatic 83, 3) := by decide +kernel
theorem dX7_setStrain_25 : decode cX7_setStrain 25 = .ok (.ifCond .eq 24, 3) := by decide +kernel
theorem dX7_setStrain_28 : decode cX7_setStrain 28 = .ok (.iload_n 3, 1) := by decide +kernel
theorem dX7_setStrain_29 : decode cX7_setStrain 29 = .ok (.sipush 5000, 3) := by decide +kernel
theorem dX7_setStrain_32 : decode cX7_setStrain 32 = .ok (.invokestatic 83, 3) := by decide +kernel
theorem dX7_setStrain_35 : decode cX7_setStrain 35 = .ok (.ifCond .eq 14, 3) := by decide +kernel
theorem dX7_setStrain_38 : decode cX7_setStrain 38 = .ok (.iload 4, 2) := by decide +kernel
theorem dX7_setStrain_40 : decode cX7_setStrain 40 = .ok (.sipush 5000, 3) := by decide +kernel
theorem dX7_setStrain_43 : decode cX7_setStrain 43 = .ok (.invokestatic 83, 3) := by decide +kernel
theorem dX7_setStrain_46 : decode cX7_setStrain 46 = .ok (.ifCond .ne 6, 3) := by decide +kernel
theorem dX7_setStrain_49 : decode cX7_setStrain 49 = .ok (.ldc 51, 2) := by decide +kernel
theorem dX7_setStrain_51 : decode cX7_setStrain 51 = .ok (.ireturn, 1) := by decide +kernel
theorem dX7_setStrain_52 : decode cX7_setStrain 52 = .ok (.aload 5, 2) := by decide +kernel
theorem dX7_setStrain_54 : decode cX7_setStrain 54 = .ok (.getfield 87, 3) := by decide +kernel
theorem dX7_setStrain_57 : decode cX7_setStrain 57 = .ok (.iload_n 2, 1) := by decide +kernel
theorem dX7_setStrain_58 : decode cX7_setStrain 58 = .ok (.if_icmp .ne 25, 3) := by decide +kernel
theorem dX7_setStrain_61 : decode cX7_setStrain 61 = .ok (.aload 5, 2) := by decide +kernel
theorem dX7_setStrain_63 : decode cX7_setStrain 63 = .ok (.getfield 90, 3) := by decide +kernel
theorem dX7_setStrain_66 : decode cX7_setStrain 66 = .ok (.iload_n 3, 1) := by decide +kernel
theorem dX7_setStrain_67 : decode cX7_setStrain 67 = .ok (.if_icmp .ne 16, 3) := by decide +kernel
theorem dX7_setStrain_70 : decode cX7_setStrain 70 = .ok (.aload 5, 2) := by decide +kernel
theorem dX7_setStrain_72 : decode cX7_setStrain 72 = .ok (.getfield 93, 3) := by decide +kernel
theorem dX7_setStrain_75 : decode cX7_setStrain 75 = .ok (.iload 4, 2) := by decide +kernel
theorem dX7_setStrain_77 : decode cX7_setStrain 77 = .ok (.if_icmp .ne 6, 3) := by decide +kernel
theorem dX7_setStrain_80 : decode cX7_setStrain 80 = .ok (.ldc 96, 2) := by decide +kernel
theorem dX7_setStrain_82 : decode cX7_setStrain 82 = .ok (.ireturn, 1) := by decide +kernel
theorem dX7_setStrain_83 : decode cX7_setStrain 83 = .ok (.aload_n 0, 1) := by decide +kernel
theorem dX7_setStrain_84 : decode cX7_setStrain 84 = .ok (.getfield 22, 3) := by decide +kernel
theorem dX7_setStrain_87 : decode cX7_setStrain 87 = .ok (.aload_n 0, 1) := by decide +kernel
theorem dX7_setStrain_88 : decode cX7_setStrain 88 = .ok (.getfield 10, 3) := by decide +kernel
theorem dX7_setStrain_91 : decode cX7_setStrain 91 = .ok (.invokevirtual 68, 3) := by decide +kernel
theorem dX7_setStrain_94 : decode cX7_setStrain 94 = .ok (.aload_n 0, 1) := by decide +kernel
theorem dX7_setStrain_95 : decode cX7_setStrain 95 = .ok (.getfield 43, 3) := by decide +kernel
theorem dX7_setStrain_98 : decode cX7_setStrain 98 = .ok (.aload 5, 2) := by decide +kernel
theorem dX7_setStrain_100 : decode cX7_setStrain 100 = .ok (.aload_n 0, 1) := by decide +kernel
theorem dX7_setStrain_101 : decode cX7_setStrain 101 = .ok (.getfield 10, 3) := by decide +kernel
theorem dX7_setStrain_104 : decode cX7_setStrain 104 = .ok (.getfield 97, 3) := by decide +kernel
theorem dX7_setStrain_107 : decode cX7_setStrain 107 = .ok (.invokevirtual 100, 3) := by decide +kernel
theorem dX7_setStrain_110 : decode cX7_setStrain 110 = .ok (.aload_n 0, 1) := by decide +kernel
theorem dX7_setStrain_111 : decode cX7_setStrain 111 = .ok (.getfield 43, 3) := by decide +kernel
theorem dX7_setStrain_114 : decode cX7_setStrain 114 = .ok (.invokevirtual 104, 3) := by decide +kernel
theorem dX7_setStrain_117 : decode cX7_setStrain 117 = .ok (.aload 5, 2) := by decide +kernel
theorem dX7_setStrain_119 : decode cX7_setStrain 119 = .ok (.iload_n 2, 1) := by decide +kernel
theorem dX7_setStrain_120 : decode cX7_setStrain 120 = .ok (.putfield 87, 3) := by decide +kernel
theorem dX7_setStrain_123 : decode cX7_setStrain 123 = .ok (.aload 5, 2) := by decide +kernel
theorem dX7_setStrain_125 : decode cX7_setStrain 125 = .ok (.iload_n 3, 1) := by decide +kernel
theorem dX7_setStrain_126 : decode cX7_setStrain 126 = .ok (.putfield 90, 3) := by decide +kernel
theorem dX7_setStrain_129 : decode cX7_setStrain 129 = .ok (.aload 5, 2) := by decide +kernel
theorem dX7_setStrain_131 : decode cX7_setStrain 131 = .ok (.iload 4, 2) := by decide +kernel
theorem dX7_setStrain_133 : decode cX7_setStrain 133 = .ok (.putfield 93, 3) := by decide +kernel
theorem dX7_setStrain_136 : decode cX7_setStrain 136 = .ok (.aload_n 0, 1) := by decide +kernel
theorem dX7_setStrain_137 : decode cX7_setStrain 137 = .ok (.getfield 43, 3) := by decide +kernel
theorem dX7_setStrain_140 : decode cX7_setStrain 140 = .ok (.aload 5, 2) := by decide +kernel
theorem dX7_setStrain_142 : decode cX7_setStrain 142 = .ok (.aload_n 0, 1) := by decide +kernel
theorem dX7_setStrain_143 : decode cX7_setStrain 143 = .ok (.getfield 10, 3) := by decide +kernel
theorem dX7_setStrain_146 : decode cX7_setStrain 146 = .ok (.getfield 97, 3) := by decide +kernel
theorem dX7_setStrain_149 : decode cX7_setStrain 149 = .ok (.invokevirtual 100, 3) := by decide +kernel
theorem dX7_setStrain_152 : decode cX7_setStrain 152 = .ok (.aload_n 0, 1) := by decide +kernel
theorem dX7_setStrain_153 : decode cX7_setStrain 153 = .ok (.getfield 43, 3) := by decide +kernel
theorem dX7_setStrain_156 : decode cX7_setStrain 156 = .ok (.invokevirtual 107, 3) := by decide +kernel
theorem dX7_setStrain_159 : decode cX7_setStrain 159 = .ok (.ireturn, 1) := by decide +kernel
theorem dX7_setLeads_0 : decode cX7_setLeads 0 = .ok (.aload_n 0, 1) := by decide +kernel
theorem dX7_setLeads_1 : decode cX7_setLeads 1 = .ok (.getfield 10, 3) := by decide +kernel
theorem dX7_setLeads_4 : decode cX7_setLeads 4 = .ok (.iload_n 1, 1) := by decide +kernel
theorem dX7_setLeads_5 : decode cX7_setLeads 5 = .ok (.invokevirtual 78, 3) := by decide +kernel
theorem dX7_setLeads_8 : decode cX7_setLeads 8 = .ok (.astore_n 3, 1) := by decide +kernel
theorem dX7_setLeads_9 : decode cX7_setLeads 9 = .ok (.aload_n 3, 1) := by decide +kernel
theorem dX7_setLeads_10 : decode cX7_setLeads 10 = .ok (.ifnonnull 6, 3) := by decide +kernel
theorem dX7_setLeads_13 : decode cX7_setLeads 13 = .ok (.ldc 82, 2) := by decide +kernel
theorem dX7_setLeads_15 : decode cX7_setLeads 15 = .ok (.ireturn, 1) := by decide +kernel
theorem dX7_setLeads_16 : decode cX7_setLeads 16 = .ok (.iload_n 2, 1) := by decide +kernel
theorem dX7_setLeads_17 : decode cX7_setLeads 17 = .ok (.iconst 0, 1) := by decide +kernel
theorem dX7_setLeads_18 : decode cX7_setLeads 18 = .ok (.sipush 20000, 3) := by decide +kernel
theorem dX7_setLeads_21 : decode cX7_setLeads 21 = .ok (.invokestatic 47, 3) := by decide +kernel
theorem dX7_setLeads_24 : decode cX7_setLeads 24 = .ok (.ifCond .ne 6, 3) := by decide +kernel
theorem dX7_setLeads_27 : decode cX7_setLeads 27 = .ok (.ldc 51, 2) := by decide +kernel
theorem dX7_setLeads_29 : decode cX7_setLeads 29 = .ok (.ireturn, 1) := by decide +kernel
theorem dX7_setLeads_30 : decode cX7_setLeads 30 = .ok (.aload_n 3, 1) := by decide +kernel
theorem dX7_setLeads_31 : decode cX7_setLeads 31 = .ok (.getfield 111, 3) := by decide +kernel
theorem dX7_setLeads_34 : decode cX7_setLeads 34 = .ok (.istore 4, 2) := by decide +kernel
theorem dX7_setLeads_36 : decode cX7_setLeads 36 = .ok (.iload 4, 2) := by decide +kernel
theorem dX7_setLeads_38 : decode cX7_setLeads 38 = .ok (.iload_n 2, 1) := by decide +kernel
theorem dX7_setLeads_39 : decode cX7_setLeads 39 = .ok (.if_icmp .ne 6, 3) := by decide +kernel
theorem dX7_setLeads_42 : decode cX7_setLeads 42 = .ok (.ldc 96, 2) := by decide +kernel
theorem dX7_setLeads_44 : decode cX7_setLeads 44 = .ok (.ireturn, 1) := by decide +kernel
theorem dX7_setLeads_45 : decode cX7_setLeads 45 = .ok (.aload_n 0, 1) := by decide +kernel
theorem dX7_setLeads_46 : decode cX7_setLeads 46 = .ok (.getfield 22, 3) := by decide +kernel
theorem dX7_setLeads_49 : decode cX7_setLeads 49 = .ok (.aload_n 0, 1) := by decide +kernel
theorem dX7_setLeads_50 : decode cX7_setLeads 50 = .ok (.getfield 10, 3) := by decide +kernel
theorem dX7_setLeads_53 : decode cX7_setLeads 53 = .ok (.invokevirtual 68, 3) := by decide +kernel
theorem dX7_setLeads_56 : decode cX7_setLeads 56 = .ok (.aload_n 3, 1) := by decide +kernel
theorem dX7_setLeads_57 : decode cX7_setLeads 57 = .ok (.iload_n 2, 1) := by decide +kernel
theorem dX7_setLeads_58 : decode cX7_setLeads 58 = .ok (.putfield 111, 3) := by decide +kernel
theorem dX7_setLeads_61 : decode cX7_setLeads 61 = .ok (.iload 4, 2) := by decide +kernel
theorem dX7_setLeads_63 : decode cX7_setLeads 63 = .ok (.ireturn, 1) := by decide +kernel
theorem dX7_setOffset_0 : decode cX7_setOffset 0 = .ok (.aload_n 0, 1) := by decide +kernel
theorem dX7_setOffset_1 : decode cX7_setOffset 1 = .ok (.getfield 10, 3) := by decide +kernel
theorem dX7_setOffset_4 : decode cX7_setOffset 4 = .ok (.iload_n 1, 1) := by decide +kernel
theorem dX7_setOffset_5 : decode cX7_setOffset 5 = .ok (.invokevirtual 78, 3) := by decide +kernel
theorem dX7_setOffset_8 : decode cX7_setOffset 8 = .ok (.astore 4, 2) := by decide +kernel
theorem dX7_setOffset_10 : decode cX7_setOffset 10 = .ok (.aload 4, 2) := by decide +kernel
theorem dX7_setOffset_12 : decode cX7_setOffset 12 = .ok (.ifnull 17, 3) := by decide +kernel
theorem dX7_setOffset_15 : decode cX7_setOffset 15 = .ok (.iload_n 2, 1) := by decide +kernel
theorem dX7_setOffset_16 : decode cX7_setOffset 16 = .ok (.ifCond .lt 13, 3) := by decide +kernel
theorem dX7_setOffset_19 : decode cX7_setOffset 19 = .ok (.iload_n 2, 1) := by decide +kernel
theorem dX7_setOffset_20 : decode cX7_setOffset 20 = .ok (.aload 4, 2) := by decide +kernel
theorem dX7_setOffset_22 : decode cX7_setOffset 22 = .ok (.getfield 114, 3) := by decide +kernel
theorem dX7_setOffset_25 : decode cX7_setOffset 25 = .ok (.arraylength, 1) := by decide +kernel
theorem dX7_setOffset_26 : decode cX7_setOffset 26 = .ok (.if_icmp .lt 6, 3) := by decide +kernel
theorem dX7_setOffset_29 : decode cX7_setOffset 29 = .ok (.ldc 82, 2) := by decide +kernel
theorem dX7_setOffset_31 : decode cX7_setOffset 31 = .ok (.ireturn, 1) := by decide +kernel
theorem dX7_setOffset_32 : decode cX7_setOffset 32 = .ok (.iload_n 3, 1) := by decide +kernel
theorem dX7_setOffset_33 : decode cX7_setOffset 33 = .ok (.sipush 9999, 3) := by decide +kernel
theorem dX7_setOffset_36 : decode cX7_setOffset 36 = .ok (.invokestatic 83, 3) := by decide +kernel
theorem dX7_setOffset_39 : decode cX7_setOffset 39 = .ok (.ifCond .ne 6, 3) := by decide +kernel
theorem dX7_setOffset_42 : decode cX7_setOffset 42 = .ok (.ldc 51, 2) := by decide +kernel
theorem dX7_setOffset_44 : decode cX7_setOffset 44 = .ok (.ireturn, 1) := by decide +kernel
theorem dX7_setOffset_45 : decode cX7_setOffset 45 = .ok (.aload 4, 2) := by decide +kernel
theorem dX7_setOffset_47 : decode cX7_setOffset 47 = .ok (.getfield 114, 3) := by decide +kernel
theorem dX7_setOffset_50 : decode cX7_setOffset 50 = .ok (.iload_n 2, 1) := by decide +kernel
theorem dX7_setOffset_51 : decode cX7_setOffset 51 = .ok (.iaload, 1) := by decide +kernel
theorem dX7_setOffset_52 : decode cX7_setOffset 52 = .ok (.istore 5, 2) := by decide +kernel
theorem dX7_setOffset_54 : decode cX7_setOffset 54 = .ok (.iload 5, 2) := by decide +kernel
theorem dX7_setOffset_56 : decode cX7_setOffset 56 = .ok (.iload_n 3, 1) := by decide +kernel
theorem dX7_setOffset_57 : decode cX7_setOffset 57 = .ok (.if_icmp .ne 6, 3) := by decide +kernel
theorem dX7_setOffset_60 : decode cX7_setOffset 60 = .ok (.ldc 96, 2) := by decide +kernel
theorem dX7_setOffset_62 : decode cX7_setOffset 62 = .ok (.ireturn, 1) := by decide +kernel
theorem dX7_setOffset_63 : decode cX7_setOffset 63 = .ok (.aload_n 0, 1) := by decide +kernel
theorem dX7_setOffset_64 : decode cX7_setOffset 64 = .ok (.getfield 22, 3) := by decide +kernel
theorem dX7_setOffset_67 : decode cX7_setOffset 67 = .ok (.aload_n 0, 1) := by decide +kernel
theorem dX7_setOffset_68 : decode cX7_setOffset 68 = .ok (.getfield 10, 3) := by decide +kernel
theorem dX7_setOffset_71 : decode cX7_setOffset 71 = .ok (.invokevirtual 68, 3) := by decide +kernel
theorem dX7_setOffset_74 : decode cX7_setOffset 74 = .ok (.aload 4, 2) := by decide +kernel
theorem dX7_setOffset_76 : decode cX7_setOffset 76 = .ok (.getfield 114, 3) := by decide +kernel
theorem dX7_setOffset_79 : decode cX7_setOffset 79 = .ok (.iload_n 2, 1) := by decide +kernel
theorem dX7_setOffset_80 : decode cX7_setOffset 80 = .ok (.iload_n 3, 1) := by decide +kernel
theorem dX7_setOffset_81 : decode cX7_setOffset 81 = .ok (.iastore, 1) := by decide +kernel
theorem dX7_setOffset_82 : decode cX7_setOffset 82 = .ok (.iload 5, 2) := by decide +kernel
theorem dX7_setOffset_84 : decode cX7_setOffset 84 = .ok (.ireturn, 1) := by decide +kernel
theorem dX7_setShunt_0 : decode cX7_setShunt 0 = .ok (.aload_n 0, 1) := by decide +kernel
theorem dX7_setShunt_1 : decode cX7_setShunt 1 = .ok (.getfield 10, 3) := by decide +kernel
theorem dX7_setShunt_4 : decode cX7_setShunt 4 = .ok (.iload_n 1, 1) := by decide +kernel
theorem dX7_setShunt_5 : decode cX7_setShunt 5 = .ok (.invokevirtual 78, 3) := by decide +kernel
theorem dX7_setShunt_8 : decode cX7_setShunt 8 = .ok (.astore_n 3, 1) := by decide +kernel
theorem dX7_setShunt_9 : decode cX7_setShunt 9 = .ok (.aload_n 3, 1) := by decide +kernel
theorem dX7_setShunt_10 : decode cX7_setShunt 10 = .ok (.ifnonnull 6, 3) := by decide +kernel
theorem dX7_setShunt_13 : decode cX7_setShunt 13 = .ok (.ldc 82, 2) := by decide +kernel
theorem dX7_setShunt_15 : decode cX7_setShunt 15 = .ok (.ireturn, 1) := by decide +kernel
theorem dX7_setShunt_16 : decode cX7_setShunt 16 = .ok (.aload_n 3, 1) := by decide +kernel
theorem dX7_setShunt_17 : decode cX7_setShunt 17 = .ok (.getfield 118, 3) := by decide +kernel
theorem dX7_setShunt_20 : decode cX7_setShunt 20 = .ok (.iload_n 2, 1) := by decide +kernel
theorem dX7_setShunt_21 : decode cX7_setShunt 21 = .ok (.if_icmp .ne 6, 3) := by decide +kernel
theorem dX7_setShunt_24 : decode cX7_setShunt 24 = .ok (.ldc 96, 2) := by decide +kernel
theorem dX7_setShunt_26 : decode cX7_setShunt 26 = .ok (.ireturn, 1) := by decide +kernel
theorem dX7_setShunt_27 : decode cX7_setShunt 27 = .ok (.aload_n 0, 1) := by decide +kernel
theorem dX7_setShunt_28 : decode cX7_setShunt 28 = .ok (.getfield 22, 3) := by decide +kernel
theorem dX7_setShunt_31 : decode cX7_setShunt 31 = .ok (.aload_n 0, 1) := by decide +kernel
theorem dX7_setShunt_32 : decode cX7_setShunt 32 = .ok (.getfield 10, 3) := by decide +kernel
theorem dX7_setShunt_35 : decode cX7_setShunt 35 = .ok (.invokevirtual 68, 3) := by decide +kernel
theorem dX7_setShunt_38 : decode cX7_setShunt 38 = .ok (.aload_n 3, 1) := by decide +kernel
theorem dX7_setShunt_39 : decode cX7_setShunt 39 = .ok (.iload_n 2, 1) := by decide +kernel
theorem dX7_setShunt_40 : decode cX7_setShunt 40 = .ok (.putfield 118, 3) := by decide +kernel
theorem dX7_setShunt_43 : decode cX7_setShunt 43 = .ok (.aload_n 0, 1) := by decide +kernel
theorem dX7_setShunt_44 : decode cX7_setShunt 44 = .ok (.getfield 43, 3) := by decide +kernel
theorem dX7_setShunt_47 : decode cX7_setShunt 47 = .ok (.aload_n 3, 1) := by decide +kernel
theorem dX7_setShunt_48 : decode cX7_setShunt 48 = .ok (.aload_n 0, 1) := by decide +kernel
theorem dX7_setShunt_49 : decode cX7_setShunt 49 = .ok (.getfield 10, 3) := by decide +kernel
theorem dX7_setShunt_52 : decode cX7_setShunt 52 = .ok (.getfield 97, 3) := by decide +kernel
theorem dX7_setShunt_55 : decode cX7_setShunt 55 = .ok (.invokevirtual 100, 3) := by decide +kernel
theorem dX7_setShunt_58 : decode cX7_setShunt 58 = .ok (.aload_n 0, 1) := by decide +kernel
theorem dX7_setShunt_59 : decode cX7_setShunt 59 = .ok (.getfield 43, 3) := by decide +kernel
theorem dX7_setShunt_62 : decode cX7_setShunt 62 = .ok (.getfield 122, 3) := by decide +kernel
theorem dX7_setShunt_65 : decode cX7_setShunt 65 = .ok (.iconst 0, 1) := by decide +kernel
theorem dX7_setShunt_66 : decode cX7_setShunt 66 = .ok (.iaload, 1) := by decide +kernel
theorem dX7_setShunt_67 : decode cX7_setShunt 67 = .ok (.ireturn, 1) := by decide +kernel
theorem dX7_setSize_0 : decode cX7_setSize 0 = .ok (.iload_n 1, 1) := by decide +kernel
theorem dX7_setSize_1 : decode cX7_setSize 1 = .ok (.bipush 20, 2) := by decide +kernel
theorem dX7_setSize_3 : decode cX7_setSize 3 = .ok (.sipush 500, 3) := by decide +kernel
theorem dX7_setSize_6 : decode cX7_setSize 6 = .ok (.invokestatic 47, 3) := by decide +kernel
theorem dX7_setSize_9 : decode cX7_setSize 9 = .ok (.ifCond .ne 6, 3) := by decide +kernel
theorem dX7_setSize_12 : decode cX7_setSize 12 = .ok (.ldc 51, 2) := by decide +kernel
theorem dX7_setSize_14 : decode cX7_setSize 14 = .ok (.ireturn, 1) := by decide +kernel
theorem dX7_setSize_15 : decode cX7_setSize 15 = .ok (.aload_n 0, 1) := by decide +kernel
theorem dX7_setSize_16 : decode cX7_setSize 16 = .ok (.getfield 10, 3) := by decide +kernel
theorem dX7_setSize_19 : decode cX7_setSize 19 = .ok (.getfield 97, 3) := by decide +kernel
theorem dX7_setSize_22 : decode cX7_setSize 22 = .ok (.istore_n 2, 1) := by decide +kernel
theorem dX7_setSize_23 : decode cX7_setSize 23 = .ok (.iload_n 2, 1) := by decide +kernel
theorem dX7_setSize_24 : decode cX7_setSize 24 = .ok (.iload_n 1, 1) := by decide +kernel
theorem dX7_setSize_25 : decode cX7_setSize 25 = .ok (.if_icmp .ne 6, 3) := by decide +kernel
theorem dX7_setSize_28 : decode cX7_setSize 28 = .ok (.ldc 96, 2) := by decide +kernel
theorem dX7_setSize_30 : decode cX7_setSize 30 = .ok (.ireturn, 1) := by decide +kernel
theorem dX7_setSize_31 : decode cX7_setSize 31 = .ok (.aload_n 0, 1) := by decide +kernel
theorem dX7_setSize_32 : decode cX7_setSize 32 = .ok (.getfield 22, 3) := by decide +kernel
theorem dX7_setSize_35 : decode cX7_setSize 35 = .ok (.aload_n 0, 1) := by decide +kernel
theorem dX7_setSize_36 : decode cX7_setSize 36 = .ok (.getfield 10, 3) := by decide +kernel
theorem dX7_setSize_39 : decode cX7_setSize 39 = .ok (.invokevirtual 68, 3) := by decide +kernel
theorem dX7_setSize_42 : decode cX7_setSize 42 = .ok (.aload_n 0, 1) := by decide +kernel
theorem dX7_setSize_43 : decode cX7_setSize 43 = .ok (.getfield 10, 3) := by decide +kernel
theorem dX7_setSize_46 : decode cX7_setSize 46 = .ok (.iload_n 1, 1) := by decide +kernel
theorem dX7_setSize_47 : decode cX7_setSize 47 = .ok (.putfield 97, 3) := by decide +kernel
theorem dX7_setSize_50 : decode cX7_setSize 50 = .ok (.iload_n 2, 1) := by decide +kernel
theorem dX7_setSize_51 : decode cX7_setSize 51 = .ok (.ireturn, 1) := by decide +kernel
theorem dX7_request_0 : decode cX7_request 0 = .ok (.aload_n 0, 1) := by decide +kernel
theorem dX7_request_1 : decode cX7_request 1 = .ok (.getfield 10, 3) := by decide +kernel
theorem dX7_request_4 : decode cX7_request 4 = .ok (.iload_n 2, 1) := by decide +kernel
theorem dX7_request_5 : decode cX7_request 5 = .ok (.invokevirtual 78, 3) := by decide +kernel
theorem dX7_request_8 : decode cX7_request 8 = .ok (.ifnonnull 6, 3) := by decide +kernel
theorem dX7_request_11 : decode cX7_request 11 = .ok (.ldc 82, 2) := by decide +kernel
theorem dX7_request_13 : decode cX7_request 13 = .ok (.ireturn, 1) := by decide +kernel
theorem dX7_request_14 : decode cX7_request 14 = .ok (.iload_n 1, 1) := by decide +kernel
theorem dX7_request_15 : decode cX7_request 15 = .ok (.iconst 0, 1) := by decide +kernel
theorem dX7_request_16 : decode cX7_request 16 = .ok (.iconst 2, 1) := by decide +kernel
theorem dX7_request_17 : decode cX7_request 17 = .ok (.invokestatic 47, 3) := by decide +kernel
theorem dX7_request_20 : decode cX7_request 20 = .ok (.ifCond .eq 13, 3) := by decide +kernel
theorem dX7_request_23 : decode cX7_request 23 = .ok (.iload_n 3, 1) := by decide +kernel
theorem dX7_request_24 : decode cX7_request 24 = .ok (.iconst 0, 1) := by decide +kernel
theorem dX7_request_25 : decode cX7_request 25 = .ok (.bipush 9, 2) := by decide +kernel
theorem dX7_request_27 : decode cX7_request 27 = .ok (.invokestatic 47, 3) := by decide +kernel
theorem dX7_request_30 : decode cX7_request 30 = .ok (.ifCond .ne 6, 3) := by decide +kernel
theorem dX7_request_33 : decode cX7_request 33 = .ok (.ldc 51, 2) := by decide +kernel
theorem dX7_request_35 : decode cX7_request 35 = .ok (.ireturn, 1) := by decide +kernel
theorem dX7_request_36 : decode cX7_request 36 = .ok (.aload_n 0, 1) := by decide +kernel
theorem dX7_request_37 : decode cX7_request 37 = .ok (.getfield 10, 3) := by decide +kernel
theorem dX7_request_40 : decode cX7_request 40 = .ok (.getfield 125, 3) := by decide +kernel
theorem dX7_request_43 : decode cX7_request 43 = .ok (.getfield 129, 3) := by decide +kernel
theorem dX7_request_46 : decode cX7_request 46 = .ok (.bipush 20, 2) := by decide +kernel
theorem dX7_request_48 : decode cX7_request 48 = .ok (.if_icmp .lt 9, 3) := by decide +kernel
theorem dX7_request_51 : decode cX7_request 51 = .ok (.aload_n 0, 1) := by decide +kernel
theorem dX7_request_52 : decode cX7_request 52 = .ok (.iconst 1, 1) := by decide +kernel
theorem dX7_request_53 : decode cX7_request 53 = .ok (.invokevirtual 60, 3) := by decide +kernel
theorem dX7_request_56 : decode cX7_request 56 = .ok (.ireturn, 1) := by decide +kernel
theorem dX7_request_57 : decode cX7_request 57 = .ok (.aload_n 0, 1) := by decide +kernel
theorem dX7_request_58 : decode cX7_request 58 = .ok (.getfield 22, 3) := by decide +kernel
theorem dX7_request_61 : decode cX7_request 61 = .ok (.aload_n 0, 1) := by decide +kernel
theorem dX7_request_62 : decode cX7_request 62 = .ok (.getfield 10, 3) := by decide +kernel
theorem dX7_request_65 : decode cX7_request 65 = .ok (.invokevirtual 68, 3) := by decide +kernel
theorem dX7_request_68 : decode cX7_request 68 = .ok (.aload_n 0, 1) := by decide +kernel
theorem dX7_request_69 : decode cX7_request 69 = .ok (.getfield 10, 3) := by decide +kernel
theorem dX7_request_72 : decode cX7_request 72 = .ok (.iload_n 1, 1) := by decide +kernel
theorem dX7_request_73 : decode cX7_request 73 = .ok (.iload_n 2, 1) := by decide +kernel
theorem dX7_request_74 : decode cX7_request 74 = .ok (.iload_n 3, 1) := by decide +kernel
theorem dX7_request_75 : decode cX7_request 75 = .ok (.invokevirtual 134, 3) := by decide +kernel
theorem dX7_request_78 : decode cX7_request 78 = .ok (.ireturn, 1) := by decide +kernel
theorem dX7_cancel_0 : decode cX7_cancel 0 = .ok (.aload_n 0, 1) := by decide +kernel
theorem dX7_cancel_1 : decode cX7_cancel 1 = .ok (.getfield 10, 3) := by decide +kernel
theorem dX7_cancel_4 : decode cX7_cancel 4 = .ok (.iload_n 1, 1) := by decide +kernel
theorem dX7_cancel_5 : decode cX7_cancel 5 = .ok (.invokevirtual 78, 3) := by decide +kernel
theorem dX7_cancel_8 : decode cX7_cancel 8 = .ok (.ifnonnull 6, 3) := by decide +kernel
theorem dX7_cancel_11 : decode cX7_cancel 11 = .ok (.ldc 82, 2) := by decide +kernel
theorem dX7_cancel_13 : decode cX7_cancel 13 = .ok (.ireturn, 1) := by decide +kernel
theorem dX7_cancel_14 : decode cX7_cancel 14 = .ok (.aload_n 0, 1) := by decide +kernel
theorem dX7_cancel_15 : decode cX7_cancel 15 = .ok (.getfield 10, 3) := by decide +kernel
theorem dX7_cancel_18 : decode cX7_cancel 18 = .ok (.iload_n 1, 1) := by decide +kernel
theorem dX7_cancel_19 : decode cX7_cancel 19 = .ok (.invokevirtual 138, 3) := by decide +kernel
theorem dX7_cancel_22 : decode cX7_cancel 22 = .ok (.istore_n 2, 1) := by decide +kernel
theorem dX7_cancel_23 : decode cX7_cancel 23 = .ok (.iload_n 2, 1) := by decide +kernel
theorem dX7_cancel_24 : decode cX7_cancel 24 = .ok (.ifCond .ne 6, 3) := by decide +kernel
theorem dX7_cancel_27 : decode cX7_cancel 27 = .ok (.ldc 96, 2) := by decide +kernel
theorem dX7_cancel_29 : decode cX7_cancel 29 = .ok (.ireturn, 1) := by decide +kernel
theorem dX7_cancel_30 : decode cX7_cancel 30 = .ok (.aload_n 0, 1) := by decide +kernel
theorem dX7_cancel_31 : decode cX7_cancel 31 = .ok (.getfield 22, 3) := by decide +kernel
theorem dX7_cancel_34 : decode cX7_cancel 34 = .ok (.aload_n 0, 1) := by decide +kernel
theorem dX7_cancel_35 : decode cX7_cancel 35 = .ok (.getfield 10, 3) := by decide +kernel
theorem dX7_cancel_38 : decode cX7_cancel 38 = .ok (.invokevirtual 68, 3) := by decide +kernel
theorem dX7_cancel_41 : decode cX7_cancel 41 = .ok (.aload_n 0, 1) := by decide +kernel
theorem dX7_cancel_42 : decode cX7_cancel 42 = .ok (.getfield 10, 3) := by decide +kernel
theorem dX7_cancel_45 : decode cX7_cancel 45 = .ok (.iload_n 1, 1) := by decide +kernel
theorem dX7_cancel_46 : decode cX7_cancel 46 = .ok (.invokevirtual 141, 3) := by decide +kernel
theorem dX7_cancel_49 : decode cX7_cancel 49 = .ok (.iload_n 2, 1) := by decide +kernel
theorem dX7_cancel_50 : decode cX7_cancel 50 = .ok (.ireturn, 1) := by decide +kernel
theorem dX7_next_0 : decode cX7_next 0 = .ok (.aload_n 0, 1) := by decide +kernel
theorem dX7_next_1 : decode cX7_next 1 = .ok (.getfield 10, 3) := by decide +kernel
theorem dX7_next_4 : decode cX7_next 4 = .ok (.getfield 125, 3) := by decide +kernel
theorem dX7_next_7 : decode cX7_next 7 = .ok (.getfield 129, 3) := by decide +kernel
theorem dX7_next_10 : decode cX7_next 10 = .ok (.ifCond .ne 6, 3) := by decide +kernel
theorem dX7_next_13 : decode cX7_next 13 = .ok (.ldc 96, 2) := by decide +kernel
theorem dX7_next_15 : decode cX7_next 15 = .ok (.ireturn, 1) := by decide +kernel
theorem dX7_next_16 : decode cX7_next 16 = .ok (.aload_n 0, 1) := by decide +kernel
theorem dX7_next_17 : decode cX7_next 17 = .ok (.getfield 22, 3) := by decide +kernel
theorem dX7_next_20 : decode cX7_next 20 = .ok (.aload_n 0, 1) := by decide +kernel
theorem dX7_next_21 : decode cX7_next 21 = .ok (.getfield 10, 3) := by decide +kernel
theorem dX7_next_24 : decode cX7_next 24 = .ok (.invokevirtual 68, 3) := by decide +kernel
theorem dX7_next_27 : decode cX7_next 27 = .ok (.aload_n 0, 1) := by decide +kernel
theorem dX7_next_28 : decode cX7_next 28 = .ok (.getfield 36, 3) := by decide +kernel
theorem dX7_next_31 : decode cX7_next 31 = .ok (.aload_n 0, 1) := by decide +kernel
theorem dX7_next_32 : decode cX7_next 32 = .ok (.getfield 10, 3) := by decide +kernel
theorem dX7_next_35 : decode cX7_next 35 = .ok (.invokevirtual 145, 3) := by decide +kernel
theorem dX7_next_38 : decode cX7_next 38 = .ok (.aload_n 0, 1) := by decide +kernel
theorem dX7_next_39 : decode cX7_next 39 = .ok (.getfield 36, 3) := by decide +kernel
theorem dX7_next_42 : decode cX7_next 42 = .ok (.aload_n 0, 1) := by decide +kernel
theorem dX7_next_43 : decode cX7_next 43 = .ok (.getfield 10, 3) := by decide +kernel
theorem dX7_next_46 : decode cX7_next 46 = .ok (.invokevirtual 147, 3) := by decide +kernel
theorem dX7_next_49 : decode cX7_next 49 = .ok (.aload_n 0, 1) := by decide +kernel
theorem dX7_next_50 : decode cX7_next 50 = .ok (.getfield 10, 3) := by decide +kernel
theorem dX7_next_53 : decode cX7_next 53 = .ok (.getfield 125, 3) := by decide +kernel
theorem dX7_next_56 : decode cX7_next 56 = .ok (.aload_n 0, 1) := by decide +kernel
theorem dX7_next_57 : decode cX7_next 57 = .ok (.getfield 36, 3) := by decide +kernel
theorem dX7_next_60 : decode cX7_next 60 = .ok (.getfield 150, 3) := by decide +kernel
theorem dX7_next_63 : decode cX7_next 63 = .ok (.iconst 0, 1) := by decide +kernel
theorem dX7_next_64 : decode cX7_next 64 = .ok (.invokevirtual 153, 3) := by decide +kernel
theorem dX7_next_67 : decode cX7_next 67 = .ok (.istore_n 1, 1) := by decide +kernel
theorem dX7_next_68 : decode cX7_next 68 = .ok (.aload_n 0, 1) := by decide +kernel
theorem dX7_next_69 : decode cX7_next 69 = .ok (.aload_n 0, 1) := by decide +kernel
theorem dX7_next_70 : decode cX7_next 70 = .ok (.getfield 36, 3) := by decide +kernel
theorem dX7_next_73 : decode cX7_next 73 = .ok (.getfield 150, 3) := by decide +kernel
theorem dX7_next_76 : decode cX7_next 76 = .ok (.invokevirtual 157, 3) := by decide +kernel
theorem dX7_next_79 : decode cX7_next 79 = .ok (.iload_n 1, 1) := by decide +kernel
theorem dX7_next_80 : decode cX7_next 80 = .ok (.ireturn, 1) := by decide +kernel
theorem dX7_workOff_0 : decode cX7_workOff 0 = .ok (.aload_n 0, 1) := by decide +kernel
theorem dX7_workOff_1 : decode cX7_workOff 1 = .ok (.getfield 10, 3) := by decide +kernel
theorem dX7_workOff_4 : decode cX7_workOff 4 = .ok (.getfield 125, 3) := by decide +kernel
theorem dX7_workOff_7 : decode cX7_workOff 7 = .ok (.getfield 129, 3) := by decide +kernel
theorem dX7_workOff_10 : decode cX7_workOff 10 = .ok (.istore_n 1, 1) := by decide +kernel
theorem dX7_workOff_11 : decode cX7_workOff 11 = .ok (.iload_n 1, 1) := by decide +kernel
theorem dX7_workOff_12 : decode cX7_workOff 12 = .ok (.ifCond .ne 6, 3) := by decide +kernel
theorem dX7_workOff_15 : decode cX7_workOff 15 = .ok (.ldc 96, 2) := by decide +kernel
theorem dX7_workOff_17 : decode cX7_workOff 17 = .ok (.ireturn, 1) := by decide +kernel
theorem dX7_workOff_18 : decode cX7_workOff 18 = .ok (.aload_n 0, 1) := by decide +kernel
theorem dX7_workOff_19 : decode cX7_workOff 19 = .ok (.getfield 22, 3) := by decide +kernel
theorem dX7_workOff_22 : decode cX7_workOff 22 = .ok (.aload_n 0, 1) := by decide +kernel
theorem dX7_workOff_23 : decode cX7_workOff 23 = .ok (.getfield 10, 3) := by decide +kernel
theorem dX7_workOff_26 : decode cX7_workOff 26 = .ok (.invokevirtual 68, 3) := by decide +kernel
theorem dX7_workOff_29 : decode cX7_workOff 29 = .ok (.aload_n 0, 1) := by decide +kernel
theorem dX7_workOff_30 : decode cX7_workOff 30 = .ok (.getfield 10, 3) := by decide +kernel
theorem dX7_workOff_33 : decode cX7_workOff 33 = .ok (.getfield 160, 3) := by decide +kernel
theorem dX7_workOff_36 : decode cX7_workOff 36 = .ok (.istore_n 2, 1) := by decide +kernel
theorem dX7_workOff_37 : decode cX7_workOff 37 = .ok (.iconst 0, 1) := by decide +kernel
theorem dX7_workOff_38 : decode cX7_workOff 38 = .ok (.istore_n 3, 1) := by decide +kernel
theorem dX7_workOff_39 : decode cX7_workOff 39 = .ok (.iload_n 3, 1) := by decide +kernel
theorem dX7_workOff_40 : decode cX7_workOff 40 = .ok (.iload_n 1, 1) := by decide +kernel
theorem dX7_workOff_41 : decode cX7_workOff 41 = .ok (.if_icmp .ge 42, 3) := by decide +kernel
theorem dX7_workOff_44 : decode cX7_workOff 44 = .ok (.aload_n 0, 1) := by decide +kernel
theorem dX7_workOff_45 : decode cX7_workOff 45 = .ok (.getfield 36, 3) := by decide +kernel
theorem dX7_workOff_48 : decode cX7_workOff 48 = .ok (.aload_n 0, 1) := by decide +kernel
theorem dX7_workOff_49 : decode cX7_workOff 49 = .ok (.getfield 10, 3) := by decide +kernel
theorem dX7_workOff_52 : decode cX7_workOff 52 = .ok (.invokevirtual 145, 3) := by decide +kernel
theorem dX7_workOff_55 : decode cX7_workOff 55 = .ok (.aload_n 0, 1) := by decide +kernel
theorem dX7_workOff_56 : decode cX7_workOff 56 = .ok (.getfield 36, 3) := by decide +kernel
theorem dX7_workOff_59 : decode cX7_workOff 59 = .ok (.aload_n 0, 1) := by decide +kernel
theorem dX7_workOff_60 : decode cX7_workOff 60 = .ok (.getfield 10, 3) := by decide +kernel
theorem dX7_workOff_63 : decode cX7_workOff 63 = .ok (.invokevirtual 147, 3) := by decide +kernel
theorem dX7_workOff_66 : decode cX7_workOff 66 = .ok (.aload_n 0, 1) := by decide +kernel
theorem dX7_workOff_67 : decode cX7_workOff 67 = .ok (.aload_n 0, 1) := by decide +kernel
theorem dX7_workOff_68 : decode cX7_workOff 68 = .ok (.getfield 36, 3) := by decide +kernel
theorem dX7_workOff_71 : decode cX7_workOff 71 = .ok (.getfield 150, 3) := by decide +kernel
theorem dX7_workOff_74 : decode cX7_workOff 74 = .ok (.invokevirtual 157, 3) := by decide +kernel
theorem dX7_workOff_77 : decode cX7_workOff 77 = .ok (.iinc 3 1, 3) := by decide +kernel
theorem dX7_workOff_80 : decode cX7_workOff 80 = .ok (.goto (-41), 3) := by decide +kernel
theorem dX7_workOff_83 : decode cX7_workOff 83 = .ok (.iload_n 1, 1) := by decide +kernel
theorem dX7_workOff_84 : decode cX7_workOff 84 = .ok (.aload_n 0, 1) := by decide +kernel
theorem dX7_workOff_85 : decode cX7_workOff 85 = .ok (.getfield 10, 3) := by decide +kernel
theorem dX7_workOff_88 : decode cX7_workOff 88 = .ok (.getfield 160, 3) := by decide +kernel
theorem dX7_workOff_91 : decode cX7_workOff 91 = .ok (.iload_n 2, 1) := by decide +kernel
theorem dX7_workOff_92 : decode cX7_workOff 92 = .ok (.isub, 1) := by decide +kernel
theorem dX7_workOff_93 : decode cX7_workOff 93 = .ok (.isub, 1) := by decide +kernel
theorem dX7_workOff_94 : decode cX7_workOff 94 = .ok (.ireturn, 1) := by decide +kernel
theorem dX7_type_0 : decode cX7_type 0 = .ok (.aload_n 0, 1) := by decide +kernel
theorem dX7_type_1 : decode cX7_type 1 = .ok (.getfield 29, 3) := by decide +kernel
theorem dX7_type_4 : decode cX7_type 4 = .ok (.iload_n 1, 1) := by decide +kernel
theorem dX7_type_5 : decode cX7_type 5 = .ok (.invokevirtual 163, 3) := by decide +kernel
theorem dX7_type_8 : decode cX7_type 8 = .ok (.ifCond .eq 13, 3) := by decide +kernel
theorem dX7_type_11 : decode cX7_type 11 = .ok (.aload_n 0, 1) := by decide +kernel
theorem dX7_type_12 : decode cX7_type 12 = .ok (.getfield 29, 3) := by decide +kernel
theorem dX7_type_15 : decode cX7_type 15 = .ok (.getfield 167, 3) := by decide +kernel
theorem dX7_type_18 : decode cX7_type 18 = .ok (.goto 8, 3) := by decide +kernel
theorem dX7_type_21 : decode cX7_type 21 = .ok (.aload_n 0, 1) := by decide +kernel
theorem dX7_type_22 : decode cX7_type 22 = .ok (.iconst 1, 1) := by decide +kernel
theorem dX7_type_23 : decode cX7_type 23 = .ok (.invokevirtual 60, 3) := by decide +kernel
theorem dX7_type_26 : decode cX7_type 26 = .ok (.ireturn, 1) := by decide +kernel
theorem dX7_clearText_0 : decode cX7_clearText 0 = .ok (.aload_n 0, 1) := by decide +kernel
theorem dX7_clearText_1 : decode cX7_clearText 1 = .ok (.getfield 29, 3) := by decide +kernel
theorem dX7_clearText_4 : decode cX7_clearText 4 = .ok (.getfield 167, 3) := by decide +kernel
theorem dX7_clearText_7 : decode cX7_clearText 7 = .ok (.istore_n 1, 1) := by decide +kernel
theorem dX7_clearText_8 : decode cX7_clearText 8 = .ok (.aload_n 0, 1) := by decide +kernel
theorem dX7_clearText_9 : decode cX7_clearText 9 = .ok (.getfield 29, 3) := by decide +kernel
theorem dX7_clearText_12 : decode cX7_clearText 12 = .ok (.iconst 0, 1) := by decide +kernel
theorem dX7_clearText_13 : decode cX7_clearText 13 = .ok (.putfield 167, 3) := by decide +kernel
theorem dX7_clearText_16 : decode cX7_clearText 16 = .ok (.iload_n 1, 1) := by decide +kernel
theorem dX7_clearText_17 : decode cX7_clearText 17 = .ok (.ireturn, 1) := by decide +kernel
theorem dX7_readJobs_0 : decode cX7_readJobs 0 = .ok (.aload_n 0, 1) := by decide +kernel
theorem dX7_readJobs_1 : decode cX7_readJobs 1 = .ok (.getfield 29, 3) := by decide +kernel
theorem dX7_readJobs_4 : decode cX7_readJobs 4 = .ok (.invokevirtual 170, 3) := by decide +kernel
theorem dX7_readJobs_7 : decode cX7_readJobs 7 = .ok (.istore_n 1, 1) := by decide +kernel
theorem dX7_readJobs_8 : decode cX7_readJobs 8 = .ok (.iload_n 1, 1) := by decide +kernel
theorem dX7_readJobs_9 : decode cX7_readJobs 9 = .ok (.iconst (-1), 1) := by decide +kernel
theorem dX7_readJobs_10 : decode cX7_readJobs 10 = .ok (.if_icmp .eq 8, 3) := by decide +kernel
theorem dX7_readJobs_13 : decode cX7_readJobs 13 = .ok (.bipush (-100), 2) := by decide +kernel
theorem dX7_readJobs_15 : decode cX7_readJobs 15 = .ok (.iload_n 1, 1) := by decide +kernel
theorem dX7_readJobs_16 : decode cX7_readJobs 16 = .ok (.isub, 1) := by decide +kernel
theorem dX7_readJobs_17 : decode cX7_readJobs 17 = .ok (.ireturn, 1) := by decide +kernel
theorem dX7_readJobs_18 : decode cX7_readJobs 18 = .ok (.aload_n 0, 1) := by decide +kernel
theorem dX7_readJobs_19 : decode cX7_readJobs 19 = .ok (.getfield 29, 3) := by decide +kernel
theorem dX7_readJobs_22 : decode cX7_readJobs 22 = .ok (.getfield 173, 3) := by decide +kernel
theorem dX7_readJobs_25 : decode cX7_readJobs 25 = .ok (.astore_n 2, 1) := by decide +kernel
theorem dX7_readJobs_26 : decode cX7_readJobs 26 = .ok (.iconst 0, 1) := by decide +kernel
theorem dX7_readJobs_27 : decode cX7_readJobs 27 = .ok (.istore_n 3, 1) := by decide +kernel
theorem dX7_readJobs_28 : decode cX7_readJobs 28 = .ok (.iload_n 3, 1) := by decide +kernel
theorem dX7_readJobs_29 : decode cX7_readJobs 29 = .ok (.aload_n 2, 1) := by decide +kernel
theorem dX7_readJobs_30 : decode cX7_readJobs 30 = .ok (.getfield 129, 3) := by decide +kernel
theorem dX7_readJobs_33 : decode cX7_readJobs 33 = .ok (.if_icmp .ge 28, 3) := by decide +kernel
theorem dX7_readJobs_36 : decode cX7_readJobs 36 = .ok (.aload_n 0, 1) := by decide +kernel
theorem dX7_readJobs_37 : decode cX7_readJobs 37 = .ok (.getfield 10, 3) := by decide +kernel
theorem dX7_readJobs_40 : decode cX7_readJobs 40 = .ok (.aload_n 2, 1) := by decide +kernel
theorem dX7_readJobs_41 : decode cX7_readJobs 41 = .ok (.iload_n 3, 1) := by decide +kernel
theorem dX7_readJobs_42 : decode cX7_readJobs 42 = .ok (.iconst 2, 1) := by decide +kernel
theorem dX7_readJobs_43 : decode cX7_readJobs 43 = .ok (.invokevirtual 153, 3) := by decide +kernel
theorem dX7_readJobs_46 : decode cX7_readJobs 46 = .ok (.invokevirtual 78, 3) := by decide +kernel
theorem dX7_readJobs_49 : decode cX7_readJobs 49 = .ok (.ifnonnull 6, 3) := by decide +kernel
theorem dX7_readJobs_52 : decode cX7_readJobs 52 = .ok (.ldc 82, 2) := by decide +kernel
theorem dX7_readJobs_54 : decode cX7_readJobs 54 = .ok (.ireturn, 1) := by decide +kernel
theorem dX7_readJobs_55 : decode cX7_readJobs 55 = .ok (.iinc 3 1, 3) := by decide +kernel
theorem dX7_readJobs_58 : decode cX7_readJobs 58 = .ok (.goto (-30), 3) := by decide +kernel
theorem dX7_readJobs_61 : decode cX7_readJobs 61 = .ok (.aload_n 0, 1) := by decide +kernel
theorem dX7_readJobs_62 : decode cX7_readJobs 62 = .ok (.getfield 10, 3) := by decide +kernel
theorem dX7_readJobs_65 : decode cX7_readJobs 65 = .ok (.getfield 125, 3) := by decide +kernel
theorem dX7_readJobs_68 : decode cX7_readJobs 68 = .ok (.getfield 129, 3) := by decide +kernel
theorem dX7_readJobs_71 : decode cX7_readJobs 71 = .ok (.aload_n 2, 1) := by decide +kernel
theorem dX7_readJobs_72 : decode cX7_readJobs 72 = .ok (.getfield 129, 3) := by decide +kernel
theorem dX7_readJobs_75 : decode cX7_readJobs 75 = .ok (.iadd, 1) := by decide +kernel
theorem dX7_readJobs_76 : decode cX7_readJobs 76 = .ok (.bipush 20, 2) := by decide +kernel
theorem dX7_readJobs_78 : decode cX7_readJobs 78 = .ok (.if_icmp .le 9, 3) := by decide +kernel
theorem dX7_readJobs_81 : decode cX7_readJobs 81 = .ok (.aload_n 0, 1) := by decide +kernel
theorem dX7_readJobs_82 : decode cX7_readJobs 82 = .ok (.iconst 1, 1) := by decide +kernel
theorem dX7_readJobs_83 : decode cX7_readJobs 83 = .ok (.invokevirtual 60, 3) := by decide +kernel
theorem dX7_readJobs_86 : decode cX7_readJobs 86 = .ok (.ireturn, 1) := by decide +kernel
theorem dX7_readJobs_87 : decode cX7_readJobs 87 = .ok (.aload_n 0, 1) := by decide +kernel
theorem dX7_readJobs_88 : decode cX7_readJobs 88 = .ok (.getfield 22, 3) := by decide +kernel
theorem dX7_readJobs_91 : decode cX7_readJobs 91 = .ok (.aload_n 0, 1) := by decide +kernel
theorem dX7_readJobs_92 : decode cX7_readJobs 92 = .ok (.getfield 10, 3) := by decide +kernel
theorem dX7_readJobs_95 : decode cX7_readJobs 95 = .ok (.invokevirtual 68, 3) := by decide +kernel
theorem dX7_readJobs_98 : decode cX7_readJobs 98 = .ok (.iconst 0, 1) := by decide +kernel
theorem dX7_readJobs_99 : decode cX7_readJobs 99 = .ok (.istore_n 3, 1) := by decide +kernel
theorem dX7_readJobs_100 : decode cX7_readJobs 100 = .ok (.iload_n 3, 1) := by decide +kernel
theorem dX7_readJobs_101 : decode cX7_readJobs 101 = .ok (.aload_n 2, 1) := by decide +kernel
theorem dX7_readJobs_102 : decode cX7_readJobs 102 = .ok (.getfield 129, 3) := by decide +kernel
theorem dX7_readJobs_105 : decode cX7_readJobs 105 = .ok (.if_icmp .ge 35, 3) := by decide +kernel
theorem dX7_readJobs_108 : decode cX7_readJobs 108 = .ok (.aload_n 0, 1) := by decide +kernel
theorem dX7_readJobs_109 : decode cX7_readJobs 109 = .ok (.getfield 10, 3) := by decide +kernel
theorem dX7_readJobs_112 : decode cX7_readJobs 112 = .ok (.aload_n 2, 1) := by decide +kernel
theorem dX7_readJobs_113 : decode cX7_readJobs 113 = .ok (.iload_n 3, 1) := by decide +kernel
theorem dX7_readJobs_114 : decode cX7_readJobs 114 = .ok (.iconst 1, 1) := by decide +kernel
theorem dX7_readJobs_115 : decode cX7_readJobs 115 = .ok (.invokevirtual 153, 3) := by decide +kernel
theorem dX7_readJobs_118 : decode cX7_readJobs 118 = .ok (.aload_n 2, 1) := by decide +kernel
theorem dX7_readJobs_119 : decode cX7_readJobs 119 = .ok (.iload_n 3, 1) := by decide +kernel
theorem dX7_readJobs_120 : decode cX7_readJobs 120 = .ok (.iconst 2, 1) := by decide +kernel
theorem dX7_readJobs_121 : decode cX7_readJobs 121 = .ok (.invokevirtual 153, 3) := by decide +kernel
theorem dX7_readJobs_124 : decode cX7_readJobs 124 = .ok (.aload_n 2, 1) := by decide +kernel
theorem dX7_readJobs_125 : decode cX7_readJobs 125 = .ok (.iload_n 3, 1) := by decide +kernel
theorem dX7_readJobs_126 : decode cX7_readJobs 126 = .ok (.iconst 3, 1) := by decide +kernel
theorem dX7_readJobs_127 : decode cX7_readJobs 127 = .ok (.invokevirtual 153, 3) := by decide +kernel
theorem dX7_readJobs_130 : decode cX7_readJobs 130 = .ok (.invokevirtual 134, 3) := by decide +kernel
theorem dX7_readJobs_133 : decode cX7_readJobs 133 = .ok (.pop, 1) := by decide +kernel
theorem dX7_readJobs_134 : decode cX7_readJobs 134 = .ok (.iinc 3 1, 3) := by decide +kernel
theorem dX7_readJobs_137 : decode cX7_readJobs 137 = .ok (.goto (-37), 3) := by decide +kernel
theorem dX7_readJobs_140 : decode cX7_readJobs 140 = .ok (.aload_n 2, 1) := by decide +kernel
theorem dX7_readJobs_141 : decode cX7_readJobs 141 = .ok (.getfield 129, 3) := by decide +kernel
theorem dX7_readJobs_144 : decode cX7_readJobs 144 = .ok (.ireturn, 1) := by decide +kernel
theorem dX7_undo_0 : decode cX7_undo 0 = .ok (.aload_n 0, 1) := by decide +kernel
theorem dX7_undo_1 : decode cX7_undo 1 = .ok (.getfield 22, 3) := by decide +kernel
theorem dX7_undo_4 : decode cX7_undo 4 = .ok (.invokevirtual 174, 3) := by decide +kernel
theorem dX7_undo_7 : decode cX7_undo 7 = .ok (.astore_n 1, 1) := by decide +kernel
theorem dX7_undo_8 : decode cX7_undo 8 = .ok (.aload_n 1, 1) := by decide +kernel
theorem dX7_undo_9 : decode cX7_undo 9 = .ok (.ifnonnull 6, 3) := by decide +kernel
theorem dX7_undo_12 : decode cX7_undo 12 = .ok (.ldc 96, 2) := by decide +kernel
theorem dX7_undo_14 : decode cX7_undo 14 = .ok (.ireturn, 1) := by decide +kernel
theorem dX7_undo_15 : decode cX7_undo 15 = .ok (.aload_n 0, 1) := by decide +kernel
theorem dX7_undo_16 : decode cX7_undo 16 = .ok (.getfield 10, 3) := by decide +kernel
theorem dX7_undo_19 : decode cX7_undo 19 = .ok (.aload_n 1, 1) := by decide +kernel
theorem dX7_undo_20 : decode cX7_undo 20 = .ok (.invokevirtual 178, 3) := by decide +kernel
theorem dX7_undo_23 : decode cX7_undo 23 = .ok (.aload_n 0, 1) := by decide +kernel
theorem dX7_undo_24 : decode cX7_undo 24 = .ok (.getfield 22, 3) := by decide +kernel
theorem dX7_undo_27 : decode cX7_undo 27 = .ok (.getfield 181, 3) := by decide +kernel
theorem dX7_undo_30 : decode cX7_undo 30 = .ok (.ireturn, 1) := by decide +kernel
theorem dX7_keep_0 : decode cX7_keep 0 = .ok (.aload_n 0, 1) := by decide +kernel
theorem dX7_keep_1 : decode cX7_keep 1 = .ok (.getfield 16, 3) := by decide +kernel
theorem dX7_keep_4 : decode cX7_keep 4 = .ok (.aload_n 0, 1) := by decide +kernel
theorem dX7_keep_5 : decode cX7_keep 5 = .ok (.getfield 10, 3) := by decide +kernel
theorem dX7_keep_8 : decode cX7_keep 8 = .ok (.invokevirtual 178, 3) := by decide +kernel
theorem dX7_keep_11 : decode cX7_keep 11 = .ok (.aload_n 0, 1) := by decide +kernel
theorem dX7_keep_12 : decode cX7_keep 12 = .ok (.iconst 1, 1) := by decide +kernel
theorem dX7_keep_13 : decode cX7_keep 13 = .ok (.putfield 182, 3) := by decide +kernel
theorem dX7_keep_16 : decode cX7_keep 16 = .ok (.aload_n 0, 1) := by decide +kernel
theorem dX7_keep_17 : decode cX7_keep 17 = .ok (.getfield 10, 3) := by decide +kernel
theorem dX7_keep_20 : decode cX7_keep 20 = .ok (.getfield 52, 3) := by decide +kernel
theorem dX7_keep_23 : decode cX7_keep 23 = .ok (.ireturn, 1) := by decide +kernel
theorem dX7_restore_0 : decode cX7_restore 0 = .ok (.aload_n 0, 1) := by decide +kernel
theorem dX7_restore_1 : decode cX7_restore 1 = .ok (.getfield 182, 3) := by decide +kernel
theorem dX7_restore_4 : decode cX7_restore 4 = .ok (.ifCond .ne 6, 3) := by decide +kernel
theorem dX7_restore_7 : decode cX7_restore 7 = .ok (.ldc 96, 2) := by decide +kernel
theorem dX7_restore_9 : decode cX7_restore 9 = .ok (.ireturn, 1) := by decide +kernel
theorem dX7_restore_10 : decode cX7_restore 10 = .ok (.aload_n 0, 1) := by decide +kernel
theorem dX7_restore_11 : decode cX7_restore 11 = .ok (.getfield 22, 3) := by decide +kernel
theorem dX7_restore_14 : decode cX7_restore 14 = .ok (.aload_n 0, 1) := by decide +kernel
theorem dX7_restore_15 : decode cX7_restore 15 = .ok (.getfield 10, 3) := by decide +kernel
theorem dX7_restore_18 : decode cX7_restore 18 = .ok (.invokevirtual 68, 3) := by decide +kernel
theorem dX7_restore_21 : decode cX7_restore 21 = .ok (.aload_n 0, 1) := by decide +kernel
theorem dX7_restore_22 : decode cX7_restore 22 = .ok (.getfield 10, 3) := by decide +kernel
theorem dX7_restore_25 : decode cX7_restore 25 = .ok (.aload_n 0, 1) := by decide +kernel
theorem dX7_restore_26 : decode cX7_restore 26 = .ok (.getfield 16, 3) := by decide +kernel
theorem dX7_restore_29 : decode cX7_restore 29 = .ok (.invokevirtual 178, 3) := by decide +kernel
theorem dX7_restore_32 : decode cX7_restore 32 = .ok (.aload_n 0, 1) := by decide +kernel
theorem dX7_restore_33 : decode cX7_restore 33 = .ok (.getfield 10, 3) := by decide +kernel
theorem dX7_restore_36 : decode cX7_restore 36 = .ok (.getfield 52, 3) := by decide +kernel
theorem dX7_restore_39 : decode cX7_restore 39 = .ok (.ireturn, 1) := by decide +kernel
theorem dX7_rosette_0 : decode cX7_rosette 0 = .ok (.aload_n 0, 1) := by decide +kernel
theorem dX7_rosette_1 : decode cX7_rosette 1 = .ok (.getfield 10, 3) := by decide +kernel
theorem dX7_rosette_4 : decode cX7_rosette 4 = .ok (.iload_n 1, 1) := by decide +kernel
theorem dX7_rosette_5 : decode cX7_rosette 5 = .ok (.invokevirtual 78, 3) := by decide +kernel
theorem dX7_rosette_8 : decode cX7_rosette 8 = .ok (.astore_n 3, 1) := by decide +kernel
theorem dX7_rosette_9 : decode cX7_rosette 9 = .ok (.aload_n 3, 1) := by decide +kernel
theorem dX7_rosette_10 : decode cX7_rosette 10 = .ok (.ifnonnull 6, 3) := by decide +kernel
theorem dX7_rosette_13 : decode cX7_rosette 13 = .ok (.ldc 82, 2) := by decide +kernel
theorem dX7_rosette_15 : decode cX7_rosette 15 = .ok (.ireturn, 1) := by decide +kernel
theorem dX7_rosette_16 : decode cX7_rosette 16 = .ok (.aload_n 0, 1) := by decide +kernel
theorem dX7_rosette_17 : decode cX7_rosette 17 = .ok (.getfield 43, 3) := by decide +kernel
theorem dX7_rosette_20 : decode cX7_rosette 20 = .ok (.aload_n 3, 1) := by decide +kernel
theorem dX7_rosette_21 : decode cX7_rosette 21 = .ok (.aload_n 0, 1) := by decide +kernel
theorem dX7_rosette_22 : decode cX7_rosette 22 = .ok (.getfield 10, 3) := by decide +kernel
theorem dX7_rosette_25 : decode cX7_rosette 25 = .ok (.getfield 97, 3) := by decide +kernel
theorem dX7_rosette_28 : decode cX7_rosette 28 = .ok (.invokevirtual 100, 3) := by decide +kernel
theorem dX7_rosette_31 : decode cX7_rosette 31 = .ok (.iload_n 2, 1) := by decide +kernel
theorem dX7_rosette_32 : decode cX7_rosette 32 = .ok (.tableswitch 150 0 11 #[64, 69, 82, 87, 92, 97, 102, 107, 112, 125, 133, 141], 64) := by decide +kernel
theorem dX7_rosette_96 : decode cX7_rosette 96 = .ok (.aload_n 3, 1) := by decide +kernel
theorem dX7_rosette_97 : decode cX7_rosette 97 = .ok (.getfield 185, 3) := by decide +kernel
theorem dX7_rosette_100 : decode cX7_rosette 100 = .ok (.ireturn, 1) := by decide +kernel
theorem dX7_rosette_101 : decode cX7_rosette 101 = .ok (.aload_n 3, 1) := by decide +kernel
theorem dX7_rosette_102 : decode cX7_rosette 102 = .ok (.getfield 188, 3) := by decide +kernel
theorem dX7_rosette_105 : decode cX7_rosette 105 = .ok (.ifCond .eq 7, 3) := by decide +kernel
theorem dX7_rosette_108 : decode cX7_rosette 108 = .ok (.iconst 1, 1) := by decide +kernel
theorem dX7_rosette_109 : decode cX7_rosette 109 = .ok (.goto 4, 3) := by decide +kernel
theorem dX7_rosette_112 : decode cX7_rosette 112 = .ok (.iconst 0, 1) := by decide +kernel
theorem dX7_rosette_113 : decode cX7_rosette 113 = .ok (.ireturn, 1) := by decide +kernel
theorem dX7_rosette_114 : decode cX7_rosette 114 = .ok (.aload_n 3, 1) := by decide +kernel
theorem dX7_rosette_115 : decode cX7_rosette 115 = .ok (.getfield 191, 3) := by decide +kernel
theorem dX7_rosette_118 : decode cX7_rosette 118 = .ok (.ireturn, 1) := by decide +kernel
theorem dX7_rosette_119 : decode cX7_rosette 119 = .ok (.aload_n 3, 1) := by decide +kernel
theorem dX7_rosette_120 : decode cX7_rosette 120 = .ok (.getfield 194, 3) := by decide +kernel
theorem dX7_rosette_123 : decode cX7_rosette 123 = .ok (.ireturn, 1) := by decide +kernel
theorem dX7_rosette_124 : decode cX7_rosette 124 = .ok (.aload_n 3, 1) := by decide +kernel
theorem dX7_rosette_125 : decode cX7_rosette 125 = .ok (.getfield 111, 3) := by decide +kernel
theorem dX7_rosette_128 : decode cX7_rosette 128 = .ok (.ireturn, 1) := by decide +kernel
theorem dX7_rosette_129 : decode cX7_rosette 129 = .ok (.aload_n 3, 1) := by decide +kernel
theorem dX7_rosette_130 : decode cX7_rosette 130 = .ok (.getfield 87, 3) := by decide +kernel
theorem dX7_rosette_133 : decode cX7_rosette 133 = .ok (.ireturn, 1) := by decide +kernel
theorem dX7_rosette_134 : decode cX7_rosette 134 = .ok (.aload_n 3, 1) := by decide +kernel
theorem dX7_rosette_135 : decode cX7_rosette 135 = .ok (.getfield 90, 3) := by decide +kernel
theorem dX7_rosette_138 : decode cX7_rosette 138 = .ok (.ireturn, 1) := by decide +kernel
theorem dX7_rosette_139 : decode cX7_rosette 139 = .ok (.aload_n 3, 1) := by decide +kernel
theorem dX7_rosette_140 : decode cX7_rosette 140 = .ok (.getfield 93, 3) := by decide +kernel
theorem dX7_rosette_143 : decode cX7_rosette 143 = .ok (.ireturn, 1) := by decide +kernel
theorem dX7_rosette_144 : decode cX7_rosette 144 = .ok (.aload_n 3, 1) := by decide +kernel
theorem dX7_rosette_145 : decode cX7_rosette 145 = .ok (.getfield 118, 3) := by decide +kernel
theorem dX7_rosette_148 : decode cX7_rosette 148 = .ok (.ifCond .eq 7, 3) := by decide +kernel
theorem dX7_rosette_151 : decode cX7_rosette 151 = .ok (.iconst 1, 1) := by decide +kernel
theorem dX7_rosette_152 : decode cX7_rosette 152 = .ok (.goto 4, 3) := by decide +kernel
theorem dX7_rosette_155 : decode cX7_rosette 155 = .ok (.iconst 0, 1) := by decide +kernel
theorem dX7_rosette_156 : decode cX7_rosette 156 = .ok (.ireturn, 1) := by decide +kernel
theorem dX7_rosette_157 : decode cX7_rosette 157 = .ok (.aload_n 0, 1) := by decide +kernel
theorem dX7_rosette_158 : decode cX7_rosette 158 = .ok (.getfield 43, 3) := by decide +kernel
theorem dX7_rosette_161 : decode cX7_rosette 161 = .ok (.getfield 197, 3) := by decide +kernel
theorem dX7_rosette_164 : decode cX7_rosette 164 = .ok (.ireturn, 1) := by decide +kernel
theorem dX7_rosette_165 : decode cX7_rosette 165 = .ok (.aload_n 0, 1) := by decide +kernel
theorem dX7_rosette_166 : decode cX7_rosette 166 = .ok (.getfield 43, 3) := by decide +kernel
theorem dX7_rosette_169 : decode cX7_rosette 169 = .ok (.getfield 200, 3) := by decide +kernel
theorem dX7_rosette_172 : decode cX7_rosette 172 = .ok (.ireturn, 1) := by decide +kernel
theorem dX7_rosette_173 : decode cX7_rosette 173 = .ok (.aload_n 0, 1) := by decide +kernel
theorem dX7_rosette_174 : decode cX7_rosette 174 = .ok (.getfield 10, 3) := by decide +kernel
theorem dX7_rosette_177 : decode cX7_rosette 177 = .ok (.iload_n 1, 1) := by decide +kernel
theorem dX7_rosette_178 : decode cX7_rosette 178 = .ok (.invokevirtual 138, 3) := by decide +kernel
theorem dX7_rosette_181 : decode cX7_rosette 181 = .ok (.ireturn, 1) := by decide +kernel
theorem dX7_rosette_182 : decode cX7_rosette 182 = .ok (.ldc 51, 2) := by decide +kernel
theorem dX7_rosette_184 : decode cX7_rosette 184 = .ok (.ireturn, 1) := by decide +kernel
theorem dX7_gauge_0 : decode cX7_gauge 0 = .ok (.aload_n 0, 1) := by decide +kernel
theorem dX7_gauge_1 : decode cX7_gauge 1 = .ok (.getfield 10, 3) := by decide +kernel
theorem dX7_gauge_4 : decode cX7_gauge 4 = .ok (.iload_n 1, 1) := by decide +kernel
theorem dX7_gauge_5 : decode cX7_gauge 5 = .ok (.invokevirtual 78, 3) := by decide +kernel
theorem dX7_gauge_8 : decode cX7_gauge 8 = .ok (.astore 4, 2) := by decide +kernel
theorem dX7_gauge_10 : decode cX7_gauge 10 = .ok (.aload 4, 2) := by decide +kernel
theorem dX7_gauge_12 : decode cX7_gauge 12 = .ok (.ifnull 12, 3) := by decide +kernel
theorem dX7_gauge_15 : decode cX7_gauge 15 = .ok (.iload_n 2, 1) := by decide +kernel
theorem dX7_gauge_16 : decode cX7_gauge 16 = .ok (.iconst 0, 1) := by decide +kernel
theorem dX7_gauge_17 : decode cX7_gauge 17 = .ok (.iconst 2, 1) := by decide +kernel
theorem dX7_gauge_18 : decode cX7_gauge 18 = .ok (.invokestatic 47, 3) := by decide +kernel
theorem dX7_gauge_21 : decode cX7_gauge 21 = .ok (.ifCond .ne 6, 3) := by decide +kernel
theorem dX7_gauge_24 : decode cX7_gauge 24 = .ok (.ldc 82, 2) := by decide +kernel
theorem dX7_gauge_26 : decode cX7_gauge 26 = .ok (.ireturn, 1) := by decide +kernel
theorem dX7_gauge_27 : decode cX7_gauge 27 = .ok (.aload_n 0, 1) := by decide +kernel
theorem dX7_gauge_28 : decode cX7_gauge 28 = .ok (.getfield 43, 3) := by decide +kernel
theorem dX7_gauge_31 : decode cX7_gauge 31 = .ok (.aload 4, 2) := by decide +kernel
theorem dX7_gauge_33 : decode cX7_gauge 33 = .ok (.aload_n 0, 1) := by decide +kernel
theorem dX7_gauge_34 : decode cX7_gauge 34 = .ok (.getfield 10, 3) := by decide +kernel
theorem dX7_gauge_37 : decode cX7_gauge 37 = .ok (.getfield 97, 3) := by decide +kernel
theorem dX7_gauge_40 : decode cX7_gauge 40 = .ok (.invokevirtual 100, 3) := by decide +kernel
theorem dX7_gauge_43 : decode cX7_gauge 43 = .ok (.iload_n 3, 1) := by decide +kernel
theorem dX7_gauge_44 : decode cX7_gauge 44 = .ok (.tableswitch 122 0 7 #[48, 56, 66, 76, 86, 94, 102, 112], 48) := by decide +kernel
theorem dX7_gauge_92 : decode cX7_gauge 92 = .ok (.aload 4, 2) := by decide +kernel
theorem dX7_gauge_94 : decode cX7_gauge 94 = .ok (.getfield 114, 3) := by decide +kernel
theorem dX7_gauge_97 : decode cX7_gauge 97 = .ok (.iload_n 2, 1) := by decide +kernel
theorem dX7_gauge_98 : decode cX7_gauge 98 = .ok (.iaload, 1) := by decide +kernel
theorem dX7_gauge_99 : decode cX7_gauge 99 = .ok (.ireturn, 1) := by decide +kernel
theorem dX7_gauge_100 : decode cX7_gauge 100 = .ok (.aload_n 0, 1) := by decide +kernel
theorem dX7_gauge_101 : decode cX7_gauge 101 = .ok (.getfield 43, 3) := by decide +kernel
theorem dX7_gauge_104 : decode cX7_gauge 104 = .ok (.getfield 203, 3) := by decide +kernel
theorem dX7_gauge_107 : decode cX7_gauge 107 = .ok (.iload_n 2, 1) := by decide +kernel
theorem dX7_gauge_108 : decode cX7_gauge 108 = .ok (.iaload, 1) := by decide +kernel
theorem dX7_gauge_109 : decode cX7_gauge 109 = .ok (.ireturn, 1) := by decide +kernel
theorem dX7_gauge_110 : decode cX7_gauge 110 = .ok (.aload_n 0, 1) := by decide +kernel
theorem dX7_gauge_111 : decode cX7_gauge 111 = .ok (.getfield 43, 3) := by decide +kernel
theorem dX7_gauge_114 : decode cX7_gauge 114 = .ok (.getfield 206, 3) := by decide +kernel
theorem dX7_gauge_117 : decode cX7_gauge 117 = .ok (.iload_n 2, 1) := by decide +kernel
theorem dX7_gauge_118 : decode cX7_gauge 118 = .ok (.iaload, 1) := by decide +kernel
theorem dX7_gauge_119 : decode cX7_gauge 119 = .ok (.ireturn, 1) := by decide +kernel
theorem dX7_gauge_120 : decode cX7_gauge 120 = .ok (.aload_n 0, 1) := by decide +kernel
theorem dX7_gauge_121 : decode cX7_gauge 121 = .ok (.getfield 43, 3) := by decide +kernel
theorem dX7_gauge_124 : decode cX7_gauge 124 = .ok (.getfield 122, 3) := by decide +kernel
theorem dX7_gauge_127 : decode cX7_gauge 127 = .ok (.iload_n 2, 1) := by decide +kernel
theorem dX7_gauge_128 : decode cX7_gauge 128 = .ok (.iaload, 1) := by decide +kernel
theorem dX7_gauge_129 : decode cX7_gauge 129 = .ok (.ireturn, 1) := by decide +kernel
theorem dX7_gauge_130 : decode cX7_gauge 130 = .ok (.aload 4, 2) := by decide +kernel
theorem dX7_gauge_132 : decode cX7_gauge 132 = .ok (.getfield 209, 3) := by decide +kernel
theorem dX7_gauge_135 : decode cX7_gauge 135 = .ok (.iload_n 2, 1) := by decide +kernel
theorem dX7_gauge_136 : decode cX7_gauge 136 = .ok (.iaload, 1) := by decide +kernel
theorem dX7_gauge_137 : decode cX7_gauge 137 = .ok (.ireturn, 1) := by decide +kernel
theorem dX7_gauge_138 : decode cX7_gauge 138 = .ok (.aload 4, 2) := by decide +kernel
theorem dX7_gauge_140 : decode cX7_gauge 140 = .ok (.getfield 212, 3) := by decide +kernel
theorem dX7_gauge_143 : decode cX7_gauge 143 = .ok (.iload_n 2, 1) := by decide +kernel
theorem dX7_gauge_144 : decode cX7_gauge 144 = .ok (.iaload, 1) := by decide +kernel
theorem dX7_gauge_145 : decode cX7_gauge 145 = .ok (.ireturn, 1) := by decide +kernel
theorem dX7_gauge_146 : decode cX7_gauge 146 = .ok (.aload_n 0, 1) := by decide +kernel
theorem dX7_gauge_147 : decode cX7_gauge 147 = .ok (.getfield 43, 3) := by decide +kernel
theorem dX7_gauge_150 : decode cX7_gauge 150 = .ok (.getfield 215, 3) := by decide +kernel
theorem dX7_gauge_153 : decode cX7_gauge 153 = .ok (.iload_n 2, 1) := by decide +kernel
theorem dX7_gauge_154 : decode cX7_gauge 154 = .ok (.iaload, 1) := by decide +kernel
theorem dX7_gauge_155 : decode cX7_gauge 155 = .ok (.ireturn, 1) := by decide +kernel
theorem dX7_gauge_156 : decode cX7_gauge 156 = .ok (.aload_n 0, 1) := by decide +kernel
theorem dX7_gauge_157 : decode cX7_gauge 157 = .ok (.getfield 43, 3) := by decide +kernel
theorem dX7_gauge_160 : decode cX7_gauge 160 = .ok (.getfield 218, 3) := by decide +kernel
theorem dX7_gauge_163 : decode cX7_gauge 163 = .ok (.iload_n 2, 1) := by decide +kernel
theorem dX7_gauge_164 : decode cX7_gauge 164 = .ok (.iaload, 1) := by decide +kernel
theorem dX7_gauge_165 : decode cX7_gauge 165 = .ok (.ireturn, 1) := by decide +kernel
theorem dX7_gauge_166 : decode cX7_gauge 166 = .ok (.ldc 51, 2) := by decide +kernel
theorem dX7_gauge_168 : decode cX7_gauge 168 = .ok (.ireturn, 1) := by decide +kernel
theorem dX7_principal_0 : decode cX7_principal 0 = .ok (.aload_n 0, 1) := by decide +kernel
theorem dX7_principal_1 : decode cX7_principal 1 = .ok (.getfield 10, 3) := by decide +kernel
theorem dX7_principal_4 : decode cX7_principal 4 = .ok (.iload_n 1, 1) := by decide +kernel
theorem dX7_principal_5 : decode cX7_principal 5 = .ok (.invokevirtual 78, 3) := by decide +kernel
theorem dX7_principal_8 : decode cX7_principal 8 = .ok (.astore_n 3, 1) := by decide +kernel
theorem dX7_principal_9 : decode cX7_principal 9 = .ok (.aload_n 3, 1) := by decide +kernel
theorem dX7_principal_10 : decode cX7_principal 10 = .ok (.ifnonnull 6, 3) := by decide +kernel
theorem dX7_principal_13 : decode cX7_principal 13 = .ok (.ldc 82, 2) := by decide +kernel
theorem dX7_principal_15 : decode cX7_principal 15 = .ok (.ireturn, 1) := by decide +kernel
theorem dX7_principal_16 : decode cX7_principal 16 = .ok (.aload_n 0, 1) := by decide +kernel
theorem dX7_principal_17 : decode cX7_principal 17 = .ok (.getfield 43, 3) := by decide +kernel
theorem dX7_principal_20 : decode cX7_principal 20 = .ok (.aload_n 3, 1) := by decide +kernel
theorem dX7_principal_21 : decode cX7_principal 21 = .ok (.aload_n 0, 1) := by decide +kernel
theorem dX7_principal_22 : decode cX7_principal 22 = .ok (.getfield 10, 3) := by decide +kernel
theorem dX7_principal_25 : decode cX7_principal 25 = .ok (.getfield 97, 3) := by decide +kernel
theorem dX7_principal_28 : decode cX7_principal 28 = .ok (.invokevirtual 100, 3) := by decide +kernel
theorem dX7_principal_31 : decode cX7_principal 31 = .ok (.iload_n 2, 1) := by decide +kernel
theorem dX7_principal_32 : decode cX7_principal 32 = .ok (.tableswitch 128 0 7 #[48, 64, 80, 88, 96, 104, 112, 120], 48) := by decide +kernel
theorem dX7_principal_80 : decode cX7_principal 80 = .ok (.aload_n 0, 1) := by decide +kernel
theorem dX7_principal_81 : decode cX7_principal 81 = .ok (.getfield 43, 3) := by decide +kernel
theorem dX7_principal_84 : decode cX7_principal 84 = .ok (.getfield 221, 3) := by decide +kernel
theorem dX7_principal_87 : decode cX7_principal 87 = .ok (.aload_n 0, 1) := by decide +kernel
theorem dX7_principal_88 : decode cX7_principal 88 = .ok (.getfield 43, 3) := by decide +kernel
theorem dX7_principal_91 : decode cX7_principal 91 = .ok (.getfield 224, 3) := by decide +kernel
theorem dX7_principal_94 : decode cX7_principal 94 = .ok (.iadd, 1) := by decide +kernel
theorem dX7_principal_95 : decode cX7_principal 95 = .ok (.ireturn, 1) := by decide +kernel
theorem dX7_principal_96 : decode cX7_principal 96 = .ok (.aload_n 0, 1) := by decide +kernel
theorem dX7_principal_97 : decode cX7_principal 97 = .ok (.getfield 43, 3) := by decide +kernel
theorem dX7_principal_100 : decode cX7_principal 100 = .ok (.getfield 221, 3) := by decide +kernel
theorem dX7_principal_103 : decode cX7_principal 103 = .ok (.aload_n 0, 1) := by decide +kernel
theorem dX7_principal_104 : decode cX7_principal 104 = .ok (.getfield 43, 3) := by decide +kernel
theorem dX7_principal_107 : decode cX7_principal 107 = .ok (.getfield 224, 3) := by decide +kernel
theorem dX7_principal_110 : decode cX7_principal 110 = .ok (.isub, 1) := by decide +kernel
theorem dX7_principal_111 : decode cX7_principal 111 = .ok (.ireturn, 1) := by decide +kernel
theorem dX7_principal_112 : decode cX7_principal 112 = .ok (.aload_n 0, 1) := by decide +kernel
theorem dX7_principal_113 : decode cX7_principal 113 = .ok (.getfield 43, 3) := by decide +kernel
theorem dX7_principal_116 : decode cX7_principal 116 = .ok (.getfield 227, 3) := by decide +kernel
theorem dX7_principal_119 : decode cX7_principal 119 = .ok (.ireturn, 1) := by decide +kernel
theorem dX7_principal_120 : decode cX7_principal 120 = .ok (.aload_n 0, 1) := by decide +kernel
theorem dX7_principal_121 : decode cX7_principal 121 = .ok (.getfield 43, 3) := by decide +kernel
theorem dX7_principal_124 : decode cX7_principal 124 = .ok (.getfield 224, 3) := by decide +kernel
theorem dX7_principal_127 : decode cX7_principal 127 = .ok (.ireturn, 1) := by decide +kernel
theorem dX7_principal_128 : decode cX7_principal 128 = .ok (.aload_n 0, 1) := by decide +kernel
theorem dX7_principal_129 : decode cX7_principal 129 = .ok (.getfield 43, 3) := by decide +kernel
theorem dX7_principal_132 : decode cX7_principal 132 = .ok (.getfield 230, 3) := by decide +kernel
theorem dX7_principal_135 : decode cX7_principal 135 = .ok (.ireturn, 1) := by decide +kernel
theorem dX7_principal_136 : decode cX7_principal 136 = .ok (.aload_n 0, 1) := by decide +kernel
theorem dX7_principal_137 : decode cX7_principal 137 = .ok (.getfield 43, 3) := by decide +kernel
theorem dX7_principal_140 : decode cX7_principal 140 = .ok (.getfield 231, 3) := by decide +kernel
theorem dX7_principal_143 : decode cX7_principal 143 = .ok (.ireturn, 1) := by decide +kernel
theorem dX7_principal_144 : decode cX7_principal 144 = .ok (.aload_n 0, 1) := by decide +kernel
theorem dX7_principal_145 : decode cX7_principal 145 = .ok (.getfield 43, 3) := by decide +kernel
theorem dX7_principal_148 : decode cX7_principal 148 = .ok (.getfield 232, 3) := by decide +kernel
theorem dX7_principal_151 : decode cX7_principal 151 = .ok (.ireturn, 1) := by decide +kernel
theorem dX7_principal_152 : decode cX7_principal 152 = .ok (.aload_n 0, 1) := by decide +kernel
theorem dX7_principal_153 : decode cX7_principal 153 = .ok (.getfield 43, 3) := by decide +kernel
theorem dX7_principal_156 : decode cX7_principal 156 = .ok (.getfield 221, 3) := by decide +kernel
theorem dX7_principal_159 : decode cX7_principal 159 = .ok (.ireturn, 1) := by decide +kernel
theorem dX7_principal_160 : decode cX7_principal 160 = .ok (.ldc 51, 2) := by decide +kernel
theorem dX7_principal_162 : decode cX7_principal 162 = .ok (.ireturn, 1) := by decide +kernel
theorem dX7_pull_0 : decode cX7_pull 0 = .ok (.aload_n 0, 1) := by decide +kernel
theorem dX7_pull_1 : decode cX7_pull 1 = .ok (.getfield 10, 3) := by decide +kernel
theorem dX7_pull_4 : decode cX7_pull 4 = .ok (.iload_n 1, 1) := by decide +kernel
theorem dX7_pull_5 : decode cX7_pull 5 = .ok (.invokevirtual 78, 3) := by decide +kernel
theorem dX7_pull_8 : decode cX7_pull 8 = .ok (.astore_n 3, 1) := by decide +kernel
theorem dX7_pull_9 : decode cX7_pull 9 = .ok (.aload_n 3, 1) := by decide +kernel
theorem dX7_pull_10 : decode cX7_pull 10 = .ok (.ifnonnull 6, 3) := by decide +kernel
theorem dX7_pull_13 : decode cX7_pull 13 = .ok (.ldc 82, 2) := by decide +kernel
theorem dX7_pull_15 : decode cX7_pull 15 = .ok (.ireturn, 1) := by decide +kernel
theorem dX7_pull_16 : decode cX7_pull 16 = .ok (.iload_n 2, 1) := by decide +kernel
theorem dX7_pull_17 : decode cX7_pull 17 = .ok (.iconst 0, 1) := by decide +kernel
theorem dX7_pull_18 : decode cX7_pull 18 = .ok (.bipush 23, 2) := by decide +kernel
theorem dX7_pull_20 : decode cX7_pull 20 = .ok (.invokestatic 47, 3) := by decide +kernel
theorem dX7_pull_23 : decode cX7_pull 23 = .ok (.ifCond .ne 6, 3) := by decide +kernel
theorem dX7_pull_26 : decode cX7_pull 26 = .ok (.ldc 51, 2) := by decide +kernel
theorem dX7_pull_28 : decode cX7_pull 28 = .ok (.ireturn, 1) := by decide +kernel
theorem dX7_pull_29 : decode cX7_pull 29 = .ok (.aload_n 0, 1) := by decide +kernel
theorem dX7_pull_30 : decode cX7_pull 30 = .ok (.getfield 43, 3) := by decide +kernel
theorem dX7_pull_33 : decode cX7_pull 33 = .ok (.aload_n 3, 1) := by decide +kernel
theorem dX7_pull_34 : decode cX7_pull 34 = .ok (.aload_n 0, 1) := by decide +kernel
theorem dX7_pull_35 : decode cX7_pull 35 = .ok (.getfield 10, 3) := by decide +kernel
theorem dX7_pull_38 : decode cX7_pull 38 = .ok (.getfield 97, 3) := by decide +kernel
theorem dX7_pull_41 : decode cX7_pull 41 = .ok (.invokevirtual 100, 3) := by decide +kernel
theorem dX7_pull_44 : decode cX7_pull 44 = .ok (.aload_n 0, 1) := by decide +kernel
theorem dX7_pull_45 : decode cX7_pull 45 = .ok (.getfield 43, 3) := by decide +kernel
theorem dX7_pull_48 : decode cX7_pull 48 = .ok (.iload_n 2, 1) := by decide +kernel
theorem dX7_pull_49 : decode cX7_pull 49 = .ok (.invokevirtual 233, 3) := by decide +kernel
theorem dX7_pull_52 : decode cX7_pull 52 = .ok (.ldc2_w 237, 3) := by decide +kernel
theorem dX7_pull_55 : decode cX7_pull 55 = .ok (.ldiv, 1) := by decide +kernel
theorem dX7_pull_56 : decode cX7_pull 56 = .ok (.l2i, 1) := by decide +kernel
theorem dX7_pull_57 : decode cX7_pull 57 = .ok (.ireturn, 1) := by decide +kernel
theorem dX7_job_0 : decode cX7_job 0 = .ok (.iload_n 1, 1) := by decide +kernel
theorem dX7_job_1 : decode cX7_job 1 = .ok (.ifCond .lt 12, 3) := by decide +kernel
theorem dX7_job_4 : decode cX7_job 4 = .ok (.iload_n 2, 1) := by decide +kernel
theorem dX7_job_5 : decode cX7_job 5 = .ok (.iconst 0, 1) := by decide +kernel
theorem dX7_job_6 : decode cX7_job 6 = .ok (.iconst 4, 1) := by decide +kernel
theorem dX7_job_7 : decode cX7_job 7 = .ok (.invokestatic 47, 3) := by decide +kernel
theorem dX7_job_10 : decode cX7_job 10 = .ok (.ifCond .ne 6, 3) := by decide +kernel
theorem dX7_job_13 : decode cX7_job 13 = .ok (.ldc 51, 2) := by decide +kernel
theorem dX7_job_15 : decode cX7_job 15 = .ok (.ireturn, 1) := by decide +kernel
theorem dX7_job_16 : decode cX7_job 16 = .ok (.iload_n 1, 1) := by decide +kernel
theorem dX7_job_17 : decode cX7_job 17 = .ok (.aload_n 0, 1) := by decide +kernel
theorem dX7_job_18 : decode cX7_job 18 = .ok (.getfield 10, 3) := by decide +kernel
theorem dX7_job_21 : decode cX7_job 21 = .ok (.getfield 125, 3) := by decide +kernel
theorem dX7_job_24 : decode cX7_job 24 = .ok (.getfield 129, 3) := by decide +kernel
theorem dX7_job_27 : decode cX7_job 27 = .ok (.if_icmp .lt 6, 3) := by decide +kernel
theorem dX7_job_30 : decode cX7_job 30 = .ok (.ldc 96, 2) := by decide +kernel
theorem dX7_job_32 : decode cX7_job 32 = .ok (.ireturn, 1) := by decide +kernel
theorem dX7_job_33 : decode cX7_job 33 = .ok (.aload_n 0, 1) := by decide +kernel
theorem dX7_job_34 : decode cX7_job 34 = .ok (.getfield 36, 3) := by decide +kernel
theorem dX7_job_37 : decode cX7_job 37 = .ok (.aload_n 0, 1) := by decide +kernel
theorem dX7_job_38 : decode cX7_job 38 = .ok (.getfield 10, 3) := by decide +kernel
theorem dX7_job_41 : decode cX7_job 41 = .ok (.invokevirtual 145, 3) := by decide +kernel
theorem dX7_job_44 : decode cX7_job 44 = .ok (.iconst 0, 1) := by decide +kernel
theorem dX7_job_45 : decode cX7_job 45 = .ok (.istore_n 3, 1) := by decide +kernel
theorem dX7_job_46 : decode cX7_job 46 = .ok (.iload_n 3, 1) := by decide +kernel
theorem dX7_job_47 : decode cX7_job 47 = .ok (.iload_n 1, 1) := by decide +kernel
theorem dX7_job_48 : decode cX7_job 48 = .ok (.if_icmp .gt 20, 3) := by decide +kernel
theorem dX7_job_51 : decode cX7_job 51 = .ok (.aload_n 0, 1) := by decide +kernel
theorem dX7_job_52 : decode cX7_job 52 = .ok (.getfield 36, 3) := by decide +kernel
theorem dX7_job_55 : decode cX7_job 55 = .ok (.aload_n 0, 1) := by decide +kernel
theorem dX7_job_56 : decode cX7_job 56 = .ok (.getfield 10, 3) := by decide +kernel
theorem dX7_job_59 : decode cX7_job 59 = .ok (.invokevirtual 147, 3) := by decide +kernel
theorem dX7_job_62 : decode cX7_job 62 = .ok (.iinc 3 1, 3) := by decide +kernel
theorem dX7_job_65 : decode cX7_job 65 = .ok (.goto (-19), 3) := by decide +kernel
theorem dX7_job_68 : decode cX7_job 68 = .ok (.iload_n 2, 1) := by decide +kernel
theorem dX7_job_69 : decode cX7_job 69 = .ok (.iconst 4, 1) := by decide +kernel
theorem dX7_job_70 : decode cX7_job 70 = .ok (.if_icmp .ne 13, 3) := by decide +kernel
theorem dX7_job_73 : decode cX7_job 73 = .ok (.aload_n 0, 1) := by decide +kernel
theorem dX7_job_74 : decode cX7_job 74 = .ok (.getfield 36, 3) := by decide +kernel
theorem dX7_job_77 : decode cX7_job 77 = .ok (.getfield 239, 3) := by decide +kernel
theorem dX7_job_80 : decode cX7_job 80 = .ok (.goto 21, 3) := by decide +kernel
theorem dX7_job_83 : decode cX7_job 83 = .ok (.aload_n 0, 1) := by decide +kernel
theorem dX7_job_84 : decode cX7_job 84 = .ok (.getfield 10, 3) := by decide +kernel
theorem dX7_job_87 : decode cX7_job 87 = .ok (.getfield 125, 3) := by decide +kernel
theorem dX7_job_90 : decode cX7_job 90 = .ok (.aload_n 0, 1) := by decide +kernel
theorem dX7_job_91 : decode cX7_job 91 = .ok (.getfield 36, 3) := by decide +kernel
theorem dX7_job_94 : decode cX7_job 94 = .ok (.getfield 150, 3) := by decide +kernel
theorem dX7_job_97 : decode cX7_job 97 = .ok (.iload_n 2, 1) := by decide +kernel
theorem dX7_job_98 : decode cX7_job 98 = .ok (.invokevirtual 153, 3) := by decide +kernel
theorem dX7_job_101 : decode cX7_job 101 = .ok (.ireturn, 1) := by decide +kernel
theorem dX7_record_0 : decode cX7_record 0 = .ok (.iload_n 1, 1) := by decide +kernel
theorem dX7_record_1 : decode cX7_record 1 = .ok (.ifCond .lt 12, 3) := by decide +kernel
theorem dX7_record_4 : decode cX7_record 4 = .ok (.iload_n 2, 1) := by decide +kernel
theorem dX7_record_5 : decode cX7_record 5 = .ok (.iconst 0, 1) := by decide +kernel
theorem dX7_record_6 : decode cX7_record 6 = .ok (.iconst 3, 1) := by decide +kernel
theorem dX7_record_7 : decode cX7_record 7 = .ok (.invokestatic 47, 3) := by decide +kernel
theorem dX7_record_10 : decode cX7_record 10 = .ok (.ifCond .ne 6, 3) := by decide +kernel
theorem dX7_record_13 : decode cX7_record 13 = .ok (.ldc 51, 2) := by decide +kernel
theorem dX7_record_15 : decode cX7_record 15 = .ok (.ireturn, 1) := by decide +kernel
theorem dX7_record_16 : decode cX7_record 16 = .ok (.aload_n 0, 1) := by decide +kernel
theorem dX7_record_17 : decode cX7_record 17 = .ok (.getfield 10, 3) := by decide +kernel
theorem dX7_record_20 : decode cX7_record 20 = .ok (.getfield 242, 3) := by decide +kernel
theorem dX7_record_23 : decode cX7_record 23 = .ok (.getfield 129, 3) := by decide +kernel
theorem dX7_record_26 : decode cX7_record 26 = .ok (.istore_n 3, 1) := by decide +kernel
theorem dX7_record_27 : decode cX7_record 27 = .ok (.iload_n 1, 1) := by decide +kernel
theorem dX7_record_28 : decode cX7_record 28 = .ok (.iload_n 3, 1) := by decide +kernel
theorem dX7_record_29 : decode cX7_record 29 = .ok (.if_icmp .lt 8, 3) := by decide +kernel
theorem dX7_record_32 : decode cX7_record 32 = .ok (.ldc 96, 2) := by decide +kernel
theorem dX7_record_34 : decode cX7_record 34 = .ok (.goto 19, 3) := by decide +kernel
theorem dX7_record_37 : decode cX7_record 37 = .ok (.aload_n 0, 1) := by decide +kernel
theorem dX7_record_38 : decode cX7_record 38 = .ok (.getfield 10, 3) := by decide +kernel
theorem dX7_record_41 : decode cX7_record 41 = .ok (.getfield 242, 3) := by decide +kernel
theorem dX7_record_44 : decode cX7_record 44 = .ok (.iload_n 3, 1) := by decide +kernel
theorem dX7_record_45 : decode cX7_record 45 = .ok (.iconst 1, 1) := by decide +kernel
theorem dX7_record_46 : decode cX7_record 46 = .ok (.isub, 1) := by decide +kernel
theorem dX7_record_47 : decode cX7_record 47 = .ok (.iload_n 1, 1) := by decide +kernel
theorem dX7_record_48 : decode cX7_record 48 = .ok (.isub, 1) := by decide +kernel
theorem dX7_record_49 : decode cX7_record 49 = .ok (.iload_n 2, 1) := by decide +kernel
theorem dX7_record_50 : decode cX7_record 50 = .ok (.invokevirtual 153, 3) := by decide +kernel
theorem dX7_record_53 : decode cX7_record 53 = .ok (.ireturn, 1) := by decide +kernel
theorem dX7_neighbour_0 : decode cX7_neighbour 0 = .ok (.iload_n 1, 1) := by decide +kernel
theorem dX7_neighbour_1 : decode cX7_neighbour 1 = .ok (.iconst 0, 1) := by decide +kernel
theorem dX7_neighbour_2 : decode cX7_neighbour 2 = .ok (.sipush 1000, 3) := by decide +kernel
theorem dX7_neighbour_5 : decode cX7_neighbour 5 = .ok (.invokestatic 47, 3) := by decide +kernel
theorem dX7_neighbour_8 : decode cX7_neighbour 8 = .ok (.ifCond .ne 6, 3) := by decide +kernel
theorem dX7_neighbour_11 : decode cX7_neighbour 11 = .ok (.ldc 51, 2) := by decide +kernel
theorem dX7_neighbour_13 : decode cX7_neighbour 13 = .ok (.ireturn, 1) := by decide +kernel
theorem dX7_neighbour_14 : decode cX7_neighbour 14 = .ok (.ldc 96, 2) := by decide +kernel
theorem dX7_neighbour_16 : decode cX7_neighbour 16 = .ok (.istore_n 3, 1) := by decide +kernel
theorem dX7_neighbour_17 : decode cX7_neighbour 17 = .ok (.sipush 1001, 3) := by decide +kernel
theorem dX7_neighbour_20 : decode cX7_neighbour 20 = .ok (.istore 4, 2) := by decide +kernel
theorem dX7_neighbour_22 : decode cX7_neighbour 22 = .ok (.iconst 0, 1) := by decide +kernel
theorem dX7_neighbour_23 : decode cX7_neighbour 23 = .ok (.istore 5, 2) := by decide +kernel
theorem dX7_neighbour_25 : decode cX7_neighbour 25 = .ok (.iload 5, 2) := by decide +kernel
theorem dX7_neighbour_27 : decode cX7_neighbour 27 = .ok (.aload_n 0, 1) := by decide +kernel
theorem dX7_neighbour_28 : decode cX7_neighbour 28 = .ok (.getfield 10, 3) := by decide +kernel
theorem dX7_neighbour_31 : decode cX7_neighbour 31 = .ok (.getfield 52, 3) := by decide +kernel
theorem dX7_neighbour_34 : decode cX7_neighbour 34 = .ok (.if_icmp .ge 59, 3) := by decide +kernel
theorem dX7_neighbour_37 : decode cX7_neighbour 37 = .ok (.iload_n 2, 1) := by decide +kernel
theorem dX7_neighbour_38 : decode cX7_neighbour 38 = .ok (.ifCond .eq 17, 3) := by decide +kernel
theorem dX7_neighbour_41 : decode cX7_neighbour 41 = .ok (.aload_n 0, 1) := by decide +kernel
theorem dX7_neighbour_42 : decode cX7_neighbour 42 = .ok (.getfield 10, 3) := by decide +kernel
theorem dX7_neighbour_45 : decode cX7_neighbour 45 = .ok (.iload 5, 2) := by decide +kernel
theorem dX7_neighbour_47 : decode cX7_neighbour 47 = .ok (.invokevirtual 245, 3) := by decide +kernel
theorem dX7_neighbour_50 : decode cX7_neighbour 50 = .ok (.iload_n 1, 1) := by decide +kernel
theorem dX7_neighbour_51 : decode cX7_neighbour 51 = .ok (.isub, 1) := by decide +kernel
theorem dX7_neighbour_52 : decode cX7_neighbour 52 = .ok (.goto 14, 3) := by decide +kernel
theorem dX7_neighbour_55 : decode cX7_neighbour 55 = .ok (.iload_n 1, 1) := by decide +kernel
theorem dX7_neighbour_56 : decode cX7_neighbour 56 = .ok (.aload_n 0, 1) := by decide +kernel
theorem dX7_neighbour_57 : decode cX7_neighbour 57 = .ok (.getfield 10, 3) := by decide +kernel
theorem dX7_neighbour_60 : decode cX7_neighbour 60 = .ok (.iload 5, 2) := by decide +kernel
theorem dX7_neighbour_62 : decode cX7_neighbour 62 = .ok (.invokevirtual 245, 3) := by decide +kernel
theorem dX7_neighbour_65 : decode cX7_neighbour 65 = .ok (.isub, 1) := by decide +kernel
theorem dX7_neighbour_66 : decode cX7_neighbour 66 = .ok (.istore 6, 2) := by decide +kernel
theorem dX7_neighbour_68 : decode cX7_neighbour 68 = .ok (.iload 6, 2) := by decide +kernel
theorem dX7_neighbour_70 : decode cX7_neighbour 70 = .ok (.ifCond .le 17, 3) := by decide +kernel
theorem dX7_neighbour_73 : decode cX7_neighbour 73 = .ok (.iload 6, 2) := by decide +kernel
theorem dX7_neighbour_75 : decode cX7_neighbour 75 = .ok (.iload 4, 2) := by decide +kernel
theorem dX7_neighbour_77 : decode cX7_neighbour 77 = .ok (.if_icmp .ge 10, 3) := by decide +kernel
theorem dX7_neighbour_80 : decode cX7_neighbour 80 = .ok (.iload 5, 2) := by decide +kernel
theorem dX7_neighbour_82 : decode cX7_neighbour 82 = .ok (.istore_n 3, 1) := by decide +kernel
theorem dX7_neighbour_83 : decode cX7_neighbour 83 = .ok (.iload 6, 2) := by decide +kernel
theorem dX7_neighbour_85 : decode cX7_neighbour 85 = .ok (.istore 4, 2) := by decide +kernel
theorem dX7_neighbour_87 : decode cX7_neighbour 87 = .ok (.iinc 5 1, 3) := by decide +kernel
theorem dX7_neighbour_90 : decode cX7_neighbour 90 = .ok (.goto (-65), 3) := by decide +kernel
theorem dX7_neighbour_93 : decode cX7_neighbour 93 = .ok (.iload_n 3, 1) := by decide +kernel
theorem dX7_neighbour_94 : decode cX7_neighbour 94 = .ok (.ireturn, 1) := by decide +kernel
theorem dX7_count_0 : decode cX7_count 0 = .ok (.iload_n 1, 1) := by decide +kernel
theorem dX7_count_1 : decode cX7_count 1 = .ok (.tableswitch 162 0 11 #[63, 71, 82, 90, 98, 106, 114, 122, 130, 141, 146, 154], 63) := by decide +kernel
theorem dX7_count_64 : decode cX7_count 64 = .ok (.aload_n 0, 1) := by decide +kernel
theorem dX7_count_65 : decode cX7_count 65 = .ok (.getfield 10, 3) := by decide +kernel
theorem dX7_count_68 : decode cX7_count 68 = .ok (.getfield 52, 3) := by decide +kernel
theorem dX7_count_71 : decode cX7_count 71 = .ok (.ireturn, 1) := by decide +kernel
theorem dX7_count_72 : decode cX7_count 72 = .ok (.aload_n 0, 1) := by decide +kernel
theorem dX7_count_73 : decode cX7_count 73 = .ok (.getfield 10, 3) := by decide +kernel
theorem dX7_count_76 : decode cX7_count 76 = .ok (.getfield 125, 3) := by decide +kernel
theorem dX7_count_79 : decode cX7_count 79 = .ok (.getfield 129, 3) := by decide +kernel
theorem dX7_count_82 : decode cX7_count 82 = .ok (.ireturn, 1) := by decide +kernel
theorem dX7_count_83 : decode cX7_count 83 = .ok (.aload_n 0, 1) := by decide +kernel
theorem dX7_count_84 : decode cX7_count 84 = .ok (.getfield 10, 3) := by decide +kernel
theorem dX7_count_87 : decode cX7_count 87 = .ok (.getfield 248, 3) := by decide +kernel
theorem dX7_count_90 : decode cX7_count 90 = .ok (.ireturn, 1) := by decide +kernel
theorem dX7_count_91 : decode cX7_count 91 = .ok (.aload_n 0, 1) := by decide +kernel
theorem dX7_count_92 : decode cX7_count 92 = .ok (.getfield 10, 3) := by decide +kernel
theorem dX7_count_95 : decode cX7_count 95 = .ok (.getfield 251, 3) := by decide +kernel
theorem dX7_count_98 : decode cX7_count 98 = .ok (.ireturn, 1) := by decide +kernel
theorem dX7_count_99 : decode cX7_count 99 = .ok (.aload_n 0, 1) := by decide +kernel
theorem dX7_count_100 : decode cX7_count 100 = .ok (.getfield 10, 3) := by decide +kernel
theorem dX7_count_103 : decode cX7_count 103 = .ok (.getfield 160, 3) := by decide +kernel
theorem dX7_count_106 : decode cX7_count 106 = .ok (.ireturn, 1) := by decide +kernel
theorem dX7_count_107 : decode cX7_count 107 = .ok (.aload_n 0, 1) := by decide +kernel
theorem dX7_count_108 : decode cX7_count 108 = .ok (.getfield 10, 3) := by decide +kernel
theorem dX7_count_111 : decode cX7_count 111 = .ok (.getfield 254, 3) := by decide +kernel
theorem dX7_count_114 : decode cX7_count 114 = .ok (.ireturn, 1) := by decide +kernel
theorem dX7_count_115 : decode cX7_count 115 = .ok (.aload_n 0, 1) := by decide +kernel
theorem dX7_count_116 : decode cX7_count 116 = .ok (.getfield 10, 3) := by decide +kernel
theorem dX7_count_119 : decode cX7_count 119 = .ok (.getfield 255, 3) := by decide +kernel
theorem dX7_count_122 : decode cX7_count 122 = .ok (.ireturn, 1) := by decide +kernel
theorem dX7_count_123 : decode cX7_count 123 = .ok (.aload_n 0, 1) := by decide +kernel
theorem dX7_count_124 : decode cX7_count 124 = .ok (.getfield 10, 3) := by decide +kernel
theorem dX7_count_127 : decode cX7_count 127 = .ok (.getfield 97, 3) := by decide +kernel
theorem dX7_count_130 : decode cX7_count 130 = .ok (.ireturn, 1) := by decide +kernel
theorem dX7_count_131 : decode cX7_count 131 = .ok (.aload_n 0, 1) := by decide +kernel
theorem dX7_count_132 : decode cX7_count 132 = .ok (.getfield 10, 3) := by decide +kernel
theorem dX7_count_135 : decode cX7_count 135 = .ok (.getfield 242, 3) := by decide +kernel
theorem dX7_count_138 : decode cX7_count 138 = .ok (.getfield 129, 3) := by decide +kernel
theorem dX7_count_141 : decode cX7_count 141 = .ok (.ireturn, 1) := by decide +kernel
theorem dX7_count_142 : decode cX7_count 142 = .ok (.aload_n 0, 1) := by decide +kernel
theorem dX7_count_143 : decode cX7_count 143 = .ok (.getfield 256, 3) := by decide +kernel
theorem dX7_count_146 : decode cX7_count 146 = .ok (.ireturn, 1) := by decide +kernel
theorem dX7_count_147 : decode cX7_count 147 = .ok (.aload_n 0, 1) := by decide +kernel
theorem dX7_count_148 : decode cX7_count 148 = .ok (.getfield 22, 3) := by decide +kernel
theorem dX7_count_151 : decode cX7_count 151 = .ok (.getfield 181, 3) := by decide +kernel
theorem dX7_count_154 : decode cX7_count 154 = .ok (.ireturn, 1) := by decide +kernel
theorem dX7_count_155 : decode cX7_count 155 = .ok (.aload_n 0, 1) := by decide +kernel
theorem dX7_count_156 : decode cX7_count 156 = .ok (.getfield 29, 3) := by decide +kernel
theorem dX7_count_159 : decode cX7_count 159 = .ok (.getfield 167, 3) := by decide +kernel
theorem dX7_count_162 : decode cX7_count 162 = .ok (.ireturn, 1) := by decide +kernel
theorem dX7_count_163 : decode cX7_count 163 = .ok (.ldc 51, 2) := by decide +kernel
theorem dX7_count_165 : decode cX7_count 165 = .ok (.ireturn, 1) := by decide +kernel
theorem dX7_doJob_0 : decode cX7_doJob 0 = .ok (.aload_n 0, 1) := by decide +kernel
theorem dX7_doJob_1 : decode cX7_doJob 1 = .ok (.getfield 10, 3) := by decide +kernel
theorem dX7_doJob_4 : decode cX7_doJob 4 = .ok (.getfield 125, 3) := by decide +kernel
theorem dX7_doJob_7 : decode cX7_doJob 7 = .ok (.iload_n 1, 1) := by decide +kernel
theorem dX7_doJob_8 : decode cX7_doJob 8 = .ok (.iconst 1, 1) := by decide +kernel
theorem dX7_doJob_9 : decode cX7_doJob 9 = .ok (.invokevirtual 153, 3) := by decide +kernel
theorem dX7_doJob_12 : decode cX7_doJob 12 = .ok (.istore_n 2, 1) := by decide +kernel
theorem dX7_doJob_13 : decode cX7_doJob 13 = .ok (.aload_n 0, 1) := by decide +kernel
theorem dX7_doJob_14 : decode cX7_doJob 14 = .ok (.getfield 10, 3) := by decide +kernel
theorem dX7_doJob_17 : decode cX7_doJob 17 = .ok (.getfield 125, 3) := by decide +kernel
theorem dX7_doJob_20 : decode cX7_doJob 20 = .ok (.iload_n 1, 1) := by decide +kernel
theorem dX7_doJob_21 : decode cX7_doJob 21 = .ok (.iconst 2, 1) := by decide +kernel
theorem dX7_doJob_22 : decode cX7_doJob 22 = .ok (.invokevirtual 153, 3) := by decide +kernel
theorem dX7_doJob_25 : decode cX7_doJob 25 = .ok (.istore_n 3, 1) := by decide +kernel
theorem dX7_doJob_26 : decode cX7_doJob 26 = .ok (.aload_n 0, 1) := by decide +kernel
theorem dX7_doJob_27 : decode cX7_doJob 27 = .ok (.getfield 10, 3) := by decide +kernel
theorem dX7_doJob_30 : decode cX7_doJob 30 = .ok (.iload_n 3, 1) := by decide +kernel
theorem dX7_doJob_31 : decode cX7_doJob 31 = .ok (.invokevirtual 78, 3) := by decide +kernel
theorem dX7_doJob_34 : decode cX7_doJob 34 = .ok (.astore 4, 2) := by decide +kernel
theorem dX7_doJob_36 : decode cX7_doJob 36 = .ok (.aload_n 0, 1) := by decide +kernel
theorem dX7_doJob_37 : decode cX7_doJob 37 = .ok (.getfield 10, 3) := by decide +kernel
theorem dX7_doJob_40 : decode cX7_doJob 40 = .ok (.getfield 125, 3) := by decide +kernel
theorem dX7_doJob_43 : decode cX7_doJob 43 = .ok (.iload_n 1, 1) := by decide +kernel
theorem dX7_doJob_44 : decode cX7_doJob 44 = .ok (.invokevirtual 259, 3) := by decide +kernel
theorem dX7_doJob_47 : decode cX7_doJob 47 = .ok (.aload 4, 2) := by decide +kernel
theorem dX7_doJob_49 : decode cX7_doJob 49 = .ok (.ifnonnull 4, 3) := by decide +kernel
theorem dX7_doJob_52 : decode cX7_doJob 52 = .ok (.return_, 1) := by decide +kernel
theorem dX7_doJob_53 : decode cX7_doJob 53 = .ok (.aload_n 0, 1) := by decide +kernel
theorem dX7_doJob_54 : decode cX7_doJob 54 = .ok (.getfield 10, 3) := by decide +kernel
theorem dX7_doJob_57 : decode cX7_doJob 57 = .ok (.aload 4, 2) := by decide +kernel
theorem dX7_doJob_59 : decode cX7_doJob 59 = .ok (.getfield 185, 3) := by decide +kernel
theorem dX7_doJob_62 : decode cX7_doJob 62 = .ok (.invokevirtual 262, 3) := by decide +kernel
theorem dX7_doJob_65 : decode cX7_doJob 65 = .ok (.aload_n 0, 1) := by decide +kernel
theorem dX7_doJob_66 : decode cX7_doJob 66 = .ok (.getfield 43, 3) := by decide +kernel
theorem dX7_doJob_69 : decode cX7_doJob 69 = .ok (.aload 4, 2) := by decide +kernel
theorem dX7_doJob_71 : decode cX7_doJob 71 = .ok (.aload_n 0, 1) := by decide +kernel
theorem dX7_doJob_72 : decode cX7_doJob 72 = .ok (.getfield 10, 3) := by decide +kernel
theorem dX7_doJob_75 : decode cX7_doJob 75 = .ok (.getfield 97, 3) := by decide +kernel
theorem dX7_doJob_78 : decode cX7_doJob 78 = .ok (.invokevirtual 100, 3) := by decide +kernel
theorem dX7_doJob_81 : decode cX7_doJob 81 = .ok (.aload_n 0, 1) := by decide +kernel
theorem dX7_doJob_82 : decode cX7_doJob 82 = .ok (.iload_n 2, 1) := by decide +kernel
theorem dX7_doJob_83 : decode cX7_doJob 83 = .ok (.aload 4, 2) := by decide +kernel
theorem dX7_doJob_85 : decode cX7_doJob 85 = .ok (.invokevirtual 265, 3) := by decide +kernel
theorem dX7_doJob_88 : decode cX7_doJob 88 = .ok (.istore 5, 2) := by decide +kernel
theorem dX7_doJob_90 : decode cX7_doJob 90 = .ok (.ldc 96, 2) := by decide +kernel
theorem dX7_doJob_92 : decode cX7_doJob 92 = .ok (.istore 6, 2) := by decide +kernel
theorem dX7_doJob_94 : decode cX7_doJob 94 = .ok (.iload 5, 2) := by decide +kernel
theorem dX7_doJob_96 : decode cX7_doJob 96 = .ok (.ifCond .ne 15, 3) := by decide +kernel
theorem dX7_doJob_99 : decode cX7_doJob 99 = .ok (.aload_n 0, 1) := by decide +kernel
theorem dX7_doJob_100 : decode cX7_doJob 100 = .ok (.iload_n 2, 1) := by decide +kernel
theorem dX7_doJob_101 : decode cX7_doJob 101 = .ok (.aload 4, 2) := by decide +kernel
theorem dX7_doJob_103 : decode cX7_doJob 103 = .ok (.invokevirtual 269, 3) := by decide +kernel
theorem dX7_doJob_106 : decode cX7_doJob 106 = .ok (.istore 6, 2) := by decide +kernel
theorem dX7_doJob_108 : decode cX7_doJob 108 = .ok (.goto 22, 3) := by decide +kernel
theorem dX7_doJob_111 : decode cX7_doJob 111 = .ok (.aload_n 0, 1) := by decide +kernel
theorem dX7_doJob_112 : decode cX7_doJob 112 = .ok (.iload 5, 2) := by decide +kernel
theorem dX7_doJob_114 : decode cX7_doJob 114 = .ok (.putfield 256, 3) := by decide +kernel
theorem dX7_doJob_117 : decode cX7_doJob 117 = .ok (.aload_n 0, 1) := by decide +kernel
theorem dX7_doJob_118 : decode cX7_doJob 118 = .ok (.getfield 10, 3) := by decide +kernel
theorem dX7_doJob_121 : decode cX7_doJob 121 = .ok (.dup, 1) := by decide +kernel
theorem dX7_doJob_122 : decode cX7_doJob 122 = .ok (.getfield 160, 3) := by decide +kernel
theorem dX7_doJob_125 : decode cX7_doJob 125 = .ok (.iconst 1, 1) := by decide +kernel
theorem dX7_doJob_126 : decode cX7_doJob 126 = .ok (.iadd, 1) := by decide +kernel
theorem dX7_doJob_127 : decode cX7_doJob 127 = .ok (.putfield 160, 3) := by decide +kernel
theorem dX7_doJob_130 : decode cX7_doJob 130 = .ok (.aload_n 0, 1) := by decide +kernel
theorem dX7_doJob_131 : decode cX7_doJob 131 = .ok (.getfield 10, 3) := by decide +kernel
theorem dX7_doJob_134 : decode cX7_doJob 134 = .ok (.dup, 1) := by decide +kernel
theorem dX7_doJob_135 : decode cX7_doJob 135 = .ok (.getfield 251, 3) := by decide +kernel
theorem dX7_doJob_138 : decode cX7_doJob 138 = .ok (.iconst 1, 1) := by decide +kernel
theorem dX7_doJob_139 : decode cX7_doJob 139 = .ok (.iadd, 1) := by decide +kernel
theorem dX7_doJob_140 : decode cX7_doJob 140 = .ok (.putfield 251, 3) := by decide +kernel
theorem dX7_doJob_143 : decode cX7_doJob 143 = .ok (.aload_n 0, 1) := by decide +kernel
theorem dX7_doJob_144 : decode cX7_doJob 144 = .ok (.getfield 10, 3) := by decide +kernel
theorem dX7_doJob_147 : decode cX7_doJob 147 = .ok (.iload_n 2, 1) := by decide +kernel
theorem dX7_doJob_148 : decode cX7_doJob 148 = .ok (.iload_n 3, 1) := by decide +kernel
theorem dX7_doJob_149 : decode cX7_doJob 149 = .ok (.iload 6, 2) := by decide +kernel
theorem dX7_doJob_151 : decode cX7_doJob 151 = .ok (.iload 5, 2) := by decide +kernel
theorem dX7_doJob_153 : decode cX7_doJob 153 = .ok (.invokevirtual 272, 3) := by decide +kernel
theorem dX7_doJob_156 : decode cX7_doJob 156 = .ok (.return_, 1) := by decide +kernel
theorem dX7_reasonAgainst_0 : decode cX7_reasonAgainst 0 = .ok (.iload_n 1, 1) := by decide +kernel
theorem dX7_reasonAgainst_1 : decode cX7_reasonAgainst 1 = .ok (.lookupswitch 49 #[(0, 27), (1, 43)], 27) := by decide +kernel
theorem dX7_reasonAgainst_28 : decode cX7_reasonAgainst 28 = .ok (.aload_n 0, 1) := by decide +kernel
theorem dX7_reasonAgainst_29 : decode cX7_reasonAgainst 29 = .ok (.getfield 43, 3) := by decide +kernel
theorem dX7_reasonAgainst_32 : decode cX7_reasonAgainst 32 = .ok (.getfield 200, 3) := by decide +kernel
theorem dX7_reasonAgainst_35 : decode cX7_reasonAgainst 35 = .ok (.ifCond .le 7, 3) := by decide +kernel
theorem dX7_reasonAgainst_38 : decode cX7_reasonAgainst 38 = .ok (.iconst 2, 1) := by decide +kernel
theorem dX7_reasonAgainst_39 : decode cX7_reasonAgainst 39 = .ok (.goto 4, 3) := by decide +kernel
theorem dX7_reasonAgainst_42 : decode cX7_reasonAgainst 42 = .ok (.iconst 0, 1) := by decide +kernel
theorem dX7_reasonAgainst_43 : decode cX7_reasonAgainst 43 = .ok (.ireturn, 1) := by decide +kernel
theorem dX7_reasonAgainst_44 : decode cX7_reasonAgainst 44 = .ok (.aload_n 0, 1) := by decide +kernel
theorem dX7_reasonAgainst_45 : decode cX7_reasonAgainst 45 = .ok (.aload_n 2, 1) := by decide +kernel
theorem dX7_reasonAgainst_46 : decode cX7_reasonAgainst 46 = .ok (.invokevirtual 276, 3) := by decide +kernel
theorem dX7_reasonAgainst_49 : decode cX7_reasonAgainst 49 = .ok (.ireturn, 1) := by decide +kernel
theorem dX7_reasonAgainst_50 : decode cX7_reasonAgainst 50 = .ok (.aload_n 0, 1) := by decide +kernel
theorem dX7_reasonAgainst_51 : decode cX7_reasonAgainst 51 = .ok (.invokevirtual 280, 3) := by decide +kernel
theorem dX7_reasonAgainst_54 : decode cX7_reasonAgainst 54 = .ok (.ireturn, 1) := by decide +kernel
theorem dX7_reasonAgainstBalance_0 : decode cX7_reasonAgainstBalance 0 = .ok (.aload_n 1, 1) := by decide +kernel
theorem dX7_reasonAgainstBalance_1 : decode cX7_reasonAgainstBalance 1 = .ok (.getfield 118, 3) := by decide +kernel
theorem dX7_reasonAgainstBalance_4 : decode cX7_reasonAgainstBalance 4 = .ok (.ifCond .eq 5, 3) := by decide +kernel
theorem dX7_reasonAgainstBalance_7 : decode cX7_reasonAgainstBalance 7 = .ok (.iconst 4, 1) := by decide +kernel
theorem dX7_reasonAgainstBalance_8 : decode cX7_reasonAgainstBalance 8 = .ok (.ireturn, 1) := by decide +kernel
theorem dX7_reasonAgainstBalance_9 : decode cX7_reasonAgainstBalance 9 = .ok (.iconst 0, 1) := by decide +kernel
theorem dX7_reasonAgainstBalance_10 : decode cX7_reasonAgainstBalance 10 = .ok (.istore_n 2, 1) := by decide +kernel
theorem dX7_reasonAgainstBalance_11 : decode cX7_reasonAgainstBalance 11 = .ok (.iload_n 2, 1) := by decide +kernel
theorem dX7_reasonAgainstBalance_12 : decode cX7_reasonAgainstBalance 12 = .ok (.iconst 3, 1) := by decide +kernel
theorem dX7_reasonAgainstBalance_13 : decode cX7_reasonAgainstBalance 13 = .ok (.if_icmp .ge 36, 3) := by decide +kernel
theorem dX7_reasonAgainstBalance_16 : decode cX7_reasonAgainstBalance 16 = .ok (.aload_n 1, 1) := by decide +kernel
theorem dX7_reasonAgainstBalance_17 : decode cX7_reasonAgainstBalance 17 = .ok (.getfield 209, 3) := by decide +kernel
theorem dX7_reasonAgainstBalance_20 : decode cX7_reasonAgainstBalance 20 = .ok (.iload_n 2, 1) := by decide +kernel
theorem dX7_reasonAgainstBalance_21 : decode cX7_reasonAgainstBalance 21 = .ok (.iaload, 1) := by decide +kernel
theorem dX7_reasonAgainstBalance_22 : decode cX7_reasonAgainstBalance 22 = .ok (.aload_n 0, 1) := by decide +kernel
theorem dX7_reasonAgainstBalance_23 : decode cX7_reasonAgainstBalance 23 = .ok (.getfield 43, 3) := by decide +kernel
theorem dX7_reasonAgainstBalance_26 : decode cX7_reasonAgainstBalance 26 = .ok (.getfield 206, 3) := by decide +kernel
theorem dX7_reasonAgainstBalance_29 : decode cX7_reasonAgainstBalance 29 = .ok (.iload_n 2, 1) := by decide +kernel
theorem dX7_reasonAgainstBalance_30 : decode cX7_reasonAgainstBalance 30 = .ok (.iaload, 1) := by decide +kernel
theorem dX7_reasonAgainstBalance_31 : decode cX7_reasonAgainstBalance 31 = .ok (.iadd, 1) := by decide +kernel
theorem dX7_reasonAgainstBalance_32 : decode cX7_reasonAgainstBalance 32 = .ok (.sipush 15000, 3) := by decide +kernel
theorem dX7_reasonAgainstBalance_35 : decode cX7_reasonAgainstBalance 35 = .ok (.invokestatic 83, 3) := by decide +kernel
theorem dX7_reasonAgainstBalance_38 : decode cX7_reasonAgainstBalance 38 = .ok (.ifCond .ne 5, 3) := by decide +kernel
theorem dX7_reasonAgainstBalance_41 : decode cX7_reasonAgainstBalance 41 = .ok (.iconst 3, 1) := by decide +kernel
theorem dX7_reasonAgainstBalance_42 : decode cX7_reasonAgainstBalance 42 = .ok (.ireturn, 1) := by decide +kernel
theorem dX7_reasonAgainstBalance_43 : decode cX7_reasonAgainstBalance 43 = .ok (.iinc 2 1, 3) := by decide +kernel
theorem dX7_reasonAgainstBalance_46 : decode cX7_reasonAgainstBalance 46 = .ok (.goto (-35), 3) := by decide +kernel
theorem dX7_reasonAgainstBalance_49 : decode cX7_reasonAgainstBalance 49 = .ok (.iconst 0, 1) := by decide +kernel
theorem dX7_reasonAgainstBalance_50 : decode cX7_reasonAgainstBalance 50 = .ok (.ireturn, 1) := by decide +kernel
theorem dX7_reasonAgainstCheck_0 : decode cX7_reasonAgainstCheck 0 = .ok (.aload_n 0, 1) := by decide +kernel
theorem dX7_reasonAgainstCheck_1 : decode cX7_reasonAgainstCheck 1 = .ok (.getfield 43, 3) := by decide +kernel
theorem dX7_reasonAgainstCheck_4 : decode cX7_reasonAgainstCheck 4 = .ok (.getfield 283, 3) := by decide +kernel
theorem dX7_reasonAgainstCheck_7 : decode cX7_reasonAgainstCheck 7 = .ok (.ifCond .eq 5, 3) := by decide +kernel
theorem dX7_reasonAgainstCheck_10 : decode cX7_reasonAgainstCheck 10 = .ok (.iconst 2, 1) := by decide +kernel
theorem dX7_reasonAgainstCheck_11 : decode cX7_reasonAgainstCheck 11 = .ok (.ireturn, 1) := by decide +kernel
theorem dX7_reasonAgainstCheck_12 : decode cX7_reasonAgainstCheck 12 = .ok (.iconst 0, 1) := by decide +kernel
theorem dX7_reasonAgainstCheck_13 : decode cX7_reasonAgainstCheck 13 = .ok (.istore_n 1, 1) := by decide +kernel
theorem dX7_reasonAgainstCheck_14 : decode cX7_reasonAgainstCheck 14 = .ok (.iload_n 1, 1) := by decide +kernel
theorem dX7_reasonAgainstCheck_15 : decode cX7_reasonAgainstCheck 15 = .ok (.iconst 3, 1) := by decide +kernel
theorem dX7_reasonAgainstCheck_16 : decode cX7_reasonAgainstCheck 16 = .ok (.if_icmp .ge 23, 3) := by decide +kernel
theorem dX7_reasonAgainstCheck_19 : decode cX7_reasonAgainstCheck 19 = .ok (.aload_n 0, 1) := by decide +kernel
theorem dX7_reasonAgainstCheck_20 : decode cX7_reasonAgainstCheck 20 = .ok (.getfield 43, 3) := by decide +kernel
theorem dX7_reasonAgainstCheck_23 : decode cX7_reasonAgainstCheck 23 = .ok (.getfield 218, 3) := by decide +kernel
theorem dX7_reasonAgainstCheck_26 : decode cX7_reasonAgainstCheck 26 = .ok (.iload_n 1, 1) := by decide +kernel
theorem dX7_reasonAgainstCheck_27 : decode cX7_reasonAgainstCheck 27 = .ok (.iaload, 1) := by decide +kernel
theorem dX7_reasonAgainstCheck_28 : decode cX7_reasonAgainstCheck 28 = .ok (.ifCond .ne 5, 3) := by decide +kernel
theorem dX7_reasonAgainstCheck_31 : decode cX7_reasonAgainstCheck 31 = .ok (.iconst 5, 1) := by decide +kernel
theorem dX7_reasonAgainstCheck_32 : decode cX7_reasonAgainstCheck 32 = .ok (.ireturn, 1) := by decide +kernel
theorem dX7_reasonAgainstCheck_33 : decode cX7_reasonAgainstCheck 33 = .ok (.iinc 1 1, 3) := by decide +kernel
theorem dX7_reasonAgainstCheck_36 : decode cX7_reasonAgainstCheck 36 = .ok (.goto (-22), 3) := by decide +kernel
theorem dX7_reasonAgainstCheck_39 : decode cX7_reasonAgainstCheck 39 = .ok (.iconst 0, 1) := by decide +kernel
theorem dX7_reasonAgainstCheck_40 : decode cX7_reasonAgainstCheck 40 = .ok (.ireturn, 1) := by decide +kernel
theorem dX7_perform_0 : decode cX7_perform 0 = .ok (.iload_n 1, 1) := by decide +kernel
theorem dX7_perform_1 : decode cX7_perform 1 = .ok (.lookupswitch 49 #[(0, 27), (1, 43)], 27) := by decide +kernel
theorem dX7_perform_28 : decode cX7_perform 28 = .ok (.aload_n 0, 1) := by decide +kernel
theorem dX7_perform_29 : decode cX7_perform 29 = .ok (.getfield 43, 3) := by decide +kernel
theorem dX7_perform_32 : decode cX7_perform 32 = .ok (.getfield 221, 3) := by decide +kernel
theorem dX7_perform_35 : decode cX7_perform 35 = .ok (.aload_n 0, 1) := by decide +kernel
theorem dX7_perform_36 : decode cX7_perform 36 = .ok (.getfield 43, 3) := by decide +kernel
theorem dX7_perform_39 : decode cX7_perform 39 = .ok (.getfield 224, 3) := by decide +kernel
theorem dX7_perform_42 : decode cX7_perform 42 = .ok (.iadd, 1) := by decide +kernel
theorem dX7_perform_43 : decode cX7_perform 43 = .ok (.ireturn, 1) := by decide +kernel
theorem dX7_perform_44 : decode cX7_perform 44 = .ok (.aload_n 0, 1) := by decide +kernel
theorem dX7_perform_45 : decode cX7_perform 45 = .ok (.aload_n 2, 1) := by decide +kernel
theorem dX7_perform_46 : decode cX7_perform 46 = .ok (.invokevirtual 286, 3) := by decide +kernel
theorem dX7_perform_49 : decode cX7_perform 49 = .ok (.ireturn, 1) := by decide +kernel
theorem dX7_perform_50 : decode cX7_perform 50 = .ok (.aload_n 0, 1) := by decide +kernel
theorem dX7_perform_51 : decode cX7_perform 51 = .ok (.aload_n 2, 1) := by decide +kernel
theorem dX7_perform_52 : decode cX7_perform 52 = .ok (.invokevirtual 289, 3) := by decide +kernel
theorem dX7_perform_55 : decode cX7_perform 55 = .ok (.ireturn, 1) := by decide +kernel
theorem dX7_setZeros_0 : decode cX7_setZeros 0 = .ok (.iconst 0, 1) := by decide +kernel
theorem dX7_setZeros_1 : decode cX7_setZeros 1 = .ok (.istore_n 2, 1) := by decide +kernel
theorem dX7_setZeros_2 : decode cX7_setZeros 2 = .ok (.iconst 0, 1) := by decide +kernel
theorem dX7_setZeros_3 : decode cX7_setZeros 3 = .ok (.istore_n 3, 1) := by decide +kernel
theorem dX7_setZeros_4 : decode cX7_setZeros 4 = .ok (.iload_n 3, 1) := by decide +kernel
theorem dX7_setZeros_5 : decode cX7_setZeros 5 = .ok (.iconst 3, 1) := by decide +kernel
theorem dX7_setZeros_6 : decode cX7_setZeros 6 = .ok (.if_icmp .ge 49, 3) := by decide +kernel
theorem dX7_setZeros_9 : decode cX7_setZeros 9 = .ok (.aload_n 1, 1) := by decide +kernel
theorem dX7_setZeros_10 : decode cX7_setZeros 10 = .ok (.getfield 209, 3) := by decide +kernel
theorem dX7_setZeros_13 : decode cX7_setZeros 13 = .ok (.iload_n 3, 1) := by decide +kernel
theorem dX7_setZeros_14 : decode cX7_setZeros 14 = .ok (.iaload, 1) := by decide +kernel
theorem dX7_setZeros_15 : decode cX7_setZeros 15 = .ok (.aload_n 0, 1) := by decide +kernel
theorem dX7_setZeros_16 : decode cX7_setZeros 16 = .ok (.getfield 43, 3) := by decide +kernel
theorem dX7_setZeros_19 : decode cX7_setZeros 19 = .ok (.getfield 206, 3) := by decide +kernel
theorem dX7_setZeros_22 : decode cX7_setZeros 22 = .ok (.iload_n 3, 1) := by decide +kernel
theorem dX7_setZeros_23 : decode cX7_setZeros 23 = .ok (.iaload, 1) := by decide +kernel
theorem dX7_setZeros_24 : decode cX7_setZeros 24 = .ok (.iadd, 1) := by decide +kernel
theorem dX7_setZeros_25 : decode cX7_setZeros 25 = .ok (.istore 4, 2) := by decide +kernel
theorem dX7_setZeros_27 : decode cX7_setZeros 27 = .ok (.iload 4, 2) := by decide +kernel
theorem dX7_setZeros_29 : decode cX7_setZeros 29 = .ok (.aload_n 1, 1) := by decide +kernel
theorem dX7_setZeros_30 : decode cX7_setZeros 30 = .ok (.getfield 209, 3) := by decide +kernel
theorem dX7_setZeros_33 : decode cX7_setZeros 33 = .ok (.iload_n 3, 1) := by decide +kernel
theorem dX7_setZeros_34 : decode cX7_setZeros 34 = .ok (.iaload, 1) := by decide +kernel
theorem dX7_setZeros_35 : decode cX7_setZeros 35 = .ok (.if_icmp .eq 14, 3) := by decide +kernel
theorem dX7_setZeros_38 : decode cX7_setZeros 38 = .ok (.aload_n 1, 1) := by decide +kernel
theorem dX7_setZeros_39 : decode cX7_setZeros 39 = .ok (.getfield 209, 3) := by decide +kernel
theorem dX7_setZeros_42 : decode cX7_setZeros 42 = .ok (.iload_n 3, 1) := by decide +kernel
theorem dX7_setZeros_43 : decode cX7_setZeros 43 = .ok (.iload 4, 2) := by decide +kernel
theorem dX7_setZeros_45 : decode cX7_setZeros 45 = .ok (.iastore, 1) := by decide +kernel
theorem dX7_setZeros_46 : decode cX7_setZeros 46 = .ok (.iinc 2 1, 3) := by decide +kernel
theorem dX7_setZeros_49 : decode cX7_setZeros 49 = .ok (.iinc 3 1, 3) := by decide +kernel
theorem dX7_setZeros_52 : decode cX7_setZeros 52 = .ok (.goto (-48), 3) := by decide +kernel
theorem dX7_setZeros_55 : decode cX7_setZeros 55 = .ok (.iload_n 2, 1) := by decide +kernel
theorem dX7_setZeros_56 : decode cX7_setZeros 56 = .ok (.ireturn, 1) := by decide +kernel
theorem dX7_setGains_0 : decode cX7_setGains 0 = .ok (.iconst 0, 1) := by decide +kernel
theorem dX7_setGains_1 : decode cX7_setGains 1 = .ok (.istore_n 2, 1) := by decide +kernel
theorem dX7_setGains_2 : decode cX7_setGains 2 = .ok (.iconst 0, 1) := by decide +kernel
theorem dX7_setGains_3 : decode cX7_setGains 3 = .ok (.istore_n 3, 1) := by decide +kernel
theorem dX7_setGains_4 : decode cX7_setGains 4 = .ok (.iload_n 3, 1) := by decide +kernel
theorem dX7_setGains_5 : decode cX7_setGains 5 = .ok (.iconst 3, 1) := by decide +kernel
theorem dX7_setGains_6 : decode cX7_setGains 6 = .ok (.if_icmp .ge 59, 3) := by decide +kernel
theorem dX7_setGains_9 : decode cX7_setGains 9 = .ok (.aload_n 0, 1) := by decide +kernel
theorem dX7_setGains_10 : decode cX7_setGains 10 = .ok (.getfield 43, 3) := by decide +kernel
theorem dX7_setGains_13 : decode cX7_setGains 13 = .ok (.getfield 197, 3) := by decide +kernel
theorem dX7_setGains_16 : decode cX7_setGains 16 = .ok (.i2l, 1) := by decide +kernel
theorem dX7_setGains_17 : decode cX7_setGains 17 = .ok (.ldc2_w 292, 3) := by decide +kernel
theorem dX7_setGains_20 : decode cX7_setGains 20 = .ok (.lmul, 1) := by decide +kernel
theorem dX7_setGains_21 : decode cX7_setGains 21 = .ok (.aload_n 0, 1) := by decide +kernel
theorem dX7_setGains_22 : decode cX7_setGains 22 = .ok (.getfield 43, 3) := by decide +kernel
theorem dX7_setGains_25 : decode cX7_setGains 25 = .ok (.getfield 218, 3) := by decide +kernel
theorem dX7_setGains_28 : decode cX7_setGains 28 = .ok (.iload_n 3, 1) := by decide +kernel
theorem dX7_setGains_29 : decode cX7_setGains 29 = .ok (.iaload, 1) := by decide +kernel
theorem dX7_setGains_30 : decode cX7_setGains 30 = .ok (.i2l, 1) := by decide +kernel
theorem dX7_setGains_31 : decode cX7_setGains 31 = .ok (.invokestatic 294, 3) := by decide +kernel
theorem dX7_setGains_34 : decode cX7_setGains 34 = .ok (.l2i, 1) := by decide +kernel
theorem dX7_setGains_35 : decode cX7_setGains 35 = .ok (.istore 4, 2) := by decide +kernel
theorem dX7_setGains_37 : decode cX7_setGains 37 = .ok (.iload 4, 2) := by decide +kernel
theorem dX7_setGains_39 : decode cX7_setGains 39 = .ok (.aload_n 1, 1) := by decide +kernel
theorem dX7_setGains_40 : decode cX7_setGains 40 = .ok (.getfield 212, 3) := by decide +kernel
theorem dX7_setGains_43 : decode cX7_setGains 43 = .ok (.iload_n 3, 1) := by decide +kernel
theorem dX7_setGains_44 : decode cX7_setGains 44 = .ok (.iaload, 1) := by decide +kernel
theorem dX7_setGains_45 : decode cX7_setGains 45 = .ok (.if_icmp .eq 14, 3) := by decide +kernel
theorem dX7_setGains_48 : decode cX7_setGains 48 = .ok (.aload_n 1, 1) := by decide +kernel
theorem dX7_setGains_49 : decode cX7_setGains 49 = .ok (.getfield 212, 3) := by decide +kernel
theorem dX7_setGains_52 : decode cX7_setGains 52 = .ok (.iload_n 3, 1) := by decide +kernel
theorem dX7_setGains_53 : decode cX7_setGains 53 = .ok (.iload 4, 2) := by decide +kernel
theorem dX7_setGains_55 : decode cX7_setGains 55 = .ok (.iastore, 1) := by decide +kernel
theorem dX7_setGains_56 : decode cX7_setGains 56 = .ok (.iinc 2 1, 3) := by decide +kernel
theorem dX7_setGains_59 : decode cX7_setGains 59 = .ok (.iinc 3 1, 3) := by decide +kernel
theorem dX7_setGains_62 : decode cX7_setGains 62 = .ok (.goto (-58), 3) := by decide +kernel
theorem dX7_setGains_65 : decode cX7_setGains 65 = .ok (.iload_n 2, 1) := by decide +kernel
theorem dX7_setGains_66 : decode cX7_setGains 66 = .ok (.ireturn, 1) := by decide +kernel
theorem dX7_refuse_0 : decode cX7_refuse 0 = .ok (.aload_n 0, 1) := by decide +kernel
theorem dX7_refuse_1 : decode cX7_refuse 1 = .ok (.iload_n 1, 1) := by decide +kernel
theorem dX7_refuse_2 : decode cX7_refuse 2 = .ok (.putfield 256, 3) := by decide +kernel
theorem dX7_refuse_5 : decode cX7_refuse 5 = .ok (.ldc_w 298, 3) := by decide +kernel
theorem dX7_refuse_8 : decode cX7_refuse 8 = .ok (.ireturn, 1) := by decide +kernel
theorem dX7_isWithin_0 : decode cX7_isWithin 0 = .ok (.iload_n 0, 1) := by decide +kernel
theorem dX7_isWithin_1 : decode cX7_isWithin 1 = .ok (.iload_n 1, 1) := by decide +kernel
theorem dX7_isWithin_2 : decode cX7_isWithin 2 = .ok (.if_icmp .lt 12, 3) := by decide +kernel
theorem dX7_isWithin_5 : decode cX7_isWithin 5 = .ok (.iload_n 0, 1) := by decide +kernel
theorem dX7_isWithin_6 : decode cX7_isWithin 6 = .ok (.iload_n 2, 1) := by decide +kernel
theorem dX7_isWithin_7 : decode cX7_isWithin 7 = .ok (.if_icmp .gt 7, 3) := by decide +kernel
theorem dX7_isWithin_10 : decode cX7_isWithin 10 = .ok (.iconst 1, 1) := by decide +kernel
theorem dX7_isWithin_11 : decode cX7_isWithin 11 = .ok (.goto 4, 3) := by decide +kernel
theorem dX7_isWithin_14 : decode cX7_isWithin 14 = .ok (.iconst 0, 1) := by decide +kernel
theorem dX7_isWithin_15 : decode cX7_isWithin 15 = .ok (.ireturn, 1) := by decide +kernel
theorem dX7_isAround0_0 : decode cX7_isAround0 0 = .ok (.iload_n 0, 1) := by decide +kernel
theorem dX7_isAround0_1 : decode cX7_isAround0 1 = .ok (.iload_n 1, 1) := by decide +kernel
theorem dX7_isAround0_2 : decode cX7_isAround0 2 = .ok (.ineg, 1) := by decide +kernel
theorem dX7_isAround0_3 : decode cX7_isAround0 3 = .ok (.iload_n 1, 1) := by decide +kernel
theorem dX7_isAround0_4 : decode cX7_isAround0 4 = .ok (.invokestatic 47, 3) := by decide +kernel
theorem dX7_isAround0_7 : decode cX7_isAround0 7 = .ok (.ireturn, 1) := by decide +kernel
theorem dX7_quotient_0 : decode cX7_quotient 0 = .ok (.lload_n 2, 1) := by decide +kernel
theorem dX7_quotient_1 : decode cX7_quotient 1 = .ok (.lconst 0, 1) := by decide +kernel
theorem dX7_quotient_2 : decode cX7_quotient 2 = .ok (.lcmp, 1) := by decide +kernel
theorem dX7_quotient_3 : decode cX7_quotient 3 = .ok (.ifCond .ne 7, 3) := by decide +kernel
theorem dX7_quotient_6 : decode cX7_quotient 6 = .ok (.lconst 0, 1) := by decide +kernel
theorem dX7_quotient_7 : decode cX7_quotient 7 = .ok (.goto 6, 3) := by decide +kernel
theorem dX7_quotient_10 : decode cX7_quotient 10 = .ok (.lload_n 0, 1) := by decide +kernel
theorem dX7_quotient_11 : decode cX7_quotient 11 = .ok (.lload_n 2, 1) := by decide +kernel
theorem dX7_quotient_12 : decode cX7_quotient 12 = .ok (.ldiv, 1) := by decide +kernel
theorem dX7_quotient_13 : decode cX7_quotient 13 = .ok (.lreturn, 1) := by decide +kernel
theorem dX8_init_0 : decode cX8_init 0 = .ok (.aload_n 0, 1) := by decide +kernel
theorem dX8_init_1 : decode cX8_init 1 = .ok (.invokespecial 1, 3) := by decide +kernel
theorem dX8_init_4 : decode cX8_init 4 = .ok (.aload_n 0, 1) := by decide +kernel
theorem dX8_init_5 : decode cX8_init 5 = .ok (.sipush 298, 3) := by decide +kernel
theorem dX8_init_8 : decode cX8_init 8 = .ok (.newarray .int, 2) := by decide +kernel
theorem dX8_init_10 : decode cX8_init 10 = .ok (.putfield 7, 3) := by decide +kernel
theorem dX8_init_13 : decode cX8_init 13 = .ok (.aload_n 0, 1) := by decide +kernel
theorem dX8_init_14 : decode cX8_init 14 = .ok (.sipush 1490, 3) := by decide +kernel
theorem dX8_init_17 : decode cX8_init 17 = .ok (.newarray .int, 2) := by decide +kernel
theorem dX8_init_19 : decode cX8_init 19 = .ok (.putfield 13, 3) := by decide +kernel
theorem dX8_init_22 : decode cX8_init 22 = .ok (.aload_n 0, 1) := by decide +kernel
theorem dX8_init_23 : decode cX8_init 23 = .ok (.sipush 298, 3) := by decide +kernel
theorem dX8_init_26 : decode cX8_init 26 = .ok (.newarray .int, 2) := by decide +kernel
theorem dX8_init_28 : decode cX8_init 28 = .ok (.putfield 16, 3) := by decide +kernel
theorem dX8_init_31 : decode cX8_init 31 = .ok (.aload_n 0, 1) := by decide +kernel
theorem dX8_init_32 : decode cX8_init 32 = .ok (.iconst 3, 1) := by decide +kernel
theorem dX8_init_33 : decode cX8_init 33 = .ok (.newarray .int, 2) := by decide +kernel
theorem dX8_init_35 : decode cX8_init 35 = .ok (.putfield 19, 3) := by decide +kernel
theorem dX8_init_38 : decode cX8_init 38 = .ok (.aload_n 0, 1) := by decide +kernel
theorem dX8_init_39 : decode cX8_init 39 = .ok (.bipush 60, 2) := by decide +kernel
theorem dX8_init_41 : decode cX8_init 41 = .ok (.newarray .char, 2) := by decide +kernel
theorem dX8_init_43 : decode cX8_init 43 = .ok (.putfield 22, 3) := by decide +kernel
theorem dX8_init_46 : decode cX8_init 46 = .ok (.aload_n 0, 1) := by decide +kernel
theorem dX8_init_47 : decode cX8_init 47 = .ok (.bipush 63, 2) := by decide +kernel
theorem dX8_init_49 : decode cX8_init 49 = .ok (.newarray .int, 2) := by decide +kernel
theorem dX8_init_51 : decode cX8_init 51 = .ok (.putfield 26, 3) := by decide +kernel
theorem dX8_init_54 : decode cX8_init 54 = .ok (.aload_n 0, 1) := by decide +kernel
theorem dX8_init_55 : decode cX8_init 55 = .ok (.getfield 7, 3) := by decide +kernel
theorem dX8_init_58 : decode cX8_init 58 = .ok (.iconst 3, 1) := by decide +kernel
theorem dX8_init_59 : decode cX8_init 59 = .ok (.bipush 100, 2) := by decide +kernel
theorem dX8_init_61 : decode cX8_init 61 = .ok (.iastore, 1) := by decide +kernel
theorem dX8_init_62 : decode cX8_init 62 = .ok (.return_, 1) := by decide +kernel
theorem dX8_in_0 : decode cX8_in 0 = .ok (.iload_n 0, 1) := by decide +kernel
theorem dX8_in_1 : decode cX8_in 1 = .ok (.iload_n 1, 1) := by decide +kernel
theorem dX8_in_2 : decode cX8_in 2 = .ok (.if_icmp .lt 12, 3) := by decide +kernel
theorem dX8_in_5 : decode cX8_in 5 = .ok (.iload_n 0, 1) := by decide +kernel
theorem dX8_in_6 : decode cX8_in 6 = .ok (.iload_n 2, 1) := by decide +kernel
theorem dX8_in_7 : decode cX8_in 7 = .ok (.if_icmp .gt 7, 3) := by decide +kernel
theorem dX8_in_10 : decode cX8_in 10 = .ok (.iconst 1, 1) := by decide +kernel
theorem dX8_in_11 : decode cX8_in 11 = .ok (.goto 4, 3) := by decide +kernel
theorem dX8_in_14 : decode cX8_in 14 = .ok (.iconst 0, 1) := by decide +kernel
theorem dX8_in_15 : decode cX8_in 15 = .ok (.ireturn, 1) := by decide +kernel
theorem dX8_size_0 : decode cX8_size 0 = .ok (.iload_n 0, 1) := by decide +kernel
theorem dX8_size_1 : decode cX8_size 1 = .ok (.ifCond .ge 8, 3) := by decide +kernel
theorem dX8_size_4 : decode cX8_size 4 = .ok (.iload_n 0, 1) := by decide +kernel
theorem dX8_size_5 : decode cX8_size 5 = .ok (.ineg, 1) := by decide +kernel
theorem dX8_size_6 : decode cX8_size 6 = .ok (.goto 4, 3) := by decide +kernel
theorem dX8_size_9 : decode cX8_size 9 = .ok (.iload_n 0, 1) := by decide +kernel
theorem dX8_size_10 : decode cX8_size 10 = .ok (.ireturn, 1) := by decide +kernel
theorem dX8_save_0 : decode cX8_save 0 = .ok (.aload_n 0, 1) := by decide +kernel
theorem dX8_save_1 : decode cX8_save 1 = .ok (.getfield 29, 3) := by decide +kernel
theorem dX8_save_4 : decode cX8_save 4 = .ok (.iconst 5, 1) := by decide +kernel
theorem dX8_save_5 : decode cX8_save 5 = .ok (.if_icmp .ne 44, 3) := by decide +kernel
theorem dX8_save_8 : decode cX8_save 8 = .ok (.iconst 0, 1) := by decide +kernel
theorem dX8_save_9 : decode cX8_save 9 = .ok (.istore_n 1, 1) := by decide +kernel
theorem dX8_save_10 : decode cX8_save 10 = .ok (.iload_n 1, 1) := by decide +kernel
theorem dX8_save_11 : decode cX8_save 11 = .ok (.sipush 1192, 3) := by decide +kernel
theorem dX8_save_14 : decode cX8_save 14 = .ok (.if_icmp .ge 25, 3) := by decide +kernel
theorem dX8_save_17 : decode cX8_save 17 = .ok (.aload_n 0, 1) := by decide +kernel
theorem dX8_save_18 : decode cX8_save 18 = .ok (.getfield 13, 3) := by decide +kernel
theorem dX8_save_21 : decode cX8_save 21 = .ok (.iload_n 1, 1) := by decide +kernel
theorem dX8_save_22 : decode cX8_save 22 = .ok (.aload_n 0, 1) := by decide +kernel
theorem dX8_save_23 : decode cX8_save 23 = .ok (.getfield 13, 3) := by decide +kernel
theorem dX8_save_26 : decode cX8_save 26 = .ok (.iload_n 1, 1) := by decide +kernel
theorem dX8_save_27 : decode cX8_save 27 = .ok (.sipush 298, 3) := by decide +kernel
theorem dX8_save_30 : decode cX8_save 30 = .ok (.iadd, 1) := by decide +kernel
theorem dX8_save_31 : decode cX8_save 31 = .ok (.iaload, 1) := by decide +kernel
theorem dX8_save_32 : decode cX8_save 32 = .ok (.iastore, 1) := by decide +kernel
theorem dX8_save_33 : decode cX8_save 33 = .ok (.iinc 1 1, 3) := by decide +kernel
theorem dX8_save_36 : decode cX8_save 36 = .ok (.goto (-26), 3) := by decide +kernel
theorem dX8_save_39 : decode cX8_save 39 = .ok (.aload_n 0, 1) := by decide +kernel
theorem dX8_save_40 : decode cX8_save 40 = .ok (.dup, 1) := by decide +kernel
theorem dX8_save_41 : decode cX8_save 41 = .ok (.getfield 29, 3) := by decide +kernel
theorem dX8_save_44 : decode cX8_save 44 = .ok (.iconst 1, 1) := by decide +kernel
theorem dX8_save_45 : decode cX8_save 45 = .ok (.isub, 1) := by decide +kernel
theorem dX8_save_46 : decode cX8_save 46 = .ok (.putfield 29, 3) := by decide +kernel
theorem dX8_save_49 : decode cX8_save 49 = .ok (.iconst 0, 1) := by decide +kernel
theorem dX8_save_50 : decode cX8_save 50 = .ok (.istore_n 1, 1) := by decide +kernel
theorem dX8_save_51 : decode cX8_save 51 = .ok (.iload_n 1, 1) := by decide +kernel
theorem dX8_save_52 : decode cX8_save 52 = .ok (.sipush 298, 3) := by decide +kernel
theorem dX8_save_55 : decode cX8_save 55 = .ok (.if_icmp .ge 30, 3) := by decide +kernel
theorem dX8_save_58 : decode cX8_save 58 = .ok (.aload_n 0, 1) := by decide +kernel
theorem dX8_save_59 : decode cX8_save 59 = .ok (.getfield 13, 3) := by decide +kernel
theorem dX8_save_62 : decode cX8_save 62 = .ok (.sipush 298, 3) := by decide +kernel
theorem dX8_save_65 : decode cX8_save 65 = .ok (.aload_n 0, 1) := by decide +kernel
theorem dX8_save_66 : decode cX8_save 66 = .ok (.getfield 29, 3) := by decide +kernel
theorem dX8_save_69 : decode cX8_save 69 = .ok (.imul, 1) := by decide +kernel
theorem dX8_save_70 : decode cX8_save 70 = .ok (.iload_n 1, 1) := by decide +kernel
theorem dX8_save_71 : decode cX8_save 71 = .ok (.iadd, 1) := by decide +kernel
theorem dX8_save_72 : decode cX8_save 72 = .ok (.aload_n 0, 1) := by decide +kernel
theorem dX8_save_73 : decode cX8_save 73 = .ok (.getfield 7, 3) := by decide +kernel
theorem dX8_save_76 : decode cX8_save 76 = .ok (.iload_n 1, 1) := by decide +kernel
theorem dX8_save_77 : decode cX8_save 77 = .ok (.iaload, 1) := by decide +kernel
theorem dX8_save_78 : decode cX8_save 78 = .ok (.iastore, 1) := by decide +kernel
theorem dX8_save_79 : decode cX8_save 79 = .ok (.iinc 1 1, 3) := by decide +kernel
theorem dX8_save_82 : decode cX8_save 82 = .ok (.goto (-31), 3) := by decide +kernel
theorem dX8_save_85 : decode cX8_save 85 = .ok (.aload_n 0, 1) := by decide +kernel
theorem dX8_save_86 : decode cX8_save 86 = .ok (.dup, 1) := by decide +kernel
theorem dX8_save_87 : decode cX8_save 87 = .ok (.getfield 29, 3) := by decide +kernel
theorem dX8_save_90 : decode cX8_save 90 = .ok (.iconst 1, 1) := by decide +kernel
theorem dX8_save_91 : decode cX8_save 91 = .ok (.iadd, 1) := by decide +kernel
theorem dX8_save_92 : decode cX8_save 92 = .ok (.putfield 29, 3) := by decide +kernel
theorem dX8_save_95 : decode cX8_save 95 = .ok (.return_, 1) := by decide +kernel
theorem dX8_refuse_0 : decode cX8_refuse 0 = .ok (.aload_n 0, 1) := by decide +kernel
theorem dX8_refuse_1 : decode cX8_refuse 1 = .ok (.iload_n 1, 1) := by decide +kernel
theorem dX8_refuse_2 : decode cX8_refuse 2 = .ok (.putfield 33, 3) := by decide +kernel
theorem dX8_refuse_5 : decode cX8_refuse 5 = .ok (.ldc 36, 2) := by decide +kernel
theorem dX8_refuse_7 : decode cX8_refuse 7 = .ok (.ireturn, 1) := by decide +kernel
theorem dX8_noRosette_0 : decode cX8_noRosette 0 = .ok (.iload_n 1, 1) := by decide +kernel
theorem dX8_noRosette_1 : decode cX8_noRosette 1 = .ok (.iconst 0, 1) := by decide +kernel
theorem dX8_noRosette_2 : decode cX8_noRosette 2 = .ok (.aload_n 0, 1) := by decide +kernel
theorem dX8_noRosette_3 : decode cX8_noRosette 3 = .ok (.getfield 7, 3) := by decide +kernel
theorem dX8_noRosette_6 : decode cX8_noRosette 6 = .ok (.iconst 0, 1) := by decide +kernel
theorem dX8_noRosette_7 : decode cX8_noRosette 7 = .ok (.iaload, 1) := by decide +kernel
theorem dX8_noRosette_8 : decode cX8_noRosette 8 = .ok (.iconst 1, 1) := by decide +kernel
theorem dX8_noRosette_9 : decode cX8_noRosette 9 = .ok (.isub, 1) := by decide +kernel
theorem dX8_noRosette_10 : decode cX8_noRosette 10 = .ok (.invokestatic 37, 3) := by decide +kernel
theorem dX8_noRosette_13 : decode cX8_noRosette 13 = .ok (.ifCond .ne 7, 3) := by decide +kernel
theorem dX8_noRosette_16 : decode cX8_noRosette 16 = .ok (.iconst 1, 1) := by decide +kernel
theorem dX8_noRosette_17 : decode cX8_noRosette 17 = .ok (.goto 4, 3) := by decide +kernel
theorem dX8_noRosette_20 : decode cX8_noRosette 20 = .ok (.iconst 0, 1) := by decide +kernel
theorem dX8_noRosette_21 : decode cX8_noRosette 21 = .ok (.ireturn, 1) := by decide +kernel
theorem dX8_of_0 : decode cX8_of 0 = .ok (.aload_n 0, 1) := by decide +kernel
theorem dX8_of_1 : decode cX8_of 1 = .ok (.getfield 7, 3) := by decide +kernel
theorem dX8_of_4 : decode cX8_of 4 = .ok (.bipush 10, 2) := by decide +kernel
theorem dX8_of_6 : decode cX8_of 6 = .ok (.bipush 20, 2) := by decide +kernel
theorem dX8_of_8 : decode cX8_of 8 = .ok (.iload_n 1, 1) := by decide +kernel
theorem dX8_of_9 : decode cX8_of 9 = .ok (.imul, 1) := by decide +kernel
theorem dX8_of_10 : decode cX8_of 10 = .ok (.iadd, 1) := by decide +kernel
theorem dX8_of_11 : decode cX8_of 11 = .ok (.iload_n 2, 1) := by decide +kernel
theorem dX8_of_12 : decode cX8_of 12 = .ok (.iadd, 1) := by decide +kernel
theorem dX8_of_13 : decode cX8_of 13 = .ok (.iaload, 1) := by decide +kernel
theorem dX8_of_14 : decode cX8_of 14 = .ok (.ireturn, 1) := by decide +kernel
theorem dX8_put_0 : decode cX8_put 0 = .ok (.aload_n 0, 1) := by decide +kernel
theorem dX8_put_1 : decode cX8_put 1 = .ok (.getfield 7, 3) := by decide +kernel
theorem dX8_put_4 : decode cX8_put 4 = .ok (.bipush 10, 2) := by decide +kernel
theorem dX8_put_6 : decode cX8_put 6 = .ok (.bipush 20, 2) := by decide +kernel
theorem dX8_put_8 : decode cX8_put 8 = .ok (.iload_n 1, 1) := by decide +kernel
theorem dX8_put_9 : decode cX8_put 9 = .ok (.imul, 1) := by decide +kernel
theorem dX8_put_10 : decode cX8_put 10 = .ok (.iadd, 1) := by decide +kernel
theorem dX8_put_11 : decode cX8_put 11 = .ok (.iload_n 2, 1) := by decide +kernel
theorem dX8_put_12 : decode cX8_put 12 = .ok (.iadd, 1) := by decide +kernel
theorem dX8_put_13 : decode cX8_put 13 = .ok (.iload_n 3, 1) := by decide +kernel
theorem dX8_put_14 : decode cX8_put 14 = .ok (.iastore, 1) := by decide +kernel
theorem dX8_put_15 : decode cX8_put 15 = .ok (.return_, 1) := by decide +kernel
theorem dX8_ofGauge_0 : decode cX8_ofGauge 0 = .ok (.aload_n 0, 1) := by decide +kernel
theorem dX8_ofGauge_1 : decode cX8_ofGauge 1 = .ok (.iload_n 1, 1) := by decide +kernel
theorem dX8_ofGauge_2 : decode cX8_ofGauge 2 = .ok (.bipush 9, 2) := by decide +kernel
theorem dX8_ofGauge_4 : decode cX8_ofGauge 4 = .ok (.iconst 3, 1) := by decide +kernel
theorem dX8_ofGauge_5 : decode cX8_ofGauge 5 = .ok (.iload_n 2, 1) := by decide +kernel
theorem dX8_ofGauge_6 : decode cX8_ofGauge 6 = .ok (.imul, 1) := by decide +kernel
theorem dX8_ofGauge_7 : decode cX8_ofGauge 7 = .ok (.iadd, 1) := by decide +kernel
theorem dX8_ofGauge_8 : decode cX8_ofGauge 8 = .ok (.iload_n 3, 1) := by decide +kernel
theorem dX8_ofGauge_9 : decode cX8_ofGauge 9 = .ok (.iadd, 1) := by decide +kernel
theorem dX8_ofGauge_10 : decode cX8_ofGauge 10 = .ok (.invokevirtual 41, 3) := by decide +kernel
theorem dX8_ofGauge_13 : decode cX8_ofGauge 13 = .ok (.ireturn, 1) := by decide +kernel
theorem dX8_putGauge_0 : decode cX8_putGauge 0 = .ok (.aload_n 0, 1) := by decide +kernel
theorem dX8_putGauge_1 : decode cX8_putGauge 1 = .ok (.iload_n 1, 1) := by decide +kernel
end
section
theorem dX8_putGauge_2 : decode cX8_putGauge 2 = .ok (.bipush 9, 2) := by decide +kernel
theorem dX8_putGauge_4 : decode cX8_putGauge 4 = .ok (.iconst 3, 1) := by decide +kernel
theorem dX8_putGauge_5 : decode cX8_putGauge 5 = .ok (.iload_n 2, 1) := by decide +kernel
theorem dX8_putGauge_6 : decode cX8_putGauge 6 = .ok (.imul, 1) := by decide +kernel
theorem dX8_putGauge_7 : decode cX8_putGauge 7 = .ok (.iadd, 1) := by decide +kernel
theorem dX8_putGauge_8 : decode cX8_putGauge 8 = .ok (.iload_n 3, 1) := by decide +kernel
theorem dX8_putGauge_9 : decode cX8_putGauge 9 = .ok (.iadd, 1) := by decide +kernel
theorem dX8_putGauge_10 : decode cX8_putGauge 10 = .ok (.iload 4, 2) := by decide +kernel
theorem dX8_putGauge_12 : decode cX8_putGauge 12 = .ok (.invokevirtual 45, 3) := by decide +kernel
theorem dX8_putGauge_15 : decode cX8_putGauge 15 = .ok (.return_, 1) := by decide +kernel
theorem dX8_isAt_0 : decode cX8_isAt 0 = .ok (.iconst 0, 1) := by decide +kernel
theorem dX8_isAt_1 : decode cX8_isAt 1 = .ok (.istore_n 2, 1) := by decide +kernel
theorem dX8_isAt_2 : decode cX8_isAt 2 = .ok (.iload_n 2, 1) := by decide +kernel
theorem dX8_isAt_3 : decode cX8_isAt 3 = .ok (.aload_n 0, 1) := by decide +kernel
theorem dX8_isAt_4 : decode cX8_isAt 4 = .ok (.getfield 7, 3) := by decide +kernel
theorem dX8_isAt_7 : decode cX8_isAt 7 = .ok (.iconst 0, 1) := by decide +kernel
theorem dX8_isAt_8 : decode cX8_isAt 8 = .ok (.iaload, 1) := by decide +kernel
theorem dX8_isAt_9 : decode cX8_isAt 9 = .ok (.if_icmp .ge 21, 3) := by decide +kernel
theorem dX8_isAt_12 : decode cX8_isAt 12 = .ok (.aload_n 0, 1) := by decide +kernel
theorem dX8_isAt_13 : decode cX8_isAt 13 = .ok (.iload_n 2, 1) := by decide +kernel
theorem dX8_isAt_14 : decode cX8_isAt 14 = .ok (.iconst 0, 1) := by decide +kernel
theorem dX8_isAt_15 : decode cX8_isAt 15 = .ok (.invokevirtual 41, 3) := by decide +kernel
theorem dX8_isAt_18 : decode cX8_isAt 18 = .ok (.iload_n 1, 1) := by decide +kernel
theorem dX8_isAt_19 : decode cX8_isAt 19 = .ok (.if_icmp .ne 5, 3) := by decide +kernel
theorem dX8_isAt_22 : decode cX8_isAt 22 = .ok (.iload_n 2, 1) := by decide +kernel
theorem dX8_isAt_23 : decode cX8_isAt 23 = .ok (.ireturn, 1) := by decide +kernel
theorem dX8_isAt_24 : decode cX8_isAt 24 = .ok (.iinc 2 1, 3) := by decide +kernel
theorem dX8_isAt_27 : decode cX8_isAt 27 = .ok (.goto (-25), 3) := by decide +kernel
theorem dX8_isAt_30 : decode cX8_isAt 30 = .ok (.ldc 49, 2) := by decide +kernel
theorem dX8_isAt_32 : decode cX8_isAt 32 = .ok (.ireturn, 1) := by decide +kernel
theorem dX8_addRosette_0 : decode cX8_addRosette 0 = .ok (.iload_n 1, 1) := by decide +kernel
theorem dX8_addRosette_1 : decode cX8_addRosette 1 = .ok (.iconst 0, 1) := by decide +kernel
theorem dX8_addRosette_2 : decode cX8_addRosette 2 = .ok (.sipush 1000, 3) := by decide +kernel
theorem dX8_addRosette_5 : decode cX8_addRosette 5 = .ok (.invokestatic 37, 3) := by decide +kernel
theorem dX8_addRosette_8 : decode cX8_addRosette 8 = .ok (.ifCond .eq 30, 3) := by decide +kernel
theorem dX8_addRosette_11 : decode cX8_addRosette 11 = .ok (.iload_n 3, 1) := by decide +kernel
theorem dX8_addRosette_12 : decode cX8_addRosette 12 = .ok (.bipush 120, 2) := by decide +kernel
theorem dX8_addRosette_14 : decode cX8_addRosette 14 = .ok (.if_icmp .eq 10, 3) := by decide +kernel
theorem dX8_addRosette_17 : decode cX8_addRosette 17 = .ok (.iload_n 3, 1) := by decide +kernel
theorem dX8_addRosette_18 : decode cX8_addRosette 18 = .ok (.sipush 350, 3) := by decide +kernel
theorem dX8_addRosette_21 : decode cX8_addRosette 21 = .ok (.if_icmp .ne 17, 3) := by decide +kernel
theorem dX8_addRosette_24 : decode cX8_addRosette 24 = .ok (.iload 4, 2) := by decide +kernel
theorem dX8_addRosette_26 : decode cX8_addRosette 26 = .ok (.sipush 180, 3) := by decide +kernel
theorem dX8_addRosette_29 : decode cX8_addRosette 29 = .ok (.sipush 240, 3) := by decide +kernel
theorem dX8_addRosette_32 : decode cX8_addRosette 32 = .ok (.invokestatic 37, 3) := by decide +kernel
theorem dX8_addRosette_35 : decode cX8_addRosette 35 = .ok (.ifCond .ne 6, 3) := by decide +kernel
theorem dX8_addRosette_38 : decode cX8_addRosette 38 = .ok (.ldc 50, 2) := by decide +kernel
theorem dX8_addRosette_40 : decode cX8_addRosette 40 = .ok (.ireturn, 1) := by decide +kernel
theorem dX8_addRosette_41 : decode cX8_addRosette 41 = .ok (.aload_n 0, 1) := by decide +kernel
theorem dX8_addRosette_42 : decode cX8_addRosette 42 = .ok (.getfield 7, 3) := by decide +kernel
theorem dX8_addRosette_45 : decode cX8_addRosette 45 = .ok (.iconst 0, 1) := by decide +kernel
theorem dX8_addRosette_46 : decode cX8_addRosette 46 = .ok (.iaload, 1) := by decide +kernel
theorem dX8_addRosette_47 : decode cX8_addRosette 47 = .ok (.bipush 8, 2) := by decide +kernel
theorem dX8_addRosette_49 : decode cX8_addRosette 49 = .ok (.if_icmp .ne 9, 3) := by decide +kernel
theorem dX8_addRosette_52 : decode cX8_addRosette 52 = .ok (.aload_n 0, 1) := by decide +kernel
theorem dX8_addRosette_53 : decode cX8_addRosette 53 = .ok (.iconst 1, 1) := by decide +kernel
theorem dX8_addRosette_54 : decode cX8_addRosette 54 = .ok (.invokevirtual 51, 3) := by decide +kernel
theorem dX8_addRosette_57 : decode cX8_addRosette 57 = .ok (.ireturn, 1) := by decide +kernel
theorem dX8_addRosette_58 : decode cX8_addRosette 58 = .ok (.aload_n 0, 1) := by decide +kernel
theorem dX8_addRosette_59 : decode cX8_addRosette 59 = .ok (.iload_n 1, 1) := by decide +kernel
theorem dX8_addRosette_60 : decode cX8_addRosette 60 = .ok (.invokevirtual 55, 3) := by decide +kernel
theorem dX8_addRosette_63 : decode cX8_addRosette 63 = .ok (.ldc 49, 2) := by decide +kernel
theorem dX8_addRosette_65 : decode cX8_addRosette 65 = .ok (.if_icmp .eq 10, 3) := by decide +kernel
theorem dX8_addRosette_68 : decode cX8_addRosette 68 = .ok (.aload_n 0, 1) := by decide +kernel
theorem dX8_addRosette_69 : decode cX8_addRosette 69 = .ok (.bipush 6, 2) := by decide +kernel
theorem dX8_addRosette_71 : decode cX8_addRosette 71 = .ok (.invokevirtual 51, 3) := by decide +kernel
theorem dX8_addRosette_74 : decode cX8_addRosette 74 = .ok (.ireturn, 1) := by decide +kernel
theorem dX8_addRosette_75 : decode cX8_addRosette 75 = .ok (.aload_n 0, 1) := by decide +kernel
theorem dX8_addRosette_76 : decode cX8_addRosette 76 = .ok (.invokevirtual 58, 3) := by decide +kernel
theorem dX8_addRosette_79 : decode cX8_addRosette 79 = .ok (.aload_n 0, 1) := by decide +kernel
theorem dX8_addRosette_80 : decode cX8_addRosette 80 = .ok (.getfield 7, 3) := by decide +kernel
theorem dX8_addRosette_83 : decode cX8_addRosette 83 = .ok (.iconst 0, 1) := by decide +kernel
theorem dX8_addRosette_84 : decode cX8_addRosette 84 = .ok (.iaload, 1) := by decide +kernel
theorem dX8_addRosette_85 : decode cX8_addRosette 85 = .ok (.istore 5, 2) := by decide +kernel
theorem dX8_addRosette_87 : decode cX8_addRosette 87 = .ok (.aload_n 0, 1) := by decide +kernel
theorem dX8_addRosette_88 : decode cX8_addRosette 88 = .ok (.getfield 7, 3) := by decide +kernel
theorem dX8_addRosette_91 : decode cX8_addRosette 91 = .ok (.iconst 0, 1) := by decide +kernel
theorem dX8_addRosette_92 : decode cX8_addRosette 92 = .ok (.dup2, 1) := by decide +kernel
theorem dX8_addRosette_93 : decode cX8_addRosette 93 = .ok (.iaload, 1) := by decide +kernel
theorem dX8_addRosette_94 : decode cX8_addRosette 94 = .ok (.iconst 1, 1) := by decide +kernel
theorem dX8_addRosette_95 : decode cX8_addRosette 95 = .ok (.iadd, 1) := by decide +kernel
theorem dX8_addRosette_96 : decode cX8_addRosette 96 = .ok (.iastore, 1) := by decide +kernel
theorem dX8_addRosette_97 : decode cX8_addRosette 97 = .ok (.iconst 0, 1) := by decide +kernel
theorem dX8_addRosette_98 : decode cX8_addRosette 98 = .ok (.istore 6, 2) := by decide +kernel
theorem dX8_addRosette_100 : decode cX8_addRosette 100 = .ok (.iload 6, 2) := by decide +kernel
theorem dX8_addRosette_102 : decode cX8_addRosette 102 = .ok (.bipush 20, 2) := by decide +kernel
theorem dX8_addRosette_104 : decode cX8_addRosette 104 = .ok (.if_icmp .ge 18, 3) := by decide +kernel
theorem dX8_addRosette_107 : decode cX8_addRosette 107 = .ok (.aload_n 0, 1) := by decide +kernel
theorem dX8_addRosette_108 : decode cX8_addRosette 108 = .ok (.iload 5, 2) := by decide +kernel
theorem dX8_addRosette_110 : decode cX8_addRosette 110 = .ok (.iload 6, 2) := by decide +kernel
theorem dX8_addRosette_112 : decode cX8_addRosette 112 = .ok (.iconst 0, 1) := by decide +kernel
theorem dX8_addRosette_113 : decode cX8_addRosette 113 = .ok (.invokevirtual 45, 3) := by decide +kernel
theorem dX8_addRosette_116 : decode cX8_addRosette 116 = .ok (.iinc 6 1, 3) := by decide +kernel
theorem dX8_addRosette_119 : decode cX8_addRosette 119 = .ok (.goto (-19), 3) := by decide +kernel
theorem dX8_addRosette_122 : decode cX8_addRosette 122 = .ok (.aload_n 0, 1) := by decide +kernel
theorem dX8_addRosette_123 : decode cX8_addRosette 123 = .ok (.iload 5, 2) := by decide +kernel
theorem dX8_addRosette_125 : decode cX8_addRosette 125 = .ok (.iconst 0, 1) := by decide +kernel
theorem dX8_addRosette_126 : decode cX8_addRosette 126 = .ok (.iload_n 1, 1) := by decide +kernel
theorem dX8_addRosette_127 : decode cX8_addRosette 127 = .ok (.invokevirtual 45, 3) := by decide +kernel
theorem dX8_addRosette_130 : decode cX8_addRosette 130 = .ok (.aload_n 0, 1) := by decide +kernel
theorem dX8_addRosette_131 : decode cX8_addRosette 131 = .ok (.iload 5, 2) := by decide +kernel
theorem dX8_addRosette_133 : decode cX8_addRosette 133 = .ok (.iconst 1, 1) := by decide +kernel
theorem dX8_addRosette_134 : decode cX8_addRosette 134 = .ok (.iload_n 2, 1) := by decide +kernel
theorem dX8_addRosette_135 : decode cX8_addRosette 135 = .ok (.ifCond .eq 7, 3) := by decide +kernel
theorem dX8_addRosette_138 : decode cX8_addRosette 138 = .ok (.iconst 1, 1) := by decide +kernel
theorem dX8_addRosette_139 : decode cX8_addRosette 139 = .ok (.goto 4, 3) := by decide +kernel
theorem dX8_addRosette_142 : decode cX8_addRosette 142 = .ok (.iconst 0, 1) := by decide +kernel
theorem dX8_addRosette_143 : decode cX8_addRosette 143 = .ok (.invokevirtual 45, 3) := by decide +kernel
theorem dX8_addRosette_146 : decode cX8_addRosette 146 = .ok (.aload_n 0, 1) := by decide +kernel
theorem dX8_addRosette_147 : decode cX8_addRosette 147 = .ok (.iload 5, 2) := by decide +kernel
theorem dX8_addRosette_149 : decode cX8_addRosette 149 = .ok (.iconst 2, 1) := by decide +kernel
theorem dX8_addRosette_150 : decode cX8_addRosette 150 = .ok (.iload_n 3, 1) := by decide +kernel
theorem dX8_addRosette_151 : decode cX8_addRosette 151 = .ok (.invokevirtual 45, 3) := by decide +kernel
theorem dX8_addRosette_154 : decode cX8_addRosette 154 = .ok (.aload_n 0, 1) := by decide +kernel
theorem dX8_addRosette_155 : decode cX8_addRosette 155 = .ok (.iload 5, 2) := by decide +kernel
theorem dX8_addRosette_157 : decode cX8_addRosette 157 = .ok (.iconst 3, 1) := by decide +kernel
theorem dX8_addRosette_158 : decode cX8_addRosette 158 = .ok (.iload 4, 2) := by decide +kernel
theorem dX8_addRosette_160 : decode cX8_addRosette 160 = .ok (.invokevirtual 45, 3) := by decide +kernel
theorem dX8_addRosette_163 : decode cX8_addRosette 163 = .ok (.iconst 0, 1) := by decide +kernel
theorem dX8_addRosette_164 : decode cX8_addRosette 164 = .ok (.istore 6, 2) := by decide +kernel
theorem dX8_addRosette_166 : decode cX8_addRosette 166 = .ok (.iload 6, 2) := by decide +kernel
theorem dX8_addRosette_168 : decode cX8_addRosette 168 = .ok (.iconst 3, 1) := by decide +kernel
theorem dX8_addRosette_169 : decode cX8_addRosette 169 = .ok (.if_icmp .ge 21, 3) := by decide +kernel
theorem dX8_addRosette_172 : decode cX8_addRosette 172 = .ok (.aload_n 0, 1) := by decide +kernel
theorem dX8_addRosette_173 : decode cX8_addRosette 173 = .ok (.iload 5, 2) := by decide +kernel
theorem dX8_addRosette_175 : decode cX8_addRosette 175 = .ok (.iload 6, 2) := by decide +kernel
theorem dX8_addRosette_177 : decode cX8_addRosette 177 = .ok (.iconst 2, 1) := by decide +kernel
theorem dX8_addRosette_178 : decode cX8_addRosette 178 = .ok (.sipush 1000, 3) := by decide +kernel
theorem dX8_addRosette_181 : decode cX8_addRosette 181 = .ok (.invokevirtual 61, 3) := by decide +kernel
theorem dX8_addRosette_184 : decode cX8_addRosette 184 = .ok (.iinc 6 1, 3) := by decide +kernel
theorem dX8_addRosette_187 : decode cX8_addRosette 187 = .ok (.goto (-21), 3) := by decide +kernel
theorem dX8_addRosette_190 : decode cX8_addRosette 190 = .ok (.iload 5, 2) := by decide +kernel
theorem dX8_addRosette_192 : decode cX8_addRosette 192 = .ok (.ireturn, 1) := by decide +kernel
theorem dX8_strainOf_0 : decode cX8_strainOf 0 = .ok (.aload_n 0, 1) := by decide +kernel
theorem dX8_strainOf_1 : decode cX8_strainOf 1 = .ok (.iload_n 1, 1) := by decide +kernel
theorem dX8_strainOf_2 : decode cX8_strainOf 2 = .ok (.iconst 5, 1) := by decide +kernel
theorem dX8_strainOf_3 : decode cX8_strainOf 3 = .ok (.invokevirtual 41, 3) := by decide +kernel
theorem dX8_strainOf_6 : decode cX8_strainOf 6 = .ok (.istore_n 3, 1) := by decide +kernel
theorem dX8_strainOf_7 : decode cX8_strainOf 7 = .ok (.aload_n 0, 1) := by decide +kernel
theorem dX8_strainOf_8 : decode cX8_strainOf 8 = .ok (.iload_n 1, 1) := by decide +kernel
theorem dX8_strainOf_9 : decode cX8_strainOf 9 = .ok (.bipush 6, 2) := by decide +kernel
theorem dX8_strainOf_11 : decode cX8_strainOf 11 = .ok (.invokevirtual 41, 3) := by decide +kernel
theorem dX8_strainOf_14 : decode cX8_strainOf 14 = .ok (.istore 4, 2) := by decide +kernel
theorem dX8_strainOf_16 : decode cX8_strainOf 16 = .ok (.aload_n 0, 1) := by decide +kernel
theorem dX8_strainOf_17 : decode cX8_strainOf 17 = .ok (.iload_n 1, 1) := by decide +kernel
theorem dX8_strainOf_18 : decode cX8_strainOf 18 = .ok (.bipush 7, 2) := by decide +kernel
theorem dX8_strainOf_20 : decode cX8_strainOf 20 = .ok (.invokevirtual 41, 3) := by decide +kernel
theorem dX8_strainOf_23 : decode cX8_strainOf 23 = .ok (.istore 5, 2) := by decide +kernel
theorem dX8_strainOf_25 : decode cX8_strainOf 25 = .ok (.iload_n 2, 1) := by decide +kernel
theorem dX8_strainOf_26 : decode cX8_strainOf 26 = .ok (.ifCond .ne 5, 3) := by decide +kernel
theorem dX8_strainOf_29 : decode cX8_strainOf 29 = .ok (.iload_n 3, 1) := by decide +kernel
theorem dX8_strainOf_30 : decode cX8_strainOf 30 = .ok (.ireturn, 1) := by decide +kernel
theorem dX8_strainOf_31 : decode cX8_strainOf 31 = .ok (.aload_n 0, 1) := by decide +kernel
theorem dX8_strainOf_32 : decode cX8_strainOf 32 = .ok (.iload_n 1, 1) := by decide +kernel
theorem dX8_strainOf_33 : decode cX8_strainOf 33 = .ok (.iconst 1, 1) := by decide +kernel
theorem dX8_strainOf_34 : decode cX8_strainOf 34 = .ok (.invokevirtual 41, 3) := by decide +kernel
theorem dX8_strainOf_37 : decode cX8_strainOf 37 = .ok (.ifCond .ne 23, 3) := by decide +kernel
theorem dX8_strainOf_40 : decode cX8_strainOf 40 = .ok (.iload_n 2, 1) := by decide +kernel
theorem dX8_strainOf_41 : decode cX8_strainOf 41 = .ok (.iconst 1, 1) := by decide +kernel
theorem dX8_strainOf_42 : decode cX8_strainOf 42 = .ok (.if_icmp .ne 15, 3) := by decide +kernel
theorem dX8_strainOf_45 : decode cX8_strainOf 45 = .ok (.iload_n 3, 1) := by decide +kernel
theorem dX8_strainOf_46 : decode cX8_strainOf 46 = .ok (.iload 4, 2) := by decide +kernel
theorem dX8_strainOf_48 : decode cX8_strainOf 48 = .ok (.iadd, 1) := by decide +kernel
theorem dX8_strainOf_49 : decode cX8_strainOf 49 = .ok (.iload 5, 2) := by decide +kernel
theorem dX8_strainOf_51 : decode cX8_strainOf 51 = .ok (.iadd, 1) := by decide +kernel
theorem dX8_strainOf_52 : decode cX8_strainOf 52 = .ok (.iconst 2, 1) := by decide +kernel
theorem dX8_strainOf_53 : decode cX8_strainOf 53 = .ok (.idiv, 1) := by decide +kernel
theorem dX8_strainOf_54 : decode cX8_strainOf 54 = .ok (.goto 5, 3) := by decide +kernel
theorem dX8_strainOf_57 : decode cX8_strainOf 57 = .ok (.iload 4, 2) := by decide +kernel
theorem dX8_strainOf_59 : decode cX8_strainOf 59 = .ok (.ireturn, 1) := by decide +kernel
theorem dX8_strainOf_60 : decode cX8_strainOf 60 = .ok (.iload_n 3, 1) := by decide +kernel
theorem dX8_strainOf_61 : decode cX8_strainOf 61 = .ok (.iconst 3, 1) := by decide +kernel
theorem dX8_strainOf_62 : decode cX8_strainOf 62 = .ok (.iload 4, 2) := by decide +kernel
theorem dX8_strainOf_64 : decode cX8_strainOf 64 = .ok (.imul, 1) := by decide +kernel
theorem dX8_strainOf_65 : decode cX8_strainOf 65 = .ok (.iadd, 1) := by decide +kernel
theorem dX8_strainOf_66 : decode cX8_strainOf 66 = .ok (.iconst 4, 1) := by decide +kernel
theorem dX8_strainOf_67 : decode cX8_strainOf 67 = .ok (.idiv, 1) := by decide +kernel
theorem dX8_strainOf_68 : decode cX8_strainOf 68 = .ok (.istore 6, 2) := by decide +kernel
theorem dX8_strainOf_70 : decode cX8_strainOf 70 = .ok (.iload 5, 2) := by decide +kernel
theorem dX8_strainOf_72 : decode cX8_strainOf 72 = .ok (.sipush 433, 3) := by decide +kernel
theorem dX8_strainOf_75 : decode cX8_strainOf 75 = .ok (.imul, 1) := by decide +kernel
theorem dX8_strainOf_76 : decode cX8_strainOf 76 = .ok (.sipush 1000, 3) := by decide +kernel
theorem dX8_strainOf_79 : decode cX8_strainOf 79 = .ok (.idiv, 1) := by decide +kernel
theorem dX8_strainOf_80 : decode cX8_strainOf 80 = .ok (.istore 7, 2) := by decide +kernel
theorem dX8_strainOf_82 : decode cX8_strainOf 82 = .ok (.iload_n 2, 1) := by decide +kernel
theorem dX8_strainOf_83 : decode cX8_strainOf 83 = .ok (.iconst 1, 1) := by decide +kernel
theorem dX8_strainOf_84 : decode cX8_strainOf 84 = .ok (.if_icmp .ne 11, 3) := by decide +kernel
theorem dX8_strainOf_87 : decode cX8_strainOf 87 = .ok (.iload 6, 2) := by decide +kernel
theorem dX8_strainOf_89 : decode cX8_strainOf 89 = .ok (.iload 7, 2) := by decide +kernel
theorem dX8_strainOf_91 : decode cX8_strainOf 91 = .ok (.iadd, 1) := by decide +kernel
theorem dX8_strainOf_92 : decode cX8_strainOf 92 = .ok (.goto 8, 3) := by decide +kernel
theorem dX8_strainOf_95 : decode cX8_strainOf 95 = .ok (.iload 6, 2) := by decide +kernel
theorem dX8_strainOf_97 : decode cX8_strainOf 97 = .ok (.iload 7, 2) := by decide +kernel
theorem dX8_strainOf_99 : decode cX8_strainOf 99 = .ok (.isub, 1) := by decide +kernel
theorem dX8_strainOf_100 : decode cX8_strainOf 100 = .ok (.ireturn, 1) := by decide +kernel
theorem dX8_led_0 : decode cX8_led 0 = .ok (.ldc2_w 65, 3) := by decide +kernel
theorem dX8_led_3 : decode cX8_led 3 = .ok (.aload_n 0, 1) := by decide +kernel
theorem dX8_led_4 : decode cX8_led 4 = .ok (.iload_n 1, 1) := by decide +kernel
theorem dX8_led_5 : decode cX8_led 5 = .ok (.iconst 2, 1) := by decide +kernel
theorem dX8_led_6 : decode cX8_led 6 = .ok (.invokevirtual 41, 3) := by decide +kernel
theorem dX8_led_9 : decode cX8_led 9 = .ok (.i2l, 1) := by decide +kernel
theorem dX8_led_10 : decode cX8_led 10 = .ok (.lmul, 1) := by decide +kernel
theorem dX8_led_11 : decode cX8_led 11 = .ok (.lstore_n 3, 1) := by decide +kernel
theorem dX8_led_12 : decode cX8_led 12 = .ok (.iload_n 2, 1) := by decide +kernel
theorem dX8_led_13 : decode cX8_led 13 = .ok (.i2l, 1) := by decide +kernel
theorem dX8_led_14 : decode cX8_led 14 = .ok (.lload_n 3, 1) := by decide +kernel
theorem dX8_led_15 : decode cX8_led 15 = .ok (.lmul, 1) := by decide +kernel
theorem dX8_led_16 : decode cX8_led 16 = .ok (.lload_n 3, 1) := by decide +kernel
theorem dX8_led_17 : decode cX8_led 17 = .ok (.aload_n 0, 1) := by decide +kernel
theorem dX8_led_18 : decode cX8_led 18 = .ok (.iload_n 1, 1) := by decide +kernel
theorem dX8_led_19 : decode cX8_led 19 = .ok (.iconst 4, 1) := by decide +kernel
theorem dX8_led_20 : decode cX8_led 20 = .ok (.invokevirtual 41, 3) := by decide +kernel
theorem dX8_led_23 : decode cX8_led 23 = .ok (.i2l, 1) := by decide +kernel
theorem dX8_led_24 : decode cX8_led 24 = .ok (.ladd, 1) := by decide +kernel
theorem dX8_led_25 : decode cX8_led 25 = .ok (.ldiv, 1) := by decide +kernel
theorem dX8_led_26 : decode cX8_led 26 = .ok (.l2i, 1) := by decide +kernel
theorem dX8_led_27 : decode cX8_led 27 = .ok (.ireturn, 1) := by decide +kernel
theorem dX8_shuntValue_0 : decode cX8_shuntValue 0 = .ok (.aload_n 0, 1) := by decide +kernel
theorem dX8_shuntValue_1 : decode cX8_shuntValue 1 = .ok (.iload_n 1, 1) := by decide +kernel
theorem dX8_shuntValue_2 : decode cX8_shuntValue 2 = .ok (.iconst 2, 1) := by decide +kernel
theorem dX8_shuntValue_3 : decode cX8_shuntValue 3 = .ok (.invokevirtual 41, 3) := by decide +kernel
theorem dX8_shuntValue_6 : decode cX8_shuntValue 6 = .ok (.ldc 67, 2) := by decide +kernel
theorem dX8_shuntValue_8 : decode cX8_shuntValue 8 = .ok (.imul, 1) := by decide +kernel
theorem dX8_shuntValue_9 : decode cX8_shuntValue 9 = .ok (.aload_n 0, 1) := by decide +kernel
theorem dX8_shuntValue_10 : decode cX8_shuntValue 10 = .ok (.iload_n 1, 1) := by decide +kernel
theorem dX8_shuntValue_11 : decode cX8_shuntValue 11 = .ok (.iconst 2, 1) := by decide +kernel
theorem dX8_shuntValue_12 : decode cX8_shuntValue 12 = .ok (.invokevirtual 41, 3) := by decide +kernel
theorem dX8_shuntValue_15 : decode cX8_shuntValue 15 = .ok (.sipush 1000, 3) := by decide +kernel
theorem dX8_shuntValue_18 : decode cX8_shuntValue 18 = .ok (.aload_n 0, 1) := by decide +kernel
theorem dX8_shuntValue_19 : decode cX8_shuntValue 19 = .ok (.getfield 7, 3) := by decide +kernel
theorem dX8_shuntValue_22 : decode cX8_shuntValue 22 = .ok (.iconst 3, 1) := by decide +kernel
theorem dX8_shuntValue_23 : decode cX8_shuntValue 23 = .ok (.iaload, 1) := by decide +kernel
theorem dX8_shuntValue_24 : decode cX8_shuntValue 24 = .ok (.imul, 1) := by decide +kernel
theorem dX8_shuntValue_25 : decode cX8_shuntValue 25 = .ok (.iadd, 1) := by decide +kernel
theorem dX8_shuntValue_26 : decode cX8_shuntValue 26 = .ok (.idiv, 1) := by decide +kernel
theorem dX8_shuntValue_27 : decode cX8_shuntValue 27 = .ok (.ireturn, 1) := by decide +kernel
theorem dX8_signalOf_0 : decode cX8_signalOf 0 = .ok (.aload_n 0, 1) := by decide +kernel
theorem dX8_signalOf_1 : decode cX8_signalOf 1 = .ok (.iload_n 1, 1) := by decide +kernel
theorem dX8_signalOf_2 : decode cX8_signalOf 2 = .ok (.aload_n 0, 1) := by decide +kernel
theorem dX8_signalOf_3 : decode cX8_signalOf 3 = .ok (.iload_n 1, 1) := by decide +kernel
theorem dX8_signalOf_4 : decode cX8_signalOf 4 = .ok (.iload_n 2, 1) := by decide +kernel
theorem dX8_signalOf_5 : decode cX8_signalOf 5 = .ok (.iconst 0, 1) := by decide +kernel
theorem dX8_signalOf_6 : decode cX8_signalOf 6 = .ok (.invokevirtual 68, 3) := by decide +kernel
theorem dX8_signalOf_9 : decode cX8_signalOf 9 = .ok (.invokevirtual 72, 3) := by decide +kernel
theorem dX8_signalOf_12 : decode cX8_signalOf 12 = .ok (.aload_n 0, 1) := by decide +kernel
theorem dX8_signalOf_13 : decode cX8_signalOf 13 = .ok (.iload_n 1, 1) := by decide +kernel
theorem dX8_signalOf_14 : decode cX8_signalOf 14 = .ok (.aload_n 0, 1) := by decide +kernel
theorem dX8_signalOf_15 : decode cX8_signalOf 15 = .ok (.iload_n 1, 1) := by decide +kernel
theorem dX8_signalOf_16 : decode cX8_signalOf 16 = .ok (.iload_n 2, 1) := by decide +kernel
theorem dX8_signalOf_17 : decode cX8_signalOf 17 = .ok (.invokevirtual 75, 3) := by decide +kernel
theorem dX8_signalOf_20 : decode cX8_signalOf 20 = .ok (.aload_n 0, 1) := by decide +kernel
theorem dX8_signalOf_21 : decode cX8_signalOf 21 = .ok (.iload_n 1, 1) := by decide +kernel
theorem dX8_signalOf_22 : decode cX8_signalOf 22 = .ok (.iconst 3, 1) := by decide +kernel
theorem dX8_signalOf_23 : decode cX8_signalOf 23 = .ok (.invokevirtual 41, 3) := by decide +kernel
theorem dX8_signalOf_26 : decode cX8_signalOf 26 = .ok (.imul, 1) := by decide +kernel
theorem dX8_signalOf_27 : decode cX8_signalOf 27 = .ok (.bipush 100, 2) := by decide +kernel
theorem dX8_signalOf_29 : decode cX8_signalOf 29 = .ok (.idiv, 1) := by decide +kernel
theorem dX8_signalOf_30 : decode cX8_signalOf 30 = .ok (.invokevirtual 72, 3) := by decide +kernel
theorem dX8_signalOf_33 : decode cX8_signalOf 33 = .ok (.iadd, 1) := by decide +kernel
theorem dX8_signalOf_34 : decode cX8_signalOf 34 = .ok (.istore 4, 2) := by decide +kernel
theorem dX8_signalOf_36 : decode cX8_signalOf 36 = .ok (.iload 4, 2) := by decide +kernel
theorem dX8_signalOf_38 : decode cX8_signalOf 38 = .ok (.iload_n 3, 1) := by decide +kernel
theorem dX8_signalOf_39 : decode cX8_signalOf 39 = .ok (.iconst 1, 1) := by decide +kernel
theorem dX8_signalOf_40 : decode cX8_signalOf 40 = .ok (.if_icmp .ne 16, 3) := by decide +kernel
theorem dX8_signalOf_43 : decode cX8_signalOf 43 = .ok (.aload_n 0, 1) := by decide +kernel
theorem dX8_signalOf_44 : decode cX8_signalOf 44 = .ok (.iload_n 1, 1) := by decide +kernel
theorem dX8_signalOf_45 : decode cX8_signalOf 45 = .ok (.aload_n 0, 1) := by decide +kernel
theorem dX8_signalOf_46 : decode cX8_signalOf 46 = .ok (.iload_n 1, 1) := by decide +kernel
theorem dX8_signalOf_47 : decode cX8_signalOf 47 = .ok (.invokevirtual 78, 3) := by decide +kernel
theorem dX8_signalOf_50 : decode cX8_signalOf 50 = .ok (.invokevirtual 72, 3) := by decide +kernel
theorem dX8_signalOf_53 : decode cX8_signalOf 53 = .ok (.goto 4, 3) := by decide +kernel
theorem dX8_signalOf_56 : decode cX8_signalOf 56 = .ok (.iconst 0, 1) := by decide +kernel
theorem dX8_signalOf_57 : decode cX8_signalOf 57 = .ok (.iadd, 1) := by decide +kernel
theorem dX8_signalOf_58 : decode cX8_signalOf 58 = .ok (.istore 4, 2) := by decide +kernel
theorem dX8_signalOf_60 : decode cX8_signalOf 60 = .ok (.iload 4, 2) := by decide +kernel
theorem dX8_signalOf_62 : decode cX8_signalOf 62 = .ok (.aload_n 0, 1) := by decide +kernel
theorem dX8_signalOf_63 : decode cX8_signalOf 63 = .ok (.iload_n 1, 1) := by decide +kernel
theorem dX8_signalOf_64 : decode cX8_signalOf 64 = .ok (.iload_n 2, 1) := by decide +kernel
theorem dX8_signalOf_65 : decode cX8_signalOf 65 = .ok (.iconst 1, 1) := by decide +kernel
theorem dX8_signalOf_66 : decode cX8_signalOf 66 = .ok (.invokevirtual 68, 3) := by decide +kernel
theorem dX8_signalOf_69 : decode cX8_signalOf 69 = .ok (.isub, 1) := by decide +kernel
theorem dX8_signalOf_70 : decode cX8_signalOf 70 = .ok (.ireturn, 1) := by decide +kernel
theorem dX8_isOver_0 : decode cX8_isOver 0 = .ok (.aload_n 0, 1) := by decide +kernel
theorem dX8_isOver_1 : decode cX8_isOver 1 = .ok (.iload_n 1, 1) := by decide +kernel
theorem dX8_isOver_2 : decode cX8_isOver 2 = .ok (.iload_n 2, 1) := by decide +kernel
theorem dX8_isOver_3 : decode cX8_isOver 3 = .ok (.iload_n 3, 1) := by decide +kernel
theorem dX8_isOver_4 : decode cX8_isOver 4 = .ok (.invokevirtual 81, 3) := by decide +kernel
theorem dX8_isOver_7 : decode cX8_isOver 7 = .ok (.invokestatic 84, 3) := by decide +kernel
theorem dX8_isOver_10 : decode cX8_isOver 10 = .ok (.sipush 30000, 3) := by decide +kernel
theorem dX8_isOver_13 : decode cX8_isOver 13 = .ok (.if_icmp .le 7, 3) := by decide +kernel
theorem dX8_isOver_16 : decode cX8_isOver 16 = .ok (.iconst 1, 1) := by decide +kernel
theorem dX8_isOver_17 : decode cX8_isOver 17 = .ok (.goto 4, 3) := by decide +kernel
theorem dX8_isOver_20 : decode cX8_isOver 20 = .ok (.iconst 0, 1) := by decide +kernel
theorem dX8_isOver_21 : decode cX8_isOver 21 = .ok (.ireturn, 1) := by decide +kernel
theorem dX8_readingBy_0 : decode cX8_readingBy 0 = .ok (.aload_n 0, 1) := by decide +kernel
theorem dX8_readingBy_1 : decode cX8_readingBy 1 = .ok (.iload_n 1, 1) := by decide +kernel
theorem dX8_readingBy_2 : decode cX8_readingBy 2 = .ok (.iload_n 2, 1) := by decide +kernel
theorem dX8_readingBy_3 : decode cX8_readingBy 3 = .ok (.iload_n 3, 1) := by decide +kernel
theorem dX8_readingBy_4 : decode cX8_readingBy 4 = .ok (.invokevirtual 81, 3) := by decide +kernel
theorem dX8_readingBy_7 : decode cX8_readingBy 7 = .ok (.istore 4, 2) := by decide +kernel
theorem dX8_readingBy_9 : decode cX8_readingBy 9 = .ok (.iload 4, 2) := by decide +kernel
theorem dX8_readingBy_11 : decode cX8_readingBy 11 = .ok (.sipush (-30000), 3) := by decide +kernel
theorem dX8_readingBy_14 : decode cX8_readingBy 14 = .ok (.if_icmp .ge 9, 3) := by decide +kernel
theorem dX8_readingBy_17 : decode cX8_readingBy 17 = .ok (.sipush (-30000), 3) := by decide +kernel
theorem dX8_readingBy_20 : decode cX8_readingBy 20 = .ok (.goto 19, 3) := by decide +kernel
theorem dX8_readingBy_23 : decode cX8_readingBy 23 = .ok (.iload 4, 2) := by decide +kernel
theorem dX8_readingBy_25 : decode cX8_readingBy 25 = .ok (.sipush 30000, 3) := by decide +kernel
theorem dX8_readingBy_28 : decode cX8_readingBy 28 = .ok (.if_icmp .le 9, 3) := by decide +kernel
theorem dX8_readingBy_31 : decode cX8_readingBy 31 = .ok (.sipush 30000, 3) := by decide +kernel
theorem dX8_readingBy_34 : decode cX8_readingBy 34 = .ok (.goto 5, 3) := by decide +kernel
theorem dX8_readingBy_37 : decode cX8_readingBy 37 = .ok (.iload 4, 2) := by decide +kernel
theorem dX8_readingBy_39 : decode cX8_readingBy 39 = .ok (.ireturn, 1) := by decide +kernel
theorem dX8_readingOf_0 : decode cX8_readingOf 0 = .ok (.aload_n 0, 1) := by decide +kernel
theorem dX8_readingOf_1 : decode cX8_readingOf 1 = .ok (.iload_n 1, 1) := by decide +kernel
theorem dX8_readingOf_2 : decode cX8_readingOf 2 = .ok (.iload_n 2, 1) := by decide +kernel
theorem dX8_readingOf_3 : decode cX8_readingOf 3 = .ok (.aload_n 0, 1) := by decide +kernel
theorem dX8_readingOf_4 : decode cX8_readingOf 4 = .ok (.iload_n 1, 1) := by decide +kernel
theorem dX8_readingOf_5 : decode cX8_readingOf 5 = .ok (.bipush 8, 2) := by decide +kernel
theorem dX8_readingOf_7 : decode cX8_readingOf 7 = .ok (.invokevirtual 41, 3) := by decide +kernel
theorem dX8_readingOf_10 : decode cX8_readingOf 10 = .ok (.invokevirtual 87, 3) := by decide +kernel
theorem dX8_readingOf_13 : decode cX8_readingOf 13 = .ok (.ireturn, 1) := by decide +kernel
theorem dX8_stepOf_0 : decode cX8_stepOf 0 = .ok (.aload_n 0, 1) := by decide +kernel
theorem dX8_stepOf_1 : decode cX8_stepOf 1 = .ok (.iload_n 1, 1) := by decide +kernel
theorem dX8_stepOf_2 : decode cX8_stepOf 2 = .ok (.iload_n 2, 1) := by decide +kernel
theorem dX8_stepOf_3 : decode cX8_stepOf 3 = .ok (.iconst 1, 1) := by decide +kernel
theorem dX8_stepOf_4 : decode cX8_stepOf 4 = .ok (.invokevirtual 87, 3) := by decide +kernel
theorem dX8_stepOf_7 : decode cX8_stepOf 7 = .ok (.aload_n 0, 1) := by decide +kernel
theorem dX8_stepOf_8 : decode cX8_stepOf 8 = .ok (.iload_n 1, 1) := by decide +kernel
theorem dX8_stepOf_9 : decode cX8_stepOf 9 = .ok (.iload_n 2, 1) := by decide +kernel
theorem dX8_stepOf_10 : decode cX8_stepOf 10 = .ok (.iconst 0, 1) := by decide +kernel
theorem dX8_stepOf_11 : decode cX8_stepOf 11 = .ok (.invokevirtual 87, 3) := by decide +kernel
theorem dX8_stepOf_14 : decode cX8_stepOf 14 = .ok (.isub, 1) := by decide +kernel
theorem dX8_stepOf_15 : decode cX8_stepOf 15 = .ok (.ireturn, 1) := by decide +kernel
theorem dX8_correctedOf_0 : decode cX8_correctedOf 0 = .ok (.aload_n 0, 1) := by decide +kernel
theorem dX8_correctedOf_1 : decode cX8_correctedOf 1 = .ok (.iload_n 1, 1) := by decide +kernel
theorem dX8_correctedOf_2 : decode cX8_correctedOf 2 = .ok (.iload_n 2, 1) := by decide +kernel
theorem dX8_correctedOf_3 : decode cX8_correctedOf 3 = .ok (.invokevirtual 90, 3) := by decide +kernel
theorem dX8_correctedOf_6 : decode cX8_correctedOf 6 = .ok (.i2l, 1) := by decide +kernel
theorem dX8_correctedOf_7 : decode cX8_correctedOf 7 = .ok (.aload_n 0, 1) := by decide +kernel
theorem dX8_correctedOf_8 : decode cX8_correctedOf 8 = .ok (.iload_n 1, 1) := by decide +kernel
theorem dX8_correctedOf_9 : decode cX8_correctedOf 9 = .ok (.iload_n 2, 1) := by decide +kernel
theorem dX8_correctedOf_10 : decode cX8_correctedOf 10 = .ok (.iconst 2, 1) := by decide +kernel
theorem dX8_correctedOf_11 : decode cX8_correctedOf 11 = .ok (.invokevirtual 68, 3) := by decide +kernel
theorem dX8_correctedOf_14 : decode cX8_correctedOf 14 = .ok (.i2l, 1) := by decide +kernel
theorem dX8_correctedOf_15 : decode cX8_correctedOf 15 = .ok (.lmul, 1) := by decide +kernel
theorem dX8_correctedOf_16 : decode cX8_correctedOf 16 = .ok (.ldc2_w 65, 3) := by decide +kernel
theorem dX8_correctedOf_19 : decode cX8_correctedOf 19 = .ok (.ldiv, 1) := by decide +kernel
theorem dX8_correctedOf_20 : decode cX8_correctedOf 20 = .ok (.lstore_n 3, 1) := by decide +kernel
theorem dX8_correctedOf_21 : decode cX8_correctedOf 21 = .ok (.lload_n 3, 1) := by decide +kernel
theorem dX8_correctedOf_22 : decode cX8_correctedOf 22 = .ok (.ldc2_w 93, 3) := by decide +kernel
theorem dX8_correctedOf_25 : decode cX8_correctedOf 25 = .ok (.lmul, 1) := by decide +kernel
theorem dX8_correctedOf_26 : decode cX8_correctedOf 26 = .ok (.aload_n 0, 1) := by decide +kernel
theorem dX8_correctedOf_27 : decode cX8_correctedOf 27 = .ok (.iload_n 1, 1) := by decide +kernel
theorem dX8_correctedOf_28 : decode cX8_correctedOf 28 = .ok (.iconst 3, 1) := by decide +kernel
theorem dX8_correctedOf_29 : decode cX8_correctedOf 29 = .ok (.invokevirtual 41, 3) := by decide +kernel
theorem dX8_correctedOf_32 : decode cX8_correctedOf 32 = .ok (.i2l, 1) := by decide +kernel
theorem dX8_correctedOf_33 : decode cX8_correctedOf 33 = .ok (.ldiv, 1) := by decide +kernel
theorem dX8_correctedOf_34 : decode cX8_correctedOf 34 = .ok (.l2i, 1) := by decide +kernel
theorem dX8_correctedOf_35 : decode cX8_correctedOf 35 = .ok (.ireturn, 1) := by decide +kernel
theorem dX8_overloaded_0 : decode cX8_overloaded 0 = .ok (.iconst 0, 1) := by decide +kernel
theorem dX8_overloaded_1 : decode cX8_overloaded 1 = .ok (.istore_n 2, 1) := by decide +kernel
theorem dX8_overloaded_2 : decode cX8_overloaded 2 = .ok (.iconst 0, 1) := by decide +kernel
theorem dX8_overloaded_3 : decode cX8_overloaded 3 = .ok (.istore_n 3, 1) := by decide +kernel
theorem dX8_overloaded_4 : decode cX8_overloaded 4 = .ok (.iload_n 3, 1) := by decide +kernel
theorem dX8_overloaded_5 : decode cX8_overloaded 5 = .ok (.iconst 3, 1) := by decide +kernel
theorem dX8_overloaded_6 : decode cX8_overloaded 6 = .ok (.if_icmp .ge 33, 3) := by decide +kernel
theorem dX8_overloaded_9 : decode cX8_overloaded 9 = .ok (.iload_n 2, 1) := by decide +kernel
theorem dX8_overloaded_10 : decode cX8_overloaded 10 = .ok (.aload_n 0, 1) := by decide +kernel
theorem dX8_overloaded_11 : decode cX8_overloaded 11 = .ok (.iload_n 1, 1) := by decide +kernel
theorem dX8_overloaded_12 : decode cX8_overloaded 12 = .ok (.iload_n 3, 1) := by decide +kernel
theorem dX8_overloaded_13 : decode cX8_overloaded 13 = .ok (.aload_n 0, 1) := by decide +kernel
theorem dX8_overloaded_14 : decode cX8_overloaded 14 = .ok (.iload_n 1, 1) := by decide +kernel
theorem dX8_overloaded_15 : decode cX8_overloaded 15 = .ok (.bipush 8, 2) := by decide +kernel
theorem dX8_overloaded_17 : decode cX8_overloaded 17 = .ok (.invokevirtual 41, 3) := by decide +kernel
theorem dX8_overloaded_20 : decode cX8_overloaded 20 = .ok (.invokevirtual 95, 3) := by decide +kernel
theorem dX8_overloaded_23 : decode cX8_overloaded 23 = .ok (.ifCond .eq 7, 3) := by decide +kernel
theorem dX8_overloaded_26 : decode cX8_overloaded 26 = .ok (.iconst 1, 1) := by decide +kernel
theorem dX8_overloaded_27 : decode cX8_overloaded 27 = .ok (.goto 4, 3) := by decide +kernel
theorem dX8_overloaded_30 : decode cX8_overloaded 30 = .ok (.iconst 0, 1) := by decide +kernel
theorem dX8_overloaded_31 : decode cX8_overloaded 31 = .ok (.iadd, 1) := by decide +kernel
theorem dX8_overloaded_32 : decode cX8_overloaded 32 = .ok (.istore_n 2, 1) := by decide +kernel
theorem dX8_overloaded_33 : decode cX8_overloaded 33 = .ok (.iinc 3 1, 3) := by decide +kernel
theorem dX8_overloaded_36 : decode cX8_overloaded 36 = .ok (.goto (-32), 3) := by decide +kernel
theorem dX8_overloaded_39 : decode cX8_overloaded 39 = .ok (.iload_n 2, 1) := by decide +kernel
theorem dX8_overloaded_40 : decode cX8_overloaded 40 = .ok (.ireturn, 1) := by decide +kernel
theorem dX8_firstOf_0 : decode cX8_firstOf 0 = .ok (.iload_n 0, 1) := by decide +kernel
theorem dX8_firstOf_1 : decode cX8_firstOf 1 = .ok (.tableswitch 63 0 5 #[39, 43, 47, 51, 55, 59], 39) := by decide +kernel
theorem dX8_firstOf_40 : decode cX8_firstOf 40 = .ok (.sipush 10000, 3) := by decide +kernel
theorem dX8_firstOf_43 : decode cX8_firstOf 43 = .ok (.ireturn, 1) := by decide +kernel
theorem dX8_firstOf_44 : decode cX8_firstOf 44 = .ok (.sipush 9659, 3) := by decide +kernel
theorem dX8_firstOf_47 : decode cX8_firstOf 47 = .ok (.ireturn, 1) := by decide +kernel
theorem dX8_firstOf_48 : decode cX8_firstOf 48 = .ok (.sipush 8660, 3) := by decide +kernel
theorem dX8_firstOf_51 : decode cX8_firstOf 51 = .ok (.ireturn, 1) := by decide +kernel
theorem dX8_firstOf_52 : decode cX8_firstOf 52 = .ok (.sipush 7071, 3) := by decide +kernel
theorem dX8_firstOf_55 : decode cX8_firstOf 55 = .ok (.ireturn, 1) := by decide +kernel
theorem dX8_firstOf_56 : decode cX8_firstOf 56 = .ok (.sipush 5000, 3) := by decide +kernel
theorem dX8_firstOf_59 : decode cX8_firstOf 59 = .ok (.ireturn, 1) := by decide +kernel
theorem dX8_firstOf_60 : decode cX8_firstOf 60 = .ok (.sipush 2588, 3) := by decide +kernel
theorem dX8_firstOf_63 : decode cX8_firstOf 63 = .ok (.ireturn, 1) := by decide +kernel
theorem dX8_firstOf_64 : decode cX8_firstOf 64 = .ok (.iconst 0, 1) := by decide +kernel
theorem dX8_firstOf_65 : decode cX8_firstOf 65 = .ok (.ireturn, 1) := by decide +kernel
theorem dX8_cos_0 : decode cX8_cos 0 = .ok (.iload_n 0, 1) := by decide +kernel
theorem dX8_cos_1 : decode cX8_cos 1 = .ok (.bipush 12, 2) := by decide +kernel
theorem dX8_cos_3 : decode cX8_cos 3 = .ok (.if_icmp .le 10, 3) := by decide +kernel
theorem dX8_cos_6 : decode cX8_cos 6 = .ok (.bipush 24, 2) := by decide +kernel
theorem dX8_cos_8 : decode cX8_cos 8 = .ok (.iload_n 0, 1) := by decide +kernel
theorem dX8_cos_9 : decode cX8_cos 9 = .ok (.isub, 1) := by decide +kernel
theorem dX8_cos_10 : decode cX8_cos 10 = .ok (.goto 4, 3) := by decide +kernel
theorem dX8_cos_13 : decode cX8_cos 13 = .ok (.iload_n 0, 1) := by decide +kernel
theorem dX8_cos_14 : decode cX8_cos 14 = .ok (.istore_n 1, 1) := by decide +kernel
theorem dX8_cos_15 : decode cX8_cos 15 = .ok (.iload_n 1, 1) := by decide +kernel
theorem dX8_cos_16 : decode cX8_cos 16 = .ok (.bipush 6, 2) := by decide +kernel
theorem dX8_cos_18 : decode cX8_cos 18 = .ok (.if_icmp .gt 10, 3) := by decide +kernel
theorem dX8_cos_21 : decode cX8_cos 21 = .ok (.iload_n 1, 1) := by decide +kernel
theorem dX8_cos_22 : decode cX8_cos 22 = .ok (.invokestatic 98, 3) := by decide +kernel
theorem dX8_cos_25 : decode cX8_cos 25 = .ok (.goto 11, 3) := by decide +kernel
theorem dX8_cos_28 : decode cX8_cos 28 = .ok (.bipush 12, 2) := by decide +kernel
theorem dX8_cos_30 : decode cX8_cos 30 = .ok (.iload_n 1, 1) := by decide +kernel
theorem dX8_cos_31 : decode cX8_cos 31 = .ok (.isub, 1) := by decide +kernel
theorem dX8_cos_32 : decode cX8_cos 32 = .ok (.invokestatic 98, 3) := by decide +kernel
theorem dX8_cos_35 : decode cX8_cos 35 = .ok (.ineg, 1) := by decide +kernel
theorem dX8_cos_36 : decode cX8_cos 36 = .ok (.ireturn, 1) := by decide +kernel
theorem dX8_sin_0 : decode cX8_sin 0 = .ok (.iload_n 0, 1) := by decide +kernel
theorem dX8_sin_1 : decode cX8_sin 1 = .ok (.bipush 6, 2) := by decide +kernel
theorem dX8_sin_3 : decode cX8_sin 3 = .ok (.if_icmp .lt 13, 3) := by decide +kernel
theorem dX8_sin_6 : decode cX8_sin 6 = .ok (.iload_n 0, 1) := by decide +kernel
theorem dX8_sin_7 : decode cX8_sin 7 = .ok (.bipush 6, 2) := by decide +kernel
theorem dX8_sin_9 : decode cX8_sin 9 = .ok (.isub, 1) := by decide +kernel
theorem dX8_sin_10 : decode cX8_sin 10 = .ok (.invokestatic 101, 3) := by decide +kernel
theorem dX8_sin_13 : decode cX8_sin 13 = .ok (.goto 10, 3) := by decide +kernel
theorem dX8_sin_16 : decode cX8_sin 16 = .ok (.bipush 6, 2) := by decide +kernel
theorem dX8_sin_18 : decode cX8_sin 18 = .ok (.iload_n 0, 1) := by decide +kernel
theorem dX8_sin_19 : decode cX8_sin 19 = .ok (.isub, 1) := by decide +kernel
theorem dX8_sin_20 : decode cX8_sin 20 = .ok (.invokestatic 101, 3) := by decide +kernel
theorem dX8_sin_23 : decode cX8_sin 23 = .ok (.ireturn, 1) := by decide +kernel
theorem dX8_pullOf_0 : decode cX8_pullOf 0 = .ok (.aload_n 0, 1) := by decide +kernel
theorem dX8_pullOf_1 : decode cX8_pullOf 1 = .ok (.getfield 104, 3) := by decide +kernel
theorem dX8_pullOf_4 : decode cX8_pullOf 4 = .ok (.aload_n 0, 1) := by decide +kernel
theorem dX8_pullOf_5 : decode cX8_pullOf 5 = .ok (.getfield 108, 3) := by decide +kernel
theorem dX8_pullOf_8 : decode cX8_pullOf 8 = .ok (.lsub, 1) := by decide +kernel
theorem dX8_pullOf_9 : decode cX8_pullOf 9 = .ok (.iload_n 1, 1) := by decide +kernel
theorem dX8_pullOf_10 : decode cX8_pullOf 10 = .ok (.invokestatic 101, 3) := by decide +kernel
theorem dX8_pullOf_13 : decode cX8_pullOf 13 = .ok (.i2l, 1) := by decide +kernel
theorem dX8_pullOf_14 : decode cX8_pullOf 14 = .ok (.lmul, 1) := by decide +kernel
theorem dX8_pullOf_15 : decode cX8_pullOf 15 = .ok (.aload_n 0, 1) := by decide +kernel
theorem dX8_pullOf_16 : decode cX8_pullOf 16 = .ok (.getfield 111, 3) := by decide +kernel
theorem dX8_pullOf_19 : decode cX8_pullOf 19 = .ok (.iload_n 1, 1) := by decide +kernel
theorem dX8_pullOf_20 : decode cX8_pullOf 20 = .ok (.invokestatic 114, 3) := by decide +kernel
theorem dX8_pullOf_23 : decode cX8_pullOf 23 = .ok (.i2l, 1) := by decide +kernel
theorem dX8_pullOf_24 : decode cX8_pullOf 24 = .ok (.lmul, 1) := by decide +kernel
theorem dX8_pullOf_25 : decode cX8_pullOf 25 = .ok (.ladd, 1) := by decide +kernel
theorem dX8_pullOf_26 : decode cX8_pullOf 26 = .ok (.lreturn, 1) := by decide +kernel
theorem dX8_mean_0 : decode cX8_mean 0 = .ok (.aload_n 0, 1) := by decide +kernel
theorem dX8_mean_1 : decode cX8_mean 1 = .ok (.getfield 104, 3) := by decide +kernel
theorem dX8_mean_4 : decode cX8_mean 4 = .ok (.aload_n 0, 1) := by decide +kernel
theorem dX8_mean_5 : decode cX8_mean 5 = .ok (.getfield 108, 3) := by decide +kernel
theorem dX8_mean_8 : decode cX8_mean 8 = .ok (.ladd, 1) := by decide +kernel
theorem dX8_mean_9 : decode cX8_mean 9 = .ok (.ldc2_w 117, 3) := by decide +kernel
theorem dX8_mean_12 : decode cX8_mean 12 = .ok (.ldiv, 1) := by decide +kernel
theorem dX8_mean_13 : decode cX8_mean 13 = .ok (.lreturn, 1) := by decide +kernel
theorem dX8_radius_0 : decode cX8_radius 0 = .ok (.aload_n 0, 1) := by decide +kernel
theorem dX8_radius_1 : decode cX8_radius 1 = .ok (.getfield 119, 3) := by decide +kernel
theorem dX8_radius_4 : decode cX8_radius 4 = .ok (.ldc2_w 122, 3) := by decide +kernel
theorem dX8_radius_7 : decode cX8_radius 7 = .ok (.ldiv, 1) := by decide +kernel
theorem dX8_radius_8 : decode cX8_radius 8 = .ok (.lreturn, 1) := by decide +kernel
theorem dX8_find_0 : decode cX8_find 0 = .ok (.aload_n 0, 1) := by decide +kernel
theorem dX8_find_1 : decode cX8_find 1 = .ok (.iload_n 1, 1) := by decide +kernel
theorem dX8_find_2 : decode cX8_find 2 = .ok (.iconst 0, 1) := by decide +kernel
theorem dX8_find_3 : decode cX8_find 3 = .ok (.invokevirtual 124, 3) := by decide +kernel
theorem dX8_find_6 : decode cX8_find 6 = .ok (.i2l, 1) := by decide +kernel
theorem dX8_find_7 : decode cX8_find 7 = .ok (.lstore_n 2, 1) := by decide +kernel
theorem dX8_find_8 : decode cX8_find 8 = .ok (.aload_n 0, 1) := by decide +kernel
theorem dX8_find_9 : decode cX8_find 9 = .ok (.iload_n 1, 1) := by decide +kernel
theorem dX8_find_10 : decode cX8_find 10 = .ok (.iconst 1, 1) := by decide +kernel
theorem dX8_find_11 : decode cX8_find 11 = .ok (.invokevirtual 124, 3) := by decide +kernel
theorem dX8_find_14 : decode cX8_find 14 = .ok (.i2l, 1) := by decide +kernel
theorem dX8_find_15 : decode cX8_find 15 = .ok (.lstore 4, 2) := by decide +kernel
theorem dX8_find_17 : decode cX8_find 17 = .ok (.aload_n 0, 1) := by decide +kernel
theorem dX8_find_18 : decode cX8_find 18 = .ok (.iload_n 1, 1) := by decide +kernel
theorem dX8_find_19 : decode cX8_find 19 = .ok (.iconst 2, 1) := by decide +kernel
theorem dX8_find_20 : decode cX8_find 20 = .ok (.invokevirtual 124, 3) := by decide +kernel
theorem dX8_find_23 : decode cX8_find 23 = .ok (.i2l, 1) := by decide +kernel
theorem dX8_find_24 : decode cX8_find 24 = .ok (.lstore 6, 2) := by decide +kernel
theorem dX8_find_26 : decode cX8_find 26 = .ok (.aload_n 0, 1) := by decide +kernel
theorem dX8_find_27 : decode cX8_find 27 = .ok (.lload_n 2, 1) := by decide +kernel
theorem dX8_find_28 : decode cX8_find 28 = .ok (.putfield 104, 3) := by decide +kernel
theorem dX8_find_31 : decode cX8_find 31 = .ok (.aload_n 0, 1) := by decide +kernel
theorem dX8_find_32 : decode cX8_find 32 = .ok (.iload_n 1, 1) := by decide +kernel
theorem dX8_find_33 : decode cX8_find 33 = .ok (.iconst 1, 1) := by decide +kernel
theorem dX8_find_34 : decode cX8_find 34 = .ok (.invokevirtual 41, 3) := by decide +kernel
theorem dX8_find_37 : decode cX8_find 37 = .ok (.ifCond .ne 27, 3) := by decide +kernel
theorem dX8_find_40 : decode cX8_find 40 = .ok (.aload_n 0, 1) := by decide +kernel
theorem dX8_find_41 : decode cX8_find 41 = .ok (.lload 6, 2) := by decide +kernel
theorem dX8_find_43 : decode cX8_find 43 = .ok (.putfield 108, 3) := by decide +kernel
theorem dX8_find_46 : decode cX8_find 46 = .ok (.aload_n 0, 1) := by decide +kernel
theorem dX8_find_47 : decode cX8_find 47 = .ok (.ldc2_w 117, 3) := by decide +kernel
theorem dX8_find_50 : decode cX8_find 50 = .ok (.lload 4, 2) := by decide +kernel
theorem dX8_find_52 : decode cX8_find 52 = .ok (.lmul, 1) := by decide +kernel
theorem dX8_find_53 : decode cX8_find 53 = .ok (.lload_n 2, 1) := by decide +kernel
theorem dX8_find_54 : decode cX8_find 54 = .ok (.lsub, 1) := by decide +kernel
theorem dX8_find_55 : decode cX8_find 55 = .ok (.lload 6, 2) := by decide +kernel
theorem dX8_find_57 : decode cX8_find 57 = .ok (.lsub, 1) := by decide +kernel
theorem dX8_find_58 : decode cX8_find 58 = .ok (.putfield 111, 3) := by decide +kernel
theorem dX8_find_61 : decode cX8_find 61 = .ok (.goto 43, 3) := by decide +kernel
theorem dX8_find_64 : decode cX8_find 64 = .ok (.aload_n 0, 1) := by decide +kernel
theorem dX8_find_65 : decode cX8_find 65 = .ok (.ldc2_w 117, 3) := by decide +kernel
theorem dX8_find_68 : decode cX8_find 68 = .ok (.lload 4, 2) := by decide +kernel
theorem dX8_find_70 : decode cX8_find 70 = .ok (.lmul, 1) := by decide +kernel
theorem dX8_find_71 : decode cX8_find 71 = .ok (.ldc2_w 117, 3) := by decide +kernel
theorem dX8_find_74 : decode cX8_find 74 = .ok (.lload 6, 2) := by decide +kernel
theorem dX8_find_76 : decode cX8_find 76 = .ok (.lmul, 1) := by decide +kernel
theorem dX8_find_77 : decode cX8_find 77 = .ok (.ladd, 1) := by decide +kernel
theorem dX8_find_78 : decode cX8_find 78 = .ok (.lload_n 2, 1) := by decide +kernel
theorem dX8_find_79 : decode cX8_find 79 = .ok (.lsub, 1) := by decide +kernel
theorem dX8_find_80 : decode cX8_find 80 = .ok (.ldc2_w 127, 3) := by decide +kernel
theorem dX8_find_83 : decode cX8_find 83 = .ok (.ldiv, 1) := by decide +kernel
theorem dX8_find_84 : decode cX8_find 84 = .ok (.putfield 108, 3) := by decide +kernel
theorem dX8_find_87 : decode cX8_find 87 = .ok (.aload_n 0, 1) := by decide +kernel
theorem dX8_find_88 : decode cX8_find 88 = .ok (.lload 4, 2) := by decide +kernel
theorem dX8_find_90 : decode cX8_find 90 = .ok (.lload 6, 2) := by decide +kernel
theorem dX8_find_92 : decode cX8_find 92 = .ok (.lsub, 1) := by decide +kernel
theorem dX8_find_93 : decode cX8_find 93 = .ok (.ldc2_w 129, 3) := by decide +kernel
theorem dX8_find_96 : decode cX8_find 96 = .ok (.lmul, 1) := by decide +kernel
theorem dX8_find_97 : decode cX8_find 97 = .ok (.ldc2_w 131, 3) := by decide +kernel
theorem dX8_find_100 : decode cX8_find 100 = .ok (.ldiv, 1) := by decide +kernel
theorem dX8_find_101 : decode cX8_find 101 = .ok (.putfield 111, 3) := by decide +kernel
theorem dX8_find_104 : decode cX8_find 104 = .ok (.aload_n 0, 1) := by decide +kernel
theorem dX8_find_105 : decode cX8_find 105 = .ok (.iconst 0, 1) := by decide +kernel
theorem dX8_find_106 : decode cX8_find 106 = .ok (.putfield 133, 3) := by decide +kernel
theorem dX8_find_109 : decode cX8_find 109 = .ok (.aload_n 0, 1) := by decide +kernel
theorem dX8_find_110 : decode cX8_find 110 = .ok (.aload_n 0, 1) := by decide +kernel
theorem dX8_find_111 : decode cX8_find 111 = .ok (.iconst 0, 1) := by decide +kernel
theorem dX8_find_112 : decode cX8_find 112 = .ok (.invokevirtual 136, 3) := by decide +kernel
theorem dX8_find_115 : decode cX8_find 115 = .ok (.putfield 119, 3) := by decide +kernel
theorem dX8_find_118 : decode cX8_find 118 = .ok (.iconst 1, 1) := by decide +kernel
theorem dX8_find_119 : decode cX8_find 119 = .ok (.istore 8, 2) := by decide +kernel
theorem dX8_find_121 : decode cX8_find 121 = .ok (.iload 8, 2) := by decide +kernel
theorem dX8_find_123 : decode cX8_find 123 = .ok (.bipush 24, 2) := by decide +kernel
theorem dX8_find_125 : decode cX8_find 125 = .ok (.if_icmp .ge 39, 3) := by decide +kernel
theorem dX8_find_128 : decode cX8_find 128 = .ok (.aload_n 0, 1) := by decide +kernel
theorem dX8_find_129 : decode cX8_find 129 = .ok (.iload 8, 2) := by decide +kernel
theorem dX8_find_131 : decode cX8_find 131 = .ok (.invokevirtual 136, 3) := by decide +kernel
theorem dX8_find_134 : decode cX8_find 134 = .ok (.aload_n 0, 1) := by decide +kernel
theorem dX8_find_135 : decode cX8_find 135 = .ok (.getfield 119, 3) := by decide +kernel
theorem dX8_find_138 : decode cX8_find 138 = .ok (.lcmp, 1) := by decide +kernel
theorem dX8_find_139 : decode cX8_find 139 = .ok (.ifCond .le 19, 3) := by decide +kernel
theorem dX8_find_142 : decode cX8_find 142 = .ok (.aload_n 0, 1) := by decide +kernel
theorem dX8_find_143 : decode cX8_find 143 = .ok (.aload_n 0, 1) := by decide +kernel
theorem dX8_find_144 : decode cX8_find 144 = .ok (.iload 8, 2) := by decide +kernel
theorem dX8_find_146 : decode cX8_find 146 = .ok (.invokevirtual 136, 3) := by decide +kernel
theorem dX8_find_149 : decode cX8_find 149 = .ok (.putfield 119, 3) := by decide +kernel
theorem dX8_find_152 : decode cX8_find 152 = .ok (.aload_n 0, 1) := by decide +kernel
theorem dX8_find_153 : decode cX8_find 153 = .ok (.iload 8, 2) := by decide +kernel
theorem dX8_find_155 : decode cX8_find 155 = .ok (.putfield 133, 3) := by decide +kernel
theorem dX8_find_158 : decode cX8_find 158 = .ok (.iinc 8 1, 3) := by decide +kernel
theorem dX8_find_161 : decode cX8_find 161 = .ok (.goto (-40), 3) := by decide +kernel
theorem dX8_find_164 : decode cX8_find 164 = .ok (.return_, 1) := by decide +kernel
theorem dX8_setStrain_0 : decode cX8_setStrain 0 = .ok (.aload_n 0, 1) := by decide +kernel
theorem dX8_setStrain_1 : decode cX8_setStrain 1 = .ok (.iload_n 1, 1) := by decide +kernel
theorem dX8_setStrain_2 : decode cX8_setStrain 2 = .ok (.invokevirtual 140, 3) := by decide +kernel
theorem dX8_setStrain_5 : decode cX8_setStrain 5 = .ok (.ifCond .eq 6, 3) := by decide +kernel
theorem dX8_setStrain_8 : decode cX8_setStrain 8 = .ok (.ldc 144, 2) := by decide +kernel
theorem dX8_setStrain_10 : decode cX8_setStrain 10 = .ok (.ireturn, 1) := by decide +kernel
theorem dX8_setStrain_11 : decode cX8_setStrain 11 = .ok (.iload_n 2, 1) := by decide +kernel
theorem dX8_setStrain_12 : decode cX8_setStrain 12 = .ok (.sipush (-5000), 3) := by decide +kernel
theorem dX8_setStrain_15 : decode cX8_setStrain 15 = .ok (.sipush 5000, 3) := by decide +kernel
theorem dX8_setStrain_18 : decode cX8_setStrain 18 = .ok (.invokestatic 37, 3) := by decide +kernel
theorem dX8_setStrain_21 : decode cX8_setStrain 21 = .ok (.ifCond .eq 30, 3) := by decide +kernel
theorem dX8_setStrain_24 : decode cX8_setStrain 24 = .ok (.iload_n 3, 1) := by decide +kernel
theorem dX8_setStrain_25 : decode cX8_setStrain 25 = .ok (.sipush (-5000), 3) := by decide +kernel
theorem dX8_setStrain_28 : decode cX8_setStrain 28 = .ok (.sipush 5000, 3) := by decide +kernel
theorem dX8_setStrain_31 : decode cX8_setStrain 31 = .ok (.invokestatic 37, 3) := by decide +kernel
theorem dX8_setStrain_34 : decode cX8_setStrain 34 = .ok (.ifCond .eq 17, 3) := by decide +kernel
theorem dX8_setStrain_37 : decode cX8_setStrain 37 = .ok (.iload 4, 2) := by decide +kernel
theorem dX8_setStrain_39 : decode cX8_setStrain 39 = .ok (.sipush (-5000), 3) := by decide +kernel
theorem dX8_setStrain_42 : decode cX8_setStrain 42 = .ok (.sipush 5000, 3) := by decide +kernel
theorem dX8_setStrain_45 : decode cX8_setStrain 45 = .ok (.invokestatic 37, 3) := by decide +kernel
theorem dX8_setStrain_48 : decode cX8_setStrain 48 = .ok (.ifCond .ne 6, 3) := by decide +kernel
theorem dX8_setStrain_51 : decode cX8_setStrain 51 = .ok (.ldc 50, 2) := by decide +kernel
theorem dX8_setStrain_53 : decode cX8_setStrain 53 = .ok (.ireturn, 1) := by decide +kernel
theorem dX8_setStrain_54 : decode cX8_setStrain 54 = .ok (.aload_n 0, 1) := by decide +kernel
theorem dX8_setStrain_55 : decode cX8_setStrain 55 = .ok (.iload_n 1, 1) := by decide +kernel
theorem dX8_setStrain_56 : decode cX8_setStrain 56 = .ok (.iconst 5, 1) := by decide +kernel
theorem dX8_setStrain_57 : decode cX8_setStrain 57 = .ok (.invokevirtual 41, 3) := by decide +kernel
theorem dX8_setStrain_60 : decode cX8_setStrain 60 = .ok (.iload_n 2, 1) := by decide +kernel
theorem dX8_setStrain_61 : decode cX8_setStrain 61 = .ok (.if_icmp .ne 29, 3) := by decide +kernel
theorem dX8_setStrain_64 : decode cX8_setStrain 64 = .ok (.aload_n 0, 1) := by decide +kernel
theorem dX8_setStrain_65 : decode cX8_setStrain 65 = .ok (.iload_n 1, 1) := by decide +kernel
theorem dX8_setStrain_66 : decode cX8_setStrain 66 = .ok (.bipush 6, 2) := by decide +kernel
theorem dX8_setStrain_68 : decode cX8_setStrain 68 = .ok (.invokevirtual 41, 3) := by decide +kernel
theorem dX8_setStrain_71 : decode cX8_setStrain 71 = .ok (.iload_n 3, 1) := by decide +kernel
theorem dX8_setStrain_72 : decode cX8_setStrain 72 = .ok (.if_icmp .ne 18, 3) := by decide +kernel
theorem dX8_setStrain_75 : decode cX8_setStrain 75 = .ok (.aload_n 0, 1) := by decide +kernel
theorem dX8_setStrain_76 : decode cX8_setStrain 76 = .ok (.iload_n 1, 1) := by decide +kernel
theorem dX8_setStrain_77 : decode cX8_setStrain 77 = .ok (.bipush 7, 2) := by decide +kernel
theorem dX8_setStrain_79 : decode cX8_setStrain 79 = .ok (.invokevirtual 41, 3) := by decide +kernel
theorem dX8_setStrain_82 : decode cX8_setStrain 82 = .ok (.iload 4, 2) := by decide +kernel
theorem dX8_setStrain_84 : decode cX8_setStrain 84 = .ok (.if_icmp .ne 6, 3) := by decide +kernel
theorem dX8_setStrain_87 : decode cX8_setStrain 87 = .ok (.ldc 49, 2) := by decide +kernel
theorem dX8_setStrain_89 : decode cX8_setStrain 89 = .ok (.ireturn, 1) := by decide +kernel
theorem dX8_setStrain_90 : decode cX8_setStrain 90 = .ok (.aload_n 0, 1) := by decide +kernel
theorem dX8_setStrain_91 : decode cX8_setStrain 91 = .ok (.invokevirtual 58, 3) := by decide +kernel
theorem dX8_setStrain_94 : decode cX8_setStrain 94 = .ok (.iconst 0, 1) := by decide +kernel
theorem dX8_setStrain_95 : decode cX8_setStrain 95 = .ok (.istore 5, 2) := by decide +kernel
theorem dX8_setStrain_97 : decode cX8_setStrain 97 = .ok (.iload 5, 2) := by decide +kernel
theorem dX8_setStrain_99 : decode cX8_setStrain 99 = .ok (.iconst 3, 1) := by decide +kernel
theorem dX8_setStrain_100 : decode cX8_setStrain 100 = .ok (.if_icmp .ge 23, 3) := by decide +kernel
theorem dX8_setStrain_103 : decode cX8_setStrain 103 = .ok (.aload_n 0, 1) := by decide +kernel
theorem dX8_setStrain_104 : decode cX8_setStrain 104 = .ok (.getfield 19, 3) := by decide +kernel
theorem dX8_setStrain_107 : decode cX8_setStrain 107 = .ok (.iload 5, 2) := by decide +kernel
theorem dX8_setStrain_109 : decode cX8_setStrain 109 = .ok (.aload_n 0, 1) := by decide +kernel
theorem dX8_setStrain_110 : decode cX8_setStrain 110 = .ok (.iload_n 1, 1) := by decide +kernel
theorem dX8_setStrain_111 : decode cX8_setStrain 111 = .ok (.iload 5, 2) := by decide +kernel
theorem dX8_setStrain_113 : decode cX8_setStrain 113 = .ok (.invokevirtual 90, 3) := by decide +kernel
theorem dX8_setStrain_116 : decode cX8_setStrain 116 = .ok (.iastore, 1) := by decide +kernel
theorem dX8_setStrain_117 : decode cX8_setStrain 117 = .ok (.iinc 5 1, 3) := by decide +kernel
theorem dX8_setStrain_120 : decode cX8_setStrain 120 = .ok (.goto (-23), 3) := by decide +kernel
theorem dX8_setStrain_123 : decode cX8_setStrain 123 = .ok (.aload_n 0, 1) := by decide +kernel
theorem dX8_setStrain_124 : decode cX8_setStrain 124 = .ok (.iload_n 1, 1) := by decide +kernel
theorem dX8_setStrain_125 : decode cX8_setStrain 125 = .ok (.iconst 5, 1) := by decide +kernel
theorem dX8_setStrain_126 : decode cX8_setStrain 126 = .ok (.iload_n 2, 1) := by decide +kernel
theorem dX8_setStrain_127 : decode cX8_setStrain 127 = .ok (.invokevirtual 45, 3) := by decide +kernel
theorem dX8_setStrain_130 : decode cX8_setStrain 130 = .ok (.aload_n 0, 1) := by decide +kernel
theorem dX8_setStrain_131 : decode cX8_setStrain 131 = .ok (.iload_n 1, 1) := by decide +kernel
theorem dX8_setStrain_132 : decode cX8_setStrain 132 = .ok (.bipush 6, 2) := by decide +kernel
theorem dX8_setStrain_134 : decode cX8_setStrain 134 = .ok (.iload_n 3, 1) := by decide +kernel
theorem dX8_setStrain_135 : decode cX8_setStrain 135 = .ok (.invokevirtual 45, 3) := by decide +kernel
theorem dX8_setStrain_138 : decode cX8_setStrain 138 = .ok (.aload_n 0, 1) := by decide +kernel
theorem dX8_setStrain_139 : decode cX8_setStrain 139 = .ok (.iload_n 1, 1) := by decide +kernel
theorem dX8_setStrain_140 : decode cX8_setStrain 140 = .ok (.bipush 7, 2) := by decide +kernel
theorem dX8_setStrain_142 : decode cX8_setStrain 142 = .ok (.iload 4, 2) := by decide +kernel
theorem dX8_setStrain_144 : decode cX8_setStrain 144 = .ok (.invokevirtual 45, 3) := by decide +kernel
theorem dX8_setStrain_147 : decode cX8_setStrain 147 = .ok (.iconst 0, 1) := by decide +kernel
theorem dX8_setStrain_148 : decode cX8_setStrain 148 = .ok (.istore 5, 2) := by decide +kernel
theorem dX8_setStrain_150 : decode cX8_setStrain 150 = .ok (.iconst 0, 1) := by decide +kernel
theorem dX8_setStrain_151 : decode cX8_setStrain 151 = .ok (.istore 6, 2) := by decide +kernel
theorem dX8_setStrain_153 : decode cX8_setStrain 153 = .ok (.iload 6, 2) := by decide +kernel
theorem dX8_setStrain_155 : decode cX8_setStrain 155 = .ok (.iconst 3, 1) := by decide +kernel
theorem dX8_setStrain_156 : decode cX8_setStrain 156 = .ok (.if_icmp .ge 36, 3) := by decide +kernel
theorem dX8_setStrain_159 : decode cX8_setStrain 159 = .ok (.iload 5, 2) := by decide +kernel
theorem dX8_setStrain_161 : decode cX8_setStrain 161 = .ok (.aload_n 0, 1) := by decide +kernel
theorem dX8_setStrain_162 : decode cX8_setStrain 162 = .ok (.getfield 19, 3) := by decide +kernel
theorem dX8_setStrain_165 : decode cX8_setStrain 165 = .ok (.iload 6, 2) := by decide +kernel
theorem dX8_setStrain_167 : decode cX8_setStrain 167 = .ok (.iaload, 1) := by decide +kernel
theorem dX8_setStrain_168 : decode cX8_setStrain 168 = .ok (.aload_n 0, 1) := by decide +kernel
theorem dX8_setStrain_169 : decode cX8_setStrain 169 = .ok (.iload_n 1, 1) := by decide +kernel
theorem dX8_setStrain_170 : decode cX8_setStrain 170 = .ok (.iload 6, 2) := by decide +kernel
theorem dX8_setStrain_172 : decode cX8_setStrain 172 = .ok (.invokevirtual 90, 3) := by decide +kernel
theorem dX8_setStrain_175 : decode cX8_setStrain 175 = .ok (.if_icmp .eq 7, 3) := by decide +kernel
theorem dX8_setStrain_178 : decode cX8_setStrain 178 = .ok (.iconst 1, 1) := by decide +kernel
theorem dX8_setStrain_179 : decode cX8_setStrain 179 = .ok (.goto 4, 3) := by decide +kernel
theorem dX8_setStrain_182 : decode cX8_setStrain 182 = .ok (.iconst 0, 1) := by decide +kernel
theorem dX8_setStrain_183 : decode cX8_setStrain 183 = .ok (.iadd, 1) := by decide +kernel
theorem dX8_setStrain_184 : decode cX8_setStrain 184 = .ok (.istore 5, 2) := by decide +kernel
theorem dX8_setStrain_186 : decode cX8_setStrain 186 = .ok (.iinc 6 1, 3) := by decide +kernel
theorem dX8_setStrain_189 : decode cX8_setStrain 189 = .ok (.goto (-36), 3) := by decide +kernel
theorem dX8_setStrain_192 : decode cX8_setStrain 192 = .ok (.iload 5, 2) := by decide +kernel
theorem dX8_setStrain_194 : decode cX8_setStrain 194 = .ok (.ireturn, 1) := by decide +kernel
theorem dX8_setLeads_0 : decode cX8_setLeads 0 = .ok (.aload_n 0, 1) := by decide +kernel
theorem dX8_setLeads_1 : decode cX8_setLeads 1 = .ok (.iload_n 1, 1) := by decide +kernel
theorem dX8_setLeads_2 : decode cX8_setLeads 2 = .ok (.invokevirtual 140, 3) := by decide +kernel
theorem dX8_setLeads_5 : decode cX8_setLeads 5 = .ok (.ifCond .eq 6, 3) := by decide +kernel
theorem dX8_setLeads_8 : decode cX8_setLeads 8 = .ok (.ldc 144, 2) := by decide +kernel
theorem dX8_setLeads_10 : decode cX8_setLeads 10 = .ok (.ireturn, 1) := by decide +kernel
theorem dX8_setLeads_11 : decode cX8_setLeads 11 = .ok (.iload_n 2, 1) := by decide +kernel
theorem dX8_setLeads_12 : decode cX8_setLeads 12 = .ok (.iconst 0, 1) := by decide +kernel
theorem dX8_setLeads_13 : decode cX8_setLeads 13 = .ok (.sipush 20000, 3) := by decide +kernel
theorem dX8_setLeads_16 : decode cX8_setLeads 16 = .ok (.invokestatic 37, 3) := by decide +kernel
theorem dX8_setLeads_19 : decode cX8_setLeads 19 = .ok (.ifCond .ne 6, 3) := by decide +kernel
theorem dX8_setLeads_22 : decode cX8_setLeads 22 = .ok (.ldc 50, 2) := by decide +kernel
theorem dX8_setLeads_24 : decode cX8_setLeads 24 = .ok (.ireturn, 1) := by decide +kernel
theorem dX8_setLeads_25 : decode cX8_setLeads 25 = .ok (.aload_n 0, 1) := by decide +kernel
theorem dX8_setLeads_26 : decode cX8_setLeads 26 = .ok (.iload_n 1, 1) := by decide +kernel
theorem dX8_setLeads_27 : decode cX8_setLeads 27 = .ok (.iconst 4, 1) := by decide +kernel
theorem dX8_setLeads_28 : decode cX8_setLeads 28 = .ok (.invokevirtual 41, 3) := by decide +kernel
theorem dX8_setLeads_31 : decode cX8_setLeads 31 = .ok (.istore_n 3, 1) := by decide +kernel
theorem dX8_setLeads_32 : decode cX8_setLeads 32 = .ok (.iload_n 3, 1) := by decide +kernel
theorem dX8_setLeads_33 : decode cX8_setLeads 33 = .ok (.iload_n 2, 1) := by decide +kernel
theorem dX8_setLeads_34 : decode cX8_setLeads 34 = .ok (.if_icmp .ne 6, 3) := by decide +kernel
theorem dX8_setLeads_37 : decode cX8_setLeads 37 = .ok (.ldc 49, 2) := by decide +kernel
theorem dX8_setLeads_39 : decode cX8_setLeads 39 = .ok (.ireturn, 1) := by decide +kernel
theorem dX8_setLeads_40 : decode cX8_setLeads 40 = .ok (.aload_n 0, 1) := by decide +kernel
theorem dX8_setLeads_41 : decode cX8_setLeads 41 = .ok (.invokevirtual 58, 3) := by decide +kernel
theorem dX8_setLeads_44 : decode cX8_setLeads 44 = .ok (.aload_n 0, 1) := by decide +kernel
theorem dX8_setLeads_45 : decode cX8_setLeads 45 = .ok (.iload_n 1, 1) := by decide +kernel
theorem dX8_setLeads_46 : decode cX8_setLeads 46 = .ok (.iconst 4, 1) := by decide +kernel
theorem dX8_setLeads_47 : decode cX8_setLeads 47 = .ok (.iload_n 2, 1) := by decide +kernel
theorem dX8_setLeads_48 : decode cX8_setLeads 48 = .ok (.invokevirtual 45, 3) := by decide +kernel
theorem dX8_setLeads_51 : decode cX8_setLeads 51 = .ok (.iload_n 3, 1) := by decide +kernel
theorem dX8_setLeads_52 : decode cX8_setLeads 52 = .ok (.ireturn, 1) := by decide +kernel
theorem dX8_setOffset_0 : decode cX8_setOffset 0 = .ok (.aload_n 0, 1) := by decide +kernel
theorem dX8_setOffset_1 : decode cX8_setOffset 1 = .ok (.iload_n 1, 1) := by decide +kernel
theorem dX8_setOffset_2 : decode cX8_setOffset 2 = .ok (.invokevirtual 140, 3) := by decide +kernel
theorem dX8_setOffset_5 : decode cX8_setOffset 5 = .ok (.ifCond .ne 12, 3) := by decide +kernel
theorem dX8_setOffset_8 : decode cX8_setOffset 8 = .ok (.iload_n 2, 1) := by decide +kernel
theorem dX8_setOffset_9 : decode cX8_setOffset 9 = .ok (.iconst 0, 1) := by decide +kernel
theorem dX8_setOffset_10 : decode cX8_setOffset 10 = .ok (.iconst 2, 1) := by decide +kernel
theorem dX8_setOffset_11 : decode cX8_setOffset 11 = .ok (.invokestatic 37, 3) := by decide +kernel
theorem dX8_setOffset_14 : decode cX8_setOffset 14 = .ok (.ifCond .ne 6, 3) := by decide +kernel
theorem dX8_setOffset_17 : decode cX8_setOffset 17 = .ok (.ldc 144, 2) := by decide +kernel
theorem dX8_setOffset_19 : decode cX8_setOffset 19 = .ok (.ireturn, 1) := by decide +kernel
theorem dX8_setOffset_20 : decode cX8_setOffset 20 = .ok (.iload_n 3, 1) := by decide +kernel
theorem dX8_setOffset_21 : decode cX8_setOffset 21 = .ok (.sipush (-9999), 3) := by decide +kernel
theorem dX8_setOffset_24 : decode cX8_setOffset 24 = .ok (.sipush 9999, 3) := by decide +kernel
theorem dX8_setOffset_27 : decode cX8_setOffset 27 = .ok (.invokestatic 37, 3) := by decide +kernel
theorem dX8_setOffset_30 : decode cX8_setOffset 30 = .ok (.ifCond .ne 6, 3) := by decide +kernel
theorem dX8_setOffset_33 : decode cX8_setOffset 33 = .ok (.ldc 50, 2) := by decide +kernel
theorem dX8_setOffset_35 : decode cX8_setOffset 35 = .ok (.ireturn, 1) := by decide +kernel
theorem dX8_setOffset_36 : decode cX8_setOffset 36 = .ok (.aload_n 0, 1) := by decide +kernel
theorem dX8_setOffset_37 : decode cX8_setOffset 37 = .ok (.iload_n 1, 1) := by decide +kernel
theorem dX8_setOffset_38 : decode cX8_setOffset 38 = .ok (.iload_n 2, 1) := by decide +kernel
theorem dX8_setOffset_39 : decode cX8_setOffset 39 = .ok (.iconst 0, 1) := by decide +kernel
theorem dX8_setOffset_40 : decode cX8_setOffset 40 = .ok (.invokevirtual 68, 3) := by decide +kernel
theorem dX8_setOffset_43 : decode cX8_setOffset 43 = .ok (.istore 4, 2) := by decide +kernel
theorem dX8_setOffset_45 : decode cX8_setOffset 45 = .ok (.iload 4, 2) := by decide +kernel
theorem dX8_setOffset_47 : decode cX8_setOffset 47 = .ok (.iload_n 3, 1) := by decide +kernel
theorem dX8_setOffset_48 : decode cX8_setOffset 48 = .ok (.if_icmp .ne 6, 3) := by decide +kernel
theorem dX8_setOffset_51 : decode cX8_setOffset 51 = .ok (.ldc 49, 2) := by decide +kernel
theorem dX8_setOffset_53 : decode cX8_setOffset 53 = .ok (.ireturn, 1) := by decide +kernel
theorem dX8_setOffset_54 : decode cX8_setOffset 54 = .ok (.aload_n 0, 1) := by decide +kernel
theorem dX8_setOffset_55 : decode cX8_setOffset 55 = .ok (.invokevirtual 58, 3) := by decide +kernel
theorem dX8_setOffset_58 : decode cX8_setOffset 58 = .ok (.aload_n 0, 1) := by decide +kernel
theorem dX8_setOffset_59 : decode cX8_setOffset 59 = .ok (.iload_n 1, 1) := by decide +kernel
theorem dX8_setOffset_60 : decode cX8_setOffset 60 = .ok (.iload_n 2, 1) := by decide +kernel
theorem dX8_setOffset_61 : decode cX8_setOffset 61 = .ok (.iconst 0, 1) := by decide +kernel
theorem dX8_setOffset_62 : decode cX8_setOffset 62 = .ok (.iload_n 3, 1) := by decide +kernel
theorem dX8_setOffset_63 : decode cX8_setOffset 63 = .ok (.invokevirtual 61, 3) := by decide +kernel
theorem dX8_setOffset_66 : decode cX8_setOffset 66 = .ok (.iload 4, 2) := by decide +kernel
theorem dX8_setOffset_68 : decode cX8_setOffset 68 = .ok (.ireturn, 1) := by decide +kernel
theorem dX8_setShunt_0 : decode cX8_setShunt 0 = .ok (.aload_n 0, 1) := by decide +kernel
theorem dX8_setShunt_1 : decode cX8_setShunt 1 = .ok (.iload_n 1, 1) := by decide +kernel
theorem dX8_setShunt_2 : decode cX8_setShunt 2 = .ok (.invokevirtual 140, 3) := by decide +kernel
theorem dX8_setShunt_5 : decode cX8_setShunt 5 = .ok (.ifCond .eq 6, 3) := by decide +kernel
theorem dX8_setShunt_8 : decode cX8_setShunt 8 = .ok (.ldc 144, 2) := by decide +kernel
theorem dX8_setShunt_10 : decode cX8_setShunt 10 = .ok (.ireturn, 1) := by decide +kernel
theorem dX8_setShunt_11 : decode cX8_setShunt 11 = .ok (.aload_n 0, 1) := by decide +kernel
theorem dX8_setShunt_12 : decode cX8_setShunt 12 = .ok (.iload_n 1, 1) := by decide +kernel
theorem dX8_setShunt_13 : decode cX8_setShunt 13 = .ok (.bipush 8, 2) := by decide +kernel
theorem dX8_setShunt_15 : decode cX8_setShunt 15 = .ok (.invokevirtual 41, 3) := by decide +kernel
theorem dX8_setShunt_18 : decode cX8_setShunt 18 = .ok (.iload_n 2, 1) := by decide +kernel
theorem dX8_setShunt_19 : decode cX8_setShunt 19 = .ok (.ifCond .eq 7, 3) := by decide +kernel
theorem dX8_setShunt_22 : decode cX8_setShunt 22 = .ok (.iconst 1, 1) := by decide +kernel
theorem dX8_setShunt_23 : decode cX8_setShunt 23 = .ok (.goto 4, 3) := by decide +kernel
theorem dX8_setShunt_26 : decode cX8_setShunt 26 = .ok (.iconst 0, 1) := by decide +kernel
theorem dX8_setShunt_27 : decode cX8_setShunt 27 = .ok (.if_icmp .ne 6, 3) := by decide +kernel
theorem dX8_setShunt_30 : decode cX8_setShunt 30 = .ok (.ldc 49, 2) := by decide +kernel
theorem dX8_setShunt_32 : decode cX8_setShunt 32 = .ok (.ireturn, 1) := by decide +kernel
theorem dX8_setShunt_33 : decode cX8_setShunt 33 = .ok (.aload_n 0, 1) := by decide +kernel
theorem dX8_setShunt_34 : decode cX8_setShunt 34 = .ok (.invokevirtual 58, 3) := by decide +kernel
theorem dX8_setShunt_37 : decode cX8_setShunt 37 = .ok (.aload_n 0, 1) := by decide +kernel
theorem dX8_setShunt_38 : decode cX8_setShunt 38 = .ok (.iload_n 1, 1) := by decide +kernel
theorem dX8_setShunt_39 : decode cX8_setShunt 39 = .ok (.bipush 8, 2) := by decide +kernel
theorem dX8_setShunt_41 : decode cX8_setShunt 41 = .ok (.iload_n 2, 1) := by decide +kernel
theorem dX8_setShunt_42 : decode cX8_setShunt 42 = .ok (.ifCond .eq 7, 3) := by decide +kernel
theorem dX8_setShunt_45 : decode cX8_setShunt 45 = .ok (.iconst 1, 1) := by decide +kernel
theorem dX8_setShunt_46 : decode cX8_setShunt 46 = .ok (.goto 4, 3) := by decide +kernel
theorem dX8_setShunt_49 : decode cX8_setShunt 49 = .ok (.iconst 0, 1) := by decide +kernel
theorem dX8_setShunt_50 : decode cX8_setShunt 50 = .ok (.invokevirtual 45, 3) := by decide +kernel
theorem dX8_setShunt_53 : decode cX8_setShunt 53 = .ok (.aload_n 0, 1) := by decide +kernel
theorem dX8_setShunt_54 : decode cX8_setShunt 54 = .ok (.iload_n 1, 1) := by decide +kernel
theorem dX8_setShunt_55 : decode cX8_setShunt 55 = .ok (.iconst 0, 1) := by decide +kernel
theorem dX8_setShunt_56 : decode cX8_setShunt 56 = .ok (.invokevirtual 90, 3) := by decide +kernel
theorem dX8_setShunt_59 : decode cX8_setShunt 59 = .ok (.ireturn, 1) := by decide +kernel
theorem dX8_setSize_0 : decode cX8_setSize 0 = .ok (.iload_n 1, 1) := by decide +kernel
theorem dX8_setSize_1 : decode cX8_setSize 1 = .ok (.bipush 20, 2) := by decide +kernel
theorem dX8_setSize_3 : decode cX8_setSize 3 = .ok (.sipush 500, 3) := by decide +kernel
theorem dX8_setSize_6 : decode cX8_setSize 6 = .ok (.invokestatic 37, 3) := by decide +kernel
theorem dX8_setSize_9 : decode cX8_setSize 9 = .ok (.ifCond .ne 6, 3) := by decide +kernel
theorem dX8_setSize_12 : decode cX8_setSize 12 = .ok (.ldc 50, 2) := by decide +kernel
theorem dX8_setSize_14 : decode cX8_setSize 14 = .ok (.ireturn, 1) := by decide +kernel
theorem dX8_setSize_15 : decode cX8_setSize 15 = .ok (.aload_n 0, 1) := by decide +kernel
theorem dX8_setSize_16 : decode cX8_setSize 16 = .ok (.getfield 7, 3) := by decide +kernel
theorem dX8_setSize_19 : decode cX8_setSize 19 = .ok (.iconst 3, 1) := by decide +kernel
theorem dX8_setSize_20 : decode cX8_setSize 20 = .ok (.iaload, 1) := by decide +kernel
theorem dX8_setSize_21 : decode cX8_setSize 21 = .ok (.istore_n 2, 1) := by decide +kernel
theorem dX8_setSize_22 : decode cX8_setSize 22 = .ok (.iload_n 2, 1) := by decide +kernel
theorem dX8_setSize_23 : decode cX8_setSize 23 = .ok (.iload_n 1, 1) := by decide +kernel
theorem dX8_setSize_24 : decode cX8_setSize 24 = .ok (.if_icmp .ne 6, 3) := by decide +kernel
theorem dX8_setSize_27 : decode cX8_setSize 27 = .ok (.ldc 49, 2) := by decide +kernel
theorem dX8_setSize_29 : decode cX8_setSize 29 = .ok (.ireturn, 1) := by decide +kernel
theorem dX8_setSize_30 : decode cX8_setSize 30 = .ok (.aload_n 0, 1) := by decide +kernel
theorem dX8_setSize_31 : decode cX8_setSize 31 = .ok (.invokevirtual 58, 3) := by decide +kernel
theorem dX8_setSize_34 : decode cX8_setSize 34 = .ok (.aload_n 0, 1) := by decide +kernel
theorem dX8_setSize_35 : decode cX8_setSize 35 = .ok (.getfield 7, 3) := by decide +kernel
theorem dX8_setSize_38 : decode cX8_setSize 38 = .ok (.iconst 3, 1) := by decide +kernel
theorem dX8_setSize_39 : decode cX8_setSize 39 = .ok (.iload_n 1, 1) := by decide +kernel
theorem dX8_setSize_40 : decode cX8_setSize 40 = .ok (.iastore, 1) := by decide +kernel
theorem dX8_setSize_41 : decode cX8_setSize 41 = .ok (.iload_n 2, 1) := by decide +kernel
theorem dX8_setSize_42 : decode cX8_setSize 42 = .ok (.ireturn, 1) := by decide +kernel
theorem dX8_ofJob_0 : decode cX8_ofJob 0 = .ok (.aload_n 0, 1) := by decide +kernel
theorem dX8_ofJob_1 : decode cX8_ofJob 1 = .ok (.getfield 7, 3) := by decide +kernel
theorem dX8_ofJob_4 : decode cX8_ofJob 4 = .ok (.sipush 170, 3) := by decide +kernel
theorem dX8_ofJob_7 : decode cX8_ofJob 7 = .ok (.iconst 4, 1) := by decide +kernel
theorem dX8_ofJob_8 : decode cX8_ofJob 8 = .ok (.iload_n 1, 1) := by decide +kernel
theorem dX8_ofJob_9 : decode cX8_ofJob 9 = .ok (.imul, 1) := by decide +kernel
theorem dX8_ofJob_10 : decode cX8_ofJob 10 = .ok (.iadd, 1) := by decide +kernel
theorem dX8_ofJob_11 : decode cX8_ofJob 11 = .ok (.iload_n 2, 1) := by decide +kernel
theorem dX8_ofJob_12 : decode cX8_ofJob 12 = .ok (.iadd, 1) := by decide +kernel
theorem dX8_ofJob_13 : decode cX8_ofJob 13 = .ok (.iaload, 1) := by decide +kernel
theorem dX8_ofJob_14 : decode cX8_ofJob 14 = .ok (.ireturn, 1) := by decide +kernel
theorem dX8_ask_0 : decode cX8_ask 0 = .ok (.sipush 170, 3) := by decide +kernel
theorem dX8_ask_3 : decode cX8_ask 3 = .ok (.iconst 4, 1) := by decide +kernel
theorem dX8_ask_4 : decode cX8_ask 4 = .ok (.aload_n 0, 1) := by decide +kernel
theorem dX8_ask_5 : decode cX8_ask 5 = .ok (.getfield 7, 3) := by decide +kernel
theorem dX8_ask_8 : decode cX8_ask 8 = .ok (.iconst 4, 1) := by decide +kernel
theorem dX8_ask_9 : decode cX8_ask 9 = .ok (.iaload, 1) := by decide +kernel
theorem dX8_ask_10 : decode cX8_ask 10 = .ok (.imul, 1) := by decide +kernel
theorem dX8_ask_11 : decode cX8_ask 11 = .ok (.iadd, 1) := by decide +kernel
theorem dX8_ask_12 : decode cX8_ask 12 = .ok (.istore 4, 2) := by decide +kernel
theorem dX8_ask_14 : decode cX8_ask 14 = .ok (.aload_n 0, 1) := by decide +kernel
theorem dX8_ask_15 : decode cX8_ask 15 = .ok (.getfield 7, 3) := by decide +kernel
theorem dX8_ask_18 : decode cX8_ask 18 = .ok (.iload 4, 2) := by decide +kernel
theorem dX8_ask_20 : decode cX8_ask 20 = .ok (.aload_n 0, 1) := by decide +kernel
theorem dX8_ask_21 : decode cX8_ask 21 = .ok (.getfield 7, 3) := by decide +kernel
theorem dX8_ask_24 : decode cX8_ask 24 = .ok (.iconst 5, 1) := by decide +kernel
theorem dX8_ask_25 : decode cX8_ask 25 = .ok (.iaload, 1) := by decide +kernel
theorem dX8_ask_26 : decode cX8_ask 26 = .ok (.iastore, 1) := by decide +kernel
theorem dX8_ask_27 : decode cX8_ask 27 = .ok (.aload_n 0, 1) := by decide +kernel
theorem dX8_ask_28 : decode cX8_ask 28 = .ok (.getfield 7, 3) := by decide +kernel
theorem dX8_ask_31 : decode cX8_ask 31 = .ok (.iload 4, 2) := by decide +kernel
theorem dX8_ask_33 : decode cX8_ask 33 = .ok (.iconst 1, 1) := by decide +kernel
theorem dX8_ask_34 : decode cX8_ask 34 = .ok (.iadd, 1) := by decide +kernel
theorem dX8_ask_35 : decode cX8_ask 35 = .ok (.iload_n 1, 1) := by decide +kernel
theorem dX8_ask_36 : decode cX8_ask 36 = .ok (.iastore, 1) := by decide +kernel
theorem dX8_ask_37 : decode cX8_ask 37 = .ok (.aload_n 0, 1) := by decide +kernel
theorem dX8_ask_38 : decode cX8_ask 38 = .ok (.getfield 7, 3) := by decide +kernel
theorem dX8_ask_41 : decode cX8_ask 41 = .ok (.iload 4, 2) := by decide +kernel
theorem dX8_ask_43 : decode cX8_ask 43 = .ok (.iconst 2, 1) := by decide +kernel
theorem dX8_ask_44 : decode cX8_ask 44 = .ok (.iadd, 1) := by decide +kernel
theorem dX8_ask_45 : decode cX8_ask 45 = .ok (.iload_n 2, 1) := by decide +kernel
theorem dX8_ask_46 : decode cX8_ask 46 = .ok (.iastore, 1) := by decide +kernel
theorem dX8_ask_47 : decode cX8_ask 47 = .ok (.aload_n 0, 1) := by decide +kernel
theorem dX8_ask_48 : decode cX8_ask 48 = .ok (.getfield 7, 3) := by decide +kernel
theorem dX8_ask_51 : decode cX8_ask 51 = .ok (.iload 4, 2) := by decide +kernel
theorem dX8_ask_53 : decode cX8_ask 53 = .ok (.iconst 3, 1) := by decide +kernel
theorem dX8_ask_54 : decode cX8_ask 54 = .ok (.iadd, 1) := by decide +kernel
theorem dX8_ask_55 : decode cX8_ask 55 = .ok (.iload_n 3, 1) := by decide +kernel
theorem dX8_ask_56 : decode cX8_ask 56 = .ok (.iastore, 1) := by decide +kernel
theorem dX8_ask_57 : decode cX8_ask 57 = .ok (.aload_n 0, 1) := by decide +kernel
theorem dX8_ask_58 : decode cX8_ask 58 = .ok (.getfield 7, 3) := by decide +kernel
theorem dX8_ask_61 : decode cX8_ask 61 = .ok (.iconst 4, 1) := by decide +kernel
theorem dX8_ask_62 : decode cX8_ask 62 = .ok (.dup2, 1) := by decide +kernel
theorem dX8_ask_63 : decode cX8_ask 63 = .ok (.iaload, 1) := by decide +kernel
theorem dX8_ask_64 : decode cX8_ask 64 = .ok (.iconst 1, 1) := by decide +kernel
theorem dX8_ask_65 : decode cX8_ask 65 = .ok (.iadd, 1) := by decide +kernel
theorem dX8_ask_66 : decode cX8_ask 66 = .ok (.iastore, 1) := by decide +kernel
theorem dX8_ask_67 : decode cX8_ask 67 = .ok (.aload_n 0, 1) := by decide +kernel
theorem dX8_ask_68 : decode cX8_ask 68 = .ok (.getfield 7, 3) := by decide +kernel
theorem dX8_ask_71 : decode cX8_ask 71 = .ok (.iconst 5, 1) := by decide +kernel
theorem dX8_ask_72 : decode cX8_ask 72 = .ok (.dup2, 1) := by decide +kernel
theorem dX8_ask_73 : decode cX8_ask 73 = .ok (.iaload, 1) := by decide +kernel
theorem dX8_ask_74 : decode cX8_ask 74 = .ok (.iconst 1, 1) := by decide +kernel
theorem dX8_ask_75 : decode cX8_ask 75 = .ok (.iadd, 1) := by decide +kernel
theorem dX8_ask_76 : decode cX8_ask 76 = .ok (.iastore, 1) := by decide +kernel
theorem dX8_ask_77 : decode cX8_ask 77 = .ok (.return_, 1) := by decide +kernel
theorem dX8_takeOut_0 : decode cX8_takeOut 0 = .ok (.aload_n 0, 1) := by decide +kernel
theorem dX8_takeOut_1 : decode cX8_takeOut 1 = .ok (.getfield 7, 3) := by decide +kernel
theorem dX8_takeOut_4 : decode cX8_takeOut 4 = .ok (.iconst 4, 1) := by decide +kernel
theorem dX8_takeOut_5 : decode cX8_takeOut 5 = .ok (.dup2, 1) := by decide +kernel
theorem dX8_takeOut_6 : decode cX8_takeOut 6 = .ok (.iaload, 1) := by decide +kernel
theorem dX8_takeOut_7 : decode cX8_takeOut 7 = .ok (.iconst 1, 1) := by decide +kernel
theorem dX8_takeOut_8 : decode cX8_takeOut 8 = .ok (.isub, 1) := by decide +kernel
theorem dX8_takeOut_9 : decode cX8_takeOut 9 = .ok (.iastore, 1) := by decide +kernel
theorem dX8_takeOut_10 : decode cX8_takeOut 10 = .ok (.sipush 170, 3) := by decide +kernel
theorem dX8_takeOut_13 : decode cX8_takeOut 13 = .ok (.iconst 4, 1) := by decide +kernel
theorem dX8_takeOut_14 : decode cX8_takeOut 14 = .ok (.iload_n 1, 1) := by decide +kernel
theorem dX8_takeOut_15 : decode cX8_takeOut 15 = .ok (.imul, 1) := by decide +kernel
theorem dX8_takeOut_16 : decode cX8_takeOut 16 = .ok (.iadd, 1) := by decide +kernel
theorem dX8_takeOut_17 : decode cX8_takeOut 17 = .ok (.istore_n 2, 1) := by decide +kernel
theorem dX8_takeOut_18 : decode cX8_takeOut 18 = .ok (.iload_n 2, 1) := by decide +kernel
theorem dX8_takeOut_19 : decode cX8_takeOut 19 = .ok (.sipush 170, 3) := by decide +kernel
theorem dX8_takeOut_22 : decode cX8_takeOut 22 = .ok (.iconst 4, 1) := by decide +kernel
theorem dX8_takeOut_23 : decode cX8_takeOut 23 = .ok (.aload_n 0, 1) := by decide +kernel
theorem dX8_takeOut_24 : decode cX8_takeOut 24 = .ok (.getfield 7, 3) := by decide +kernel
theorem dX8_takeOut_27 : decode cX8_takeOut 27 = .ok (.iconst 4, 1) := by decide +kernel
theorem dX8_takeOut_28 : decode cX8_takeOut 28 = .ok (.iaload, 1) := by decide +kernel
theorem dX8_takeOut_29 : decode cX8_takeOut 29 = .ok (.imul, 1) := by decide +kernel
theorem dX8_takeOut_30 : decode cX8_takeOut 30 = .ok (.iadd, 1) := by decide +kernel
theorem dX8_takeOut_31 : decode cX8_takeOut 31 = .ok (.if_icmp .ge 23, 3) := by decide +kernel
theorem dX8_takeOut_34 : decode cX8_takeOut 34 = .ok (.aload_n 0, 1) := by decide +kernel
theorem dX8_takeOut_35 : decode cX8_takeOut 35 = .ok (.getfield 7, 3) := by decide +kernel
theorem dX8_takeOut_38 : decode cX8_takeOut 38 = .ok (.iload_n 2, 1) := by decide +kernel
theorem dX8_takeOut_39 : decode cX8_takeOut 39 = .ok (.aload_n 0, 1) := by decide +kernel
theorem dX8_takeOut_40 : decode cX8_takeOut 40 = .ok (.getfield 7, 3) := by decide +kernel
theorem dX8_takeOut_43 : decode cX8_takeOut 43 = .ok (.iload_n 2, 1) := by decide +kernel
theorem dX8_takeOut_44 : decode cX8_takeOut 44 = .ok (.iconst 4, 1) := by decide +kernel
theorem dX8_takeOut_45 : decode cX8_takeOut 45 = .ok (.iadd, 1) := by decide +kernel
theorem dX8_takeOut_46 : decode cX8_takeOut 46 = .ok (.iaload, 1) := by decide +kernel
theorem dX8_takeOut_47 : decode cX8_takeOut 47 = .ok (.iastore, 1) := by decide +kernel
theorem dX8_takeOut_48 : decode cX8_takeOut 48 = .ok (.iinc 2 1, 3) := by decide +kernel
theorem dX8_takeOut_51 : decode cX8_takeOut 51 = .ok (.goto (-33), 3) := by decide +kernel
theorem dX8_takeOut_54 : decode cX8_takeOut 54 = .ok (.return_, 1) := by decide +kernel
theorem dX8_wayTo_0 : decode cX8_wayTo 0 = .ok (.aload_n 0, 1) := by decide +kernel
theorem dX8_wayTo_1 : decode cX8_wayTo 1 = .ok (.aload_n 0, 1) := by decide +kernel
theorem dX8_wayTo_2 : decode cX8_wayTo 2 = .ok (.iload_n 1, 1) := by decide +kernel
theorem dX8_wayTo_3 : decode cX8_wayTo 3 = .ok (.iconst 2, 1) := by decide +kernel
theorem dX8_wayTo_4 : decode cX8_wayTo 4 = .ok (.invokevirtual 145, 3) := by decide +kernel
theorem dX8_wayTo_7 : decode cX8_wayTo 7 = .ok (.iconst 0, 1) := by decide +kernel
theorem dX8_wayTo_8 : decode cX8_wayTo 8 = .ok (.invokevirtual 41, 3) := by decide +kernel
theorem dX8_wayTo_11 : decode cX8_wayTo 11 = .ok (.iload_n 2, 1) := by decide +kernel
theorem dX8_wayTo_12 : decode cX8_wayTo 12 = .ok (.isub, 1) := by decide +kernel
theorem dX8_wayTo_13 : decode cX8_wayTo 13 = .ok (.invokestatic 84, 3) := by decide +kernel
theorem dX8_wayTo_16 : decode cX8_wayTo 16 = .ok (.ireturn, 1) := by decide +kernel
theorem dX8_first_0 : decode cX8_first 0 = .ok (.ldc 49, 2) := by decide +kernel
theorem dX8_first_2 : decode cX8_first 2 = .ok (.istore_n 3, 1) := by decide +kernel
theorem dX8_first_3 : decode cX8_first 3 = .ok (.iconst 0, 1) := by decide +kernel
theorem dX8_first_4 : decode cX8_first 4 = .ok (.istore 4, 2) := by decide +kernel
theorem dX8_first_6 : decode cX8_first 6 = .ok (.iload 4, 2) := by decide +kernel
theorem dX8_first_8 : decode cX8_first 8 = .ok (.aload_n 0, 1) := by decide +kernel
theorem dX8_first_9 : decode cX8_first 9 = .ok (.getfield 7, 3) := by decide +kernel
theorem dX8_first_12 : decode cX8_first 12 = .ok (.iconst 4, 1) := by decide +kernel
theorem dX8_first_13 : decode cX8_first 13 = .ok (.iaload, 1) := by decide +kernel
theorem dX8_first_14 : decode cX8_first 14 = .ok (.if_icmp .ge 146, 3) := by decide +kernel
theorem dX8_first_17 : decode cX8_first 17 = .ok (.iload_n 1, 1) := by decide +kernel
theorem dX8_first_18 : decode cX8_first 18 = .ok (.iload 4, 2) := by decide +kernel
theorem dX8_first_20 : decode cX8_first 20 = .ok (.ishr, 1) := by decide +kernel
theorem dX8_first_21 : decode cX8_first 21 = .ok (.iconst 1, 1) := by decide +kernel
theorem dX8_first_22 : decode cX8_first 22 = .ok (.iand, 1) := by decide +kernel
theorem dX8_first_23 : decode cX8_first 23 = .ok (.iconst 1, 1) := by decide +kernel
theorem dX8_first_24 : decode cX8_first 24 = .ok (.if_icmp .ne 6, 3) := by decide +kernel
theorem dX8_first_27 : decode cX8_first 27 = .ok (.goto 127, 3) := by decide +kernel
theorem dX8_first_30 : decode cX8_first 30 = .ok (.iload_n 3, 1) := by decide +kernel
theorem dX8_first_31 : decode cX8_first 31 = .ok (.ldc 49, 2) := by decide +kernel
theorem dX8_first_33 : decode cX8_first 33 = .ok (.if_icmp .eq 19, 3) := by decide +kernel
theorem dX8_first_36 : decode cX8_first 36 = .ok (.aload_n 0, 1) := by decide +kernel
theorem dX8_first_37 : decode cX8_first 37 = .ok (.iload 4, 2) := by decide +kernel
theorem dX8_first_39 : decode cX8_first 39 = .ok (.iconst 3, 1) := by decide +kernel
theorem dX8_first_40 : decode cX8_first 40 = .ok (.invokevirtual 145, 3) := by decide +kernel
theorem dX8_first_43 : decode cX8_first 43 = .ok (.aload_n 0, 1) := by decide +kernel
theorem dX8_first_44 : decode cX8_first 44 = .ok (.iload_n 3, 1) := by decide +kernel
theorem dX8_first_45 : decode cX8_first 45 = .ok (.iconst 3, 1) := by decide +kernel
theorem dX8_first_46 : decode cX8_first 46 = .ok (.invokevirtual 145, 3) := by decide +kernel
theorem dX8_first_49 : decode cX8_first 49 = .ok (.if_icmp .le 7, 3) := by decide +kernel
theorem dX8_first_52 : decode cX8_first 52 = .ok (.iconst 1, 1) := by decide +kernel
theorem dX8_first_53 : decode cX8_first 53 = .ok (.goto 4, 3) := by decide +kernel
theorem dX8_first_56 : decode cX8_first 56 = .ok (.iconst 0, 1) := by decide +kernel
theorem dX8_first_57 : decode cX8_first 57 = .ok (.istore 5, 2) := by decide +kernel
theorem dX8_first_59 : decode cX8_first 59 = .ok (.iload 5, 2) := by decide +kernel
theorem dX8_first_61 : decode cX8_first 61 = .ok (.ifCond .ne 81, 3) := by decide +kernel
theorem dX8_first_64 : decode cX8_first 64 = .ok (.aload_n 0, 1) := by decide +kernel
theorem dX8_first_65 : decode cX8_first 65 = .ok (.iload 4, 2) := by decide +kernel
theorem dX8_first_67 : decode cX8_first 67 = .ok (.iconst 3, 1) := by decide +kernel
theorem dX8_first_68 : decode cX8_first 68 = .ok (.invokevirtual 145, 3) := by decide +kernel
theorem dX8_first_71 : decode cX8_first 71 = .ok (.aload_n 0, 1) := by decide +kernel
theorem dX8_first_72 : decode cX8_first 72 = .ok (.iload_n 3, 1) := by decide +kernel
theorem dX8_first_73 : decode cX8_first 73 = .ok (.iconst 3, 1) := by decide +kernel
theorem dX8_first_74 : decode cX8_first 74 = .ok (.invokevirtual 145, 3) := by decide +kernel
theorem dX8_first_77 : decode cX8_first 77 = .ok (.if_icmp .ne 65, 3) := by decide +kernel
theorem dX8_first_80 : decode cX8_first 80 = .ok (.aload_n 0, 1) := by decide +kernel
theorem dX8_first_81 : decode cX8_first 81 = .ok (.iload 4, 2) := by decide +kernel
theorem dX8_first_83 : decode cX8_first 83 = .ok (.iload_n 2, 1) := by decide +kernel
theorem dX8_first_84 : decode cX8_first 84 = .ok (.invokevirtual 148, 3) := by decide +kernel
theorem dX8_first_87 : decode cX8_first 87 = .ok (.istore 6, 2) := by decide +kernel
theorem dX8_first_89 : decode cX8_first 89 = .ok (.iload 6, 2) := by decide +kernel
theorem dX8_first_91 : decode cX8_first 91 = .ok (.aload_n 0, 1) := by decide +kernel
theorem dX8_first_92 : decode cX8_first 92 = .ok (.iload_n 3, 1) := by decide +kernel
theorem dX8_first_93 : decode cX8_first 93 = .ok (.iload_n 2, 1) := by decide +kernel
theorem dX8_first_94 : decode cX8_first 94 = .ok (.invokevirtual 148, 3) := by decide +kernel
theorem dX8_first_97 : decode cX8_first 97 = .ok (.if_icmp .eq 22, 3) := by decide +kernel
theorem dX8_first_100 : decode cX8_first 100 = .ok (.iload 6, 2) := by decide +kernel
theorem dX8_first_102 : decode cX8_first 102 = .ok (.aload_n 0, 1) := by decide +kernel
theorem dX8_first_103 : decode cX8_first 103 = .ok (.iload_n 3, 1) := by decide +kernel
theorem dX8_first_104 : decode cX8_first 104 = .ok (.iload_n 2, 1) := by decide +kernel
theorem dX8_first_105 : decode cX8_first 105 = .ok (.invokevirtual 148, 3) := by decide +kernel
theorem dX8_first_108 : decode cX8_first 108 = .ok (.if_icmp .ge 7, 3) := by decide +kernel
theorem dX8_first_111 : decode cX8_first 111 = .ok (.iconst 1, 1) := by decide +kernel
theorem dX8_first_112 : decode cX8_first 112 = .ok (.goto 28, 3) := by decide +kernel
theorem dX8_first_115 : decode cX8_first 115 = .ok (.iconst 0, 1) := by decide +kernel
theorem dX8_first_116 : decode cX8_first 116 = .ok (.goto 24, 3) := by decide +kernel
theorem dX8_first_119 : decode cX8_first 119 = .ok (.aload_n 0, 1) := by decide +kernel
theorem dX8_first_120 : decode cX8_first 120 = .ok (.iload 4, 2) := by decide +kernel
theorem dX8_first_122 : decode cX8_first 122 = .ok (.iconst 0, 1) := by decide +kernel
theorem dX8_first_123 : decode cX8_first 123 = .ok (.invokevirtual 145, 3) := by decide +kernel
theorem dX8_first_126 : decode cX8_first 126 = .ok (.aload_n 0, 1) := by decide +kernel
theorem dX8_first_127 : decode cX8_first 127 = .ok (.iload_n 3, 1) := by decide +kernel
theorem dX8_first_128 : decode cX8_first 128 = .ok (.iconst 0, 1) := by decide +kernel
theorem dX8_first_129 : decode cX8_first 129 = .ok (.invokevirtual 145, 3) := by decide +kernel
theorem dX8_first_132 : decode cX8_first 132 = .ok (.if_icmp .ge 7, 3) := by decide +kernel
theorem dX8_first_135 : decode cX8_first 135 = .ok (.iconst 1, 1) := by decide +kernel
theorem dX8_first_136 : decode cX8_first 136 = .ok (.goto 4, 3) := by decide +kernel
theorem dX8_first_139 : decode cX8_first 139 = .ok (.iconst 0, 1) := by decide +kernel
theorem dX8_first_140 : decode cX8_first 140 = .ok (.istore 5, 2) := by decide +kernel
theorem dX8_first_142 : decode cX8_first 142 = .ok (.iload 5, 2) := by decide +kernel
theorem dX8_first_144 : decode cX8_first 144 = .ok (.ifCond .eq 8, 3) := by decide +kernel
theorem dX8_first_147 : decode cX8_first 147 = .ok (.iload 4, 2) := by decide +kernel
theorem dX8_first_149 : decode cX8_first 149 = .ok (.goto 4, 3) := by decide +kernel
theorem dX8_first_152 : decode cX8_first 152 = .ok (.iload_n 3, 1) := by decide +kernel
theorem dX8_first_153 : decode cX8_first 153 = .ok (.istore_n 3, 1) := by decide +kernel
theorem dX8_first_154 : decode cX8_first 154 = .ok (.iinc 4 1, 3) := by decide +kernel
theorem dX8_first_157 : decode cX8_first 157 = .ok (.goto (-151), 3) := by decide +kernel
theorem dX8_first_160 : decode cX8_first 160 = .ok (.iload_n 3, 1) := by decide +kernel
theorem dX8_first_161 : decode cX8_first 161 = .ok (.ireturn, 1) := by decide +kernel
theorem dX8_request_0 : decode cX8_request 0 = .ok (.aload_n 0, 1) := by decide +kernel
theorem dX8_request_1 : decode cX8_request 1 = .ok (.iload_n 2, 1) := by decide +kernel
theorem dX8_request_2 : decode cX8_request 2 = .ok (.invokevirtual 140, 3) := by decide +kernel
theorem dX8_request_5 : decode cX8_request 5 = .ok (.ifCond .eq 6, 3) := by decide +kernel
theorem dX8_request_8 : decode cX8_request 8 = .ok (.ldc 144, 2) := by decide +kernel
theorem dX8_request_10 : decode cX8_request 10 = .ok (.ireturn, 1) := by decide +kernel
theorem dX8_request_11 : decode cX8_request 11 = .ok (.iload_n 1, 1) := by decide +kernel
theorem dX8_request_12 : decode cX8_request 12 = .ok (.iconst 0, 1) := by decide +kernel
theorem dX8_request_13 : decode cX8_request 13 = .ok (.iconst 2, 1) := by decide +kernel
theorem dX8_request_14 : decode cX8_request 14 = .ok (.invokestatic 37, 3) := by decide +kernel
theorem dX8_request_17 : decode cX8_request 17 = .ok (.ifCond .eq 13, 3) := by decide +kernel
theorem dX8_request_20 : decode cX8_request 20 = .ok (.iload_n 3, 1) := by decide +kernel
theorem dX8_request_21 : decode cX8_request 21 = .ok (.iconst 0, 1) := by decide +kernel
theorem dX8_request_22 : decode cX8_request 22 = .ok (.bipush 9, 2) := by decide +kernel
theorem dX8_request_24 : decode cX8_request 24 = .ok (.invokestatic 37, 3) := by decide +kernel
theorem dX8_request_27 : decode cX8_request 27 = .ok (.ifCond .ne 6, 3) := by decide +kernel
theorem dX8_request_30 : decode cX8_request 30 = .ok (.ldc 50, 2) := by decide +kernel
theorem dX8_request_32 : decode cX8_request 32 = .ok (.ireturn, 1) := by decide +kernel
theorem dX8_request_33 : decode cX8_request 33 = .ok (.aload_n 0, 1) := by decide +kernel
theorem dX8_request_34 : decode cX8_request 34 = .ok (.getfield 7, 3) := by decide +kernel
theorem dX8_request_37 : decode cX8_request 37 = .ok (.iconst 4, 1) := by decide +kernel
theorem dX8_request_38 : decode cX8_request 38 = .ok (.iaload, 1) := by decide +kernel
theorem dX8_request_39 : decode cX8_request 39 = .ok (.bipush 20, 2) := by decide +kernel
theorem dX8_request_41 : decode cX8_request 41 = .ok (.if_icmp .ne 9, 3) := by decide +kernel
theorem dX8_request_44 : decode cX8_request 44 = .ok (.aload_n 0, 1) := by decide +kernel
theorem dX8_request_45 : decode cX8_request 45 = .ok (.iconst 1, 1) := by decide +kernel
theorem dX8_request_46 : decode cX8_request 46 = .ok (.invokevirtual 51, 3) := by decide +kernel
theorem dX8_request_49 : decode cX8_request 49 = .ok (.ireturn, 1) := by decide +kernel
theorem dX8_request_50 : decode cX8_request 50 = .ok (.aload_n 0, 1) := by decide +kernel
theorem dX8_request_51 : decode cX8_request 51 = .ok (.invokevirtual 58, 3) := by decide +kernel
theorem dX8_request_54 : decode cX8_request 54 = .ok (.aload_n 0, 1) := by decide +kernel
theorem dX8_request_55 : decode cX8_request 55 = .ok (.iload_n 1, 1) := by decide +kernel
theorem dX8_request_56 : decode cX8_request 56 = .ok (.iload_n 2, 1) := by decide +kernel
theorem dX8_request_57 : decode cX8_request 57 = .ok (.iload_n 3, 1) := by decide +kernel
theorem dX8_request_58 : decode cX8_request 58 = .ok (.invokevirtual 151, 3) := by decide +kernel
theorem dX8_request_61 : decode cX8_request 61 = .ok (.aload_n 0, 1) := by decide +kernel
theorem dX8_request_62 : decode cX8_request 62 = .ok (.getfield 7, 3) := by decide +kernel
theorem dX8_request_65 : decode cX8_request 65 = .ok (.iconst 5, 1) := by decide +kernel
theorem dX8_request_66 : decode cX8_request 66 = .ok (.iaload, 1) := by decide +kernel
theorem dX8_request_67 : decode cX8_request 67 = .ok (.iconst 1, 1) := by decide +kernel
theorem dX8_request_68 : decode cX8_request 68 = .ok (.isub, 1) := by decide +kernel
theorem dX8_request_69 : decode cX8_request 69 = .ok (.ireturn, 1) := by decide +kernel
theorem dX8_waitingFor_0 : decode cX8_waitingFor 0 = .ok (.iconst 0, 1) := by decide +kernel
theorem dX8_waitingFor_1 : decode cX8_waitingFor 1 = .ok (.istore_n 2, 1) := by decide +kernel
theorem dX8_waitingFor_2 : decode cX8_waitingFor 2 = .ok (.iconst 0, 1) := by decide +kernel
theorem dX8_waitingFor_3 : decode cX8_waitingFor 3 = .ok (.istore_n 3, 1) := by decide +kernel
theorem dX8_waitingFor_4 : decode cX8_waitingFor 4 = .ok (.iload_n 3, 1) := by decide +kernel
theorem dX8_waitingFor_5 : decode cX8_waitingFor 5 = .ok (.aload_n 0, 1) := by decide +kernel
theorem dX8_waitingFor_6 : decode cX8_waitingFor 6 = .ok (.getfield 7, 3) := by decide +kernel
theorem dX8_waitingFor_9 : decode cX8_waitingFor 9 = .ok (.iconst 4, 1) := by decide +kernel
theorem dX8_waitingFor_10 : decode cX8_waitingFor 10 = .ok (.iaload, 1) := by decide +kernel
theorem dX8_waitingFor_11 : decode cX8_waitingFor 11 = .ok (.if_icmp .ge 27, 3) := by decide +kernel
theorem dX8_waitingFor_14 : decode cX8_waitingFor 14 = .ok (.iload_n 2, 1) := by decide +kernel
theorem dX8_waitingFor_15 : decode cX8_waitingFor 15 = .ok (.aload_n 0, 1) := by decide +kernel
theorem dX8_waitingFor_16 : decode cX8_waitingFor 16 = .ok (.iload_n 3, 1) := by decide +kernel
theorem dX8_waitingFor_17 : decode cX8_waitingFor 17 = .ok (.iconst 2, 1) := by decide +kernel
theorem dX8_waitingFor_18 : decode cX8_waitingFor 18 = .ok (.invokevirtual 145, 3) := by decide +kernel
theorem dX8_waitingFor_21 : decode cX8_waitingFor 21 = .ok (.iload_n 1, 1) := by decide +kernel
theorem dX8_waitingFor_22 : decode cX8_waitingFor 22 = .ok (.if_icmp .ne 7, 3) := by decide +kernel
theorem dX8_waitingFor_25 : decode cX8_waitingFor 25 = .ok (.iconst 1, 1) := by decide +kernel
theorem dX8_waitingFor_26 : decode cX8_waitingFor 26 = .ok (.goto 4, 3) := by decide +kernel
theorem dX8_waitingFor_29 : decode cX8_waitingFor 29 = .ok (.iconst 0, 1) := by decide +kernel
theorem dX8_waitingFor_30 : decode cX8_waitingFor 30 = .ok (.iadd, 1) := by decide +kernel
theorem dX8_waitingFor_31 : decode cX8_waitingFor 31 = .ok (.istore_n 2, 1) := by decide +kernel
theorem dX8_waitingFor_32 : decode cX8_waitingFor 32 = .ok (.iinc 3 1, 3) := by decide +kernel
theorem dX8_waitingFor_35 : decode cX8_waitingFor 35 = .ok (.goto (-31), 3) := by decide +kernel
theorem dX8_waitingFor_38 : decode cX8_waitingFor 38 = .ok (.iload_n 2, 1) := by decide +kernel
theorem dX8_waitingFor_39 : decode cX8_waitingFor 39 = .ok (.ireturn, 1) := by decide +kernel
theorem dX8_cancel_0 : decode cX8_cancel 0 = .ok (.aload_n 0, 1) := by decide +kernel
theorem dX8_cancel_1 : decode cX8_cancel 1 = .ok (.iload_n 1, 1) := by decide +kernel
theorem dX8_cancel_2 : decode cX8_cancel 2 = .ok (.invokevirtual 140, 3) := by decide +kernel
theorem dX8_cancel_5 : decode cX8_cancel 5 = .ok (.ifCond .eq 6, 3) := by decide +kernel
theorem dX8_cancel_8 : decode cX8_cancel 8 = .ok (.ldc 144, 2) := by decide +kernel
theorem dX8_cancel_10 : decode cX8_cancel 10 = .ok (.ireturn, 1) := by decide +kernel
theorem dX8_cancel_11 : decode cX8_cancel 11 = .ok (.aload_n 0, 1) := by decide +kernel
theorem dX8_cancel_12 : decode cX8_cancel 12 = .ok (.iload_n 1, 1) := by decide +kernel
theorem dX8_cancel_13 : decode cX8_cancel 13 = .ok (.invokevirtual 154, 3) := by decide +kernel
theorem dX8_cancel_16 : decode cX8_cancel 16 = .ok (.istore_n 2, 1) := by decide +kernel
theorem dX8_cancel_17 : decode cX8_cancel 17 = .ok (.iload_n 2, 1) := by decide +kernel
theorem dX8_cancel_18 : decode cX8_cancel 18 = .ok (.ifCond .ne 6, 3) := by decide +kernel
theorem dX8_cancel_21 : decode cX8_cancel 21 = .ok (.ldc 49, 2) := by decide +kernel
theorem dX8_cancel_23 : decode cX8_cancel 23 = .ok (.ireturn, 1) := by decide +kernel
theorem dX8_cancel_24 : decode cX8_cancel 24 = .ok (.aload_n 0, 1) := by decide +kernel
theorem dX8_cancel_25 : decode cX8_cancel 25 = .ok (.invokevirtual 58, 3) := by decide +kernel
theorem dX8_cancel_28 : decode cX8_cancel 28 = .ok (.aload_n 0, 1) := by decide +kernel
theorem dX8_cancel_29 : decode cX8_cancel 29 = .ok (.getfield 7, 3) := by decide +kernel
theorem dX8_cancel_32 : decode cX8_cancel 32 = .ok (.iconst 4, 1) := by decide +kernel
theorem dX8_cancel_33 : decode cX8_cancel 33 = .ok (.iaload, 1) := by decide +kernel
theorem dX8_cancel_34 : decode cX8_cancel 34 = .ok (.iconst 1, 1) := by decide +kernel
theorem dX8_cancel_35 : decode cX8_cancel 35 = .ok (.isub, 1) := by decide +kernel
theorem dX8_cancel_36 : decode cX8_cancel 36 = .ok (.istore_n 3, 1) := by decide +kernel
theorem dX8_cancel_37 : decode cX8_cancel 37 = .ok (.iload_n 3, 1) := by decide +kernel
theorem dX8_cancel_38 : decode cX8_cancel 38 = .ok (.ifCond .lt 24, 3) := by decide +kernel
theorem dX8_cancel_41 : decode cX8_cancel 41 = .ok (.aload_n 0, 1) := by decide +kernel
theorem dX8_cancel_42 : decode cX8_cancel 42 = .ok (.iload_n 3, 1) := by decide +kernel
theorem dX8_cancel_43 : decode cX8_cancel 43 = .ok (.iconst 2, 1) := by decide +kernel
theorem dX8_cancel_44 : decode cX8_cancel 44 = .ok (.invokevirtual 145, 3) := by decide +kernel
theorem dX8_cancel_47 : decode cX8_cancel 47 = .ok (.iload_n 1, 1) := by decide +kernel
theorem dX8_cancel_48 : decode cX8_cancel 48 = .ok (.if_icmp .ne 8, 3) := by decide +kernel
theorem dX8_cancel_51 : decode cX8_cancel 51 = .ok (.aload_n 0, 1) := by decide +kernel
theorem dX8_cancel_52 : decode cX8_cancel 52 = .ok (.iload_n 3, 1) := by decide +kernel
theorem dX8_cancel_53 : decode cX8_cancel 53 = .ok (.invokevirtual 157, 3) := by decide +kernel
theorem dX8_cancel_56 : decode cX8_cancel 56 = .ok (.iinc 3 (-1), 3) := by decide +kernel
theorem dX8_cancel_59 : decode cX8_cancel 59 = .ok (.goto (-22), 3) := by decide +kernel
theorem dX8_cancel_62 : decode cX8_cancel 62 = .ok (.iload_n 2, 1) := by decide +kernel
theorem dX8_cancel_63 : decode cX8_cancel 63 = .ok (.ireturn, 1) := by decide +kernel
theorem dX8_against_0 : decode cX8_against 0 = .ok (.iload_n 1, 1) := by decide +kernel
theorem dX8_against_1 : decode cX8_against 1 = .ok (.ifCond .ne 17, 3) := by decide +kernel
theorem dX8_against_4 : decode cX8_against 4 = .ok (.aload_n 0, 1) := by decide +kernel
theorem dX8_against_5 : decode cX8_against 5 = .ok (.iload_n 2, 1) := by decide +kernel
theorem dX8_against_6 : decode cX8_against 6 = .ok (.invokevirtual 161, 3) := by decide +kernel
theorem dX8_against_9 : decode cX8_against 9 = .ok (.ifCond .le 7, 3) := by decide +kernel
theorem dX8_against_12 : decode cX8_against 12 = .ok (.iconst 2, 1) := by decide +kernel
theorem dX8_against_13 : decode cX8_against 13 = .ok (.goto 4, 3) := by decide +kernel
theorem dX8_against_16 : decode cX8_against 16 = .ok (.iconst 0, 1) := by decide +kernel
theorem dX8_against_17 : decode cX8_against 17 = .ok (.ireturn, 1) := by decide +kernel
theorem dX8_against_18 : decode cX8_against 18 = .ok (.iload_n 1, 1) := by decide +kernel
theorem dX8_against_19 : decode cX8_against 19 = .ok (.iconst 1, 1) := by decide +kernel
theorem dX8_against_20 : decode cX8_against 20 = .ok (.if_icmp .ne 16, 3) := by decide +kernel
theorem dX8_against_23 : decode cX8_against 23 = .ok (.aload_n 0, 1) := by decide +kernel
theorem dX8_against_24 : decode cX8_against 24 = .ok (.iload_n 2, 1) := by decide +kernel
theorem dX8_against_25 : decode cX8_against 25 = .ok (.bipush 8, 2) := by decide +kernel
theorem dX8_against_27 : decode cX8_against 27 = .ok (.invokevirtual 41, 3) := by decide +kernel
theorem dX8_against_30 : decode cX8_against 30 = .ok (.iconst 1, 1) := by decide +kernel
theorem dX8_against_31 : decode cX8_against 31 = .ok (.if_icmp .ne 5, 3) := by decide +kernel
theorem dX8_against_34 : decode cX8_against 34 = .ok (.iconst 4, 1) := by decide +kernel
theorem dX8_against_35 : decode cX8_against 35 = .ok (.ireturn, 1) := by decide +kernel
theorem dX8_against_36 : decode cX8_against 36 = .ok (.iconst 0, 1) := by decide +kernel
theorem dX8_against_37 : decode cX8_against 37 = .ok (.istore_n 3, 1) := by decide +kernel
theorem dX8_against_38 : decode cX8_against 38 = .ok (.iconst 0, 1) := by decide +kernel
theorem dX8_against_39 : decode cX8_against 39 = .ok (.istore 4, 2) := by decide +kernel
theorem dX8_against_41 : decode cX8_against 41 = .ok (.iload 4, 2) := by decide +kernel
theorem dX8_against_43 : decode cX8_against 43 = .ok (.iconst 3, 1) := by decide +kernel
theorem dX8_against_44 : decode cX8_against 44 = .ok (.if_icmp .ge 85, 3) := by decide +kernel
theorem dX8_against_47 : decode cX8_against 47 = .ok (.iload_n 1, 1) := by decide +kernel
theorem dX8_against_48 : decode cX8_against 48 = .ok (.iconst 1, 1) := by decide +kernel
theorem dX8_against_49 : decode cX8_against 49 = .ok (.if_icmp .ne 31, 3) := by decide +kernel
theorem dX8_against_52 : decode cX8_against 52 = .ok (.aload_n 0, 1) := by decide +kernel
theorem dX8_against_53 : decode cX8_against 53 = .ok (.iload_n 2, 1) := by decide +kernel
theorem dX8_against_54 : decode cX8_against 54 = .ok (.iload 4, 2) := by decide +kernel
theorem dX8_against_56 : decode cX8_against 56 = .ok (.invokevirtual 164, 3) := by decide +kernel
theorem dX8_against_59 : decode cX8_against 59 = .ok (.sipush (-15000), 3) := by decide +kernel
theorem dX8_against_62 : decode cX8_against 62 = .ok (.sipush 15000, 3) := by decide +kernel
theorem dX8_against_65 : decode cX8_against 65 = .ok (.invokestatic 37, 3) := by decide +kernel
theorem dX8_against_68 : decode cX8_against 68 = .ok (.ifCond .eq 7, 3) := by decide +kernel
theorem dX8_against_71 : decode cX8_against 71 = .ok (.iload_n 3, 1) := by decide +kernel
theorem dX8_against_72 : decode cX8_against 72 = .ok (.goto 4, 3) := by decide +kernel
theorem dX8_against_75 : decode cX8_against 75 = .ok (.iconst 3, 1) := by decide +kernel
theorem dX8_against_76 : decode cX8_against 76 = .ok (.istore_n 3, 1) := by decide +kernel
theorem dX8_against_77 : decode cX8_against 77 = .ok (.goto 46, 3) := by decide +kernel
theorem dX8_against_80 : decode cX8_against 80 = .ok (.aload_n 0, 1) := by decide +kernel
theorem dX8_against_81 : decode cX8_against 81 = .ok (.iload_n 2, 1) := by decide +kernel
theorem dX8_against_82 : decode cX8_against 82 = .ok (.iload 4, 2) := by decide +kernel
theorem dX8_against_84 : decode cX8_against 84 = .ok (.iconst 0, 1) := by decide +kernel
theorem dX8_against_85 : decode cX8_against 85 = .ok (.invokevirtual 95, 3) := by decide +kernel
theorem dX8_against_88 : decode cX8_against 88 = .ok (.ifCond .ne 14, 3) := by decide +kernel
theorem dX8_against_91 : decode cX8_against 91 = .ok (.aload_n 0, 1) := by decide +kernel
theorem dX8_against_92 : decode cX8_against 92 = .ok (.iload_n 2, 1) := by decide +kernel
theorem dX8_against_93 : decode cX8_against 93 = .ok (.iload 4, 2) := by decide +kernel
theorem dX8_against_95 : decode cX8_against 95 = .ok (.iconst 1, 1) := by decide +kernel
theorem dX8_against_96 : decode cX8_against 96 = .ok (.invokevirtual 95, 3) := by decide +kernel
theorem dX8_against_99 : decode cX8_against 99 = .ok (.ifCond .eq 8, 3) := by decide +kernel
theorem dX8_against_102 : decode cX8_against 102 = .ok (.iconst 2, 1) := by decide +kernel
theorem dX8_against_103 : decode cX8_against 103 = .ok (.istore_n 3, 1) := by decide +kernel
theorem dX8_against_104 : decode cX8_against 104 = .ok (.goto 19, 3) := by decide +kernel
theorem dX8_against_107 : decode cX8_against 107 = .ok (.aload_n 0, 1) := by decide +kernel
theorem dX8_against_108 : decode cX8_against 108 = .ok (.iload_n 2, 1) := by decide +kernel
theorem dX8_against_109 : decode cX8_against 109 = .ok (.iload 4, 2) := by decide +kernel
theorem dX8_against_111 : decode cX8_against 111 = .ok (.invokevirtual 167, 3) := by decide +kernel
theorem dX8_against_114 : decode cX8_against 114 = .ok (.ifCond .ne 9, 3) := by decide +kernel
theorem dX8_against_117 : decode cX8_against 117 = .ok (.iload_n 3, 1) := by decide +kernel
theorem dX8_against_118 : decode cX8_against 118 = .ok (.ifCond .ne 5, 3) := by decide +kernel
theorem dX8_against_121 : decode cX8_against 121 = .ok (.iconst 5, 1) := by decide +kernel
theorem dX8_against_122 : decode cX8_against 122 = .ok (.istore_n 3, 1) := by decide +kernel
theorem dX8_against_123 : decode cX8_against 123 = .ok (.iinc 4 1, 3) := by decide +kernel
theorem dX8_against_126 : decode cX8_against 126 = .ok (.goto (-85), 3) := by decide +kernel
theorem dX8_against_129 : decode cX8_against 129 = .ok (.iload_n 3, 1) := by decide +kernel
theorem dX8_against_130 : decode cX8_against 130 = .ok (.ireturn, 1) := by decide +kernel
theorem dX8_zeroDue_0 : decode cX8_zeroDue 0 = .ok (.aload_n 0, 1) := by decide +kernel
theorem dX8_zeroDue_1 : decode cX8_zeroDue 1 = .ok (.iload_n 1, 1) := by decide +kernel
theorem dX8_zeroDue_2 : decode cX8_zeroDue 2 = .ok (.iload_n 2, 1) := by decide +kernel
theorem dX8_zeroDue_3 : decode cX8_zeroDue 3 = .ok (.aload_n 0, 1) := by decide +kernel
theorem dX8_zeroDue_4 : decode cX8_zeroDue 4 = .ok (.iload_n 1, 1) := by decide +kernel
theorem dX8_zeroDue_5 : decode cX8_zeroDue 5 = .ok (.bipush 8, 2) := by decide +kernel
theorem dX8_zeroDue_7 : decode cX8_zeroDue 7 = .ok (.invokevirtual 41, 3) := by decide +kernel
theorem dX8_zeroDue_10 : decode cX8_zeroDue 10 = .ok (.invokevirtual 81, 3) := by decide +kernel
theorem dX8_zeroDue_13 : decode cX8_zeroDue 13 = .ok (.aload_n 0, 1) := by decide +kernel
theorem dX8_zeroDue_14 : decode cX8_zeroDue 14 = .ok (.iload_n 1, 1) := by decide +kernel
theorem dX8_zeroDue_15 : decode cX8_zeroDue 15 = .ok (.iload_n 2, 1) := by decide +kernel
theorem dX8_zeroDue_16 : decode cX8_zeroDue 16 = .ok (.iconst 1, 1) := by decide +kernel
theorem dX8_zeroDue_17 : decode cX8_zeroDue 17 = .ok (.invokevirtual 68, 3) := by decide +kernel
theorem dX8_zeroDue_20 : decode cX8_zeroDue 20 = .ok (.iadd, 1) := by decide +kernel
theorem dX8_zeroDue_21 : decode cX8_zeroDue 21 = .ok (.ireturn, 1) := by decide +kernel
theorem dX8_works_0 : decode cX8_works 0 = .ok (.iload_n 1, 1) := by decide +kernel
theorem dX8_works_1 : decode cX8_works 1 = .ok (.ifCond .ne 19, 3) := by decide +kernel
theorem dX8_works_4 : decode cX8_works 4 = .ok (.aload_n 0, 1) := by decide +kernel
theorem dX8_works_5 : decode cX8_works 5 = .ok (.iload_n 2, 1) := by decide +kernel
theorem dX8_works_6 : decode cX8_works 6 = .ok (.invokevirtual 170, 3) := by decide +kernel
theorem dX8_works_9 : decode cX8_works 9 = .ok (.aload_n 0, 1) := by decide +kernel
theorem dX8_works_10 : decode cX8_works 10 = .ok (.invokevirtual 173, 3) := by decide +kernel
theorem dX8_works_13 : decode cX8_works 13 = .ok (.aload_n 0, 1) := by decide +kernel
theorem dX8_works_14 : decode cX8_works 14 = .ok (.invokevirtual 177, 3) := by decide +kernel
theorem dX8_works_17 : decode cX8_works 17 = .ok (.ladd, 1) := by decide +kernel
theorem dX8_works_18 : decode cX8_works 18 = .ok (.l2i, 1) := by decide +kernel
theorem dX8_works_19 : decode cX8_works 19 = .ok (.ireturn, 1) := by decide +kernel
theorem dX8_works_20 : decode cX8_works 20 = .ok (.iconst 0, 1) := by decide +kernel
theorem dX8_works_21 : decode cX8_works 21 = .ok (.istore_n 3, 1) := by decide +kernel
theorem dX8_works_22 : decode cX8_works 22 = .ok (.iconst 0, 1) := by decide +kernel
theorem dX8_works_23 : decode cX8_works 23 = .ok (.istore 4, 2) := by decide +kernel
theorem dX8_works_25 : decode cX8_works 25 = .ok (.iload 4, 2) := by decide +kernel
theorem dX8_works_27 : decode cX8_works 27 = .ok (.iconst 3, 1) := by decide +kernel
theorem dX8_works_28 : decode cX8_works 28 = .ok (.if_icmp .ge 88, 3) := by decide +kernel
theorem dX8_works_31 : decode cX8_works 31 = .ok (.iload_n 1, 1) := by decide +kernel
theorem dX8_works_32 : decode cX8_works 32 = .ok (.iconst 1, 1) := by decide +kernel
theorem dX8_works_33 : decode cX8_works 33 = .ok (.if_icmp .ne 7, 3) := by decide +kernel
theorem dX8_works_36 : decode cX8_works 36 = .ok (.iconst 1, 1) := by decide +kernel
theorem dX8_works_37 : decode cX8_works 37 = .ok (.goto 4, 3) := by decide +kernel
theorem dX8_works_40 : decode cX8_works 40 = .ok (.iconst 2, 1) := by decide +kernel
theorem dX8_works_41 : decode cX8_works 41 = .ok (.istore 5, 2) := by decide +kernel
theorem dX8_works_43 : decode cX8_works 43 = .ok (.iload_n 1, 1) := by decide +kernel
theorem dX8_works_44 : decode cX8_works 44 = .ok (.iconst 1, 1) := by decide +kernel
theorem dX8_works_45 : decode cX8_works 45 = .ok (.if_icmp .ne 13, 3) := by decide +kernel
theorem dX8_works_48 : decode cX8_works 48 = .ok (.aload_n 0, 1) := by decide +kernel
theorem dX8_works_49 : decode cX8_works 49 = .ok (.iload_n 2, 1) := by decide +kernel
theorem dX8_works_50 : decode cX8_works 50 = .ok (.iload 4, 2) := by decide +kernel
theorem dX8_works_52 : decode cX8_works 52 = .ok (.invokevirtual 164, 3) := by decide +kernel
theorem dX8_works_55 : decode cX8_works 55 = .ok (.goto 20, 3) := by decide +kernel
theorem dX8_works_58 : decode cX8_works 58 = .ok (.aload_n 0, 1) := by decide +kernel
theorem dX8_works_59 : decode cX8_works 59 = .ok (.iload_n 2, 1) := by decide +kernel
theorem dX8_works_60 : decode cX8_works 60 = .ok (.invokevirtual 78, 3) := by decide +kernel
theorem dX8_works_63 : decode cX8_works 63 = .ok (.sipush 1000, 3) := by decide +kernel
theorem dX8_works_66 : decode cX8_works 66 = .ok (.imul, 1) := by decide +kernel
theorem dX8_works_67 : decode cX8_works 67 = .ok (.aload_n 0, 1) := by decide +kernel
theorem dX8_works_68 : decode cX8_works 68 = .ok (.iload_n 2, 1) := by decide +kernel
theorem dX8_works_69 : decode cX8_works 69 = .ok (.iload 4, 2) := by decide +kernel
theorem dX8_works_71 : decode cX8_works 71 = .ok (.invokevirtual 167, 3) := by decide +kernel
theorem dX8_works_74 : decode cX8_works 74 = .ok (.idiv, 1) := by decide +kernel
theorem dX8_works_75 : decode cX8_works 75 = .ok (.istore 6, 2) := by decide +kernel
theorem dX8_works_77 : decode cX8_works 77 = .ok (.iload_n 3, 1) := by decide +kernel
theorem dX8_works_78 : decode cX8_works 78 = .ok (.iload 6, 2) := by decide +kernel
theorem dX8_works_80 : decode cX8_works 80 = .ok (.aload_n 0, 1) := by decide +kernel
theorem dX8_works_81 : decode cX8_works 81 = .ok (.iload_n 2, 1) := by decide +kernel
theorem dX8_works_82 : decode cX8_works 82 = .ok (.iload 4, 2) := by decide +kernel
theorem dX8_works_84 : decode cX8_works 84 = .ok (.iload 5, 2) := by decide +kernel
theorem dX8_works_86 : decode cX8_works 86 = .ok (.invokevirtual 68, 3) := by decide +kernel
theorem dX8_works_89 : decode cX8_works 89 = .ok (.if_icmp .eq 7, 3) := by decide +kernel
theorem dX8_works_92 : decode cX8_works 92 = .ok (.iconst 1, 1) := by decide +kernel
theorem dX8_works_93 : decode cX8_works 93 = .ok (.goto 4, 3) := by decide +kernel
theorem dX8_works_96 : decode cX8_works 96 = .ok (.iconst 0, 1) := by decide +kernel
theorem dX8_works_97 : decode cX8_works 97 = .ok (.iadd, 1) := by decide +kernel
theorem dX8_works_98 : decode cX8_works 98 = .ok (.istore_n 3, 1) := by decide +kernel
theorem dX8_works_99 : decode cX8_works 99 = .ok (.aload_n 0, 1) := by decide +kernel
theorem dX8_works_100 : decode cX8_works 100 = .ok (.iload_n 2, 1) := by decide +kernel
theorem dX8_works_101 : decode cX8_works 101 = .ok (.iload 4, 2) := by decide +kernel
theorem dX8_works_103 : decode cX8_works 103 = .ok (.iload 5, 2) := by decide +kernel
theorem dX8_works_105 : decode cX8_works 105 = .ok (.iload 6, 2) := by decide +kernel
theorem dX8_works_107 : decode cX8_works 107 = .ok (.invokevirtual 61, 3) := by decide +kernel
theorem dX8_works_110 : decode cX8_works 110 = .ok (.iinc 4 1, 3) := by decide +kernel
theorem dX8_works_113 : decode cX8_works 113 = .ok (.goto (-88), 3) := by decide +kernel
theorem dX8_works_116 : decode cX8_works 116 = .ok (.iload_n 3, 1) := by decide +kernel
theorem dX8_works_117 : decode cX8_works 117 = .ok (.ireturn, 1) := by decide +kernel
theorem dX8_note_0 : decode cX8_note 0 = .ok (.aload_n 0, 1) := by decide +kernel
theorem dX8_note_1 : decode cX8_note 1 = .ok (.getfield 7, 3) := by decide +kernel
theorem dX8_note_4 : decode cX8_note 4 = .ok (.bipush 8, 2) := by decide +kernel
theorem dX8_note_6 : decode cX8_note 6 = .ok (.iaload, 1) := by decide +kernel
theorem dX8_note_7 : decode cX8_note 7 = .ok (.bipush 12, 2) := by decide +kernel
theorem dX8_note_9 : decode cX8_note 9 = .ok (.if_icmp .ne 49, 3) := by decide +kernel
theorem dX8_note_12 : decode cX8_note 12 = .ok (.sipush 250, 3) := by decide +kernel
theorem dX8_note_15 : decode cX8_note 15 = .ok (.istore 5, 2) := by decide +kernel
theorem dX8_note_17 : decode cX8_note 17 = .ok (.iload 5, 2) := by decide +kernel
theorem dX8_note_19 : decode cX8_note 19 = .ok (.sipush 294, 3) := by decide +kernel
theorem dX8_note_22 : decode cX8_note 22 = .ok (.if_icmp .ge 25, 3) := by decide +kernel
theorem dX8_note_25 : decode cX8_note 25 = .ok (.aload_n 0, 1) := by decide +kernel
theorem dX8_note_26 : decode cX8_note 26 = .ok (.getfield 7, 3) := by decide +kernel
theorem dX8_note_29 : decode cX8_note 29 = .ok (.iload 5, 2) := by decide +kernel
theorem dX8_note_31 : decode cX8_note 31 = .ok (.aload_n 0, 1) := by decide +kernel
theorem dX8_note_32 : decode cX8_note 32 = .ok (.getfield 7, 3) := by decide +kernel
theorem dX8_note_35 : decode cX8_note 35 = .ok (.iload 5, 2) := by decide +kernel
theorem dX8_note_37 : decode cX8_note 37 = .ok (.iconst 4, 1) := by decide +kernel
theorem dX8_note_38 : decode cX8_note 38 = .ok (.iadd, 1) := by decide +kernel
theorem dX8_note_39 : decode cX8_note 39 = .ok (.iaload, 1) := by decide +kernel
theorem dX8_note_40 : decode cX8_note 40 = .ok (.iastore, 1) := by decide +kernel
theorem dX8_note_41 : decode cX8_note 41 = .ok (.iinc 5 1, 3) := by decide +kernel
theorem dX8_note_44 : decode cX8_note 44 = .ok (.goto (-27), 3) := by decide +kernel
theorem dX8_note_47 : decode cX8_note 47 = .ok (.aload_n 0, 1) := by decide +kernel
theorem dX8_note_48 : decode cX8_note 48 = .ok (.getfield 7, 3) := by decide +kernel
theorem dX8_note_51 : decode cX8_note 51 = .ok (.bipush 8, 2) := by decide +kernel
theorem dX8_note_53 : decode cX8_note 53 = .ok (.dup2, 1) := by decide +kernel
theorem dX8_note_54 : decode cX8_note 54 = .ok (.iaload, 1) := by decide +kernel
theorem dX8_note_55 : decode cX8_note 55 = .ok (.iconst 1, 1) := by decide +kernel
theorem dX8_note_56 : decode cX8_note 56 = .ok (.isub, 1) := by decide +kernel
theorem dX8_note_57 : decode cX8_note 57 = .ok (.iastore, 1) := by decide +kernel
theorem dX8_note_58 : decode cX8_note 58 = .ok (.sipush 250, 3) := by decide +kernel
theorem dX8_note_61 : decode cX8_note 61 = .ok (.iconst 4, 1) := by decide +kernel
theorem dX8_note_62 : decode cX8_note 62 = .ok (.aload_n 0, 1) := by decide +kernel
theorem dX8_note_63 : decode cX8_note 63 = .ok (.getfield 7, 3) := by decide +kernel
theorem dX8_note_66 : decode cX8_note 66 = .ok (.bipush 8, 2) := by decide +kernel
theorem dX8_note_68 : decode cX8_note 68 = .ok (.iaload, 1) := by decide +kernel
theorem dX8_note_69 : decode cX8_note 69 = .ok (.imul, 1) := by decide +kernel
theorem dX8_note_70 : decode cX8_note 70 = .ok (.iadd, 1) := by decide +kernel
theorem dX8_note_71 : decode cX8_note 71 = .ok (.istore 5, 2) := by decide +kernel
theorem dX8_note_73 : decode cX8_note 73 = .ok (.aload_n 0, 1) := by decide +kernel
theorem dX8_note_74 : decode cX8_note 74 = .ok (.getfield 7, 3) := by decide +kernel
theorem dX8_note_77 : decode cX8_note 77 = .ok (.iload 5, 2) := by decide +kernel
theorem dX8_note_79 : decode cX8_note 79 = .ok (.iload_n 1, 1) := by decide +kernel
theorem dX8_note_80 : decode cX8_note 80 = .ok (.iastore, 1) := by decide +kernel
theorem dX8_note_81 : decode cX8_note 81 = .ok (.aload_n 0, 1) := by decide +kernel
theorem dX8_note_82 : decode cX8_note 82 = .ok (.getfield 7, 3) := by decide +kernel
theorem dX8_note_85 : decode cX8_note 85 = .ok (.iload 5, 2) := by decide +kernel
theorem dX8_note_87 : decode cX8_note 87 = .ok (.iconst 1, 1) := by decide +kernel
theorem dX8_note_88 : decode cX8_note 88 = .ok (.iadd, 1) := by decide +kernel
theorem dX8_note_89 : decode cX8_note 89 = .ok (.iload_n 2, 1) := by decide +kernel
theorem dX8_note_90 : decode cX8_note 90 = .ok (.iastore, 1) := by decide +kernel
theorem dX8_note_91 : decode cX8_note 91 = .ok (.aload_n 0, 1) := by decide +kernel
theorem dX8_note_92 : decode cX8_note 92 = .ok (.getfield 7, 3) := by decide +kernel
theorem dX8_note_95 : decode cX8_note 95 = .ok (.iload 5, 2) := by decide +kernel
theorem dX8_note_97 : decode cX8_note 97 = .ok (.iconst 2, 1) := by decide +kernel
theorem dX8_note_98 : decode cX8_note 98 = .ok (.iadd, 1) := by decide +kernel
theorem dX8_note_99 : decode cX8_note 99 = .ok (.iload_n 3, 1) := by decide +kernel
theorem dX8_note_100 : decode cX8_note 100 = .ok (.iastore, 1) := by decide +kernel
theorem dX8_note_101 : decode cX8_note 101 = .ok (.aload_n 0, 1) := by decide +kernel
theorem dX8_note_102 : decode cX8_note 102 = .ok (.getfield 7, 3) := by decide +kernel
theorem dX8_note_105 : decode cX8_note 105 = .ok (.iload 5, 2) := by decide +kernel
theorem dX8_note_107 : decode cX8_note 107 = .ok (.iconst 3, 1) := by decide +kernel
theorem dX8_note_108 : decode cX8_note 108 = .ok (.iadd, 1) := by decide +kernel
theorem dX8_note_109 : decode cX8_note 109 = .ok (.iload 4, 2) := by decide +kernel
theorem dX8_note_111 : decode cX8_note 111 = .ok (.iastore, 1) := by decide +kernel
theorem dX8_note_112 : decode cX8_note 112 = .ok (.aload_n 0, 1) := by decide +kernel
theorem dX8_note_113 : decode cX8_note 113 = .ok (.getfield 7, 3) := by decide +kernel
theorem dX8_note_116 : decode cX8_note 116 = .ok (.bipush 8, 2) := by decide +kernel
theorem dX8_note_118 : decode cX8_note 118 = .ok (.dup2, 1) := by decide +kernel
theorem dX8_note_119 : decode cX8_note 119 = .ok (.iaload, 1) := by decide +kernel
theorem dX8_note_120 : decode cX8_note 120 = .ok (.iconst 1, 1) := by decide +kernel
theorem dX8_note_121 : decode cX8_note 121 = .ok (.iadd, 1) := by decide +kernel
theorem dX8_note_122 : decode cX8_note 122 = .ok (.iastore, 1) := by decide +kernel
theorem dX8_note_123 : decode cX8_note 123 = .ok (.return_, 1) := by decide +kernel
theorem dX8_doNext_0 : decode cX8_doNext 0 = .ok (.aload_n 0, 1) := by decide +kernel
theorem dX8_doNext_1 : decode cX8_doNext 1 = .ok (.iconst 0, 1) := by decide +kernel
theorem dX8_doNext_2 : decode cX8_doNext 2 = .ok (.aload_n 0, 1) := by decide +kernel
theorem dX8_doNext_3 : decode cX8_doNext 3 = .ok (.getfield 7, 3) := by decide +kernel
theorem dX8_doNext_6 : decode cX8_doNext 6 = .ok (.iconst 1, 1) := by decide +kernel
theorem dX8_doNext_7 : decode cX8_doNext 7 = .ok (.iaload, 1) := by decide +kernel
theorem dX8_doNext_8 : decode cX8_doNext 8 = .ok (.invokevirtual 180, 3) := by decide +kernel
theorem dX8_doNext_11 : decode cX8_doNext 11 = .ok (.istore_n 1, 1) := by decide +kernel
theorem dX8_doNext_12 : decode cX8_doNext 12 = .ok (.aload_n 0, 1) := by decide +kernel
theorem dX8_doNext_13 : decode cX8_doNext 13 = .ok (.iload_n 1, 1) := by decide +kernel
theorem dX8_doNext_14 : decode cX8_doNext 14 = .ok (.iconst 1, 1) := by decide +kernel
theorem dX8_doNext_15 : decode cX8_doNext 15 = .ok (.invokevirtual 145, 3) := by decide +kernel
theorem dX8_doNext_18 : decode cX8_doNext 18 = .ok (.istore_n 2, 1) := by decide +kernel
theorem dX8_doNext_19 : decode cX8_doNext 19 = .ok (.aload_n 0, 1) := by decide +kernel
theorem dX8_doNext_20 : decode cX8_doNext 20 = .ok (.iload_n 1, 1) := by decide +kernel
theorem dX8_doNext_21 : decode cX8_doNext 21 = .ok (.iconst 2, 1) := by decide +kernel
theorem dX8_doNext_22 : decode cX8_doNext 22 = .ok (.invokevirtual 145, 3) := by decide +kernel
theorem dX8_doNext_25 : decode cX8_doNext 25 = .ok (.istore_n 3, 1) := by decide +kernel
theorem dX8_doNext_26 : decode cX8_doNext 26 = .ok (.aload_n 0, 1) := by decide +kernel
theorem dX8_doNext_27 : decode cX8_doNext 27 = .ok (.getfield 7, 3) := by decide +kernel
theorem dX8_doNext_30 : decode cX8_doNext 30 = .ok (.iconst 2, 1) := by decide +kernel
theorem dX8_doNext_31 : decode cX8_doNext 31 = .ok (.dup2, 1) := by decide +kernel
theorem dX8_doNext_32 : decode cX8_doNext 32 = .ok (.iaload, 1) := by decide +kernel
theorem dX8_doNext_33 : decode cX8_doNext 33 = .ok (.aload_n 0, 1) := by decide +kernel
theorem dX8_doNext_34 : decode cX8_doNext 34 = .ok (.iload_n 1, 1) := by decide +kernel
theorem dX8_doNext_35 : decode cX8_doNext 35 = .ok (.aload_n 0, 1) := by decide +kernel
theorem dX8_doNext_36 : decode cX8_doNext 36 = .ok (.getfield 7, 3) := by decide +kernel
theorem dX8_doNext_39 : decode cX8_doNext 39 = .ok (.iconst 1, 1) := by decide +kernel
theorem dX8_doNext_40 : decode cX8_doNext 40 = .ok (.iaload, 1) := by decide +kernel
theorem dX8_doNext_41 : decode cX8_doNext 41 = .ok (.invokevirtual 148, 3) := by decide +kernel
theorem dX8_doNext_44 : decode cX8_doNext 44 = .ok (.iadd, 1) := by decide +kernel
theorem dX8_doNext_45 : decode cX8_doNext 45 = .ok (.iastore, 1) := by decide +kernel
theorem dX8_doNext_46 : decode cX8_doNext 46 = .ok (.aload_n 0, 1) := by decide +kernel
theorem dX8_doNext_47 : decode cX8_doNext 47 = .ok (.getfield 7, 3) := by decide +kernel
theorem dX8_doNext_50 : decode cX8_doNext 50 = .ok (.iconst 1, 1) := by decide +kernel
theorem dX8_doNext_51 : decode cX8_doNext 51 = .ok (.aload_n 0, 1) := by decide +kernel
theorem dX8_doNext_52 : decode cX8_doNext 52 = .ok (.iload_n 3, 1) := by decide +kernel
theorem dX8_doNext_53 : decode cX8_doNext 53 = .ok (.iconst 0, 1) := by decide +kernel
theorem dX8_doNext_54 : decode cX8_doNext 54 = .ok (.invokevirtual 41, 3) := by decide +kernel
theorem dX8_doNext_57 : decode cX8_doNext 57 = .ok (.iastore, 1) := by decide +kernel
theorem dX8_doNext_58 : decode cX8_doNext 58 = .ok (.aload_n 0, 1) := by decide +kernel
theorem dX8_doNext_59 : decode cX8_doNext 59 = .ok (.iload_n 1, 1) := by decide +kernel
theorem dX8_doNext_60 : decode cX8_doNext 60 = .ok (.invokevirtual 157, 3) := by decide +kernel
theorem dX8_doNext_63 : decode cX8_doNext 63 = .ok (.aload_n 0, 1) := by decide +kernel
theorem dX8_doNext_64 : decode cX8_doNext 64 = .ok (.getfield 7, 3) := by decide +kernel
theorem dX8_doNext_67 : decode cX8_doNext 67 = .ok (.bipush 6, 2) := by decide +kernel
theorem dX8_doNext_69 : decode cX8_doNext 69 = .ok (.dup2, 1) := by decide +kernel
theorem dX8_doNext_70 : decode cX8_doNext 70 = .ok (.iaload, 1) := by decide +kernel
theorem dX8_doNext_71 : decode cX8_doNext 71 = .ok (.iconst 1, 1) := by decide +kernel
theorem dX8_doNext_72 : decode cX8_doNext 72 = .ok (.iadd, 1) := by decide +kernel
theorem dX8_doNext_73 : decode cX8_doNext 73 = .ok (.iastore, 1) := by decide +kernel
theorem dX8_doNext_74 : decode cX8_doNext 74 = .ok (.aload_n 0, 1) := by decide +kernel
theorem dX8_doNext_75 : decode cX8_doNext 75 = .ok (.iload_n 2, 1) := by decide +kernel
theorem dX8_doNext_76 : decode cX8_doNext 76 = .ok (.iload_n 3, 1) := by decide +kernel
theorem dX8_doNext_77 : decode cX8_doNext 77 = .ok (.invokevirtual 183, 3) := by decide +kernel
theorem dX8_doNext_80 : decode cX8_doNext 80 = .ok (.istore 4, 2) := by decide +kernel
theorem dX8_doNext_82 : decode cX8_doNext 82 = .ok (.iload 4, 2) := by decide +kernel
theorem dX8_doNext_84 : decode cX8_doNext 84 = .ok (.ifCond .le 20, 3) := by decide +kernel
theorem dX8_doNext_87 : decode cX8_doNext 87 = .ok (.aload_n 0, 1) := by decide +kernel
theorem dX8_doNext_88 : decode cX8_doNext 88 = .ok (.iload 4, 2) := by decide +kernel
theorem dX8_doNext_90 : decode cX8_doNext 90 = .ok (.putfield 33, 3) := by decide +kernel
theorem dX8_doNext_93 : decode cX8_doNext 93 = .ok (.aload_n 0, 1) := by decide +kernel
theorem dX8_doNext_94 : decode cX8_doNext 94 = .ok (.getfield 7, 3) := by decide +kernel
theorem dX8_doNext_97 : decode cX8_doNext 97 = .ok (.bipush 7, 2) := by decide +kernel
theorem dX8_doNext_99 : decode cX8_doNext 99 = .ok (.dup2, 1) := by decide +kernel
theorem dX8_doNext_100 : decode cX8_doNext 100 = .ok (.iaload, 1) := by decide +kernel
theorem dX8_doNext_101 : decode cX8_doNext 101 = .ok (.iconst 1, 1) := by decide +kernel
theorem dX8_doNext_102 : decode cX8_doNext 102 = .ok (.iadd, 1) := by decide +kernel
theorem dX8_doNext_103 : decode cX8_doNext 103 = .ok (.iastore, 1) := by decide +kernel
theorem dX8_doNext_104 : decode cX8_doNext 104 = .ok (.aload_n 0, 1) := by decide +kernel
theorem dX8_doNext_105 : decode cX8_doNext 105 = .ok (.iload_n 2, 1) := by decide +kernel
theorem dX8_doNext_106 : decode cX8_doNext 106 = .ok (.iload_n 3, 1) := by decide +kernel
theorem dX8_doNext_107 : decode cX8_doNext 107 = .ok (.iload 4, 2) := by decide +kernel
theorem dX8_doNext_109 : decode cX8_doNext 109 = .ok (.ifCond .le 8, 3) := by decide +kernel
theorem dX8_doNext_112 : decode cX8_doNext 112 = .ok (.ldc 49, 2) := by decide +kernel
theorem dX8_doNext_114 : decode cX8_doNext 114 = .ok (.goto 9, 3) := by decide +kernel
theorem dX8_doNext_117 : decode cX8_doNext 117 = .ok (.aload_n 0, 1) := by decide +kernel
theorem dX8_doNext_118 : decode cX8_doNext 118 = .ok (.iload_n 2, 1) := by decide +kernel
theorem dX8_doNext_119 : decode cX8_doNext 119 = .ok (.iload_n 3, 1) := by decide +kernel
theorem dX8_doNext_120 : decode cX8_doNext 120 = .ok (.invokevirtual 186, 3) := by decide +kernel
theorem dX8_doNext_123 : decode cX8_doNext 123 = .ok (.iload 4, 2) := by decide +kernel
theorem dX8_doNext_125 : decode cX8_doNext 125 = .ok (.invokevirtual 189, 3) := by decide +kernel
theorem dX8_doNext_128 : decode cX8_doNext 128 = .ok (.iload 4, 2) := by decide +kernel
theorem dX8_doNext_130 : decode cX8_doNext 130 = .ok (.ifCond .ne 7, 3) := by decide +kernel
theorem dX8_doNext_133 : decode cX8_doNext 133 = .ok (.iconst 1, 1) := by decide +kernel
theorem dX8_doNext_134 : decode cX8_doNext 134 = .ok (.goto 4, 3) := by decide +kernel
theorem dX8_doNext_137 : decode cX8_doNext 137 = .ok (.iconst 0, 1) := by decide +kernel
theorem dX8_doNext_138 : decode cX8_doNext 138 = .ok (.ireturn, 1) := by decide +kernel
theorem dX8_next_0 : decode cX8_next 0 = .ok (.aload_n 0, 1) := by decide +kernel
theorem dX8_next_1 : decode cX8_next 1 = .ok (.getfield 7, 3) := by decide +kernel
theorem dX8_next_4 : decode cX8_next 4 = .ok (.iconst 4, 1) := by decide +kernel
theorem dX8_next_5 : decode cX8_next 5 = .ok (.iaload, 1) := by decide +kernel
theorem dX8_next_6 : decode cX8_next 6 = .ok (.ifCond .ne 6, 3) := by decide +kernel
theorem dX8_next_9 : decode cX8_next 9 = .ok (.ldc 49, 2) := by decide +kernel
theorem dX8_next_11 : decode cX8_next 11 = .ok (.ireturn, 1) := by decide +kernel
theorem dX8_next_12 : decode cX8_next 12 = .ok (.aload_n 0, 1) := by decide +kernel
theorem dX8_next_13 : decode cX8_next 13 = .ok (.invokevirtual 58, 3) := by decide +kernel
theorem dX8_next_16 : decode cX8_next 16 = .ok (.aload_n 0, 1) := by decide +kernel
theorem dX8_next_17 : decode cX8_next 17 = .ok (.aload_n 0, 1) := by decide +kernel
theorem dX8_next_18 : decode cX8_next 18 = .ok (.iconst 0, 1) := by decide +kernel
theorem dX8_next_19 : decode cX8_next 19 = .ok (.aload_n 0, 1) := by decide +kernel
theorem dX8_next_20 : decode cX8_next 20 = .ok (.getfield 7, 3) := by decide +kernel
theorem dX8_next_23 : decode cX8_next 23 = .ok (.iconst 1, 1) := by decide +kernel
theorem dX8_next_24 : decode cX8_next 24 = .ok (.iaload, 1) := by decide +kernel
end
section
theorem dX8_next_25 : decode cX8_next 25 = .ok (.invokevirtual 180, 3) := by decide +kernel
theorem dX8_next_28 : decode cX8_next 28 = .ok (.iconst 0, 1) := by decide +kernel
theorem dX8_next_29 : decode cX8_next 29 = .ok (.invokevirtual 145, 3) := by decide +kernel
theorem dX8_next_32 : decode cX8_next 32 = .ok (.istore_n 1, 1) := by decide +kernel
theorem dX8_next_33 : decode cX8_next 33 = .ok (.aload_n 0, 1) := by decide +kernel
theorem dX8_next_34 : decode cX8_next 34 = .ok (.invokevirtual 192, 3) := by decide +kernel
theorem dX8_next_37 : decode cX8_next 37 = .ok (.istore_n 2, 1) := by decide +kernel
theorem dX8_next_38 : decode cX8_next 38 = .ok (.iload_n 1, 1) := by decide +kernel
theorem dX8_next_39 : decode cX8_next 39 = .ok (.ireturn, 1) := by decide +kernel
theorem dX8_workOff_0 : decode cX8_workOff 0 = .ok (.aload_n 0, 1) := by decide +kernel
theorem dX8_workOff_1 : decode cX8_workOff 1 = .ok (.getfield 7, 3) := by decide +kernel
theorem dX8_workOff_4 : decode cX8_workOff 4 = .ok (.iconst 4, 1) := by decide +kernel
theorem dX8_workOff_5 : decode cX8_workOff 5 = .ok (.iaload, 1) := by decide +kernel
theorem dX8_workOff_6 : decode cX8_workOff 6 = .ok (.ifCond .ne 6, 3) := by decide +kernel
theorem dX8_workOff_9 : decode cX8_workOff 9 = .ok (.ldc 49, 2) := by decide +kernel
theorem dX8_workOff_11 : decode cX8_workOff 11 = .ok (.ireturn, 1) := by decide +kernel
theorem dX8_workOff_12 : decode cX8_workOff 12 = .ok (.aload_n 0, 1) := by decide +kernel
theorem dX8_workOff_13 : decode cX8_workOff 13 = .ok (.invokevirtual 58, 3) := by decide +kernel
theorem dX8_workOff_16 : decode cX8_workOff 16 = .ok (.iconst 0, 1) := by decide +kernel
theorem dX8_workOff_17 : decode cX8_workOff 17 = .ok (.istore_n 1, 1) := by decide +kernel
theorem dX8_workOff_18 : decode cX8_workOff 18 = .ok (.aload_n 0, 1) := by decide +kernel
theorem dX8_workOff_19 : decode cX8_workOff 19 = .ok (.getfield 7, 3) := by decide +kernel
theorem dX8_workOff_22 : decode cX8_workOff 22 = .ok (.iconst 4, 1) := by decide +kernel
theorem dX8_workOff_23 : decode cX8_workOff 23 = .ok (.iaload, 1) := by decide +kernel
theorem dX8_workOff_24 : decode cX8_workOff 24 = .ok (.ifCond .le 21, 3) := by decide +kernel
theorem dX8_workOff_27 : decode cX8_workOff 27 = .ok (.iload_n 1, 1) := by decide +kernel
theorem dX8_workOff_28 : decode cX8_workOff 28 = .ok (.aload_n 0, 1) := by decide +kernel
theorem dX8_workOff_29 : decode cX8_workOff 29 = .ok (.invokevirtual 192, 3) := by decide +kernel
theorem dX8_workOff_32 : decode cX8_workOff 32 = .ok (.ifCond .eq 7, 3) := by decide +kernel
theorem dX8_workOff_35 : decode cX8_workOff 35 = .ok (.iconst 1, 1) := by decide +kernel
theorem dX8_workOff_36 : decode cX8_workOff 36 = .ok (.goto 4, 3) := by decide +kernel
theorem dX8_workOff_39 : decode cX8_workOff 39 = .ok (.iconst 0, 1) := by decide +kernel
theorem dX8_workOff_40 : decode cX8_workOff 40 = .ok (.iadd, 1) := by decide +kernel
theorem dX8_workOff_41 : decode cX8_workOff 41 = .ok (.istore_n 1, 1) := by decide +kernel
theorem dX8_workOff_42 : decode cX8_workOff 42 = .ok (.goto (-24), 3) := by decide +kernel
theorem dX8_workOff_45 : decode cX8_workOff 45 = .ok (.iload_n 1, 1) := by decide +kernel
theorem dX8_workOff_46 : decode cX8_workOff 46 = .ok (.ireturn, 1) := by decide +kernel
theorem dX8_type_0 : decode cX8_type 0 = .ok (.aload_n 0, 1) := by decide +kernel
theorem dX8_type_1 : decode cX8_type 1 = .ok (.getfield 196, 3) := by decide +kernel
theorem dX8_type_4 : decode cX8_type 4 = .ok (.bipush 60, 2) := by decide +kernel
theorem dX8_type_6 : decode cX8_type 6 = .ok (.if_icmp .ne 9, 3) := by decide +kernel
theorem dX8_type_9 : decode cX8_type 9 = .ok (.aload_n 0, 1) := by decide +kernel
theorem dX8_type_10 : decode cX8_type 10 = .ok (.iconst 1, 1) := by decide +kernel
theorem dX8_type_11 : decode cX8_type 11 = .ok (.invokevirtual 51, 3) := by decide +kernel
theorem dX8_type_14 : decode cX8_type 14 = .ok (.ireturn, 1) := by decide +kernel
theorem dX8_type_15 : decode cX8_type 15 = .ok (.aload_n 0, 1) := by decide +kernel
theorem dX8_type_16 : decode cX8_type 16 = .ok (.getfield 22, 3) := by decide +kernel
theorem dX8_type_19 : decode cX8_type 19 = .ok (.aload_n 0, 1) := by decide +kernel
theorem dX8_type_20 : decode cX8_type 20 = .ok (.getfield 196, 3) := by decide +kernel
theorem dX8_type_23 : decode cX8_type 23 = .ok (.iload_n 1, 1) := by decide +kernel
theorem dX8_type_24 : decode cX8_type 24 = .ok (.castore, 1) := by decide +kernel
theorem dX8_type_25 : decode cX8_type 25 = .ok (.aload_n 0, 1) := by decide +kernel
theorem dX8_type_26 : decode cX8_type 26 = .ok (.dup, 1) := by decide +kernel
theorem dX8_type_27 : decode cX8_type 27 = .ok (.getfield 196, 3) := by decide +kernel
theorem dX8_type_30 : decode cX8_type 30 = .ok (.iconst 1, 1) := by decide +kernel
theorem dX8_type_31 : decode cX8_type 31 = .ok (.iadd, 1) := by decide +kernel
theorem dX8_type_32 : decode cX8_type 32 = .ok (.putfield 196, 3) := by decide +kernel
theorem dX8_type_35 : decode cX8_type 35 = .ok (.aload_n 0, 1) := by decide +kernel
theorem dX8_type_36 : decode cX8_type 36 = .ok (.getfield 196, 3) := by decide +kernel
theorem dX8_type_39 : decode cX8_type 39 = .ok (.ireturn, 1) := by decide +kernel
theorem dX8_clearText_0 : decode cX8_clearText 0 = .ok (.aload_n 0, 1) := by decide +kernel
theorem dX8_clearText_1 : decode cX8_clearText 1 = .ok (.getfield 196, 3) := by decide +kernel
theorem dX8_clearText_4 : decode cX8_clearText 4 = .ok (.istore_n 1, 1) := by decide +kernel
theorem dX8_clearText_5 : decode cX8_clearText 5 = .ok (.aload_n 0, 1) := by decide +kernel
theorem dX8_clearText_6 : decode cX8_clearText 6 = .ok (.iconst 0, 1) := by decide +kernel
theorem dX8_clearText_7 : decode cX8_clearText 7 = .ok (.putfield 196, 3) := by decide +kernel
theorem dX8_clearText_10 : decode cX8_clearText 10 = .ok (.iload_n 1, 1) := by decide +kernel
theorem dX8_clearText_11 : decode cX8_clearText 11 = .ok (.ireturn, 1) := by decide +kernel
theorem dX8_isSign_0 : decode cX8_isSign 0 = .ok (.aload_n 0, 1) := by decide +kernel
theorem dX8_isSign_1 : decode cX8_isSign 1 = .ok (.getfield 199, 3) := by decide +kernel
theorem dX8_isSign_4 : decode cX8_isSign 4 = .ok (.aload_n 0, 1) := by decide +kernel
theorem dX8_isSign_5 : decode cX8_isSign 5 = .ok (.getfield 196, 3) := by decide +kernel
theorem dX8_isSign_8 : decode cX8_isSign 8 = .ok (.if_icmp .ge 20, 3) := by decide +kernel
theorem dX8_isSign_11 : decode cX8_isSign 11 = .ok (.aload_n 0, 1) := by decide +kernel
theorem dX8_isSign_12 : decode cX8_isSign 12 = .ok (.getfield 22, 3) := by decide +kernel
theorem dX8_isSign_15 : decode cX8_isSign 15 = .ok (.aload_n 0, 1) := by decide +kernel
theorem dX8_isSign_16 : decode cX8_isSign 16 = .ok (.getfield 199, 3) := by decide +kernel
theorem dX8_isSign_19 : decode cX8_isSign 19 = .ok (.caload, 1) := by decide +kernel
theorem dX8_isSign_20 : decode cX8_isSign 20 = .ok (.iload_n 1, 1) := by decide +kernel
theorem dX8_isSign_21 : decode cX8_isSign 21 = .ok (.if_icmp .ne 7, 3) := by decide +kernel
theorem dX8_isSign_24 : decode cX8_isSign 24 = .ok (.iconst 1, 1) := by decide +kernel
theorem dX8_isSign_25 : decode cX8_isSign 25 = .ok (.goto 4, 3) := by decide +kernel
theorem dX8_isSign_28 : decode cX8_isSign 28 = .ok (.iconst 0, 1) := by decide +kernel
theorem dX8_isSign_29 : decode cX8_isSign 29 = .ok (.ireturn, 1) := by decide +kernel
theorem dX8_digit_0 : decode cX8_digit 0 = .ok (.aload_n 0, 1) := by decide +kernel
theorem dX8_digit_1 : decode cX8_digit 1 = .ok (.getfield 199, 3) := by decide +kernel
theorem dX8_digit_4 : decode cX8_digit 4 = .ok (.aload_n 0, 1) := by decide +kernel
theorem dX8_digit_5 : decode cX8_digit 5 = .ok (.getfield 196, 3) := by decide +kernel
theorem dX8_digit_8 : decode cX8_digit 8 = .ok (.if_icmp .ge 24, 3) := by decide +kernel
theorem dX8_digit_11 : decode cX8_digit 11 = .ok (.aload_n 0, 1) := by decide +kernel
theorem dX8_digit_12 : decode cX8_digit 12 = .ok (.getfield 22, 3) := by decide +kernel
theorem dX8_digit_15 : decode cX8_digit 15 = .ok (.aload_n 0, 1) := by decide +kernel
theorem dX8_digit_16 : decode cX8_digit 16 = .ok (.getfield 199, 3) := by decide +kernel
theorem dX8_digit_19 : decode cX8_digit 19 = .ok (.caload, 1) := by decide +kernel
theorem dX8_digit_20 : decode cX8_digit 20 = .ok (.bipush 48, 2) := by decide +kernel
theorem dX8_digit_22 : decode cX8_digit 22 = .ok (.bipush 48, 2) := by decide +kernel
theorem dX8_digit_24 : decode cX8_digit 24 = .ok (.iload_n 1, 1) := by decide +kernel
theorem dX8_digit_25 : decode cX8_digit 25 = .ok (.iadd, 1) := by decide +kernel
theorem dX8_digit_26 : decode cX8_digit 26 = .ok (.invokestatic 37, 3) := by decide +kernel
theorem dX8_digit_29 : decode cX8_digit 29 = .ok (.ifCond .ne 6, 3) := by decide +kernel
theorem dX8_digit_32 : decode cX8_digit 32 = .ok (.ldc 49, 2) := by decide +kernel
theorem dX8_digit_34 : decode cX8_digit 34 = .ok (.ireturn, 1) := by decide +kernel
theorem dX8_digit_35 : decode cX8_digit 35 = .ok (.aload_n 0, 1) := by decide +kernel
theorem dX8_digit_36 : decode cX8_digit 36 = .ok (.dup, 1) := by decide +kernel
theorem dX8_digit_37 : decode cX8_digit 37 = .ok (.getfield 199, 3) := by decide +kernel
theorem dX8_digit_40 : decode cX8_digit 40 = .ok (.iconst 1, 1) := by decide +kernel
theorem dX8_digit_41 : decode cX8_digit 41 = .ok (.iadd, 1) := by decide +kernel
theorem dX8_digit_42 : decode cX8_digit 42 = .ok (.putfield 199, 3) := by decide +kernel
theorem dX8_digit_45 : decode cX8_digit 45 = .ok (.aload_n 0, 1) := by decide +kernel
theorem dX8_digit_46 : decode cX8_digit 46 = .ok (.getfield 22, 3) := by decide +kernel
theorem dX8_digit_49 : decode cX8_digit 49 = .ok (.aload_n 0, 1) := by decide +kernel
theorem dX8_digit_50 : decode cX8_digit 50 = .ok (.getfield 199, 3) := by decide +kernel
theorem dX8_digit_53 : decode cX8_digit 53 = .ok (.iconst 1, 1) := by decide +kernel
theorem dX8_digit_54 : decode cX8_digit 54 = .ok (.isub, 1) := by decide +kernel
theorem dX8_digit_55 : decode cX8_digit 55 = .ok (.caload, 1) := by decide +kernel
theorem dX8_digit_56 : decode cX8_digit 56 = .ok (.bipush 48, 2) := by decide +kernel
theorem dX8_digit_58 : decode cX8_digit 58 = .ok (.isub, 1) := by decide +kernel
theorem dX8_digit_59 : decode cX8_digit 59 = .ok (.ireturn, 1) := by decide +kernel
theorem dX8_readsJob_0 : decode cX8_readsJob 0 = .ok (.iconst 3, 1) := by decide +kernel
theorem dX8_readsJob_1 : decode cX8_readsJob 1 = .ok (.aload_n 0, 1) := by decide +kernel
theorem dX8_readsJob_2 : decode cX8_readsJob 2 = .ok (.getfield 202, 3) := by decide +kernel
theorem dX8_readsJob_5 : decode cX8_readsJob 5 = .ok (.imul, 1) := by decide +kernel
theorem dX8_readsJob_6 : decode cX8_readsJob 6 = .ok (.istore_n 1, 1) := by decide +kernel
theorem dX8_readsJob_7 : decode cX8_readsJob 7 = .ok (.aload_n 0, 1) := by decide +kernel
theorem dX8_readsJob_8 : decode cX8_readsJob 8 = .ok (.getfield 26, 3) := by decide +kernel
theorem dX8_readsJob_11 : decode cX8_readsJob 11 = .ok (.iload_n 1, 1) := by decide +kernel
theorem dX8_readsJob_12 : decode cX8_readsJob 12 = .ok (.aload_n 0, 1) := by decide +kernel
theorem dX8_readsJob_13 : decode cX8_readsJob 13 = .ok (.bipush 114, 2) := by decide +kernel
theorem dX8_readsJob_15 : decode cX8_readsJob 15 = .ok (.invokevirtual 205, 3) := by decide +kernel
theorem dX8_readsJob_18 : decode cX8_readsJob 18 = .ok (.ifCond .eq 7, 3) := by decide +kernel
theorem dX8_readsJob_21 : decode cX8_readsJob 21 = .ok (.iconst 0, 1) := by decide +kernel
theorem dX8_readsJob_22 : decode cX8_readsJob 22 = .ok (.goto 31, 3) := by decide +kernel
theorem dX8_readsJob_25 : decode cX8_readsJob 25 = .ok (.aload_n 0, 1) := by decide +kernel
theorem dX8_readsJob_26 : decode cX8_readsJob 26 = .ok (.bipush 98, 2) := by decide +kernel
theorem dX8_readsJob_28 : decode cX8_readsJob 28 = .ok (.invokevirtual 205, 3) := by decide +kernel
theorem dX8_readsJob_31 : decode cX8_readsJob 31 = .ok (.ifCond .eq 7, 3) := by decide +kernel
theorem dX8_readsJob_34 : decode cX8_readsJob 34 = .ok (.iconst 1, 1) := by decide +kernel
theorem dX8_readsJob_35 : decode cX8_readsJob 35 = .ok (.goto 18, 3) := by decide +kernel
theorem dX8_readsJob_38 : decode cX8_readsJob 38 = .ok (.aload_n 0, 1) := by decide +kernel
theorem dX8_readsJob_39 : decode cX8_readsJob 39 = .ok (.bipush 115, 2) := by decide +kernel
theorem dX8_readsJob_41 : decode cX8_readsJob 41 = .ok (.invokevirtual 205, 3) := by decide +kernel
theorem dX8_readsJob_44 : decode cX8_readsJob 44 = .ok (.ifCond .eq 7, 3) := by decide +kernel
theorem dX8_readsJob_47 : decode cX8_readsJob 47 = .ok (.iconst 2, 1) := by decide +kernel
theorem dX8_readsJob_48 : decode cX8_readsJob 48 = .ok (.goto 5, 3) := by decide +kernel
theorem dX8_readsJob_51 : decode cX8_readsJob 51 = .ok (.ldc 49, 2) := by decide +kernel
theorem dX8_readsJob_53 : decode cX8_readsJob 53 = .ok (.iastore, 1) := by decide +kernel
theorem dX8_readsJob_54 : decode cX8_readsJob 54 = .ok (.aload_n 0, 1) := by decide +kernel
theorem dX8_readsJob_55 : decode cX8_readsJob 55 = .ok (.getfield 26, 3) := by decide +kernel
theorem dX8_readsJob_58 : decode cX8_readsJob 58 = .ok (.iload_n 1, 1) := by decide +kernel
theorem dX8_readsJob_59 : decode cX8_readsJob 59 = .ok (.iaload, 1) := by decide +kernel
theorem dX8_readsJob_60 : decode cX8_readsJob 60 = .ok (.ldc 49, 2) := by decide +kernel
theorem dX8_readsJob_62 : decode cX8_readsJob 62 = .ok (.if_icmp .ne 5, 3) := by decide +kernel
theorem dX8_readsJob_65 : decode cX8_readsJob 65 = .ok (.iconst 0, 1) := by decide +kernel
theorem dX8_readsJob_66 : decode cX8_readsJob 66 = .ok (.ireturn, 1) := by decide +kernel
theorem dX8_readsJob_67 : decode cX8_readsJob 67 = .ok (.aload_n 0, 1) := by decide +kernel
theorem dX8_readsJob_68 : decode cX8_readsJob 68 = .ok (.dup, 1) := by decide +kernel
theorem dX8_readsJob_69 : decode cX8_readsJob 69 = .ok (.getfield 199, 3) := by decide +kernel
theorem dX8_readsJob_72 : decode cX8_readsJob 72 = .ok (.iconst 1, 1) := by decide +kernel
theorem dX8_readsJob_73 : decode cX8_readsJob 73 = .ok (.iadd, 1) := by decide +kernel
theorem dX8_readsJob_74 : decode cX8_readsJob 74 = .ok (.putfield 199, 3) := by decide +kernel
theorem dX8_readsJob_77 : decode cX8_readsJob 77 = .ok (.aload_n 0, 1) := by decide +kernel
theorem dX8_readsJob_78 : decode cX8_readsJob 78 = .ok (.getfield 26, 3) := by decide +kernel
theorem dX8_readsJob_81 : decode cX8_readsJob 81 = .ok (.iload_n 1, 1) := by decide +kernel
theorem dX8_readsJob_82 : decode cX8_readsJob 82 = .ok (.iconst 1, 1) := by decide +kernel
theorem dX8_readsJob_83 : decode cX8_readsJob 83 = .ok (.iadd, 1) := by decide +kernel
theorem dX8_readsJob_84 : decode cX8_readsJob 84 = .ok (.aload_n 0, 1) := by decide +kernel
theorem dX8_readsJob_85 : decode cX8_readsJob 85 = .ok (.bipush 7, 2) := by decide +kernel
theorem dX8_readsJob_87 : decode cX8_readsJob 87 = .ok (.invokevirtual 209, 3) := by decide +kernel
theorem dX8_readsJob_90 : decode cX8_readsJob 90 = .ok (.iastore, 1) := by decide +kernel
theorem dX8_readsJob_91 : decode cX8_readsJob 91 = .ok (.aload_n 0, 1) := by decide +kernel
theorem dX8_readsJob_92 : decode cX8_readsJob 92 = .ok (.getfield 26, 3) := by decide +kernel
theorem dX8_readsJob_95 : decode cX8_readsJob 95 = .ok (.iload_n 1, 1) := by decide +kernel
theorem dX8_readsJob_96 : decode cX8_readsJob 96 = .ok (.iconst 1, 1) := by decide +kernel
theorem dX8_readsJob_97 : decode cX8_readsJob 97 = .ok (.iadd, 1) := by decide +kernel
theorem dX8_readsJob_98 : decode cX8_readsJob 98 = .ok (.iaload, 1) := by decide +kernel
theorem dX8_readsJob_99 : decode cX8_readsJob 99 = .ok (.ldc 49, 2) := by decide +kernel
theorem dX8_readsJob_101 : decode cX8_readsJob 101 = .ok (.if_icmp .ne 5, 3) := by decide +kernel
theorem dX8_readsJob_104 : decode cX8_readsJob 104 = .ok (.iconst 0, 1) := by decide +kernel
theorem dX8_readsJob_105 : decode cX8_readsJob 105 = .ok (.ireturn, 1) := by decide +kernel
theorem dX8_readsJob_106 : decode cX8_readsJob 106 = .ok (.aload_n 0, 1) := by decide +kernel
theorem dX8_readsJob_107 : decode cX8_readsJob 107 = .ok (.getfield 26, 3) := by decide +kernel
theorem dX8_readsJob_110 : decode cX8_readsJob 110 = .ok (.iload_n 1, 1) := by decide +kernel
theorem dX8_readsJob_111 : decode cX8_readsJob 111 = .ok (.iconst 2, 1) := by decide +kernel
theorem dX8_readsJob_112 : decode cX8_readsJob 112 = .ok (.iadd, 1) := by decide +kernel
theorem dX8_readsJob_113 : decode cX8_readsJob 113 = .ok (.iconst 5, 1) := by decide +kernel
theorem dX8_readsJob_114 : decode cX8_readsJob 114 = .ok (.iastore, 1) := by decide +kernel
theorem dX8_readsJob_115 : decode cX8_readsJob 115 = .ok (.aload_n 0, 1) := by decide +kernel
theorem dX8_readsJob_116 : decode cX8_readsJob 116 = .ok (.bipush 33, 2) := by decide +kernel
theorem dX8_readsJob_118 : decode cX8_readsJob 118 = .ok (.invokevirtual 205, 3) := by decide +kernel
theorem dX8_readsJob_121 : decode cX8_readsJob 121 = .ok (.ifCond .eq 42, 3) := by decide +kernel
theorem dX8_readsJob_124 : decode cX8_readsJob 124 = .ok (.aload_n 0, 1) := by decide +kernel
theorem dX8_readsJob_125 : decode cX8_readsJob 125 = .ok (.dup, 1) := by decide +kernel
theorem dX8_readsJob_126 : decode cX8_readsJob 126 = .ok (.getfield 199, 3) := by decide +kernel
theorem dX8_readsJob_129 : decode cX8_readsJob 129 = .ok (.iconst 1, 1) := by decide +kernel
theorem dX8_readsJob_130 : decode cX8_readsJob 130 = .ok (.iadd, 1) := by decide +kernel
theorem dX8_readsJob_131 : decode cX8_readsJob 131 = .ok (.putfield 199, 3) := by decide +kernel
theorem dX8_readsJob_134 : decode cX8_readsJob 134 = .ok (.aload_n 0, 1) := by decide +kernel
theorem dX8_readsJob_135 : decode cX8_readsJob 135 = .ok (.getfield 26, 3) := by decide +kernel
theorem dX8_readsJob_138 : decode cX8_readsJob 138 = .ok (.iload_n 1, 1) := by decide +kernel
theorem dX8_readsJob_139 : decode cX8_readsJob 139 = .ok (.iconst 2, 1) := by decide +kernel
theorem dX8_readsJob_140 : decode cX8_readsJob 140 = .ok (.iadd, 1) := by decide +kernel
theorem dX8_readsJob_141 : decode cX8_readsJob 141 = .ok (.aload_n 0, 1) := by decide +kernel
theorem dX8_readsJob_142 : decode cX8_readsJob 142 = .ok (.bipush 9, 2) := by decide +kernel
theorem dX8_readsJob_144 : decode cX8_readsJob 144 = .ok (.invokevirtual 209, 3) := by decide +kernel
theorem dX8_readsJob_147 : decode cX8_readsJob 147 = .ok (.iastore, 1) := by decide +kernel
theorem dX8_readsJob_148 : decode cX8_readsJob 148 = .ok (.aload_n 0, 1) := by decide +kernel
theorem dX8_readsJob_149 : decode cX8_readsJob 149 = .ok (.getfield 26, 3) := by decide +kernel
theorem dX8_readsJob_152 : decode cX8_readsJob 152 = .ok (.iload_n 1, 1) := by decide +kernel
theorem dX8_readsJob_153 : decode cX8_readsJob 153 = .ok (.iconst 2, 1) := by decide +kernel
theorem dX8_readsJob_154 : decode cX8_readsJob 154 = .ok (.iadd, 1) := by decide +kernel
theorem dX8_readsJob_155 : decode cX8_readsJob 155 = .ok (.iaload, 1) := by decide +kernel
theorem dX8_readsJob_156 : decode cX8_readsJob 156 = .ok (.ldc 49, 2) := by decide +kernel
theorem dX8_readsJob_158 : decode cX8_readsJob 158 = .ok (.if_icmp .ne 5, 3) := by decide +kernel
theorem dX8_readsJob_161 : decode cX8_readsJob 161 = .ok (.iconst 0, 1) := by decide +kernel
theorem dX8_readsJob_162 : decode cX8_readsJob 162 = .ok (.ireturn, 1) := by decide +kernel
theorem dX8_readsJob_163 : decode cX8_readsJob 163 = .ok (.aload_n 0, 1) := by decide +kernel
theorem dX8_readsJob_164 : decode cX8_readsJob 164 = .ok (.dup, 1) := by decide +kernel
theorem dX8_readsJob_165 : decode cX8_readsJob 165 = .ok (.getfield 202, 3) := by decide +kernel
theorem dX8_readsJob_168 : decode cX8_readsJob 168 = .ok (.iconst 1, 1) := by decide +kernel
theorem dX8_readsJob_169 : decode cX8_readsJob 169 = .ok (.iadd, 1) := by decide +kernel
theorem dX8_readsJob_170 : decode cX8_readsJob 170 = .ok (.putfield 202, 3) := by decide +kernel
theorem dX8_readsJob_173 : decode cX8_readsJob 173 = .ok (.aload_n 0, 1) := by decide +kernel
theorem dX8_readsJob_174 : decode cX8_readsJob 174 = .ok (.getfield 199, 3) := by decide +kernel
theorem dX8_readsJob_177 : decode cX8_readsJob 177 = .ok (.aload_n 0, 1) := by decide +kernel
theorem dX8_readsJob_178 : decode cX8_readsJob 178 = .ok (.getfield 196, 3) := by decide +kernel
theorem dX8_readsJob_181 : decode cX8_readsJob 181 = .ok (.if_icmp .eq 17, 3) := by decide +kernel
theorem dX8_readsJob_184 : decode cX8_readsJob 184 = .ok (.aload_n 0, 1) := by decide +kernel
theorem dX8_readsJob_185 : decode cX8_readsJob 185 = .ok (.getfield 22, 3) := by decide +kernel
theorem dX8_readsJob_188 : decode cX8_readsJob 188 = .ok (.aload_n 0, 1) := by decide +kernel
theorem dX8_readsJob_189 : decode cX8_readsJob 189 = .ok (.getfield 199, 3) := by decide +kernel
theorem dX8_readsJob_192 : decode cX8_readsJob 192 = .ok (.caload, 1) := by decide +kernel
theorem dX8_readsJob_193 : decode cX8_readsJob 193 = .ok (.bipush 44, 2) := by decide +kernel
theorem dX8_readsJob_195 : decode cX8_readsJob 195 = .ok (.if_icmp .ne 7, 3) := by decide +kernel
theorem dX8_readsJob_198 : decode cX8_readsJob 198 = .ok (.iconst 1, 1) := by decide +kernel
theorem dX8_readsJob_199 : decode cX8_readsJob 199 = .ok (.goto 4, 3) := by decide +kernel
theorem dX8_readsJob_202 : decode cX8_readsJob 202 = .ok (.iconst 0, 1) := by decide +kernel
theorem dX8_readsJob_203 : decode cX8_readsJob 203 = .ok (.ireturn, 1) := by decide +kernel
theorem dX8_readJobs_0 : decode cX8_readJobs 0 = .ok (.aload_n 0, 1) := by decide +kernel
theorem dX8_readJobs_1 : decode cX8_readJobs 1 = .ok (.iconst 0, 1) := by decide +kernel
theorem dX8_readJobs_2 : decode cX8_readJobs 2 = .ok (.putfield 199, 3) := by decide +kernel
theorem dX8_readJobs_5 : decode cX8_readJobs 5 = .ok (.aload_n 0, 1) := by decide +kernel
theorem dX8_readJobs_6 : decode cX8_readJobs 6 = .ok (.iconst 0, 1) := by decide +kernel
theorem dX8_readJobs_7 : decode cX8_readJobs 7 = .ok (.putfield 202, 3) := by decide +kernel
theorem dX8_readJobs_10 : decode cX8_readJobs 10 = .ok (.iconst 1, 1) := by decide +kernel
theorem dX8_readJobs_11 : decode cX8_readJobs 11 = .ok (.istore_n 1, 1) := by decide +kernel
theorem dX8_readJobs_12 : decode cX8_readJobs 12 = .ok (.iload_n 1, 1) := by decide +kernel
theorem dX8_readJobs_13 : decode cX8_readJobs 13 = .ok (.ifCond .eq 56, 3) := by decide +kernel
theorem dX8_readJobs_16 : decode cX8_readJobs 16 = .ok (.aload_n 0, 1) := by decide +kernel
theorem dX8_readJobs_17 : decode cX8_readJobs 17 = .ok (.invokevirtual 212, 3) := by decide +kernel
theorem dX8_readJobs_20 : decode cX8_readJobs 20 = .ok (.ifCond .ne 11, 3) := by decide +kernel
theorem dX8_readJobs_23 : decode cX8_readJobs 23 = .ok (.bipush (-100), 2) := by decide +kernel
theorem dX8_readJobs_25 : decode cX8_readJobs 25 = .ok (.aload_n 0, 1) := by decide +kernel
theorem dX8_readJobs_26 : decode cX8_readJobs 26 = .ok (.getfield 199, 3) := by decide +kernel
theorem dX8_readJobs_29 : decode cX8_readJobs 29 = .ok (.isub, 1) := by decide +kernel
theorem dX8_readJobs_30 : decode cX8_readJobs 30 = .ok (.ireturn, 1) := by decide +kernel
theorem dX8_readJobs_31 : decode cX8_readJobs 31 = .ok (.aload_n 0, 1) := by decide +kernel
theorem dX8_readJobs_32 : decode cX8_readJobs 32 = .ok (.getfield 199, 3) := by decide +kernel
theorem dX8_readJobs_35 : decode cX8_readJobs 35 = .ok (.aload_n 0, 1) := by decide +kernel
theorem dX8_readJobs_36 : decode cX8_readJobs 36 = .ok (.getfield 196, 3) := by decide +kernel
theorem dX8_readJobs_39 : decode cX8_readJobs 39 = .ok (.if_icmp .ge 7, 3) := by decide +kernel
theorem dX8_readJobs_42 : decode cX8_readJobs 42 = .ok (.iconst 1, 1) := by decide +kernel
theorem dX8_readJobs_43 : decode cX8_readJobs 43 = .ok (.goto 4, 3) := by decide +kernel
theorem dX8_readJobs_46 : decode cX8_readJobs 46 = .ok (.iconst 0, 1) := by decide +kernel
theorem dX8_readJobs_47 : decode cX8_readJobs 47 = .ok (.istore_n 1, 1) := by decide +kernel
theorem dX8_readJobs_48 : decode cX8_readJobs 48 = .ok (.aload_n 0, 1) := by decide +kernel
theorem dX8_readJobs_49 : decode cX8_readJobs 49 = .ok (.dup, 1) := by decide +kernel
theorem dX8_readJobs_50 : decode cX8_readJobs 50 = .ok (.getfield 199, 3) := by decide +kernel
theorem dX8_readJobs_53 : decode cX8_readJobs 53 = .ok (.iload_n 1, 1) := by decide +kernel
theorem dX8_readJobs_54 : decode cX8_readJobs 54 = .ok (.ifCond .eq 7, 3) := by decide +kernel
theorem dX8_readJobs_57 : decode cX8_readJobs 57 = .ok (.iconst 1, 1) := by decide +kernel
theorem dX8_readJobs_58 : decode cX8_readJobs 58 = .ok (.goto 4, 3) := by decide +kernel
theorem dX8_readJobs_61 : decode cX8_readJobs 61 = .ok (.iconst 0, 1) := by decide +kernel
theorem dX8_readJobs_62 : decode cX8_readJobs 62 = .ok (.iadd, 1) := by decide +kernel
theorem dX8_readJobs_63 : decode cX8_readJobs 63 = .ok (.putfield 199, 3) := by decide +kernel
theorem dX8_readJobs_66 : decode cX8_readJobs 66 = .ok (.goto (-54), 3) := by decide +kernel
theorem dX8_readJobs_69 : decode cX8_readJobs 69 = .ok (.iconst 0, 1) := by decide +kernel
theorem dX8_readJobs_70 : decode cX8_readJobs 70 = .ok (.istore_n 2, 1) := by decide +kernel
theorem dX8_readJobs_71 : decode cX8_readJobs 71 = .ok (.iload_n 2, 1) := by decide +kernel
theorem dX8_readJobs_72 : decode cX8_readJobs 72 = .ok (.aload_n 0, 1) := by decide +kernel
theorem dX8_readJobs_73 : decode cX8_readJobs 73 = .ok (.getfield 202, 3) := by decide +kernel
theorem dX8_readJobs_76 : decode cX8_readJobs 76 = .ok (.if_icmp .ge 29, 3) := by decide +kernel
theorem dX8_readJobs_79 : decode cX8_readJobs 79 = .ok (.aload_n 0, 1) := by decide +kernel
theorem dX8_readJobs_80 : decode cX8_readJobs 80 = .ok (.aload_n 0, 1) := by decide +kernel
theorem dX8_readJobs_81 : decode cX8_readJobs 81 = .ok (.getfield 26, 3) := by decide +kernel
theorem dX8_readJobs_84 : decode cX8_readJobs 84 = .ok (.iconst 3, 1) := by decide +kernel
theorem dX8_readJobs_85 : decode cX8_readJobs 85 = .ok (.iload_n 2, 1) := by decide +kernel
theorem dX8_readJobs_86 : decode cX8_readJobs 86 = .ok (.imul, 1) := by decide +kernel
theorem dX8_readJobs_87 : decode cX8_readJobs 87 = .ok (.iconst 1, 1) := by decide +kernel
theorem dX8_readJobs_88 : decode cX8_readJobs 88 = .ok (.iadd, 1) := by decide +kernel
theorem dX8_readJobs_89 : decode cX8_readJobs 89 = .ok (.iaload, 1) := by decide +kernel
theorem dX8_readJobs_90 : decode cX8_readJobs 90 = .ok (.invokevirtual 140, 3) := by decide +kernel
theorem dX8_readJobs_93 : decode cX8_readJobs 93 = .ok (.ifCond .eq 6, 3) := by decide +kernel
theorem dX8_readJobs_96 : decode cX8_readJobs 96 = .ok (.ldc 144, 2) := by decide +kernel
theorem dX8_readJobs_98 : decode cX8_readJobs 98 = .ok (.ireturn, 1) := by decide +kernel
theorem dX8_readJobs_99 : decode cX8_readJobs 99 = .ok (.iinc 2 1, 3) := by decide +kernel
theorem dX8_readJobs_102 : decode cX8_readJobs 102 = .ok (.goto (-31), 3) := by decide +kernel
theorem dX8_readJobs_105 : decode cX8_readJobs 105 = .ok (.aload_n 0, 1) := by decide +kernel
theorem dX8_readJobs_106 : decode cX8_readJobs 106 = .ok (.getfield 7, 3) := by decide +kernel
theorem dX8_readJobs_109 : decode cX8_readJobs 109 = .ok (.iconst 4, 1) := by decide +kernel
theorem dX8_readJobs_110 : decode cX8_readJobs 110 = .ok (.iaload, 1) := by decide +kernel
theorem dX8_readJobs_111 : decode cX8_readJobs 111 = .ok (.aload_n 0, 1) := by decide +kernel
theorem dX8_readJobs_112 : decode cX8_readJobs 112 = .ok (.getfield 202, 3) := by decide +kernel
theorem dX8_readJobs_115 : decode cX8_readJobs 115 = .ok (.iadd, 1) := by decide +kernel
theorem dX8_readJobs_116 : decode cX8_readJobs 116 = .ok (.bipush 20, 2) := by decide +kernel
theorem dX8_readJobs_118 : decode cX8_readJobs 118 = .ok (.if_icmp .le 9, 3) := by decide +kernel
theorem dX8_readJobs_121 : decode cX8_readJobs 121 = .ok (.aload_n 0, 1) := by decide +kernel
theorem dX8_readJobs_122 : decode cX8_readJobs 122 = .ok (.iconst 1, 1) := by decide +kernel
theorem dX8_readJobs_123 : decode cX8_readJobs 123 = .ok (.invokevirtual 51, 3) := by decide +kernel
theorem dX8_readJobs_126 : decode cX8_readJobs 126 = .ok (.ireturn, 1) := by decide +kernel
theorem dX8_readJobs_127 : decode cX8_readJobs 127 = .ok (.aload_n 0, 1) := by decide +kernel
theorem dX8_readJobs_128 : decode cX8_readJobs 128 = .ok (.invokevirtual 58, 3) := by decide +kernel
theorem dX8_readJobs_131 : decode cX8_readJobs 131 = .ok (.iconst 0, 1) := by decide +kernel
theorem dX8_readJobs_132 : decode cX8_readJobs 132 = .ok (.istore_n 2, 1) := by decide +kernel
theorem dX8_readJobs_133 : decode cX8_readJobs 133 = .ok (.iload_n 2, 1) := by decide +kernel
theorem dX8_readJobs_134 : decode cX8_readJobs 134 = .ok (.aload_n 0, 1) := by decide +kernel
theorem dX8_readJobs_135 : decode cX8_readJobs 135 = .ok (.getfield 202, 3) := by decide +kernel
theorem dX8_readJobs_138 : decode cX8_readJobs 138 = .ok (.if_icmp .ge 41, 3) := by decide +kernel
theorem dX8_readJobs_141 : decode cX8_readJobs 141 = .ok (.aload_n 0, 1) := by decide +kernel
theorem dX8_readJobs_142 : decode cX8_readJobs 142 = .ok (.aload_n 0, 1) := by decide +kernel
theorem dX8_readJobs_143 : decode cX8_readJobs 143 = .ok (.getfield 26, 3) := by decide +kernel
theorem dX8_readJobs_146 : decode cX8_readJobs 146 = .ok (.iconst 3, 1) := by decide +kernel
theorem dX8_readJobs_147 : decode cX8_readJobs 147 = .ok (.iload_n 2, 1) := by decide +kernel
theorem dX8_readJobs_148 : decode cX8_readJobs 148 = .ok (.imul, 1) := by decide +kernel
theorem dX8_readJobs_149 : decode cX8_readJobs 149 = .ok (.iaload, 1) := by decide +kernel
theorem dX8_readJobs_150 : decode cX8_readJobs 150 = .ok (.aload_n 0, 1) := by decide +kernel
theorem dX8_readJobs_151 : decode cX8_readJobs 151 = .ok (.getfield 26, 3) := by decide +kernel
theorem dX8_readJobs_154 : decode cX8_readJobs 154 = .ok (.iconst 3, 1) := by decide +kernel
theorem dX8_readJobs_155 : decode cX8_readJobs 155 = .ok (.iload_n 2, 1) := by decide +kernel
theorem dX8_readJobs_156 : decode cX8_readJobs 156 = .ok (.imul, 1) := by decide +kernel
theorem dX8_readJobs_157 : decode cX8_readJobs 157 = .ok (.iconst 1, 1) := by decide +kernel
theorem dX8_readJobs_158 : decode cX8_readJobs 158 = .ok (.iadd, 1) := by decide +kernel
theorem dX8_readJobs_159 : decode cX8_readJobs 159 = .ok (.iaload, 1) := by decide +kernel
theorem dX8_readJobs_160 : decode cX8_readJobs 160 = .ok (.aload_n 0, 1) := by decide +kernel
theorem dX8_readJobs_161 : decode cX8_readJobs 161 = .ok (.getfield 26, 3) := by decide +kernel
theorem dX8_readJobs_164 : decode cX8_readJobs 164 = .ok (.iconst 3, 1) := by decide +kernel
theorem dX8_readJobs_165 : decode cX8_readJobs 165 = .ok (.iload_n 2, 1) := by decide +kernel
theorem dX8_readJobs_166 : decode cX8_readJobs 166 = .ok (.imul, 1) := by decide +kernel
theorem dX8_readJobs_167 : decode cX8_readJobs 167 = .ok (.iconst 2, 1) := by decide +kernel
theorem dX8_readJobs_168 : decode cX8_readJobs 168 = .ok (.iadd, 1) := by decide +kernel
theorem dX8_readJobs_169 : decode cX8_readJobs 169 = .ok (.iaload, 1) := by decide +kernel
theorem dX8_readJobs_170 : decode cX8_readJobs 170 = .ok (.invokevirtual 151, 3) := by decide +kernel
theorem dX8_readJobs_173 : decode cX8_readJobs 173 = .ok (.iinc 2 1, 3) := by decide +kernel
theorem dX8_readJobs_176 : decode cX8_readJobs 176 = .ok (.goto (-43), 3) := by decide +kernel
theorem dX8_readJobs_179 : decode cX8_readJobs 179 = .ok (.aload_n 0, 1) := by decide +kernel
theorem dX8_readJobs_180 : decode cX8_readJobs 180 = .ok (.getfield 202, 3) := by decide +kernel
theorem dX8_readJobs_183 : decode cX8_readJobs 183 = .ok (.ireturn, 1) := by decide +kernel
theorem dX8_undo_0 : decode cX8_undo 0 = .ok (.aload_n 0, 1) := by decide +kernel
theorem dX8_undo_1 : decode cX8_undo 1 = .ok (.getfield 29, 3) := by decide +kernel
theorem dX8_undo_4 : decode cX8_undo 4 = .ok (.ifCond .ne 6, 3) := by decide +kernel
theorem dX8_undo_7 : decode cX8_undo 7 = .ok (.ldc 49, 2) := by decide +kernel
theorem dX8_undo_9 : decode cX8_undo 9 = .ok (.ireturn, 1) := by decide +kernel
theorem dX8_undo_10 : decode cX8_undo 10 = .ok (.aload_n 0, 1) := by decide +kernel
theorem dX8_undo_11 : decode cX8_undo 11 = .ok (.dup, 1) := by decide +kernel
theorem dX8_undo_12 : decode cX8_undo 12 = .ok (.getfield 29, 3) := by decide +kernel
theorem dX8_undo_15 : decode cX8_undo 15 = .ok (.iconst 1, 1) := by decide +kernel
theorem dX8_undo_16 : decode cX8_undo 16 = .ok (.isub, 1) := by decide +kernel
theorem dX8_undo_17 : decode cX8_undo 17 = .ok (.putfield 29, 3) := by decide +kernel
theorem dX8_undo_20 : decode cX8_undo 20 = .ok (.iconst 0, 1) := by decide +kernel
theorem dX8_undo_21 : decode cX8_undo 21 = .ok (.istore_n 1, 1) := by decide +kernel
theorem dX8_undo_22 : decode cX8_undo 22 = .ok (.iload_n 1, 1) := by decide +kernel
theorem dX8_undo_23 : decode cX8_undo 23 = .ok (.sipush 298, 3) := by decide +kernel
theorem dX8_undo_26 : decode cX8_undo 26 = .ok (.if_icmp .ge 30, 3) := by decide +kernel
theorem dX8_undo_29 : decode cX8_undo 29 = .ok (.aload_n 0, 1) := by decide +kernel
theorem dX8_undo_30 : decode cX8_undo 30 = .ok (.getfield 7, 3) := by decide +kernel
theorem dX8_undo_33 : decode cX8_undo 33 = .ok (.iload_n 1, 1) := by decide +kernel
theorem dX8_undo_34 : decode cX8_undo 34 = .ok (.aload_n 0, 1) := by decide +kernel
theorem dX8_undo_35 : decode cX8_undo 35 = .ok (.getfield 13, 3) := by decide +kernel
theorem dX8_undo_38 : decode cX8_undo 38 = .ok (.sipush 298, 3) := by decide +kernel
theorem dX8_undo_41 : decode cX8_undo 41 = .ok (.aload_n 0, 1) := by decide +kernel
theorem dX8_undo_42 : decode cX8_undo 42 = .ok (.getfield 29, 3) := by decide +kernel
theorem dX8_undo_45 : decode cX8_undo 45 = .ok (.imul, 1) := by decide +kernel
theorem dX8_undo_46 : decode cX8_undo 46 = .ok (.iload_n 1, 1) := by decide +kernel
theorem dX8_undo_47 : decode cX8_undo 47 = .ok (.iadd, 1) := by decide +kernel
theorem dX8_undo_48 : decode cX8_undo 48 = .ok (.iaload, 1) := by decide +kernel
theorem dX8_undo_49 : decode cX8_undo 49 = .ok (.iastore, 1) := by decide +kernel
theorem dX8_undo_50 : decode cX8_undo 50 = .ok (.iinc 1 1, 3) := by decide +kernel
theorem dX8_undo_53 : decode cX8_undo 53 = .ok (.goto (-31), 3) := by decide +kernel
theorem dX8_undo_56 : decode cX8_undo 56 = .ok (.aload_n 0, 1) := by decide +kernel
theorem dX8_undo_57 : decode cX8_undo 57 = .ok (.getfield 29, 3) := by decide +kernel
theorem dX8_undo_60 : decode cX8_undo 60 = .ok (.ireturn, 1) := by decide +kernel
theorem dX8_keep_0 : decode cX8_keep 0 = .ok (.iconst 0, 1) := by decide +kernel
theorem dX8_keep_1 : decode cX8_keep 1 = .ok (.istore_n 1, 1) := by decide +kernel
theorem dX8_keep_2 : decode cX8_keep 2 = .ok (.iload_n 1, 1) := by decide +kernel
theorem dX8_keep_3 : decode cX8_keep 3 = .ok (.sipush 298, 3) := by decide +kernel
theorem dX8_keep_6 : decode cX8_keep 6 = .ok (.if_icmp .ge 21, 3) := by decide +kernel
theorem dX8_keep_9 : decode cX8_keep 9 = .ok (.aload_n 0, 1) := by decide +kernel
theorem dX8_keep_10 : decode cX8_keep 10 = .ok (.getfield 16, 3) := by decide +kernel
theorem dX8_keep_13 : decode cX8_keep 13 = .ok (.iload_n 1, 1) := by decide +kernel
theorem dX8_keep_14 : decode cX8_keep 14 = .ok (.aload_n 0, 1) := by decide +kernel
theorem dX8_keep_15 : decode cX8_keep 15 = .ok (.getfield 7, 3) := by decide +kernel
theorem dX8_keep_18 : decode cX8_keep 18 = .ok (.iload_n 1, 1) := by decide +kernel
theorem dX8_keep_19 : decode cX8_keep 19 = .ok (.iaload, 1) := by decide +kernel
theorem dX8_keep_20 : decode cX8_keep 20 = .ok (.iastore, 1) := by decide +kernel
theorem dX8_keep_21 : decode cX8_keep 21 = .ok (.iinc 1 1, 3) := by decide +kernel
theorem dX8_keep_24 : decode cX8_keep 24 = .ok (.goto (-22), 3) := by decide +kernel
theorem dX8_keep_27 : decode cX8_keep 27 = .ok (.aload_n 0, 1) := by decide +kernel
theorem dX8_keep_28 : decode cX8_keep 28 = .ok (.iconst 1, 1) := by decide +kernel
theorem dX8_keep_29 : decode cX8_keep 29 = .ok (.putfield 215, 3) := by decide +kernel
theorem dX8_keep_32 : decode cX8_keep 32 = .ok (.aload_n 0, 1) := by decide +kernel
theorem dX8_keep_33 : decode cX8_keep 33 = .ok (.getfield 7, 3) := by decide +kernel
theorem dX8_keep_36 : decode cX8_keep 36 = .ok (.iconst 0, 1) := by decide +kernel
theorem dX8_keep_37 : decode cX8_keep 37 = .ok (.iaload, 1) := by decide +kernel
theorem dX8_keep_38 : decode cX8_keep 38 = .ok (.ireturn, 1) := by decide +kernel
theorem dX8_restore_0 : decode cX8_restore 0 = .ok (.aload_n 0, 1) := by decide +kernel
theorem dX8_restore_1 : decode cX8_restore 1 = .ok (.getfield 215, 3) := by decide +kernel
theorem dX8_restore_4 : decode cX8_restore 4 = .ok (.ifCond .ne 6, 3) := by decide +kernel
theorem dX8_restore_7 : decode cX8_restore 7 = .ok (.ldc 49, 2) := by decide +kernel
theorem dX8_restore_9 : decode cX8_restore 9 = .ok (.ireturn, 1) := by decide +kernel
theorem dX8_restore_10 : decode cX8_restore 10 = .ok (.aload_n 0, 1) := by decide +kernel
theorem dX8_restore_11 : decode cX8_restore 11 = .ok (.invokevirtual 58, 3) := by decide +kernel
theorem dX8_restore_14 : decode cX8_restore 14 = .ok (.iconst 0, 1) := by decide +kernel
theorem dX8_restore_15 : decode cX8_restore 15 = .ok (.istore_n 1, 1) := by decide +kernel
theorem dX8_restore_16 : decode cX8_restore 16 = .ok (.iload_n 1, 1) := by decide +kernel
theorem dX8_restore_17 : decode cX8_restore 17 = .ok (.sipush 298, 3) := by decide +kernel
theorem dX8_restore_20 : decode cX8_restore 20 = .ok (.if_icmp .ge 21, 3) := by decide +kernel
theorem dX8_restore_23 : decode cX8_restore 23 = .ok (.aload_n 0, 1) := by decide +kernel
theorem dX8_restore_24 : decode cX8_restore 24 = .ok (.getfield 7, 3) := by decide +kernel
theorem dX8_restore_27 : decode cX8_restore 27 = .ok (.iload_n 1, 1) := by decide +kernel
theorem dX8_restore_28 : decode cX8_restore 28 = .ok (.aload_n 0, 1) := by decide +kernel
theorem dX8_restore_29 : decode cX8_restore 29 = .ok (.getfield 16, 3) := by decide +kernel
theorem dX8_restore_32 : decode cX8_restore 32 = .ok (.iload_n 1, 1) := by decide +kernel
theorem dX8_restore_33 : decode cX8_restore 33 = .ok (.iaload, 1) := by decide +kernel
theorem dX8_restore_34 : decode cX8_restore 34 = .ok (.iastore, 1) := by decide +kernel
theorem dX8_restore_35 : decode cX8_restore 35 = .ok (.iinc 1 1, 3) := by decide +kernel
theorem dX8_restore_38 : decode cX8_restore 38 = .ok (.goto (-22), 3) := by decide +kernel
theorem dX8_restore_41 : decode cX8_restore 41 = .ok (.aload_n 0, 1) := by decide +kernel
theorem dX8_restore_42 : decode cX8_restore 42 = .ok (.getfield 7, 3) := by decide +kernel
theorem dX8_restore_45 : decode cX8_restore 45 = .ok (.iconst 0, 1) := by decide +kernel
theorem dX8_restore_46 : decode cX8_restore 46 = .ok (.iaload, 1) := by decide +kernel
theorem dX8_restore_47 : decode cX8_restore 47 = .ok (.ireturn, 1) := by decide +kernel
theorem dX8_rosette_0 : decode cX8_rosette 0 = .ok (.aload_n 0, 1) := by decide +kernel
theorem dX8_rosette_1 : decode cX8_rosette 1 = .ok (.iload_n 1, 1) := by decide +kernel
theorem dX8_rosette_2 : decode cX8_rosette 2 = .ok (.invokevirtual 140, 3) := by decide +kernel
theorem dX8_rosette_5 : decode cX8_rosette 5 = .ok (.ifCond .eq 6, 3) := by decide +kernel
theorem dX8_rosette_8 : decode cX8_rosette 8 = .ok (.ldc 144, 2) := by decide +kernel
theorem dX8_rosette_10 : decode cX8_rosette 10 = .ok (.ireturn, 1) := by decide +kernel
theorem dX8_rosette_11 : decode cX8_rosette 11 = .ok (.iload_n 2, 1) := by decide +kernel
theorem dX8_rosette_12 : decode cX8_rosette 12 = .ok (.iconst 0, 1) := by decide +kernel
theorem dX8_rosette_13 : decode cX8_rosette 13 = .ok (.bipush 8, 2) := by decide +kernel
theorem dX8_rosette_15 : decode cX8_rosette 15 = .ok (.invokestatic 37, 3) := by decide +kernel
theorem dX8_rosette_18 : decode cX8_rosette 18 = .ok (.ifCond .eq 10, 3) := by decide +kernel
theorem dX8_rosette_21 : decode cX8_rosette 21 = .ok (.aload_n 0, 1) := by decide +kernel
theorem dX8_rosette_22 : decode cX8_rosette 22 = .ok (.iload_n 1, 1) := by decide +kernel
theorem dX8_rosette_23 : decode cX8_rosette 23 = .ok (.iload_n 2, 1) := by decide +kernel
theorem dX8_rosette_24 : decode cX8_rosette 24 = .ok (.invokevirtual 41, 3) := by decide +kernel
theorem dX8_rosette_27 : decode cX8_rosette 27 = .ok (.ireturn, 1) := by decide +kernel
theorem dX8_rosette_28 : decode cX8_rosette 28 = .ok (.iload_n 2, 1) := by decide +kernel
theorem dX8_rosette_29 : decode cX8_rosette 29 = .ok (.bipush 9, 2) := by decide +kernel
theorem dX8_rosette_31 : decode cX8_rosette 31 = .ok (.if_icmp .ne 11, 3) := by decide +kernel
theorem dX8_rosette_34 : decode cX8_rosette 34 = .ok (.aload_n 0, 1) := by decide +kernel
theorem dX8_rosette_35 : decode cX8_rosette 35 = .ok (.iload_n 1, 1) := by decide +kernel
theorem dX8_rosette_36 : decode cX8_rosette 36 = .ok (.invokevirtual 78, 3) := by decide +kernel
theorem dX8_rosette_39 : decode cX8_rosette 39 = .ok (.goto 33, 3) := by decide +kernel
theorem dX8_rosette_42 : decode cX8_rosette 42 = .ok (.iload_n 2, 1) := by decide +kernel
theorem dX8_rosette_43 : decode cX8_rosette 43 = .ok (.bipush 10, 2) := by decide +kernel
theorem dX8_rosette_45 : decode cX8_rosette 45 = .ok (.if_icmp .ne 11, 3) := by decide +kernel
theorem dX8_rosette_48 : decode cX8_rosette 48 = .ok (.aload_n 0, 1) := by decide +kernel
theorem dX8_rosette_49 : decode cX8_rosette 49 = .ok (.iload_n 1, 1) := by decide +kernel
theorem dX8_rosette_50 : decode cX8_rosette 50 = .ok (.invokevirtual 161, 3) := by decide +kernel
theorem dX8_rosette_53 : decode cX8_rosette 53 = .ok (.goto 19, 3) := by decide +kernel
theorem dX8_rosette_56 : decode cX8_rosette 56 = .ok (.iload_n 2, 1) := by decide +kernel
theorem dX8_rosette_57 : decode cX8_rosette 57 = .ok (.bipush 11, 2) := by decide +kernel
theorem dX8_rosette_59 : decode cX8_rosette 59 = .ok (.if_icmp .ne 11, 3) := by decide +kernel
theorem dX8_rosette_62 : decode cX8_rosette 62 = .ok (.aload_n 0, 1) := by decide +kernel
theorem dX8_rosette_63 : decode cX8_rosette 63 = .ok (.iload_n 1, 1) := by decide +kernel
theorem dX8_rosette_64 : decode cX8_rosette 64 = .ok (.invokevirtual 154, 3) := by decide +kernel
theorem dX8_rosette_67 : decode cX8_rosette 67 = .ok (.goto 5, 3) := by decide +kernel
theorem dX8_rosette_70 : decode cX8_rosette 70 = .ok (.ldc 50, 2) := by decide +kernel
theorem dX8_rosette_72 : decode cX8_rosette 72 = .ok (.ireturn, 1) := by decide +kernel
theorem dX8_gauge_0 : decode cX8_gauge 0 = .ok (.aload_n 0, 1) := by decide +kernel
theorem dX8_gauge_1 : decode cX8_gauge 1 = .ok (.iload_n 1, 1) := by decide +kernel
theorem dX8_gauge_2 : decode cX8_gauge 2 = .ok (.invokevirtual 140, 3) := by decide +kernel
theorem dX8_gauge_5 : decode cX8_gauge 5 = .ok (.ifCond .ne 12, 3) := by decide +kernel
theorem dX8_gauge_8 : decode cX8_gauge 8 = .ok (.iload_n 2, 1) := by decide +kernel
theorem dX8_gauge_9 : decode cX8_gauge 9 = .ok (.iconst 0, 1) := by decide +kernel
theorem dX8_gauge_10 : decode cX8_gauge 10 = .ok (.iconst 2, 1) := by decide +kernel
theorem dX8_gauge_11 : decode cX8_gauge 11 = .ok (.invokestatic 37, 3) := by decide +kernel
theorem dX8_gauge_14 : decode cX8_gauge 14 = .ok (.ifCond .ne 6, 3) := by decide +kernel
theorem dX8_gauge_17 : decode cX8_gauge 17 = .ok (.ldc 144, 2) := by decide +kernel
theorem dX8_gauge_19 : decode cX8_gauge 19 = .ok (.ireturn, 1) := by decide +kernel
theorem dX8_gauge_20 : decode cX8_gauge 20 = .ok (.iload_n 3, 1) := by decide +kernel
theorem dX8_gauge_21 : decode cX8_gauge 21 = .ok (.tableswitch 113 0 7 #[47, 55, 62, 76, 83, 91, 99, 106], 47) := by decide +kernel
theorem dX8_gauge_68 : decode cX8_gauge 68 = .ok (.aload_n 0, 1) := by decide +kernel
theorem dX8_gauge_69 : decode cX8_gauge 69 = .ok (.iload_n 1, 1) := by decide +kernel
theorem dX8_gauge_70 : decode cX8_gauge 70 = .ok (.iload_n 2, 1) := by decide +kernel
theorem dX8_gauge_71 : decode cX8_gauge 71 = .ok (.iconst 0, 1) := by decide +kernel
theorem dX8_gauge_72 : decode cX8_gauge 72 = .ok (.invokevirtual 68, 3) := by decide +kernel
theorem dX8_gauge_75 : decode cX8_gauge 75 = .ok (.ireturn, 1) := by decide +kernel
theorem dX8_gauge_76 : decode cX8_gauge 76 = .ok (.aload_n 0, 1) := by decide +kernel
theorem dX8_gauge_77 : decode cX8_gauge 77 = .ok (.iload_n 1, 1) := by decide +kernel
theorem dX8_gauge_78 : decode cX8_gauge 78 = .ok (.iload_n 2, 1) := by decide +kernel
theorem dX8_gauge_79 : decode cX8_gauge 79 = .ok (.invokevirtual 75, 3) := by decide +kernel
theorem dX8_gauge_82 : decode cX8_gauge 82 = .ok (.ireturn, 1) := by decide +kernel
theorem dX8_gauge_83 : decode cX8_gauge 83 = .ok (.aload_n 0, 1) := by decide +kernel
theorem dX8_gauge_84 : decode cX8_gauge 84 = .ok (.iload_n 1, 1) := by decide +kernel
theorem dX8_gauge_85 : decode cX8_gauge 85 = .ok (.iload_n 2, 1) := by decide +kernel
theorem dX8_gauge_86 : decode cX8_gauge 86 = .ok (.aload_n 0, 1) := by decide +kernel
theorem dX8_gauge_87 : decode cX8_gauge 87 = .ok (.iload_n 1, 1) := by decide +kernel
theorem dX8_gauge_88 : decode cX8_gauge 88 = .ok (.bipush 8, 2) := by decide +kernel
theorem dX8_gauge_90 : decode cX8_gauge 90 = .ok (.invokevirtual 41, 3) := by decide +kernel
theorem dX8_gauge_93 : decode cX8_gauge 93 = .ok (.invokevirtual 81, 3) := by decide +kernel
theorem dX8_gauge_96 : decode cX8_gauge 96 = .ok (.ireturn, 1) := by decide +kernel
theorem dX8_gauge_97 : decode cX8_gauge 97 = .ok (.aload_n 0, 1) := by decide +kernel
theorem dX8_gauge_98 : decode cX8_gauge 98 = .ok (.iload_n 1, 1) := by decide +kernel
theorem dX8_gauge_99 : decode cX8_gauge 99 = .ok (.iload_n 2, 1) := by decide +kernel
theorem dX8_gauge_100 : decode cX8_gauge 100 = .ok (.invokevirtual 90, 3) := by decide +kernel
theorem dX8_gauge_103 : decode cX8_gauge 103 = .ok (.ireturn, 1) := by decide +kernel
theorem dX8_gauge_104 : decode cX8_gauge 104 = .ok (.aload_n 0, 1) := by decide +kernel
theorem dX8_gauge_105 : decode cX8_gauge 105 = .ok (.iload_n 1, 1) := by decide +kernel
theorem dX8_gauge_106 : decode cX8_gauge 106 = .ok (.iload_n 2, 1) := by decide +kernel
theorem dX8_gauge_107 : decode cX8_gauge 107 = .ok (.iconst 1, 1) := by decide +kernel
theorem dX8_gauge_108 : decode cX8_gauge 108 = .ok (.invokevirtual 68, 3) := by decide +kernel
theorem dX8_gauge_111 : decode cX8_gauge 111 = .ok (.ireturn, 1) := by decide +kernel
theorem dX8_gauge_112 : decode cX8_gauge 112 = .ok (.aload_n 0, 1) := by decide +kernel
theorem dX8_gauge_113 : decode cX8_gauge 113 = .ok (.iload_n 1, 1) := by decide +kernel
theorem dX8_gauge_114 : decode cX8_gauge 114 = .ok (.iload_n 2, 1) := by decide +kernel
theorem dX8_gauge_115 : decode cX8_gauge 115 = .ok (.iconst 2, 1) := by decide +kernel
theorem dX8_gauge_116 : decode cX8_gauge 116 = .ok (.invokevirtual 68, 3) := by decide +kernel
theorem dX8_gauge_119 : decode cX8_gauge 119 = .ok (.ireturn, 1) := by decide +kernel
theorem dX8_gauge_120 : decode cX8_gauge 120 = .ok (.aload_n 0, 1) := by decide +kernel
theorem dX8_gauge_121 : decode cX8_gauge 121 = .ok (.iload_n 1, 1) := by decide +kernel
theorem dX8_gauge_122 : decode cX8_gauge 122 = .ok (.iload_n 2, 1) := by decide +kernel
theorem dX8_gauge_123 : decode cX8_gauge 123 = .ok (.invokevirtual 124, 3) := by decide +kernel
theorem dX8_gauge_126 : decode cX8_gauge 126 = .ok (.ireturn, 1) := by decide +kernel
theorem dX8_gauge_127 : decode cX8_gauge 127 = .ok (.aload_n 0, 1) := by decide +kernel
theorem dX8_gauge_128 : decode cX8_gauge 128 = .ok (.iload_n 1, 1) := by decide +kernel
theorem dX8_gauge_129 : decode cX8_gauge 129 = .ok (.iload_n 2, 1) := by decide +kernel
theorem dX8_gauge_130 : decode cX8_gauge 130 = .ok (.invokevirtual 167, 3) := by decide +kernel
theorem dX8_gauge_133 : decode cX8_gauge 133 = .ok (.ireturn, 1) := by decide +kernel
theorem dX8_gauge_134 : decode cX8_gauge 134 = .ok (.ldc 50, 2) := by decide +kernel
theorem dX8_gauge_136 : decode cX8_gauge 136 = .ok (.ireturn, 1) := by decide +kernel
theorem dX8_principal_0 : decode cX8_principal 0 = .ok (.aload_n 0, 1) := by decide +kernel
theorem dX8_principal_1 : decode cX8_principal 1 = .ok (.iload_n 1, 1) := by decide +kernel
theorem dX8_principal_2 : decode cX8_principal 2 = .ok (.invokevirtual 140, 3) := by decide +kernel
theorem dX8_principal_5 : decode cX8_principal 5 = .ok (.ifCond .eq 6, 3) := by decide +kernel
theorem dX8_principal_8 : decode cX8_principal 8 = .ok (.ldc 144, 2) := by decide +kernel
theorem dX8_principal_10 : decode cX8_principal 10 = .ok (.ireturn, 1) := by decide +kernel
theorem dX8_principal_11 : decode cX8_principal 11 = .ok (.aload_n 0, 1) := by decide +kernel
theorem dX8_principal_12 : decode cX8_principal 12 = .ok (.iload_n 1, 1) := by decide +kernel
theorem dX8_principal_13 : decode cX8_principal 13 = .ok (.invokevirtual 170, 3) := by decide +kernel
theorem dX8_principal_16 : decode cX8_principal 16 = .ok (.iload_n 2, 1) := by decide +kernel
theorem dX8_principal_17 : decode cX8_principal 17 = .ok (.tableswitch 104 0 7 #[47, 58, 69, 74, 80, 86, 92, 98], 47) := by decide +kernel
theorem dX8_principal_64 : decode cX8_principal 64 = .ok (.aload_n 0, 1) := by decide +kernel
theorem dX8_principal_65 : decode cX8_principal 65 = .ok (.invokevirtual 173, 3) := by decide +kernel
theorem dX8_principal_68 : decode cX8_principal 68 = .ok (.aload_n 0, 1) := by decide +kernel
theorem dX8_principal_69 : decode cX8_principal 69 = .ok (.invokevirtual 177, 3) := by decide +kernel
theorem dX8_principal_72 : decode cX8_principal 72 = .ok (.ladd, 1) := by decide +kernel
theorem dX8_principal_73 : decode cX8_principal 73 = .ok (.l2i, 1) := by decide +kernel
theorem dX8_principal_74 : decode cX8_principal 74 = .ok (.ireturn, 1) := by decide +kernel
theorem dX8_principal_75 : decode cX8_principal 75 = .ok (.aload_n 0, 1) := by decide +kernel
theorem dX8_principal_76 : decode cX8_principal 76 = .ok (.invokevirtual 173, 3) := by decide +kernel
theorem dX8_principal_79 : decode cX8_principal 79 = .ok (.aload_n 0, 1) := by decide +kernel
theorem dX8_principal_80 : decode cX8_principal 80 = .ok (.invokevirtual 177, 3) := by decide +kernel
theorem dX8_principal_83 : decode cX8_principal 83 = .ok (.lsub, 1) := by decide +kernel
theorem dX8_principal_84 : decode cX8_principal 84 = .ok (.l2i, 1) := by decide +kernel
theorem dX8_principal_85 : decode cX8_principal 85 = .ok (.ireturn, 1) := by decide +kernel
theorem dX8_principal_86 : decode cX8_principal 86 = .ok (.aload_n 0, 1) := by decide +kernel
theorem dX8_principal_87 : decode cX8_principal 87 = .ok (.getfield 133, 3) := by decide +kernel
theorem dX8_principal_90 : decode cX8_principal 90 = .ok (.ireturn, 1) := by decide +kernel
theorem dX8_principal_91 : decode cX8_principal 91 = .ok (.aload_n 0, 1) := by decide +kernel
theorem dX8_principal_92 : decode cX8_principal 92 = .ok (.invokevirtual 177, 3) := by decide +kernel
theorem dX8_principal_95 : decode cX8_principal 95 = .ok (.l2i, 1) := by decide +kernel
theorem dX8_principal_96 : decode cX8_principal 96 = .ok (.ireturn, 1) := by decide +kernel
theorem dX8_principal_97 : decode cX8_principal 97 = .ok (.aload_n 0, 1) := by decide +kernel
theorem dX8_principal_98 : decode cX8_principal 98 = .ok (.getfield 104, 3) := by decide +kernel
theorem dX8_principal_101 : decode cX8_principal 101 = .ok (.l2i, 1) := by decide +kernel
theorem dX8_principal_102 : decode cX8_principal 102 = .ok (.ireturn, 1) := by decide +kernel
theorem dX8_principal_103 : decode cX8_principal 103 = .ok (.aload_n 0, 1) := by decide +kernel
theorem dX8_principal_104 : decode cX8_principal 104 = .ok (.getfield 108, 3) := by decide +kernel
theorem dX8_principal_107 : decode cX8_principal 107 = .ok (.l2i, 1) := by decide +kernel
theorem dX8_principal_108 : decode cX8_principal 108 = .ok (.ireturn, 1) := by decide +kernel
theorem dX8_principal_109 : decode cX8_principal 109 = .ok (.aload_n 0, 1) := by decide +kernel
theorem dX8_principal_110 : decode cX8_principal 110 = .ok (.getfield 111, 3) := by decide +kernel
theorem dX8_principal_113 : decode cX8_principal 113 = .ok (.l2i, 1) := by decide +kernel
theorem dX8_principal_114 : decode cX8_principal 114 = .ok (.ireturn, 1) := by decide +kernel
theorem dX8_principal_115 : decode cX8_principal 115 = .ok (.aload_n 0, 1) := by decide +kernel
theorem dX8_principal_116 : decode cX8_principal 116 = .ok (.invokevirtual 173, 3) := by decide +kernel
theorem dX8_principal_119 : decode cX8_principal 119 = .ok (.l2i, 1) := by decide +kernel
theorem dX8_principal_120 : decode cX8_principal 120 = .ok (.ireturn, 1) := by decide +kernel
theorem dX8_principal_121 : decode cX8_principal 121 = .ok (.ldc 50, 2) := by decide +kernel
theorem dX8_principal_123 : decode cX8_principal 123 = .ok (.ireturn, 1) := by decide +kernel
theorem dX8_pull_0 : decode cX8_pull 0 = .ok (.aload_n 0, 1) := by decide +kernel
theorem dX8_pull_1 : decode cX8_pull 1 = .ok (.iload_n 1, 1) := by decide +kernel
theorem dX8_pull_2 : decode cX8_pull 2 = .ok (.invokevirtual 140, 3) := by decide +kernel
theorem dX8_pull_5 : decode cX8_pull 5 = .ok (.ifCond .eq 6, 3) := by decide +kernel
theorem dX8_pull_8 : decode cX8_pull 8 = .ok (.ldc 144, 2) := by decide +kernel
theorem dX8_pull_10 : decode cX8_pull 10 = .ok (.ireturn, 1) := by decide +kernel
theorem dX8_pull_11 : decode cX8_pull 11 = .ok (.iload_n 2, 1) := by decide +kernel
theorem dX8_pull_12 : decode cX8_pull 12 = .ok (.iconst 0, 1) := by decide +kernel
theorem dX8_pull_13 : decode cX8_pull 13 = .ok (.bipush 23, 2) := by decide +kernel
theorem dX8_pull_15 : decode cX8_pull 15 = .ok (.invokestatic 37, 3) := by decide +kernel
theorem dX8_pull_18 : decode cX8_pull 18 = .ok (.ifCond .ne 6, 3) := by decide +kernel
theorem dX8_pull_21 : decode cX8_pull 21 = .ok (.ldc 50, 2) := by decide +kernel
theorem dX8_pull_23 : decode cX8_pull 23 = .ok (.ireturn, 1) := by decide +kernel
theorem dX8_pull_24 : decode cX8_pull 24 = .ok (.aload_n 0, 1) := by decide +kernel
theorem dX8_pull_25 : decode cX8_pull 25 = .ok (.iload_n 1, 1) := by decide +kernel
theorem dX8_pull_26 : decode cX8_pull 26 = .ok (.invokevirtual 170, 3) := by decide +kernel
theorem dX8_pull_29 : decode cX8_pull 29 = .ok (.aload_n 0, 1) := by decide +kernel
theorem dX8_pull_30 : decode cX8_pull 30 = .ok (.iload_n 2, 1) := by decide +kernel
theorem dX8_pull_31 : decode cX8_pull 31 = .ok (.invokevirtual 136, 3) := by decide +kernel
theorem dX8_pull_34 : decode cX8_pull 34 = .ok (.ldc2_w 122, 3) := by decide +kernel
theorem dX8_pull_37 : decode cX8_pull 37 = .ok (.ldiv, 1) := by decide +kernel
theorem dX8_pull_38 : decode cX8_pull 38 = .ok (.l2i, 1) := by decide +kernel
theorem dX8_pull_39 : decode cX8_pull 39 = .ok (.ireturn, 1) := by decide +kernel
theorem dX8_job_0 : decode cX8_job 0 = .ok (.iload_n 1, 1) := by decide +kernel
theorem dX8_job_1 : decode cX8_job 1 = .ok (.ifCond .lt 12, 3) := by decide +kernel
theorem dX8_job_4 : decode cX8_job 4 = .ok (.iload_n 2, 1) := by decide +kernel
theorem dX8_job_5 : decode cX8_job 5 = .ok (.iconst 0, 1) := by decide +kernel
theorem dX8_job_6 : decode cX8_job 6 = .ok (.iconst 4, 1) := by decide +kernel
theorem dX8_job_7 : decode cX8_job 7 = .ok (.invokestatic 37, 3) := by decide +kernel
theorem dX8_job_10 : decode cX8_job 10 = .ok (.ifCond .ne 6, 3) := by decide +kernel
theorem dX8_job_13 : decode cX8_job 13 = .ok (.ldc 50, 2) := by decide +kernel
theorem dX8_job_15 : decode cX8_job 15 = .ok (.ireturn, 1) := by decide +kernel
theorem dX8_job_16 : decode cX8_job 16 = .ok (.iload_n 1, 1) := by decide +kernel
theorem dX8_job_17 : decode cX8_job 17 = .ok (.aload_n 0, 1) := by decide +kernel
theorem dX8_job_18 : decode cX8_job 18 = .ok (.getfield 7, 3) := by decide +kernel
theorem dX8_job_21 : decode cX8_job 21 = .ok (.iconst 4, 1) := by decide +kernel
theorem dX8_job_22 : decode cX8_job 22 = .ok (.iaload, 1) := by decide +kernel
theorem dX8_job_23 : decode cX8_job 23 = .ok (.if_icmp .lt 6, 3) := by decide +kernel
theorem dX8_job_26 : decode cX8_job 26 = .ok (.ldc 49, 2) := by decide +kernel
theorem dX8_job_28 : decode cX8_job 28 = .ok (.ireturn, 1) := by decide +kernel
theorem dX8_job_29 : decode cX8_job 29 = .ok (.iconst 0, 1) := by decide +kernel
theorem dX8_job_30 : decode cX8_job 30 = .ok (.istore_n 3, 1) := by decide +kernel
theorem dX8_job_31 : decode cX8_job 31 = .ok (.aload_n 0, 1) := by decide +kernel
theorem dX8_job_32 : decode cX8_job 32 = .ok (.getfield 7, 3) := by decide +kernel
theorem dX8_job_35 : decode cX8_job 35 = .ok (.iconst 1, 1) := by decide +kernel
theorem dX8_job_36 : decode cX8_job 36 = .ok (.iaload, 1) := by decide +kernel
theorem dX8_job_37 : decode cX8_job 37 = .ok (.istore 4, 2) := by decide +kernel
theorem dX8_job_39 : decode cX8_job 39 = .ok (.iconst 0, 1) := by decide +kernel
theorem dX8_job_40 : decode cX8_job 40 = .ok (.istore 5, 2) := by decide +kernel
theorem dX8_job_42 : decode cX8_job 42 = .ok (.ldc 49, 2) := by decide +kernel
theorem dX8_job_44 : decode cX8_job 44 = .ok (.istore 6, 2) := by decide +kernel
theorem dX8_job_46 : decode cX8_job 46 = .ok (.iconst 0, 1) := by decide +kernel
theorem dX8_job_47 : decode cX8_job 47 = .ok (.istore 7, 2) := by decide +kernel
theorem dX8_job_49 : decode cX8_job 49 = .ok (.iload 7, 2) := by decide +kernel
theorem dX8_job_51 : decode cX8_job 51 = .ok (.iload_n 1, 1) := by decide +kernel
theorem dX8_job_52 : decode cX8_job 52 = .ok (.if_icmp .gt 52, 3) := by decide +kernel
theorem dX8_job_55 : decode cX8_job 55 = .ok (.aload_n 0, 1) := by decide +kernel
theorem dX8_job_56 : decode cX8_job 56 = .ok (.iload_n 3, 1) := by decide +kernel
theorem dX8_job_57 : decode cX8_job 57 = .ok (.iload 4, 2) := by decide +kernel
theorem dX8_job_59 : decode cX8_job 59 = .ok (.invokevirtual 180, 3) := by decide +kernel
theorem dX8_job_62 : decode cX8_job 62 = .ok (.istore 6, 2) := by decide +kernel
theorem dX8_job_64 : decode cX8_job 64 = .ok (.iload_n 3, 1) := by decide +kernel
theorem dX8_job_65 : decode cX8_job 65 = .ok (.iconst 1, 1) := by decide +kernel
theorem dX8_job_66 : decode cX8_job 66 = .ok (.iload 6, 2) := by decide +kernel
theorem dX8_job_68 : decode cX8_job 68 = .ok (.ishl, 1) := by decide +kernel
theorem dX8_job_69 : decode cX8_job 69 = .ok (.ior, 1) := by decide +kernel
theorem dX8_job_70 : decode cX8_job 70 = .ok (.istore_n 3, 1) := by decide +kernel
theorem dX8_job_71 : decode cX8_job 71 = .ok (.iload 5, 2) := by decide +kernel
theorem dX8_job_73 : decode cX8_job 73 = .ok (.aload_n 0, 1) := by decide +kernel
theorem dX8_job_74 : decode cX8_job 74 = .ok (.iload 6, 2) := by decide +kernel
theorem dX8_job_76 : decode cX8_job 76 = .ok (.iload 4, 2) := by decide +kernel
theorem dX8_job_78 : decode cX8_job 78 = .ok (.invokevirtual 148, 3) := by decide +kernel
theorem dX8_job_81 : decode cX8_job 81 = .ok (.iadd, 1) := by decide +kernel
theorem dX8_job_82 : decode cX8_job 82 = .ok (.istore 5, 2) := by decide +kernel
theorem dX8_job_84 : decode cX8_job 84 = .ok (.aload_n 0, 1) := by decide +kernel
theorem dX8_job_85 : decode cX8_job 85 = .ok (.aload_n 0, 1) := by decide +kernel
theorem dX8_job_86 : decode cX8_job 86 = .ok (.iload 6, 2) := by decide +kernel
theorem dX8_job_88 : decode cX8_job 88 = .ok (.iconst 2, 1) := by decide +kernel
theorem dX8_job_89 : decode cX8_job 89 = .ok (.invokevirtual 145, 3) := by decide +kernel
theorem dX8_job_92 : decode cX8_job 92 = .ok (.iconst 0, 1) := by decide +kernel
theorem dX8_job_93 : decode cX8_job 93 = .ok (.invokevirtual 41, 3) := by decide +kernel
theorem dX8_job_96 : decode cX8_job 96 = .ok (.istore 4, 2) := by decide +kernel
theorem dX8_job_98 : decode cX8_job 98 = .ok (.iinc 7 1, 3) := by decide +kernel
theorem dX8_job_101 : decode cX8_job 101 = .ok (.goto (-52), 3) := by decide +kernel
theorem dX8_job_104 : decode cX8_job 104 = .ok (.iload_n 2, 1) := by decide +kernel
theorem dX8_job_105 : decode cX8_job 105 = .ok (.iconst 4, 1) := by decide +kernel
theorem dX8_job_106 : decode cX8_job 106 = .ok (.if_icmp .ne 8, 3) := by decide +kernel
theorem dX8_job_109 : decode cX8_job 109 = .ok (.iload 5, 2) := by decide +kernel
theorem dX8_job_111 : decode cX8_job 111 = .ok (.goto 10, 3) := by decide +kernel
theorem dX8_job_114 : decode cX8_job 114 = .ok (.aload_n 0, 1) := by decide +kernel
theorem dX8_job_115 : decode cX8_job 115 = .ok (.iload 6, 2) := by decide +kernel
theorem dX8_job_117 : decode cX8_job 117 = .ok (.iload_n 2, 1) := by decide +kernel
theorem dX8_job_118 : decode cX8_job 118 = .ok (.invokevirtual 145, 3) := by decide +kernel
theorem dX8_job_121 : decode cX8_job 121 = .ok (.ireturn, 1) := by decide +kernel
theorem dX8_record_0 : decode cX8_record 0 = .ok (.iload_n 1, 1) := by decide +kernel
theorem dX8_record_1 : decode cX8_record 1 = .ok (.ifCond .lt 12, 3) := by decide +kernel
theorem dX8_record_4 : decode cX8_record 4 = .ok (.iload_n 2, 1) := by decide +kernel
theorem dX8_record_5 : decode cX8_record 5 = .ok (.iconst 0, 1) := by decide +kernel
theorem dX8_record_6 : decode cX8_record 6 = .ok (.iconst 3, 1) := by decide +kernel
theorem dX8_record_7 : decode cX8_record 7 = .ok (.invokestatic 37, 3) := by decide +kernel
theorem dX8_record_10 : decode cX8_record 10 = .ok (.ifCond .ne 6, 3) := by decide +kernel
theorem dX8_record_13 : decode cX8_record 13 = .ok (.ldc 50, 2) := by decide +kernel
theorem dX8_record_15 : decode cX8_record 15 = .ok (.ireturn, 1) := by decide +kernel
theorem dX8_record_16 : decode cX8_record 16 = .ok (.iload_n 1, 1) := by decide +kernel
theorem dX8_record_17 : decode cX8_record 17 = .ok (.aload_n 0, 1) := by decide +kernel
theorem dX8_record_18 : decode cX8_record 18 = .ok (.getfield 7, 3) := by decide +kernel
theorem dX8_record_21 : decode cX8_record 21 = .ok (.bipush 8, 2) := by decide +kernel
theorem dX8_record_23 : decode cX8_record 23 = .ok (.iaload, 1) := by decide +kernel
theorem dX8_record_24 : decode cX8_record 24 = .ok (.if_icmp .ge 30, 3) := by decide +kernel
theorem dX8_record_27 : decode cX8_record 27 = .ok (.aload_n 0, 1) := by decide +kernel
theorem dX8_record_28 : decode cX8_record 28 = .ok (.getfield 7, 3) := by decide +kernel
theorem dX8_record_31 : decode cX8_record 31 = .ok (.sipush 250, 3) := by decide +kernel
theorem dX8_record_34 : decode cX8_record 34 = .ok (.iconst 4, 1) := by decide +kernel
theorem dX8_record_35 : decode cX8_record 35 = .ok (.aload_n 0, 1) := by decide +kernel
theorem dX8_record_36 : decode cX8_record 36 = .ok (.getfield 7, 3) := by decide +kernel
theorem dX8_record_39 : decode cX8_record 39 = .ok (.bipush 8, 2) := by decide +kernel
theorem dX8_record_41 : decode cX8_record 41 = .ok (.iaload, 1) := by decide +kernel
theorem dX8_record_42 : decode cX8_record 42 = .ok (.iconst 1, 1) := by decide +kernel
theorem dX8_record_43 : decode cX8_record 43 = .ok (.isub, 1) := by decide +kernel
theorem dX8_record_44 : decode cX8_record 44 = .ok (.iload_n 1, 1) := by decide +kernel
theorem dX8_record_45 : decode cX8_record 45 = .ok (.isub, 1) := by decide +kernel
theorem dX8_record_46 : decode cX8_record 46 = .ok (.imul, 1) := by decide +kernel
theorem dX8_record_47 : decode cX8_record 47 = .ok (.iadd, 1) := by decide +kernel
theorem dX8_record_48 : decode cX8_record 48 = .ok (.iload_n 2, 1) := by decide +kernel
theorem dX8_record_49 : decode cX8_record 49 = .ok (.iadd, 1) := by decide +kernel
theorem dX8_record_50 : decode cX8_record 50 = .ok (.iaload, 1) := by decide +kernel
theorem dX8_record_51 : decode cX8_record 51 = .ok (.goto 5, 3) := by decide +kernel
theorem dX8_record_54 : decode cX8_record 54 = .ok (.ldc 49, 2) := by decide +kernel
theorem dX8_record_56 : decode cX8_record 56 = .ok (.ireturn, 1) := by decide +kernel
theorem dX8_neighbour_0 : decode cX8_neighbour 0 = .ok (.iload_n 1, 1) := by decide +kernel
theorem dX8_neighbour_1 : decode cX8_neighbour 1 = .ok (.iconst 0, 1) := by decide +kernel
theorem dX8_neighbour_2 : decode cX8_neighbour 2 = .ok (.sipush 1000, 3) := by decide +kernel
theorem dX8_neighbour_5 : decode cX8_neighbour 5 = .ok (.invokestatic 37, 3) := by decide +kernel
theorem dX8_neighbour_8 : decode cX8_neighbour 8 = .ok (.ifCond .ne 6, 3) := by decide +kernel
theorem dX8_neighbour_11 : decode cX8_neighbour 11 = .ok (.ldc 50, 2) := by decide +kernel
theorem dX8_neighbour_13 : decode cX8_neighbour 13 = .ok (.ireturn, 1) := by decide +kernel
theorem dX8_neighbour_14 : decode cX8_neighbour 14 = .ok (.ldc 49, 2) := by decide +kernel
theorem dX8_neighbour_16 : decode cX8_neighbour 16 = .ok (.istore_n 3, 1) := by decide +kernel
theorem dX8_neighbour_17 : decode cX8_neighbour 17 = .ok (.iconst 0, 1) := by decide +kernel
theorem dX8_neighbour_18 : decode cX8_neighbour 18 = .ok (.istore 4, 2) := by decide +kernel
theorem dX8_neighbour_20 : decode cX8_neighbour 20 = .ok (.iload 4, 2) := by decide +kernel
theorem dX8_neighbour_22 : decode cX8_neighbour 22 = .ok (.aload_n 0, 1) := by decide +kernel
theorem dX8_neighbour_23 : decode cX8_neighbour 23 = .ok (.getfield 7, 3) := by decide +kernel
theorem dX8_neighbour_26 : decode cX8_neighbour 26 = .ok (.iconst 0, 1) := by decide +kernel
theorem dX8_neighbour_27 : decode cX8_neighbour 27 = .ok (.iaload, 1) := by decide +kernel
theorem dX8_neighbour_28 : decode cX8_neighbour 28 = .ok (.if_icmp .ge 66, 3) := by decide +kernel
theorem dX8_neighbour_31 : decode cX8_neighbour 31 = .ok (.iload_n 2, 1) := by decide +kernel
theorem dX8_neighbour_32 : decode cX8_neighbour 32 = .ok (.ifCond .eq 15, 3) := by decide +kernel
theorem dX8_neighbour_35 : decode cX8_neighbour 35 = .ok (.aload_n 0, 1) := by decide +kernel
theorem dX8_neighbour_36 : decode cX8_neighbour 36 = .ok (.iload 4, 2) := by decide +kernel
theorem dX8_neighbour_38 : decode cX8_neighbour 38 = .ok (.iconst 0, 1) := by decide +kernel
theorem dX8_neighbour_39 : decode cX8_neighbour 39 = .ok (.invokevirtual 41, 3) := by decide +kernel
theorem dX8_neighbour_42 : decode cX8_neighbour 42 = .ok (.iload_n 1, 1) := by decide +kernel
theorem dX8_neighbour_43 : decode cX8_neighbour 43 = .ok (.isub, 1) := by decide +kernel
theorem dX8_neighbour_44 : decode cX8_neighbour 44 = .ok (.goto 12, 3) := by decide +kernel
theorem dX8_neighbour_47 : decode cX8_neighbour 47 = .ok (.iload_n 1, 1) := by decide +kernel
theorem dX8_neighbour_48 : decode cX8_neighbour 48 = .ok (.aload_n 0, 1) := by decide +kernel
theorem dX8_neighbour_49 : decode cX8_neighbour 49 = .ok (.iload 4, 2) := by decide +kernel
theorem dX8_neighbour_51 : decode cX8_neighbour 51 = .ok (.iconst 0, 1) := by decide +kernel
theorem dX8_neighbour_52 : decode cX8_neighbour 52 = .ok (.invokevirtual 41, 3) := by decide +kernel
theorem dX8_neighbour_55 : decode cX8_neighbour 55 = .ok (.isub, 1) := by decide +kernel
theorem dX8_neighbour_56 : decode cX8_neighbour 56 = .ok (.istore 5, 2) := by decide +kernel
theorem dX8_neighbour_58 : decode cX8_neighbour 58 = .ok (.iload 5, 2) := by decide +kernel
theorem dX8_neighbour_60 : decode cX8_neighbour 60 = .ok (.ifCond .le 28, 3) := by decide +kernel
theorem dX8_neighbour_63 : decode cX8_neighbour 63 = .ok (.iload_n 3, 1) := by decide +kernel
theorem dX8_neighbour_64 : decode cX8_neighbour 64 = .ok (.ldc 49, 2) := by decide +kernel
theorem dX8_neighbour_66 : decode cX8_neighbour 66 = .ok (.if_icmp .eq 19, 3) := by decide +kernel
theorem dX8_neighbour_69 : decode cX8_neighbour 69 = .ok (.iload 5, 2) := by decide +kernel
theorem dX8_neighbour_71 : decode cX8_neighbour 71 = .ok (.aload_n 0, 1) := by decide +kernel
theorem dX8_neighbour_72 : decode cX8_neighbour 72 = .ok (.iload_n 3, 1) := by decide +kernel
theorem dX8_neighbour_73 : decode cX8_neighbour 73 = .ok (.iconst 0, 1) := by decide +kernel
theorem dX8_neighbour_74 : decode cX8_neighbour 74 = .ok (.invokevirtual 41, 3) := by decide +kernel
theorem dX8_neighbour_77 : decode cX8_neighbour 77 = .ok (.iload_n 1, 1) := by decide +kernel
theorem dX8_neighbour_78 : decode cX8_neighbour 78 = .ok (.isub, 1) := by decide +kernel
theorem dX8_neighbour_79 : decode cX8_neighbour 79 = .ok (.invokestatic 84, 3) := by decide +kernel
theorem dX8_neighbour_82 : decode cX8_neighbour 82 = .ok (.if_icmp .ge 6, 3) := by decide +kernel
theorem dX8_neighbour_85 : decode cX8_neighbour 85 = .ok (.iload 4, 2) := by decide +kernel
theorem dX8_neighbour_87 : decode cX8_neighbour 87 = .ok (.istore_n 3, 1) := by decide +kernel
theorem dX8_neighbour_88 : decode cX8_neighbour 88 = .ok (.iinc 4 1, 3) := by decide +kernel
theorem dX8_neighbour_91 : decode cX8_neighbour 91 = .ok (.goto (-71), 3) := by decide +kernel
theorem dX8_neighbour_94 : decode cX8_neighbour 94 = .ok (.iload_n 3, 1) := by decide +kernel
theorem dX8_neighbour_95 : decode cX8_neighbour 95 = .ok (.ireturn, 1) := by decide +kernel
theorem dX8_count_0 : decode cX8_count 0 = .ok (.iload_n 1, 1) := by decide +kernel
theorem dX8_count_1 : decode cX8_count 1 = .ok (.tableswitch 144 0 11 #[63, 70, 77, 84, 92, 100, 107, 114, 121, 129, 134, 139], 63) := by decide +kernel
theorem dX8_count_64 : decode cX8_count 64 = .ok (.aload_n 0, 1) := by decide +kernel
theorem dX8_count_65 : decode cX8_count 65 = .ok (.getfield 7, 3) := by decide +kernel
theorem dX8_count_68 : decode cX8_count 68 = .ok (.iconst 0, 1) := by decide +kernel
theorem dX8_count_69 : decode cX8_count 69 = .ok (.iaload, 1) := by decide +kernel
theorem dX8_count_70 : decode cX8_count 70 = .ok (.ireturn, 1) := by decide +kernel
theorem dX8_count_71 : decode cX8_count 71 = .ok (.aload_n 0, 1) := by decide +kernel
theorem dX8_count_72 : decode cX8_count 72 = .ok (.getfield 7, 3) := by decide +kernel
theorem dX8_count_75 : decode cX8_count 75 = .ok (.iconst 4, 1) := by decide +kernel
theorem dX8_count_76 : decode cX8_count 76 = .ok (.iaload, 1) := by decide +kernel
theorem dX8_count_77 : decode cX8_count 77 = .ok (.ireturn, 1) := by decide +kernel
theorem dX8_count_78 : decode cX8_count 78 = .ok (.aload_n 0, 1) := by decide +kernel
theorem dX8_count_79 : decode cX8_count 79 = .ok (.getfield 7, 3) := by decide +kernel
theorem dX8_count_82 : decode cX8_count 82 = .ok (.iconst 5, 1) := by decide +kernel
theorem dX8_count_83 : decode cX8_count 83 = .ok (.iaload, 1) := by decide +kernel
theorem dX8_count_84 : decode cX8_count 84 = .ok (.ireturn, 1) := by decide +kernel
theorem dX8_count_85 : decode cX8_count 85 = .ok (.aload_n 0, 1) := by decide +kernel
theorem dX8_count_86 : decode cX8_count 86 = .ok (.getfield 7, 3) := by decide +kernel
theorem dX8_count_89 : decode cX8_count 89 = .ok (.bipush 6, 2) := by decide +kernel
theorem dX8_count_91 : decode cX8_count 91 = .ok (.iaload, 1) := by decide +kernel
theorem dX8_count_92 : decode cX8_count 92 = .ok (.ireturn, 1) := by decide +kernel
theorem dX8_count_93 : decode cX8_count 93 = .ok (.aload_n 0, 1) := by decide +kernel
theorem dX8_count_94 : decode cX8_count 94 = .ok (.getfield 7, 3) := by decide +kernel
theorem dX8_count_97 : decode cX8_count 97 = .ok (.bipush 7, 2) := by decide +kernel
theorem dX8_count_99 : decode cX8_count 99 = .ok (.iaload, 1) := by decide +kernel
theorem dX8_count_100 : decode cX8_count 100 = .ok (.ireturn, 1) := by decide +kernel
theorem dX8_count_101 : decode cX8_count 101 = .ok (.aload_n 0, 1) := by decide +kernel
theorem dX8_count_102 : decode cX8_count 102 = .ok (.getfield 7, 3) := by decide +kernel
theorem dX8_count_105 : decode cX8_count 105 = .ok (.iconst 1, 1) := by decide +kernel
theorem dX8_count_106 : decode cX8_count 106 = .ok (.iaload, 1) := by decide +kernel
theorem dX8_count_107 : decode cX8_count 107 = .ok (.ireturn, 1) := by decide +kernel
theorem dX8_count_108 : decode cX8_count 108 = .ok (.aload_n 0, 1) := by decide +kernel
theorem dX8_count_109 : decode cX8_count 109 = .ok (.getfield 7, 3) := by decide +kernel
theorem dX8_count_112 : decode cX8_count 112 = .ok (.iconst 2, 1) := by decide +kernel
theorem dX8_count_113 : decode cX8_count 113 = .ok (.iaload, 1) := by decide +kernel
theorem dX8_count_114 : decode cX8_count 114 = .ok (.ireturn, 1) := by decide +kernel
theorem dX8_count_115 : decode cX8_count 115 = .ok (.aload_n 0, 1) := by decide +kernel
theorem dX8_count_116 : decode cX8_count 116 = .ok (.getfield 7, 3) := by decide +kernel
theorem dX8_count_119 : decode cX8_count 119 = .ok (.iconst 3, 1) := by decide +kernel
theorem dX8_count_120 : decode cX8_count 120 = .ok (.iaload, 1) := by decide +kernel
theorem dX8_count_121 : decode cX8_count 121 = .ok (.ireturn, 1) := by decide +kernel
theorem dX8_count_122 : decode cX8_count 122 = .ok (.aload_n 0, 1) := by decide +kernel
theorem dX8_count_123 : decode cX8_count 123 = .ok (.getfield 7, 3) := by decide +kernel
theorem dX8_count_126 : decode cX8_count 126 = .ok (.bipush 8, 2) := by decide +kernel
theorem dX8_count_128 : decode cX8_count 128 = .ok (.iaload, 1) := by decide +kernel
theorem dX8_count_129 : decode cX8_count 129 = .ok (.ireturn, 1) := by decide +kernel
theorem dX8_count_130 : decode cX8_count 130 = .ok (.aload_n 0, 1) := by decide +kernel
theorem dX8_count_131 : decode cX8_count 131 = .ok (.getfield 33, 3) := by decide +kernel
theorem dX8_count_134 : decode cX8_count 134 = .ok (.ireturn, 1) := by decide +kernel
theorem dX8_count_135 : decode cX8_count 135 = .ok (.aload_n 0, 1) := by decide +kernel
theorem dX8_count_136 : decode cX8_count 136 = .ok (.getfield 29, 3) := by decide +kernel
theorem dX8_count_139 : decode cX8_count 139 = .ok (.ireturn, 1) := by decide +kernel
theorem dX8_count_140 : decode cX8_count 140 = .ok (.aload_n 0, 1) := by decide +kernel
theorem dX8_count_141 : decode cX8_count 141 = .ok (.getfield 196, 3) := by decide +kernel
theorem dX8_count_144 : decode cX8_count 144 = .ok (.ireturn, 1) := by decide +kernel
theorem dX8_count_145 : decode cX8_count 145 = .ok (.ldc 50, 2) := by decide +kernel
theorem dX8_count_147 : decode cX8_count 147 = .ok (.ireturn, 1) := by decide +kernel
theorem dJ9_abs_0f7a4_0 : decode cJ9_abs_0f7a4 0 = .ok (.iload_n 0, 1) := by decide +kernel
theorem dJ9_abs_0f7a4_1 : decode cJ9_abs_0f7a4 1 = .ok (.ifCond .ge 8, 3) := by decide +kernel
theorem dJ9_abs_0f7a4_4 : decode cJ9_abs_0f7a4 4 = .ok (.iload_n 0, 1) := by decide +kernel
theorem dJ9_abs_0f7a4_5 : decode cJ9_abs_0f7a4 5 = .ok (.ineg, 1) := by decide +kernel
theorem dJ9_abs_0f7a4_6 : decode cJ9_abs_0f7a4 6 = .ok (.goto 4, 3) := by decide +kernel
theorem dJ9_abs_0f7a4_9 : decode cJ9_abs_0f7a4 9 = .ok (.iload_n 0, 1) := by decide +kernel
theorem dJ9_abs_0f7a4_10 : decode cJ9_abs_0f7a4 10 = .ok (.ireturn, 1) := by decide +kernel
theorem dJ9_max_7cf53_0 : decode cJ9_max_7cf53 0 = .ok (.iload_n 0, 1) := by decide +kernel
theorem dJ9_max_7cf53_1 : decode cJ9_max_7cf53 1 = .ok (.iload_n 1, 1) := by decide +kernel
theorem dJ9_max_7cf53_2 : decode cJ9_max_7cf53 2 = .ok (.if_icmp .lt 7, 3) := by decide +kernel
theorem dJ9_max_7cf53_5 : decode cJ9_max_7cf53 5 = .ok (.iload_n 0, 1) := by decide +kernel
theorem dJ9_max_7cf53_6 : decode cJ9_max_7cf53 6 = .ok (.goto 4, 3) := by decide +kernel
theorem dJ9_max_7cf53_9 : decode cJ9_max_7cf53 9 = .ok (.iload_n 1, 1) := by decide +kernel
theorem dJ9_max_7cf53_10 : decode cJ9_max_7cf53 10 = .ok (.ireturn, 1) := by decide +kernel
theorem dJ9_min_7cf53_0 : decode cJ9_min_7cf53 0 = .ok (.iload_n 0, 1) := by decide +kernel
theorem dJ9_min_7cf53_1 : decode cJ9_min_7cf53 1 = .ok (.iload_n 1, 1) := by decide +kernel
theorem dJ9_min_7cf53_2 : decode cJ9_min_7cf53 2 = .ok (.if_icmp .gt 7, 3) := by decide +kernel
theorem dJ9_min_7cf53_5 : decode cJ9_min_7cf53 5 = .ok (.iload_n 0, 1) := by decide +kernel
theorem dJ9_min_7cf53_6 : decode cJ9_min_7cf53 6 = .ok (.goto 4, 3) := by decide +kernel
theorem dJ9_min_7cf53_9 : decode cJ9_min_7cf53 9 = .ok (.iload_n 1, 1) := by decide +kernel
theorem dJ9_min_7cf53_10 : decode cJ9_min_7cf53 10 = .ok (.ireturn, 1) := by decide +kernel
theorem dL_law_0 : decode cL_law 0 = .ok (.new 7, 3) := by decide +kernel
theorem dL_law_3 : decode cL_law 3 = .ok (.dup, 1) := by decide +kernel
theorem dL_law_4 : decode cL_law 4 = .ok (.invokespecial 9, 3) := by decide +kernel
theorem dL_law_7 : decode cL_law 7 = .ok (.astore_n 1, 1) := by decide +kernel
theorem dL_law_8 : decode cL_law 8 = .ok (.new 10, 3) := by decide +kernel
theorem dL_law_11 : decode cL_law 11 = .ok (.dup, 1) := by decide +kernel
theorem dL_law_12 : decode cL_law 12 = .ok (.invokespecial 12, 3) := by decide +kernel
theorem dL_law_15 : decode cL_law 15 = .ok (.astore_n 2, 1) := by decide +kernel
theorem dL_law_16 : decode cL_law 16 = .ok (.iconst 0, 1) := by decide +kernel
theorem dL_law_17 : decode cL_law 17 = .ok (.istore_n 3, 1) := by decide +kernel
theorem dL_law_18 : decode cL_law 18 = .ok (.iload_n 3, 1) := by decide +kernel
theorem dL_law_19 : decode cL_law 19 = .ok (.aload_n 0, 1) := by decide +kernel
theorem dL_law_20 : decode cL_law 20 = .ok (.arraylength, 1) := by decide +kernel
theorem dL_law_21 : decode cL_law 21 = .ok (.iconst 5, 1) := by decide +kernel
theorem dL_law_22 : decode cL_law 22 = .ok (.isub, 1) := by decide +kernel
theorem dL_law_23 : decode cL_law 23 = .ok (.if_icmp .gt 859, 3) := by decide +kernel
theorem dL_law_26 : decode cL_law 26 = .ok (.aload_n 0, 1) := by decide +kernel
theorem dL_law_27 : decode cL_law 27 = .ok (.iload_n 3, 1) := by decide +kernel
theorem dL_law_28 : decode cL_law 28 = .ok (.iaload, 1) := by decide +kernel
theorem dL_law_29 : decode cL_law 29 = .ok (.bipush 31, 2) := by decide +kernel
theorem dL_law_31 : decode cL_law 31 = .ok (.iand, 1) := by decide +kernel
theorem dL_law_32 : decode cL_law 32 = .ok (.tableswitch 844 0 23 #[112, 181, 234, 267, 310, 359, 382, 425, 448, 461, 474, 499, 512, 525, 538, 551, 564, 597, 640, 673, 706, 739, 772, 821], 112) := by decide +kernel
theorem dL_law_144 : decode cL_law 144 = .ok (.aload_n 1, 1) := by decide +kernel
theorem dL_law_145 : decode cL_law 145 = .ok (.aload_n 0, 1) := by decide +kernel
theorem dL_law_146 : decode cL_law 146 = .ok (.iload_n 3, 1) := by decide +kernel
theorem dL_law_147 : decode cL_law 147 = .ok (.iconst 1, 1) := by decide +kernel
theorem dL_law_148 : decode cL_law 148 = .ok (.iadd, 1) := by decide +kernel
theorem dL_law_149 : decode cL_law 149 = .ok (.iaload, 1) := by decide +kernel
theorem dL_law_150 : decode cL_law 150 = .ok (.aload_n 0, 1) := by decide +kernel
theorem dL_law_151 : decode cL_law 151 = .ok (.iload_n 3, 1) := by decide +kernel
theorem dL_law_152 : decode cL_law 152 = .ok (.iconst 2, 1) := by decide +kernel
theorem dL_law_153 : decode cL_law 153 = .ok (.iadd, 1) := by decide +kernel
theorem dL_law_154 : decode cL_law 154 = .ok (.iaload, 1) := by decide +kernel
theorem dL_law_155 : decode cL_law 155 = .ok (.ifCond .eq 7, 3) := by decide +kernel
theorem dL_law_158 : decode cL_law 158 = .ok (.iconst 1, 1) := by decide +kernel
theorem dL_law_159 : decode cL_law 159 = .ok (.goto 4, 3) := by decide +kernel
theorem dL_law_162 : decode cL_law 162 = .ok (.iconst 0, 1) := by decide +kernel
theorem dL_law_163 : decode cL_law 163 = .ok (.aload_n 0, 1) := by decide +kernel
theorem dL_law_164 : decode cL_law 164 = .ok (.iload_n 3, 1) := by decide +kernel
theorem dL_law_165 : decode cL_law 165 = .ok (.iconst 3, 1) := by decide +kernel
theorem dL_law_166 : decode cL_law 166 = .ok (.iadd, 1) := by decide +kernel
theorem dL_law_167 : decode cL_law 167 = .ok (.iaload, 1) := by decide +kernel
theorem dL_law_168 : decode cL_law 168 = .ok (.aload_n 0, 1) := by decide +kernel
theorem dL_law_169 : decode cL_law 169 = .ok (.iload_n 3, 1) := by decide +kernel
theorem dL_law_170 : decode cL_law 170 = .ok (.iconst 4, 1) := by decide +kernel
theorem dL_law_171 : decode cL_law 171 = .ok (.iadd, 1) := by decide +kernel
theorem dL_law_172 : decode cL_law 172 = .ok (.iaload, 1) := by decide +kernel
theorem dL_law_173 : decode cL_law 173 = .ok (.invokevirtual 13, 3) := by decide +kernel
theorem dL_law_176 : decode cL_law 176 = .ok (.aload_n 2, 1) := by decide +kernel
theorem dL_law_177 : decode cL_law 177 = .ok (.aload_n 0, 1) := by decide +kernel
theorem dL_law_178 : decode cL_law 178 = .ok (.iload_n 3, 1) := by decide +kernel
theorem dL_law_179 : decode cL_law 179 = .ok (.iconst 1, 1) := by decide +kernel
theorem dL_law_180 : decode cL_law 180 = .ok (.iadd, 1) := by decide +kernel
theorem dL_law_181 : decode cL_law 181 = .ok (.iaload, 1) := by decide +kernel
theorem dL_law_182 : decode cL_law 182 = .ok (.aload_n 0, 1) := by decide +kernel
theorem dL_law_183 : decode cL_law 183 = .ok (.iload_n 3, 1) := by decide +kernel
theorem dL_law_184 : decode cL_law 184 = .ok (.iconst 2, 1) := by decide +kernel
theorem dL_law_185 : decode cL_law 185 = .ok (.iadd, 1) := by decide +kernel
theorem dL_law_186 : decode cL_law 186 = .ok (.iaload, 1) := by decide +kernel
theorem dL_law_187 : decode cL_law 187 = .ok (.ifCond .eq 7, 3) := by decide +kernel
theorem dL_law_190 : decode cL_law 190 = .ok (.iconst 1, 1) := by decide +kernel
theorem dL_law_191 : decode cL_law 191 = .ok (.goto 4, 3) := by decide +kernel
theorem dL_law_194 : decode cL_law 194 = .ok (.iconst 0, 1) := by decide +kernel
theorem dL_law_195 : decode cL_law 195 = .ok (.aload_n 0, 1) := by decide +kernel
theorem dL_law_196 : decode cL_law 196 = .ok (.iload_n 3, 1) := by decide +kernel
theorem dL_law_197 : decode cL_law 197 = .ok (.iconst 3, 1) := by decide +kernel
theorem dL_law_198 : decode cL_law 198 = .ok (.iadd, 1) := by decide +kernel
theorem dL_law_199 : decode cL_law 199 = .ok (.iaload, 1) := by decide +kernel
theorem dL_law_200 : decode cL_law 200 = .ok (.aload_n 0, 1) := by decide +kernel
theorem dL_law_201 : decode cL_law 201 = .ok (.iload_n 3, 1) := by decide +kernel
theorem dL_law_202 : decode cL_law 202 = .ok (.iconst 4, 1) := by decide +kernel
theorem dL_law_203 : decode cL_law 203 = .ok (.iadd, 1) := by decide +kernel
theorem dL_law_204 : decode cL_law 204 = .ok (.iaload, 1) := by decide +kernel
theorem dL_law_205 : decode cL_law 205 = .ok (.invokevirtual 17, 3) := by decide +kernel
theorem dL_law_208 : decode cL_law 208 = .ok (.if_icmp .eq 668, 3) := by decide +kernel
theorem dL_law_211 : decode cL_law 211 = .ok (.iconst 0, 1) := by decide +kernel
theorem dL_law_212 : decode cL_law 212 = .ok (.ireturn, 1) := by decide +kernel
theorem dL_law_213 : decode cL_law 213 = .ok (.aload_n 1, 1) := by decide +kernel
theorem dL_law_214 : decode cL_law 214 = .ok (.aload_n 0, 1) := by decide +kernel
theorem dL_law_215 : decode cL_law 215 = .ok (.iload_n 3, 1) := by decide +kernel
theorem dL_law_216 : decode cL_law 216 = .ok (.iconst 1, 1) := by decide +kernel
theorem dL_law_217 : decode cL_law 217 = .ok (.iadd, 1) := by decide +kernel
theorem dL_law_218 : decode cL_law 218 = .ok (.iaload, 1) := by decide +kernel
theorem dL_law_219 : decode cL_law 219 = .ok (.aload_n 0, 1) := by decide +kernel
theorem dL_law_220 : decode cL_law 220 = .ok (.iload_n 3, 1) := by decide +kernel
theorem dL_law_221 : decode cL_law 221 = .ok (.iconst 2, 1) := by decide +kernel
theorem dL_law_222 : decode cL_law 222 = .ok (.iadd, 1) := by decide +kernel
theorem dL_law_223 : decode cL_law 223 = .ok (.iaload, 1) := by decide +kernel
theorem dL_law_224 : decode cL_law 224 = .ok (.aload_n 0, 1) := by decide +kernel
theorem dL_law_225 : decode cL_law 225 = .ok (.iload_n 3, 1) := by decide +kernel
theorem dL_law_226 : decode cL_law 226 = .ok (.iconst 3, 1) := by decide +kernel
theorem dL_law_227 : decode cL_law 227 = .ok (.iadd, 1) := by decide +kernel
theorem dL_law_228 : decode cL_law 228 = .ok (.iaload, 1) := by decide +kernel
theorem dL_law_229 : decode cL_law 229 = .ok (.aload_n 0, 1) := by decide +kernel
theorem dL_law_230 : decode cL_law 230 = .ok (.iload_n 3, 1) := by decide +kernel
theorem dL_law_231 : decode cL_law 231 = .ok (.iconst 4, 1) := by decide +kernel
theorem dL_law_232 : decode cL_law 232 = .ok (.iadd, 1) := by decide +kernel
theorem dL_law_233 : decode cL_law 233 = .ok (.iaload, 1) := by decide +kernel
theorem dL_law_234 : decode cL_law 234 = .ok (.invokevirtual 18, 3) := by decide +kernel
theorem dL_law_237 : decode cL_law 237 = .ok (.aload_n 2, 1) := by decide +kernel
theorem dL_law_238 : decode cL_law 238 = .ok (.aload_n 0, 1) := by decide +kernel
theorem dL_law_239 : decode cL_law 239 = .ok (.iload_n 3, 1) := by decide +kernel
theorem dL_law_240 : decode cL_law 240 = .ok (.iconst 1, 1) := by decide +kernel
theorem dL_law_241 : decode cL_law 241 = .ok (.iadd, 1) := by decide +kernel
theorem dL_law_242 : decode cL_law 242 = .ok (.iaload, 1) := by decide +kernel
theorem dL_law_243 : decode cL_law 243 = .ok (.aload_n 0, 1) := by decide +kernel
theorem dL_law_244 : decode cL_law 244 = .ok (.iload_n 3, 1) := by decide +kernel
theorem dL_law_245 : decode cL_law 245 = .ok (.iconst 2, 1) := by decide +kernel
theorem dL_law_246 : decode cL_law 246 = .ok (.iadd, 1) := by decide +kernel
theorem dL_law_247 : decode cL_law 247 = .ok (.iaload, 1) := by decide +kernel
theorem dL_law_248 : decode cL_law 248 = .ok (.aload_n 0, 1) := by decide +kernel
theorem dL_law_249 : decode cL_law 249 = .ok (.iload_n 3, 1) := by decide +kernel
theorem dL_law_250 : decode cL_law 250 = .ok (.iconst 3, 1) := by decide +kernel
theorem dL_law_251 : decode cL_law 251 = .ok (.iadd, 1) := by decide +kernel
theorem dL_law_252 : decode cL_law 252 = .ok (.iaload, 1) := by decide +kernel
theorem dL_law_253 : decode cL_law 253 = .ok (.aload_n 0, 1) := by decide +kernel
theorem dL_law_254 : decode cL_law 254 = .ok (.iload_n 3, 1) := by decide +kernel
theorem dL_law_255 : decode cL_law 255 = .ok (.iconst 4, 1) := by decide +kernel
theorem dL_law_256 : decode cL_law 256 = .ok (.iadd, 1) := by decide +kernel
theorem dL_law_257 : decode cL_law 257 = .ok (.iaload, 1) := by decide +kernel
theorem dL_law_258 : decode cL_law 258 = .ok (.invokevirtual 22, 3) := by decide +kernel
theorem dL_law_261 : decode cL_law 261 = .ok (.if_icmp .eq 615, 3) := by decide +kernel
theorem dL_law_264 : decode cL_law 264 = .ok (.iconst 0, 1) := by decide +kernel
theorem dL_law_265 : decode cL_law 265 = .ok (.ireturn, 1) := by decide +kernel
theorem dL_law_266 : decode cL_law 266 = .ok (.aload_n 1, 1) := by decide +kernel
theorem dL_law_267 : decode cL_law 267 = .ok (.aload_n 0, 1) := by decide +kernel
theorem dL_law_268 : decode cL_law 268 = .ok (.iload_n 3, 1) := by decide +kernel
theorem dL_law_269 : decode cL_law 269 = .ok (.iconst 1, 1) := by decide +kernel
theorem dL_law_270 : decode cL_law 270 = .ok (.iadd, 1) := by decide +kernel
theorem dL_law_271 : decode cL_law 271 = .ok (.iaload, 1) := by decide +kernel
theorem dL_law_272 : decode cL_law 272 = .ok (.aload_n 0, 1) := by decide +kernel
theorem dL_law_273 : decode cL_law 273 = .ok (.iload_n 3, 1) := by decide +kernel
theorem dL_law_274 : decode cL_law 274 = .ok (.iconst 2, 1) := by decide +kernel
theorem dL_law_275 : decode cL_law 275 = .ok (.iadd, 1) := by decide +kernel
theorem dL_law_276 : decode cL_law 276 = .ok (.iaload, 1) := by decide +kernel
theorem dL_law_277 : decode cL_law 277 = .ok (.invokevirtual 23, 3) := by decide +kernel
theorem dL_law_280 : decode cL_law 280 = .ok (.aload_n 2, 1) := by decide +kernel
theorem dL_law_281 : decode cL_law 281 = .ok (.aload_n 0, 1) := by decide +kernel
theorem dL_law_282 : decode cL_law 282 = .ok (.iload_n 3, 1) := by decide +kernel
theorem dL_law_283 : decode cL_law 283 = .ok (.iconst 1, 1) := by decide +kernel
theorem dL_law_284 : decode cL_law 284 = .ok (.iadd, 1) := by decide +kernel
theorem dL_law_285 : decode cL_law 285 = .ok (.iaload, 1) := by decide +kernel
theorem dL_law_286 : decode cL_law 286 = .ok (.aload_n 0, 1) := by decide +kernel
theorem dL_law_287 : decode cL_law 287 = .ok (.iload_n 3, 1) := by decide +kernel
theorem dL_law_288 : decode cL_law 288 = .ok (.iconst 2, 1) := by decide +kernel
theorem dL_law_289 : decode cL_law 289 = .ok (.iadd, 1) := by decide +kernel
theorem dL_law_290 : decode cL_law 290 = .ok (.iaload, 1) := by decide +kernel
theorem dL_law_291 : decode cL_law 291 = .ok (.invokevirtual 27, 3) := by decide +kernel
theorem dL_law_294 : decode cL_law 294 = .ok (.if_icmp .eq 582, 3) := by decide +kernel
theorem dL_law_297 : decode cL_law 297 = .ok (.iconst 0, 1) := by decide +kernel
theorem dL_law_298 : decode cL_law 298 = .ok (.ireturn, 1) := by decide +kernel
theorem dL_law_299 : decode cL_law 299 = .ok (.aload_n 1, 1) := by decide +kernel
theorem dL_law_300 : decode cL_law 300 = .ok (.aload_n 0, 1) := by decide +kernel
theorem dL_law_301 : decode cL_law 301 = .ok (.iload_n 3, 1) := by decide +kernel
theorem dL_law_302 : decode cL_law 302 = .ok (.iconst 1, 1) := by decide +kernel
theorem dL_law_303 : decode cL_law 303 = .ok (.iadd, 1) := by decide +kernel
theorem dL_law_304 : decode cL_law 304 = .ok (.iaload, 1) := by decide +kernel
theorem dL_law_305 : decode cL_law 305 = .ok (.aload_n 0, 1) := by decide +kernel
theorem dL_law_306 : decode cL_law 306 = .ok (.iload_n 3, 1) := by decide +kernel
theorem dL_law_307 : decode cL_law 307 = .ok (.iconst 2, 1) := by decide +kernel
theorem dL_law_308 : decode cL_law 308 = .ok (.iadd, 1) := by decide +kernel
theorem dL_law_309 : decode cL_law 309 = .ok (.iaload, 1) := by decide +kernel
theorem dL_law_310 : decode cL_law 310 = .ok (.aload_n 0, 1) := by decide +kernel
theorem dL_law_311 : decode cL_law 311 = .ok (.iload_n 3, 1) := by decide +kernel
theorem dL_law_312 : decode cL_law 312 = .ok (.iconst 3, 1) := by decide +kernel
theorem dL_law_313 : decode cL_law 313 = .ok (.iadd, 1) := by decide +kernel
theorem dL_law_314 : decode cL_law 314 = .ok (.iaload, 1) := by decide +kernel
theorem dL_law_315 : decode cL_law 315 = .ok (.invokevirtual 28, 3) := by decide +kernel
theorem dL_law_318 : decode cL_law 318 = .ok (.aload_n 2, 1) := by decide +kernel
theorem dL_law_319 : decode cL_law 319 = .ok (.aload_n 0, 1) := by decide +kernel
theorem dL_law_320 : decode cL_law 320 = .ok (.iload_n 3, 1) := by decide +kernel
theorem dL_law_321 : decode cL_law 321 = .ok (.iconst 1, 1) := by decide +kernel
theorem dL_law_322 : decode cL_law 322 = .ok (.iadd, 1) := by decide +kernel
theorem dL_law_323 : decode cL_law 323 = .ok (.iaload, 1) := by decide +kernel
theorem dL_law_324 : decode cL_law 324 = .ok (.aload_n 0, 1) := by decide +kernel
theorem dL_law_325 : decode cL_law 325 = .ok (.iload_n 3, 1) := by decide +kernel
theorem dL_law_326 : decode cL_law 326 = .ok (.iconst 2, 1) := by decide +kernel
theorem dL_law_327 : decode cL_law 327 = .ok (.iadd, 1) := by decide +kernel
theorem dL_law_328 : decode cL_law 328 = .ok (.iaload, 1) := by decide +kernel
theorem dL_law_329 : decode cL_law 329 = .ok (.aload_n 0, 1) := by decide +kernel
theorem dL_law_330 : decode cL_law 330 = .ok (.iload_n 3, 1) := by decide +kernel
theorem dL_law_331 : decode cL_law 331 = .ok (.iconst 3, 1) := by decide +kernel
theorem dL_law_332 : decode cL_law 332 = .ok (.iadd, 1) := by decide +kernel
theorem dL_law_333 : decode cL_law 333 = .ok (.iaload, 1) := by decide +kernel
theorem dL_law_334 : decode cL_law 334 = .ok (.invokevirtual 32, 3) := by decide +kernel
theorem dL_law_337 : decode cL_law 337 = .ok (.if_icmp .eq 539, 3) := by decide +kernel
theorem dL_law_340 : decode cL_law 340 = .ok (.iconst 0, 1) := by decide +kernel
theorem dL_law_341 : decode cL_law 341 = .ok (.ireturn, 1) := by decide +kernel
theorem dL_law_342 : decode cL_law 342 = .ok (.aload_n 1, 1) := by decide +kernel
theorem dL_law_343 : decode cL_law 343 = .ok (.aload_n 0, 1) := by decide +kernel
theorem dL_law_344 : decode cL_law 344 = .ok (.iload_n 3, 1) := by decide +kernel
theorem dL_law_345 : decode cL_law 345 = .ok (.iconst 1, 1) := by decide +kernel
theorem dL_law_346 : decode cL_law 346 = .ok (.iadd, 1) := by decide +kernel
theorem dL_law_347 : decode cL_law 347 = .ok (.iaload, 1) := by decide +kernel
theorem dL_law_348 : decode cL_law 348 = .ok (.aload_n 0, 1) := by decide +kernel
theorem dL_law_349 : decode cL_law 349 = .ok (.iload_n 3, 1) := by decide +kernel
theorem dL_law_350 : decode cL_law 350 = .ok (.iconst 2, 1) := by decide +kernel
theorem dL_law_351 : decode cL_law 351 = .ok (.iadd, 1) := by decide +kernel
theorem dL_law_352 : decode cL_law 352 = .ok (.iaload, 1) := by decide +kernel
theorem dL_law_353 : decode cL_law 353 = .ok (.ifCond .eq 7, 3) := by decide +kernel
theorem dL_law_356 : decode cL_law 356 = .ok (.iconst 1, 1) := by decide +kernel
theorem dL_law_357 : decode cL_law 357 = .ok (.goto 4, 3) := by decide +kernel
theorem dL_law_360 : decode cL_law 360 = .ok (.iconst 0, 1) := by decide +kernel
theorem dL_law_361 : decode cL_law 361 = .ok (.invokevirtual 33, 3) := by decide +kernel
theorem dL_law_364 : decode cL_law 364 = .ok (.aload_n 2, 1) := by decide +kernel
theorem dL_law_365 : decode cL_law 365 = .ok (.aload_n 0, 1) := by decide +kernel
theorem dL_law_366 : decode cL_law 366 = .ok (.iload_n 3, 1) := by decide +kernel
theorem dL_law_367 : decode cL_law 367 = .ok (.iconst 1, 1) := by decide +kernel
theorem dL_law_368 : decode cL_law 368 = .ok (.iadd, 1) := by decide +kernel
theorem dL_law_369 : decode cL_law 369 = .ok (.iaload, 1) := by decide +kernel
theorem dL_law_370 : decode cL_law 370 = .ok (.aload_n 0, 1) := by decide +kernel
theorem dL_law_371 : decode cL_law 371 = .ok (.iload_n 3, 1) := by decide +kernel
theorem dL_law_372 : decode cL_law 372 = .ok (.iconst 2, 1) := by decide +kernel
theorem dL_law_373 : decode cL_law 373 = .ok (.iadd, 1) := by decide +kernel
theorem dL_law_374 : decode cL_law 374 = .ok (.iaload, 1) := by decide +kernel
theorem dL_law_375 : decode cL_law 375 = .ok (.ifCond .eq 7, 3) := by decide +kernel
theorem dL_law_378 : decode cL_law 378 = .ok (.iconst 1, 1) := by decide +kernel
theorem dL_law_379 : decode cL_law 379 = .ok (.goto 4, 3) := by decide +kernel
theorem dL_law_382 : decode cL_law 382 = .ok (.iconst 0, 1) := by decide +kernel
theorem dL_law_383 : decode cL_law 383 = .ok (.invokevirtual 37, 3) := by decide +kernel
theorem dL_law_386 : decode cL_law 386 = .ok (.if_icmp .eq 490, 3) := by decide +kernel
theorem dL_law_389 : decode cL_law 389 = .ok (.iconst 0, 1) := by decide +kernel
theorem dL_law_390 : decode cL_law 390 = .ok (.ireturn, 1) := by decide +kernel
theorem dL_law_391 : decode cL_law 391 = .ok (.aload_n 1, 1) := by decide +kernel
theorem dL_law_392 : decode cL_law 392 = .ok (.aload_n 0, 1) := by decide +kernel
theorem dL_law_393 : decode cL_law 393 = .ok (.iload_n 3, 1) := by decide +kernel
theorem dL_law_394 : decode cL_law 394 = .ok (.iconst 1, 1) := by decide +kernel
theorem dL_law_395 : decode cL_law 395 = .ok (.iadd, 1) := by decide +kernel
theorem dL_law_396 : decode cL_law 396 = .ok (.iaload, 1) := by decide +kernel
theorem dL_law_397 : decode cL_law 397 = .ok (.invokevirtual 38, 3) := by decide +kernel
theorem dL_law_400 : decode cL_law 400 = .ok (.aload_n 2, 1) := by decide +kernel
theorem dL_law_401 : decode cL_law 401 = .ok (.aload_n 0, 1) := by decide +kernel
theorem dL_law_402 : decode cL_law 402 = .ok (.iload_n 3, 1) := by decide +kernel
theorem dL_law_403 : decode cL_law 403 = .ok (.iconst 1, 1) := by decide +kernel
theorem dL_law_404 : decode cL_law 404 = .ok (.iadd, 1) := by decide +kernel
theorem dL_law_405 : decode cL_law 405 = .ok (.iaload, 1) := by decide +kernel
theorem dL_law_406 : decode cL_law 406 = .ok (.invokevirtual 42, 3) := by decide +kernel
theorem dL_law_409 : decode cL_law 409 = .ok (.if_icmp .eq 467, 3) := by decide +kernel
theorem dL_law_412 : decode cL_law 412 = .ok (.iconst 0, 1) := by decide +kernel
theorem dL_law_413 : decode cL_law 413 = .ok (.ireturn, 1) := by decide +kernel
theorem dL_law_414 : decode cL_law 414 = .ok (.aload_n 1, 1) := by decide +kernel
theorem dL_law_415 : decode cL_law 415 = .ok (.aload_n 0, 1) := by decide +kernel
theorem dL_law_416 : decode cL_law 416 = .ok (.iload_n 3, 1) := by decide +kernel
theorem dL_law_417 : decode cL_law 417 = .ok (.iconst 1, 1) := by decide +kernel
theorem dL_law_418 : decode cL_law 418 = .ok (.iadd, 1) := by decide +kernel
theorem dL_law_419 : decode cL_law 419 = .ok (.iaload, 1) := by decide +kernel
theorem dL_law_420 : decode cL_law 420 = .ok (.aload_n 0, 1) := by decide +kernel
theorem dL_law_421 : decode cL_law 421 = .ok (.iload_n 3, 1) := by decide +kernel
theorem dL_law_422 : decode cL_law 422 = .ok (.iconst 2, 1) := by decide +kernel
theorem dL_law_423 : decode cL_law 423 = .ok (.iadd, 1) := by decide +kernel
theorem dL_law_424 : decode cL_law 424 = .ok (.iaload, 1) := by decide +kernel
theorem dL_law_425 : decode cL_law 425 = .ok (.aload_n 0, 1) := by decide +kernel
theorem dL_law_426 : decode cL_law 426 = .ok (.iload_n 3, 1) := by decide +kernel
theorem dL_law_427 : decode cL_law 427 = .ok (.iconst 3, 1) := by decide +kernel
theorem dL_law_428 : decode cL_law 428 = .ok (.iadd, 1) := by decide +kernel
theorem dL_law_429 : decode cL_law 429 = .ok (.iaload, 1) := by decide +kernel
theorem dL_law_430 : decode cL_law 430 = .ok (.invokevirtual 43, 3) := by decide +kernel
theorem dL_law_433 : decode cL_law 433 = .ok (.aload_n 2, 1) := by decide +kernel
theorem dL_law_434 : decode cL_law 434 = .ok (.aload_n 0, 1) := by decide +kernel
theorem dL_law_435 : decode cL_law 435 = .ok (.iload_n 3, 1) := by decide +kernel
theorem dL_law_436 : decode cL_law 436 = .ok (.iconst 1, 1) := by decide +kernel
theorem dL_law_437 : decode cL_law 437 = .ok (.iadd, 1) := by decide +kernel
theorem dL_law_438 : decode cL_law 438 = .ok (.iaload, 1) := by decide +kernel
theorem dL_law_439 : decode cL_law 439 = .ok (.aload_n 0, 1) := by decide +kernel
theorem dL_law_440 : decode cL_law 440 = .ok (.iload_n 3, 1) := by decide +kernel
theorem dL_law_441 : decode cL_law 441 = .ok (.iconst 2, 1) := by decide +kernel
theorem dL_law_442 : decode cL_law 442 = .ok (.iadd, 1) := by decide +kernel
theorem dL_law_443 : decode cL_law 443 = .ok (.iaload, 1) := by decide +kernel
theorem dL_law_444 : decode cL_law 444 = .ok (.aload_n 0, 1) := by decide +kernel
theorem dL_law_445 : decode cL_law 445 = .ok (.iload_n 3, 1) := by decide +kernel
theorem dL_law_446 : decode cL_law 446 = .ok (.iconst 3, 1) := by decide +kernel
theorem dL_law_447 : decode cL_law 447 = .ok (.iadd, 1) := by decide +kernel
theorem dL_law_448 : decode cL_law 448 = .ok (.iaload, 1) := by decide +kernel
theorem dL_law_449 : decode cL_law 449 = .ok (.invokevirtual 46, 3) := by decide +kernel
theorem dL_law_452 : decode cL_law 452 = .ok (.if_icmp .eq 424, 3) := by decide +kernel
theorem dL_law_455 : decode cL_law 455 = .ok (.iconst 0, 1) := by decide +kernel
theorem dL_law_456 : decode cL_law 456 = .ok (.ireturn, 1) := by decide +kernel
theorem dL_law_457 : decode cL_law 457 = .ok (.aload_n 1, 1) := by decide +kernel
theorem dL_law_458 : decode cL_law 458 = .ok (.aload_n 0, 1) := by decide +kernel
theorem dL_law_459 : decode cL_law 459 = .ok (.iload_n 3, 1) := by decide +kernel
theorem dL_law_460 : decode cL_law 460 = .ok (.iconst 1, 1) := by decide +kernel
theorem dL_law_461 : decode cL_law 461 = .ok (.iadd, 1) := by decide +kernel
theorem dL_law_462 : decode cL_law 462 = .ok (.iaload, 1) := by decide +kernel
theorem dL_law_463 : decode cL_law 463 = .ok (.invokevirtual 47, 3) := by decide +kernel
theorem dL_law_466 : decode cL_law 466 = .ok (.aload_n 2, 1) := by decide +kernel
theorem dL_law_467 : decode cL_law 467 = .ok (.aload_n 0, 1) := by decide +kernel
theorem dL_law_468 : decode cL_law 468 = .ok (.iload_n 3, 1) := by decide +kernel
theorem dL_law_469 : decode cL_law 469 = .ok (.iconst 1, 1) := by decide +kernel
theorem dL_law_470 : decode cL_law 470 = .ok (.iadd, 1) := by decide +kernel
theorem dL_law_471 : decode cL_law 471 = .ok (.iaload, 1) := by decide +kernel
theorem dL_law_472 : decode cL_law 472 = .ok (.invokevirtual 50, 3) := by decide +kernel
theorem dL_law_475 : decode cL_law 475 = .ok (.if_icmp .eq 401, 3) := by decide +kernel
theorem dL_law_478 : decode cL_law 478 = .ok (.iconst 0, 1) := by decide +kernel
theorem dL_law_479 : decode cL_law 479 = .ok (.ireturn, 1) := by decide +kernel
theorem dL_law_480 : decode cL_law 480 = .ok (.aload_n 1, 1) := by decide +kernel
theorem dL_law_481 : decode cL_law 481 = .ok (.invokevirtual 51, 3) := by decide +kernel
theorem dL_law_484 : decode cL_law 484 = .ok (.aload_n 2, 1) := by decide +kernel
theorem dL_law_485 : decode cL_law 485 = .ok (.invokevirtual 55, 3) := by decide +kernel
theorem dL_law_488 : decode cL_law 488 = .ok (.if_icmp .eq 388, 3) := by decide +kernel
theorem dL_law_491 : decode cL_law 491 = .ok (.iconst 0, 1) := by decide +kernel
theorem dL_law_492 : decode cL_law 492 = .ok (.ireturn, 1) := by decide +kernel
theorem dL_law_493 : decode cL_law 493 = .ok (.aload_n 1, 1) := by decide +kernel
theorem dL_law_494 : decode cL_law 494 = .ok (.invokevirtual 56, 3) := by decide +kernel
theorem dL_law_497 : decode cL_law 497 = .ok (.aload_n 2, 1) := by decide +kernel
theorem dL_law_498 : decode cL_law 498 = .ok (.invokevirtual 59, 3) := by decide +kernel
theorem dL_law_501 : decode cL_law 501 = .ok (.if_icmp .eq 375, 3) := by decide +kernel
theorem dL_law_504 : decode cL_law 504 = .ok (.iconst 0, 1) := by decide +kernel
theorem dL_law_505 : decode cL_law 505 = .ok (.ireturn, 1) := by decide +kernel
theorem dL_law_506 : decode cL_law 506 = .ok (.aload_n 1, 1) := by decide +kernel
theorem dL_law_507 : decode cL_law 507 = .ok (.aload_n 0, 1) := by decide +kernel
theorem dL_law_508 : decode cL_law 508 = .ok (.iload_n 3, 1) := by decide +kernel
theorem dL_law_509 : decode cL_law 509 = .ok (.iconst 1, 1) := by decide +kernel
theorem dL_law_510 : decode cL_law 510 = .ok (.iadd, 1) := by decide +kernel
theorem dL_law_511 : decode cL_law 511 = .ok (.iaload, 1) := by decide +kernel
theorem dL_law_512 : decode cL_law 512 = .ok (.i2c, 1) := by decide +kernel
theorem dL_law_513 : decode cL_law 513 = .ok (.invokevirtual 60, 3) := by decide +kernel
theorem dL_law_516 : decode cL_law 516 = .ok (.aload_n 2, 1) := by decide +kernel
theorem dL_law_517 : decode cL_law 517 = .ok (.aload_n 0, 1) := by decide +kernel
theorem dL_law_518 : decode cL_law 518 = .ok (.iload_n 3, 1) := by decide +kernel
theorem dL_law_519 : decode cL_law 519 = .ok (.iconst 1, 1) := by decide +kernel
theorem dL_law_520 : decode cL_law 520 = .ok (.iadd, 1) := by decide +kernel
theorem dL_law_521 : decode cL_law 521 = .ok (.iaload, 1) := by decide +kernel
theorem dL_law_522 : decode cL_law 522 = .ok (.i2c, 1) := by decide +kernel
theorem dL_law_523 : decode cL_law 523 = .ok (.invokevirtual 64, 3) := by decide +kernel
theorem dL_law_526 : decode cL_law 526 = .ok (.if_icmp .eq 350, 3) := by decide +kernel
theorem dL_law_529 : decode cL_law 529 = .ok (.iconst 0, 1) := by decide +kernel
theorem dL_law_530 : decode cL_law 530 = .ok (.ireturn, 1) := by decide +kernel
theorem dL_law_531 : decode cL_law 531 = .ok (.aload_n 1, 1) := by decide +kernel
theorem dL_law_532 : decode cL_law 532 = .ok (.invokevirtual 65, 3) := by decide +kernel
theorem dL_law_535 : decode cL_law 535 = .ok (.aload_n 2, 1) := by decide +kernel
theorem dL_law_536 : decode cL_law 536 = .ok (.invokevirtual 68, 3) := by decide +kernel
theorem dL_law_539 : decode cL_law 539 = .ok (.if_icmp .eq 337, 3) := by decide +kernel
theorem dL_law_542 : decode cL_law 542 = .ok (.iconst 0, 1) := by decide +kernel
theorem dL_law_543 : decode cL_law 543 = .ok (.ireturn, 1) := by decide +kernel
theorem dL_law_544 : decode cL_law 544 = .ok (.aload_n 1, 1) := by decide +kernel
theorem dL_law_545 : decode cL_law 545 = .ok (.invokevirtual 69, 3) := by decide +kernel
theorem dL_law_548 : decode cL_law 548 = .ok (.aload_n 2, 1) := by decide +kernel
theorem dL_law_549 : decode cL_law 549 = .ok (.invokevirtual 72, 3) := by decide +kernel
theorem dL_law_552 : decode cL_law 552 = .ok (.if_icmp .eq 324, 3) := by decide +kernel
theorem dL_law_555 : decode cL_law 555 = .ok (.iconst 0, 1) := by decide +kernel
theorem dL_law_556 : decode cL_law 556 = .ok (.ireturn, 1) := by decide +kernel
theorem dL_law_557 : decode cL_law 557 = .ok (.aload_n 1, 1) := by decide +kernel
theorem dL_law_558 : decode cL_law 558 = .ok (.invokevirtual 73, 3) := by decide +kernel
theorem dL_law_561 : decode cL_law 561 = .ok (.aload_n 2, 1) := by decide +kernel
theorem dL_law_562 : decode cL_law 562 = .ok (.invokevirtual 76, 3) := by decide +kernel
theorem dL_law_565 : decode cL_law 565 = .ok (.if_icmp .eq 311, 3) := by decide +kernel
theorem dL_law_568 : decode cL_law 568 = .ok (.iconst 0, 1) := by decide +kernel
theorem dL_law_569 : decode cL_law 569 = .ok (.ireturn, 1) := by decide +kernel
theorem dL_law_570 : decode cL_law 570 = .ok (.aload_n 1, 1) := by decide +kernel
theorem dL_law_571 : decode cL_law 571 = .ok (.invokevirtual 77, 3) := by decide +kernel
theorem dL_law_574 : decode cL_law 574 = .ok (.aload_n 2, 1) := by decide +kernel
theorem dL_law_575 : decode cL_law 575 = .ok (.invokevirtual 80, 3) := by decide +kernel
theorem dL_law_578 : decode cL_law 578 = .ok (.if_icmp .eq 298, 3) := by decide +kernel
theorem dL_law_581 : decode cL_law 581 = .ok (.iconst 0, 1) := by decide +kernel
theorem dL_law_582 : decode cL_law 582 = .ok (.ireturn, 1) := by decide +kernel
theorem dL_law_583 : decode cL_law 583 = .ok (.aload_n 1, 1) := by decide +kernel
theorem dL_law_584 : decode cL_law 584 = .ok (.invokevirtual 81, 3) := by decide +kernel
theorem dL_law_587 : decode cL_law 587 = .ok (.aload_n 2, 1) := by decide +kernel
theorem dL_law_588 : decode cL_law 588 = .ok (.invokevirtual 84, 3) := by decide +kernel
theorem dL_law_591 : decode cL_law 591 = .ok (.if_icmp .eq 285, 3) := by decide +kernel
theorem dL_law_594 : decode cL_law 594 = .ok (.iconst 0, 1) := by decide +kernel
theorem dL_law_595 : decode cL_law 595 = .ok (.ireturn, 1) := by decide +kernel
theorem dL_law_596 : decode cL_law 596 = .ok (.aload_n 1, 1) := by decide +kernel
theorem dL_law_597 : decode cL_law 597 = .ok (.aload_n 0, 1) := by decide +kernel
theorem dL_law_598 : decode cL_law 598 = .ok (.iload_n 3, 1) := by decide +kernel
theorem dL_law_599 : decode cL_law 599 = .ok (.iconst 1, 1) := by decide +kernel
theorem dL_law_600 : decode cL_law 600 = .ok (.iadd, 1) := by decide +kernel
theorem dL_law_601 : decode cL_law 601 = .ok (.iaload, 1) := by decide +kernel
theorem dL_law_602 : decode cL_law 602 = .ok (.aload_n 0, 1) := by decide +kernel
theorem dL_law_603 : decode cL_law 603 = .ok (.iload_n 3, 1) := by decide +kernel
theorem dL_law_604 : decode cL_law 604 = .ok (.iconst 2, 1) := by decide +kernel
theorem dL_law_605 : decode cL_law 605 = .ok (.iadd, 1) := by decide +kernel
theorem dL_law_606 : decode cL_law 606 = .ok (.iaload, 1) := by decide +kernel
theorem dL_law_607 : decode cL_law 607 = .ok (.invokevirtual 85, 3) := by decide +kernel
theorem dL_law_610 : decode cL_law 610 = .ok (.aload_n 2, 1) := by decide +kernel
theorem dL_law_611 : decode cL_law 611 = .ok (.aload_n 0, 1) := by decide +kernel
theorem dL_law_612 : decode cL_law 612 = .ok (.iload_n 3, 1) := by decide +kernel
theorem dL_law_613 : decode cL_law 613 = .ok (.iconst 1, 1) := by decide +kernel
theorem dL_law_614 : decode cL_law 614 = .ok (.iadd, 1) := by decide +kernel
theorem dL_law_615 : decode cL_law 615 = .ok (.iaload, 1) := by decide +kernel
theorem dL_law_616 : decode cL_law 616 = .ok (.aload_n 0, 1) := by decide +kernel
theorem dL_law_617 : decode cL_law 617 = .ok (.iload_n 3, 1) := by decide +kernel
theorem dL_law_618 : decode cL_law 618 = .ok (.iconst 2, 1) := by decide +kernel
theorem dL_law_619 : decode cL_law 619 = .ok (.iadd, 1) := by decide +kernel
theorem dL_law_620 : decode cL_law 620 = .ok (.iaload, 1) := by decide +kernel
theorem dL_law_621 : decode cL_law 621 = .ok (.invokevirtual 88, 3) := by decide +kernel
theorem dL_law_624 : decode cL_law 624 = .ok (.if_icmp .eq 252, 3) := by decide +kernel
theorem dL_law_627 : decode cL_law 627 = .ok (.iconst 0, 1) := by decide +kernel
theorem dL_law_628 : decode cL_law 628 = .ok (.ireturn, 1) := by decide +kernel
theorem dL_law_629 : decode cL_law 629 = .ok (.aload_n 1, 1) := by decide +kernel
theorem dL_law_630 : decode cL_law 630 = .ok (.aload_n 0, 1) := by decide +kernel
theorem dL_law_631 : decode cL_law 631 = .ok (.iload_n 3, 1) := by decide +kernel
theorem dL_law_632 : decode cL_law 632 = .ok (.iconst 1, 1) := by decide +kernel
theorem dL_law_633 : decode cL_law 633 = .ok (.iadd, 1) := by decide +kernel
theorem dL_law_634 : decode cL_law 634 = .ok (.iaload, 1) := by decide +kernel
theorem dL_law_635 : decode cL_law 635 = .ok (.aload_n 0, 1) := by decide +kernel
theorem dL_law_636 : decode cL_law 636 = .ok (.iload_n 3, 1) := by decide +kernel
theorem dL_law_637 : decode cL_law 637 = .ok (.iconst 2, 1) := by decide +kernel
theorem dL_law_638 : decode cL_law 638 = .ok (.iadd, 1) := by decide +kernel
theorem dL_law_639 : decode cL_law 639 = .ok (.iaload, 1) := by decide +kernel
theorem dL_law_640 : decode cL_law 640 = .ok (.aload_n 0, 1) := by decide +kernel
theorem dL_law_641 : decode cL_law 641 = .ok (.iload_n 3, 1) := by decide +kernel
theorem dL_law_642 : decode cL_law 642 = .ok (.iconst 3, 1) := by decide +kernel
theorem dL_law_643 : decode cL_law 643 = .ok (.iadd, 1) := by decide +kernel
theorem dL_law_644 : decode cL_law 644 = .ok (.iaload, 1) := by decide +kernel
theorem dL_law_645 : decode cL_law 645 = .ok (.invokevirtual 89, 3) := by decide +kernel
theorem dL_law_648 : decode cL_law 648 = .ok (.aload_n 2, 1) := by decide +kernel
theorem dL_law_649 : decode cL_law 649 = .ok (.aload_n 0, 1) := by decide +kernel
theorem dL_law_650 : decode cL_law 650 = .ok (.iload_n 3, 1) := by decide +kernel
theorem dL_law_651 : decode cL_law 651 = .ok (.iconst 1, 1) := by decide +kernel
theorem dL_law_652 : decode cL_law 652 = .ok (.iadd, 1) := by decide +kernel
theorem dL_law_653 : decode cL_law 653 = .ok (.iaload, 1) := by decide +kernel
theorem dL_law_654 : decode cL_law 654 = .ok (.aload_n 0, 1) := by decide +kernel
theorem dL_law_655 : decode cL_law 655 = .ok (.iload_n 3, 1) := by decide +kernel
theorem dL_law_656 : decode cL_law 656 = .ok (.iconst 2, 1) := by decide +kernel
theorem dL_law_657 : decode cL_law 657 = .ok (.iadd, 1) := by decide +kernel
theorem dL_law_658 : decode cL_law 658 = .ok (.iaload, 1) := by decide +kernel
theorem dL_law_659 : decode cL_law 659 = .ok (.aload_n 0, 1) := by decide +kernel
theorem dL_law_660 : decode cL_law 660 = .ok (.iload_n 3, 1) := by decide +kernel
theorem dL_law_661 : decode cL_law 661 = .ok (.iconst 3, 1) := by decide +kernel
theorem dL_law_662 : decode cL_law 662 = .ok (.iadd, 1) := by decide +kernel
theorem dL_law_663 : decode cL_law 663 = .ok (.iaload, 1) := by decide +kernel
theorem dL_law_664 : decode cL_law 664 = .ok (.invokevirtual 92, 3) := by decide +kernel
theorem dL_law_667 : decode cL_law 667 = .ok (.if_icmp .eq 209, 3) := by decide +kernel
theorem dL_law_670 : decode cL_law 670 = .ok (.iconst 0, 1) := by decide +kernel
theorem dL_law_671 : decode cL_law 671 = .ok (.ireturn, 1) := by decide +kernel
theorem dL_law_672 : decode cL_law 672 = .ok (.aload_n 1, 1) := by decide +kernel
theorem dL_law_673 : decode cL_law 673 = .ok (.aload_n 0, 1) := by decide +kernel
theorem dL_law_674 : decode cL_law 674 = .ok (.iload_n 3, 1) := by decide +kernel
theorem dL_law_675 : decode cL_law 675 = .ok (.iconst 1, 1) := by decide +kernel
theorem dL_law_676 : decode cL_law 676 = .ok (.iadd, 1) := by decide +kernel
theorem dL_law_677 : decode cL_law 677 = .ok (.iaload, 1) := by decide +kernel
theorem dL_law_678 : decode cL_law 678 = .ok (.aload_n 0, 1) := by decide +kernel
theorem dL_law_679 : decode cL_law 679 = .ok (.iload_n 3, 1) := by decide +kernel
theorem dL_law_680 : decode cL_law 680 = .ok (.iconst 2, 1) := by decide +kernel
theorem dL_law_681 : decode cL_law 681 = .ok (.iadd, 1) := by decide +kernel
theorem dL_law_682 : decode cL_law 682 = .ok (.iaload, 1) := by decide +kernel
theorem dL_law_683 : decode cL_law 683 = .ok (.invokevirtual 93, 3) := by decide +kernel
theorem dL_law_686 : decode cL_law 686 = .ok (.aload_n 2, 1) := by decide +kernel
theorem dL_law_687 : decode cL_law 687 = .ok (.aload_n 0, 1) := by decide +kernel
theorem dL_law_688 : decode cL_law 688 = .ok (.iload_n 3, 1) := by decide +kernel
theorem dL_law_689 : decode cL_law 689 = .ok (.iconst 1, 1) := by decide +kernel
theorem dL_law_690 : decode cL_law 690 = .ok (.iadd, 1) := by decide +kernel
theorem dL_law_691 : decode cL_law 691 = .ok (.iaload, 1) := by decide +kernel
theorem dL_law_692 : decode cL_law 692 = .ok (.aload_n 0, 1) := by decide +kernel
theorem dL_law_693 : decode cL_law 693 = .ok (.iload_n 3, 1) := by decide +kernel
theorem dL_law_694 : decode cL_law 694 = .ok (.iconst 2, 1) := by decide +kernel
theorem dL_law_695 : decode cL_law 695 = .ok (.iadd, 1) := by decide +kernel
theorem dL_law_696 : decode cL_law 696 = .ok (.iaload, 1) := by decide +kernel
theorem dL_law_697 : decode cL_law 697 = .ok (.invokevirtual 96, 3) := by decide +kernel
theorem dL_law_700 : decode cL_law 700 = .ok (.if_icmp .eq 176, 3) := by decide +kernel
theorem dL_law_703 : decode cL_law 703 = .ok (.iconst 0, 1) := by decide +kernel
theorem dL_law_704 : decode cL_law 704 = .ok (.ireturn, 1) := by decide +kernel
theorem dL_law_705 : decode cL_law 705 = .ok (.aload_n 1, 1) := by decide +kernel
theorem dL_law_706 : decode cL_law 706 = .ok (.aload_n 0, 1) := by decide +kernel
theorem dL_law_707 : decode cL_law 707 = .ok (.iload_n 3, 1) := by decide +kernel
theorem dL_law_708 : decode cL_law 708 = .ok (.iconst 1, 1) := by decide +kernel
theorem dL_law_709 : decode cL_law 709 = .ok (.iadd, 1) := by decide +kernel
theorem dL_law_710 : decode cL_law 710 = .ok (.iaload, 1) := by decide +kernel
theorem dL_law_711 : decode cL_law 711 = .ok (.aload_n 0, 1) := by decide +kernel
theorem dL_law_712 : decode cL_law 712 = .ok (.iload_n 3, 1) := by decide +kernel
theorem dL_law_713 : decode cL_law 713 = .ok (.iconst 2, 1) := by decide +kernel
theorem dL_law_714 : decode cL_law 714 = .ok (.iadd, 1) := by decide +kernel
theorem dL_law_715 : decode cL_law 715 = .ok (.iaload, 1) := by decide +kernel
theorem dL_law_716 : decode cL_law 716 = .ok (.invokevirtual 97, 3) := by decide +kernel
theorem dL_law_719 : decode cL_law 719 = .ok (.aload_n 2, 1) := by decide +kernel
theorem dL_law_720 : decode cL_law 720 = .ok (.aload_n 0, 1) := by decide +kernel
theorem dL_law_721 : decode cL_law 721 = .ok (.iload_n 3, 1) := by decide +kernel
theorem dL_law_722 : decode cL_law 722 = .ok (.iconst 1, 1) := by decide +kernel
theorem dL_law_723 : decode cL_law 723 = .ok (.iadd, 1) := by decide +kernel
theorem dL_law_724 : decode cL_law 724 = .ok (.iaload, 1) := by decide +kernel
theorem dL_law_725 : decode cL_law 725 = .ok (.aload_n 0, 1) := by decide +kernel
theorem dL_law_726 : decode cL_law 726 = .ok (.iload_n 3, 1) := by decide +kernel
theorem dL_law_727 : decode cL_law 727 = .ok (.iconst 2, 1) := by decide +kernel
theorem dL_law_728 : decode cL_law 728 = .ok (.iadd, 1) := by decide +kernel
theorem dL_law_729 : decode cL_law 729 = .ok (.iaload, 1) := by decide +kernel
theorem dL_law_730 : decode cL_law 730 = .ok (.invokevirtual 100, 3) := by decide +kernel
theorem dL_law_733 : decode cL_law 733 = .ok (.if_icmp .eq 143, 3) := by decide +kernel
theorem dL_law_736 : decode cL_law 736 = .ok (.iconst 0, 1) := by decide +kernel
theorem dL_law_737 : decode cL_law 737 = .ok (.ireturn, 1) := by decide +kernel
theorem dL_law_738 : decode cL_law 738 = .ok (.aload_n 1, 1) := by decide +kernel
theorem dL_law_739 : decode cL_law 739 = .ok (.aload_n 0, 1) := by decide +kernel
theorem dL_law_740 : decode cL_law 740 = .ok (.iload_n 3, 1) := by decide +kernel
theorem dL_law_741 : decode cL_law 741 = .ok (.iconst 1, 1) := by decide +kernel
theorem dL_law_742 : decode cL_law 742 = .ok (.iadd, 1) := by decide +kernel
theorem dL_law_743 : decode cL_law 743 = .ok (.iaload, 1) := by decide +kernel
theorem dL_law_744 : decode cL_law 744 = .ok (.aload_n 0, 1) := by decide +kernel
theorem dL_law_745 : decode cL_law 745 = .ok (.iload_n 3, 1) := by decide +kernel
theorem dL_law_746 : decode cL_law 746 = .ok (.iconst 2, 1) := by decide +kernel
theorem dL_law_747 : decode cL_law 747 = .ok (.iadd, 1) := by decide +kernel
theorem dL_law_748 : decode cL_law 748 = .ok (.iaload, 1) := by decide +kernel
theorem dL_law_749 : decode cL_law 749 = .ok (.invokevirtual 101, 3) := by decide +kernel
theorem dL_law_752 : decode cL_law 752 = .ok (.aload_n 2, 1) := by decide +kernel
theorem dL_law_753 : decode cL_law 753 = .ok (.aload_n 0, 1) := by decide +kernel
theorem dL_law_754 : decode cL_law 754 = .ok (.iload_n 3, 1) := by decide +kernel
theorem dL_law_755 : decode cL_law 755 = .ok (.iconst 1, 1) := by decide +kernel
theorem dL_law_756 : decode cL_law 756 = .ok (.iadd, 1) := by decide +kernel
theorem dL_law_757 : decode cL_law 757 = .ok (.iaload, 1) := by decide +kernel
theorem dL_law_758 : decode cL_law 758 = .ok (.aload_n 0, 1) := by decide +kernel
theorem dL_law_759 : decode cL_law 759 = .ok (.iload_n 3, 1) := by decide +kernel
theorem dL_law_760 : decode cL_law 760 = .ok (.iconst 2, 1) := by decide +kernel
theorem dL_law_761 : decode cL_law 761 = .ok (.iadd, 1) := by decide +kernel
theorem dL_law_762 : decode cL_law 762 = .ok (.iaload, 1) := by decide +kernel
theorem dL_law_763 : decode cL_law 763 = .ok (.invokevirtual 104, 3) := by decide +kernel
theorem dL_law_766 : decode cL_law 766 = .ok (.if_icmp .eq 110, 3) := by decide +kernel
theorem dL_law_769 : decode cL_law 769 = .ok (.iconst 0, 1) := by decide +kernel
theorem dL_law_770 : decode cL_law 770 = .ok (.ireturn, 1) := by decide +kernel
theorem dL_law_771 : decode cL_law 771 = .ok (.aload_n 1, 1) := by decide +kernel
theorem dL_law_772 : decode cL_law 772 = .ok (.aload_n 0, 1) := by decide +kernel
theorem dL_law_773 : decode cL_law 773 = .ok (.iload_n 3, 1) := by decide +kernel
theorem dL_law_774 : decode cL_law 774 = .ok (.iconst 1, 1) := by decide +kernel
theorem dL_law_775 : decode cL_law 775 = .ok (.iadd, 1) := by decide +kernel
theorem dL_law_776 : decode cL_law 776 = .ok (.iaload, 1) := by decide +kernel
theorem dL_law_777 : decode cL_law 777 = .ok (.aload_n 0, 1) := by decide +kernel
theorem dL_law_778 : decode cL_law 778 = .ok (.iload_n 3, 1) := by decide +kernel
theorem dL_law_779 : decode cL_law 779 = .ok (.iconst 2, 1) := by decide +kernel
theorem dL_law_780 : decode cL_law 780 = .ok (.iadd, 1) := by decide +kernel
theorem dL_law_781 : decode cL_law 781 = .ok (.iaload, 1) := by decide +kernel
theorem dL_law_782 : decode cL_law 782 = .ok (.invokevirtual 105, 3) := by decide +kernel
theorem dL_law_785 : decode cL_law 785 = .ok (.aload_n 2, 1) := by decide +kernel
theorem dL_law_786 : decode cL_law 786 = .ok (.aload_n 0, 1) := by decide +kernel
theorem dL_law_787 : decode cL_law 787 = .ok (.iload_n 3, 1) := by decide +kernel
theorem dL_law_788 : decode cL_law 788 = .ok (.iconst 1, 1) := by decide +kernel
theorem dL_law_789 : decode cL_law 789 = .ok (.iadd, 1) := by decide +kernel
theorem dL_law_790 : decode cL_law 790 = .ok (.iaload, 1) := by decide +kernel
theorem dL_law_791 : decode cL_law 791 = .ok (.aload_n 0, 1) := by decide +kernel
theorem dL_law_792 : decode cL_law 792 = .ok (.iload_n 3, 1) := by decide +kernel
theorem dL_law_793 : decode cL_law 793 = .ok (.iconst 2, 1) := by decide +kernel
theorem dL_law_794 : decode cL_law 794 = .ok (.iadd, 1) := by decide +kernel
theorem dL_law_795 : decode cL_law 795 = .ok (.iaload, 1) := by decide +kernel
theorem dL_law_796 : decode cL_law 796 = .ok (.invokevirtual 108, 3) := by decide +kernel
theorem dL_law_799 : decode cL_law 799 = .ok (.if_icmp .eq 77, 3) := by decide +kernel
theorem dL_law_802 : decode cL_law 802 = .ok (.iconst 0, 1) := by decide +kernel
theorem dL_law_803 : decode cL_law 803 = .ok (.ireturn, 1) := by decide +kernel
theorem dL_law_804 : decode cL_law 804 = .ok (.aload_n 1, 1) := by decide +kernel
theorem dL_law_805 : decode cL_law 805 = .ok (.aload_n 0, 1) := by decide +kernel
theorem dL_law_806 : decode cL_law 806 = .ok (.iload_n 3, 1) := by decide +kernel
theorem dL_law_807 : decode cL_law 807 = .ok (.iconst 1, 1) := by decide +kernel
theorem dL_law_808 : decode cL_law 808 = .ok (.iadd, 1) := by decide +kernel
theorem dL_law_809 : decode cL_law 809 = .ok (.iaload, 1) := by decide +kernel
theorem dL_law_810 : decode cL_law 810 = .ok (.aload_n 0, 1) := by decide +kernel
theorem dL_law_811 : decode cL_law 811 = .ok (.iload_n 3, 1) := by decide +kernel
theorem dL_law_812 : decode cL_law 812 = .ok (.iconst 2, 1) := by decide +kernel
theorem dL_law_813 : decode cL_law 813 = .ok (.iadd, 1) := by decide +kernel
theorem dL_law_814 : decode cL_law 814 = .ok (.iaload, 1) := by decide +kernel
theorem dL_law_815 : decode cL_law 815 = .ok (.ifCond .eq 7, 3) := by decide +kernel
theorem dL_law_818 : decode cL_law 818 = .ok (.iconst 1, 1) := by decide +kernel
theorem dL_law_819 : decode cL_law 819 = .ok (.goto 4, 3) := by decide +kernel
theorem dL_law_822 : decode cL_law 822 = .ok (.iconst 0, 1) := by decide +kernel
theorem dL_law_823 : decode cL_law 823 = .ok (.invokevirtual 109, 3) := by decide +kernel
theorem dL_law_826 : decode cL_law 826 = .ok (.aload_n 2, 1) := by decide +kernel
theorem dL_law_827 : decode cL_law 827 = .ok (.aload_n 0, 1) := by decide +kernel
theorem dL_law_828 : decode cL_law 828 = .ok (.iload_n 3, 1) := by decide +kernel
theorem dL_law_829 : decode cL_law 829 = .ok (.iconst 1, 1) := by decide +kernel
theorem dL_law_830 : decode cL_law 830 = .ok (.iadd, 1) := by decide +kernel
theorem dL_law_831 : decode cL_law 831 = .ok (.iaload, 1) := by decide +kernel
theorem dL_law_832 : decode cL_law 832 = .ok (.aload_n 0, 1) := by decide +kernel
theorem dL_law_833 : decode cL_law 833 = .ok (.iload_n 3, 1) := by decide +kernel
theorem dL_law_834 : decode cL_law 834 = .ok (.iconst 2, 1) := by decide +kernel
theorem dL_law_835 : decode cL_law 835 = .ok (.iadd, 1) := by decide +kernel
theorem dL_law_836 : decode cL_law 836 = .ok (.iaload, 1) := by decide +kernel
theorem dL_law_837 : decode cL_law 837 = .ok (.ifCond .eq 7, 3) := by decide +kernel
theorem dL_law_840 : decode cL_law 840 = .ok (.iconst 1, 1) := by decide +kernel
theorem dL_law_841 : decode cL_law 841 = .ok (.goto 4, 3) := by decide +kernel
theorem dL_law_844 : decode cL_law 844 = .ok (.iconst 0, 1) := by decide +kernel
theorem dL_law_845 : decode cL_law 845 = .ok (.invokevirtual 112, 3) := by decide +kernel
theorem dL_law_848 : decode cL_law 848 = .ok (.if_icmp .eq 28, 3) := by decide +kernel
theorem dL_law_851 : decode cL_law 851 = .ok (.iconst 0, 1) := by decide +kernel
theorem dL_law_852 : decode cL_law 852 = .ok (.ireturn, 1) := by decide +kernel
theorem dL_law_853 : decode cL_law 853 = .ok (.aload_n 1, 1) := by decide +kernel
theorem dL_law_854 : decode cL_law 854 = .ok (.aload_n 0, 1) := by decide +kernel
theorem dL_law_855 : decode cL_law 855 = .ok (.iload_n 3, 1) := by decide +kernel
theorem dL_law_856 : decode cL_law 856 = .ok (.iconst 1, 1) := by decide +kernel
theorem dL_law_857 : decode cL_law 857 = .ok (.iadd, 1) := by decide +kernel
theorem dL_law_858 : decode cL_law 858 = .ok (.iaload, 1) := by decide +kernel
theorem dL_law_859 : decode cL_law 859 = .ok (.invokevirtual 113, 3) := by decide +kernel
theorem dL_law_862 : decode cL_law 862 = .ok (.aload_n 2, 1) := by decide +kernel
theorem dL_law_863 : decode cL_law 863 = .ok (.aload_n 0, 1) := by decide +kernel
theorem dL_law_864 : decode cL_law 864 = .ok (.iload_n 3, 1) := by decide +kernel
theorem dL_law_865 : decode cL_law 865 = .ok (.iconst 1, 1) := by decide +kernel
theorem dL_law_866 : decode cL_law 866 = .ok (.iadd, 1) := by decide +kernel
theorem dL_law_867 : decode cL_law 867 = .ok (.iaload, 1) := by decide +kernel
theorem dL_law_868 : decode cL_law 868 = .ok (.invokevirtual 116, 3) := by decide +kernel
theorem dL_law_871 : decode cL_law 871 = .ok (.if_icmp .eq 5, 3) := by decide +kernel
theorem dL_law_874 : decode cL_law 874 = .ok (.iconst 0, 1) := by decide +kernel
theorem dL_law_875 : decode cL_law 875 = .ok (.ireturn, 1) := by decide +kernel
theorem dL_law_876 : decode cL_law 876 = .ok (.iinc 3 5, 3) := by decide +kernel
theorem dL_law_879 : decode cL_law 879 = .ok (.goto (-861), 3) := by decide +kernel
theorem dL_law_882 : decode cL_law 882 = .ok (.iconst 1, 1) := by decide +kernel
theorem dL_law_883 : decode cL_law 883 = .ok (.ireturn, 1) := by decide +kernel
end
section
/-! THE ENGINE. One store for all cells of a system: a system's cells have numbers 0..N-1 (ids), cell a lies at gx_ad L a; what it holds is cell a : va_E. Rows of the kit over it. -/
abbrev gx_cls : List vw_C := [(RX0, TX0, 2), (RX1, TX1, 4), (RX2, TX2, 15), (RX3, TX3, 4), (RX4, TX4, 12), (RX5, TX5, 2), (RX6, TX6, 10), (RX7, TX7, 8), (RX8, TX8, 17)]
def gx_T : List Cond := lw_tbl.filter goodWord
theorem gx_in {w : Cond} (i : Nat) (h : lw_tbl[i]? = some w) (hg : goodWord w = true) : w ∈ gx_T := List.mem_filter.mpr ⟨List.mem_of_getElem? h, hg⟩
theorem gx_good : gx_T.all goodWord = true := List.all_eq_true.mpr fun _ h => (List.mem_filter.mp h).2
def gx_w (y : MethodName) (cc : ByteArray) (n : Nat) (r : Option FieldType) : List Cond := Cond.code y cc n r :: gx_T
theorem gx_GI {y : MethodName} {cc : ByteArray} {n : Nat} {r : Option FieldType} (h : Cond.code y cc n r ∈ gx_T) : GoodIn gx_T (gx_w y cc n r) := by
  intro w hw
  have hw2 : w ∈ gx_T := by
    rcases List.mem_cons.mp hw with e | e
    · rw [e]; exact h
    · exact e
  exact ⟨hw2, good_of_word (List.all_eq_true.mp gx_good _ hw2)⟩
/-- a layout: the tables' classes and slots; where the cells lie; the addresses that are the system's own; the array classes; the two tables -/
abbrev gx_L : Type := va_G × (Nat → Nat) × (Nat → Prop) × (ClassId × ClassId × ClassId × ClassId × ClassId) × Nat × Nat
def gx_D (L : gx_L) : va_G := L.1
def gx_ad (L : gx_L) (a : Nat) : Nat := L.2.1 a
def gx_A (L : gx_L) : Nat → Prop := L.2.2.1
def gx_cI (L : gx_L) : ClassId := L.2.2.2.1.1
def gx_cZ (L : gx_L) : ClassId := L.2.2.2.1.2.1
def gx_cC (L : gx_L) : ClassId := L.2.2.2.1.2.2.1
def gx_cR (L : gx_L) : ClassId := L.2.2.2.1.2.2.2.1
def gx_cS (L : gx_L) : ClassId := L.2.2.2.1.2.2.2.2
def gx_tC (L : gx_L) : Nat := L.2.2.2.2.1
def gx_tS (L : gx_L) : Nat := L.2.2.2.2.2
def gx_ok (L : gx_L) (N : Nat) : Prop := (∀ a b, a < N → b < N → gx_ad L a = gx_ad L b → a = b) ∧ ∀ a, a < N → gx_A L (gx_ad L a)
abbrev gx_tys (L : gx_L) : List (ClassId × FieldType) := [(gx_cI L, .int), (gx_cZ L, .boolean), (gx_cC L, .char), (gx_cR L, .object RX4), (gx_cS L, .object RX6)]
def gx_ws (L : gx_L) (N : Nat) (cell : Nat → va_E) : va_W := (List.range N).map (fun a => (gx_ad L a, cell a))
theorem gx_ws_get {L : gx_L} {N : Nat} {cell : Nat → va_E} {a : Nat} (h : a < N) : (gx_ws L N cell)[a]? = some (gx_ad L a, cell a) := by
  simp [gx_ws, h]
theorem gx_ws_of {L : gx_L} {N : Nat} {cell : Nat → va_E} {k : Nat} {q : Nat × va_E} (h : (gx_ws L N cell)[k]? = some q) : k < N ∧ q = (gx_ad L k, cell k) := by
  have hk : k < N := by
    have := (List.getElem?_eq_some_iff.mp h).1
    simpa [gx_ws] using this
  rw [gx_ws_get hk] at h
  exact ⟨hk, (Option.some.inj h).symm⟩
theorem gx_ws_set {L : gx_L} {N : Nat} {cell cell' : Nat → va_E} {a : Nat} {e : va_E} (he : cell' a = e) (h : ∀ b, b ≠ a → cell' b = cell b) : (gx_ws L N cell).set a (gx_ad L a, e) = gx_ws L N cell' := by
  apply List.ext_getElem?
  intro i
  by_cases hi : i < N
  · rw [gx_ws_get hi]
    by_cases hia : i = a
    · subst hia
      rw [List.getElem?_set_self (by simpa [gx_ws] using hi), he]
    · rw [List.getElem?_set_ne (fun q => hia q.symm), gx_ws_get hi, h i hia]
  · have h1 : (gx_ws L N cell').length = N := by simp [gx_ws]
    have h2 : ((gx_ws L N cell).set a (gx_ad L a, e)).length = N := by simp [gx_ws]
    rw [List.getElem?_eq_none (by omega), List.getElem?_eq_none (by omega)]
theorem gx_ws_D {L : gx_L} {N : Nat} (h : gx_ok L N) (cell : Nat → va_E) : va_D (gx_A L) (gx_ws L N cell) := by
  refine ⟨fun i j p q hi hj e => ?_, fun k q hk => ?_⟩
  · obtain ⟨h1, rfl⟩ := gx_ws_of hi
    obtain ⟨h2, rfl⟩ := gx_ws_of hj
    exact h.1 i j h1 h2 e
  · obtain ⟨h1, rfl⟩ := gx_ws_of hk
    exact h.2 k h1
def gx_cos : Nat → Int32 := fun j => [10000, 9659, 8660, 7071, 5000, 2588, 0, -2588, -5000, -7071, -8660, -9659, -10000, -9659, -8660, -7071, -5000, -2588, 0, 2588, 5000, 7071, 8660, 9659].getD j 0
def gx_sin : Nat → Int32 := fun j => [0, 2588, 5000, 7071, 8660, 9659, 10000, 9659, 8660, 7071, 5000, 2588, 0, -2588, -5000, -7071, -8660, -9659, -10000, -9659, -8660, -7071, -5000, -2588].getD j 0
/-- the two tables, at their places, as the Statement gives them -/
def gx_Z (L : gx_L) (U : State) (H : Heap) : Prop :=
  va_Z "RosetteGantry" "COSINES" "[I" (.ref (gx_tC L)) (gx_A L) U H ∧ va_T .int (gx_tC L) 24 (fun j => .int (gx_cos j)) (gx_A L) U H ∧
  va_Z "RosetteGantry" "SINES" "[I" (.ref (gx_tS L)) (gx_A L) U H ∧ va_T .int (gx_tS L) 24 (fun j => .int (gx_sin j)) (gx_A L) U H
theorem gx_Z.moved {L : gx_L} {u U : State} {H : Heap} (hvm : u.vm.Alike U.vm) (h : gx_Z L u H) : gx_Z L U H :=
  ⟨va_Z.moved hvm h.1, va_T.moved hvm h.2.1, va_Z.moved hvm h.2.2.1, va_T.moved hvm h.2.2.2⟩
theorem gx_Z.kept {L : gx_L} {U : State} {H H1 : Heap} (h : gx_Z L U H) (hq : ∀ a : Nat, a < H.size → ¬ gx_A L a → H1[a]? = H[a]?) : gx_Z L U H1 :=
  ⟨va_Z.kept h.1 hq, va_T.kept h.2.1 hq, va_Z.kept h.2.2.1 hq, va_T.kept h.2.2.2 hq⟩
/-- a state whose heap holds the system -/
def gx_U (L : gx_L) (N : Nat) (cell : Nat → va_E) (U : State) : Prop :=
  va_P (gx_D L) gx_cls (gx_ws L N cell) U.heap ∧ va_K (gx_D L) gx_cls (gx_tys L) U ∧ gx_Z L U U.heap ∧ gx_ok L N
/-- a heap on the way of a method that began with H0 -/
def gx_S (L : gx_L) (N : Nat) (cell : Nat → va_E) (H0 H : Heap) (locs : List Loc) : Prop :=
  va_P (gx_D L) gx_cls (gx_ws L N cell) H ∧ va_S (gx_A L) H0 H locs
/-- what a method's body stands on -/
def gx_C (L : gx_L) (N : Nat) (p : Program) (s : State) (m : MethodId) (args : Array Value) (meth : Method) (c : Code) (own : String) (cc : ByteArray) (n : Nat) (r : Option FieldType) : Prop :=
  p.tables.exec = Jvm.exec ∧ c.code = cc ∧ meth.sig.returnType = r ∧ meth.locks = false ∧ c.maxLocals = n ∧ s.vm.findClass own = some m.cls ∧ (∀ w ∈ gx_T, w.before args s = true) ∧ va_K (gx_D L) gx_cls (gx_tys L) s ∧ gx_Z L s s.heap ∧ gx_ok L N
theorem gx_U_blind {L : gx_L} {N : Nat} {cell : Nat → va_E} {As : List Value} : FrameBlind (va_Pc As (gx_U L N cell)) := by
  intro a U g mk q
  obtain ⟨q1, q2, q3, q4, q5⟩ := q
  exact ⟨q1, q2, va_K.moved (u := U) (U := U.calling g mk a) (Vm.Alike.refl U.vm) q3, gx_Z.moved (u := U) (U := U.calling g mk a) (Vm.Alike.refl U.vm) q4, q5⟩
section GX1
variable {p : Program} {l : Launch} {e : Env} {R : Room} {s : State} {m : MethodId} {args : Array Value} {below : List Frame} {meth : Method} {c : Code} {H : Heap} {locs : List Loc} {cells slots : Nat} {Q : State → Prop}
variable {L : gx_L} {N n : Nat} {cell cell' : Nat → va_E} {own : String} {cc : ByteArray} {ret : Option FieldType} {pc : Nat} {ls : Array Slot} {rest : List Value} {a : Nat}
theorem gx_U_of (C : gx_C L N p s m args meth c own cc n ret) (hM : gx_S L N cell s.heap H locs) {U : State} (hU : U.heap = H) (hvm : s.vm.Alike U.vm) : gx_U L N cell U := by
  obtain ⟨-, -, -, -, -, -, -, hK, hZ, hok⟩ := C
  refine ⟨by rw [hU]; exact hM.1, va_K.moved hvm hK, gx_Z.moved hvm ?_, hok⟩
  rw [hU]
  exact hZ.kept fun q h1 h2 => hM.2.2.1 q h1 h2
/-- a field is read -/
theorem gq_get (C : gx_C L N p s m args meth c own cc n ret) (hM : gx_S L N cell s.heap H locs) (ha : a < N) {ci : Nat} {fs : List Value} {Cn : String} {T : u_T} {Nf : Nat} (hc : cell a = .inr (ci, fs)) (hcl : gx_cls[ci]? = some (Cn, T, Nf)) (hin : ∀ w ∈ u_ws Cn T Nf, w ∈ gx_T) (k : Nat) (hk : k < Nf) {index : Nat}
    (hl : Cond.fieldLink own index (T k).1 (T k).2.1 (T k).2.2.1 ∈ gx_T) {v : Value} (hv : fs[k]? = some v) (hdg : decode cc pc = .ok (.getfield index, 3))
    (kk : W p l e R s m args below meth c H locs cells slots Q (F0 m (pc + 3) ls (v :: rest))) : W p l e R s m args below meth c H locs cells slots Q (F0 m pc ls (.ref (gx_ad L a) :: rest)) := by
  obtain ⟨hx, hb, -, -, -, hown, hts, hK, -, hok⟩ := C
  exact va_get hx hb hts hin hown hK hM.1 a (by rw [gx_ws_get ha, hc]) hcl k hk (hts _ hl) (fun _ h => h) hv hdg kk
/-- a field is written -/
theorem gq_put (C : gx_C L N p s m args meth c own cc n ret) (hM : gx_S L N cell s.heap H locs) (ha : a < N) {ci : Nat} {fs : List Value} {Cn : String} {T : u_T} {Nf : Nat} (hc : cell a = .inr (ci, fs)) (hcl : gx_cls[ci]? = some (Cn, T, Nf)) (hin : ∀ w ∈ u_ws Cn T Nf, w ∈ gx_T) (ty0 : Nat → FieldType) (hty : ∀ k, k < Nf → parseFieldDescriptor (T k).2.2.1 = some (ty0 k)) (hnm : ∀ a, a < Nf → ∀ b, b < Nf → a ≠ b → (T a).2.1 ≠ (T b).2.1) (k : Nat) (hk : k < Nf) {index : Nat}
    (hl : Cond.fieldLink own index (T k).1 (T k).2.1 (T k).2.2.1 ∈ gx_T) (hfin : (T k).2.2.2 = false) {v : Value} (hn : narrow (ty0 k) v = v) (hfit : fits (ty0 k) v = true) (hlen : k < fs.length) (hc' : cell' a = .inr (ci, fs.set k v)) (ho : ∀ b, b ≠ a → cell' b = cell b) (hdg : decode cc pc = .ok (.putfield index, 3))
    (kk : ∀ (H : Heap) (locs : List Loc), gx_S L N cell' s.heap H locs → W p l e R s m args below meth c H locs cells slots Q (F0 m (pc + 3) ls rest)) : W p l e R s m args below meth c H locs cells slots Q (F0 m pc ls (v :: .ref (gx_ad L a) :: rest)) := by
  obtain ⟨hx, hb, -, -, -, hown, hts, hK, -, hok⟩ := C
  refine va_put hx hb hts hin ty0 hty hnm hown hK hM.1 (gx_ws_D hok cell) hM.2 a (by rw [gx_ws_get ha, hc]) hcl k hk (hts _ hl) (fun _ h => h) hfin (hty k hk) hn hfit hlen hdg fun H1 locs1 hP hD hS => ?_
  rw [gx_ws_set hc' ho] at hP
  exact kk H1 locs1 ⟨hP, hS⟩
/-- an int array's element is read -/
theorem gq_iald (C : gx_C L N p s m args meth c own cc n ret) (hM : gx_S L N cell s.heap H locs) (ha : a < N) {k : Nat} {f : Nat → Int32} (hc : cell a = .inl (gx_cI L, k, .inl f)) {i : Int32} (hi : vp_in i k) (hdg : decode cc pc = .ok (.iaload, 1))
    (kk : W p l e R s m args below meth c H locs cells slots Q (F0 m (pc + 1) ls (.int (f i.toNatClampNeg) :: rest))) : W p l e R s m args below meth c H locs cells slots Q (F0 m pc ls (.int i :: .ref (gx_ad L a) :: rest)) := by
  obtain ⟨hx, hb, -, -, -, hown, hts, hK, -, hok⟩ := C
  exact va_iald hx hb hK hM.1 a 0 (by rw [gx_ws_get ha, hc]) rfl hi hdg kk
theorem gq_zald (C : gx_C L N p s m args meth c own cc n ret) (hM : gx_S L N cell s.heap H locs) (ha : a < N) {k : Nat} {f : Nat → Int32} (hc : cell a = .inl (gx_cZ L, k, .inl f)) {i : Int32} (hi : vp_in i k) (hdg : decode cc pc = .ok (.baload, 1))
    (kk : W p l e R s m args below meth c H locs cells slots Q (F0 m (pc + 1) ls (.int (f i.toNatClampNeg) :: rest))) : W p l e R s m args below meth c H locs cells slots Q (F0 m pc ls (.int i :: .ref (gx_ad L a) :: rest)) := by
  obtain ⟨hx, hb, -, -, -, hown, hts, hK, -, hok⟩ := C
  exact va_zald hx hb hK hM.1 a 1 (by rw [gx_ws_get ha, hc]) rfl hi hdg kk
theorem gq_cald (C : gx_C L N p s m args meth c own cc n ret) (hM : gx_S L N cell s.heap H locs) (ha : a < N) {k : Nat} {f : Nat → Int32} (hc : cell a = .inl (gx_cC L, k, .inl f)) {i : Int32} (hi : vp_in i k) (hdg : decode cc pc = .ok (.caload, 1))
    (kk : W p l e R s m args below meth c H locs cells slots Q (F0 m (pc + 1) ls (.int (f i.toNatClampNeg) :: rest))) : W p l e R s m args below meth c H locs cells slots Q (F0 m pc ls (.int i :: .ref (gx_ad L a) :: rest)) := by
  obtain ⟨hx, hb, -, -, -, hown, hts, hK, -, hok⟩ := C
  exact va_cald hx hb hK hM.1 a 2 (by rw [gx_ws_get ha, hc]) rfl hi hdg kk
/-- an int array's element is written -/
theorem gq_iast (C : gx_C L N p s m args meth c own cc n ret) (hM : gx_S L N cell s.heap H locs) (ha : a < N) {k : Nat} {f : Nat → Int32} (hc : cell a = .inl (gx_cI L, k, .inl f)) {i x : Int32} (hi : vp_in i k) (hc' : cell' a = .inl (gx_cI L, k, .inl (upd f i.toNatClampNeg x))) (ho : ∀ b, b ≠ a → cell' b = cell b) (hdg : decode cc pc = .ok (.iastore, 1))
    (kk : ∀ (H : Heap) (locs : List Loc), gx_S L N cell' s.heap H locs → W p l e R s m args below meth c H locs cells slots Q (F0 m (pc + 1) ls rest)) : W p l e R s m args below meth c H locs cells slots Q (F0 m pc ls (.int x :: .int i :: .ref (gx_ad L a) :: rest)) := by
  obtain ⟨hx, hb, -, -, -, hown, hts, hK, -, hok⟩ := C
  refine va_iast hx hb hK hM.1 (gx_ws_D hok cell) hM.2 a 0 (by rw [gx_ws_get ha, hc]) rfl hi hdg fun H1 locs1 hP hD hS => ?_
  rw [gx_ws_set hc' ho] at hP
  exact kk H1 locs1 ⟨hP, hS⟩
theorem gq_zast (C : gx_C L N p s m args meth c own cc n ret) (hM : gx_S L N cell s.heap H locs) (ha : a < N) {k : Nat} {f : Nat → Int32} (hc : cell a = .inl (gx_cZ L, k, .inl f)) {i x : Int32} (hi : vp_in i k) (hc' : cell' a = .inl (gx_cZ L, k, .inl (upd f i.toNatClampNeg (vp_nar .boolean x)))) (ho : ∀ b, b ≠ a → cell' b = cell b) (hdg : decode cc pc = .ok (.bastore, 1))
    (kk : ∀ (H : Heap) (locs : List Loc), gx_S L N cell' s.heap H locs → W p l e R s m args below meth c H locs cells slots Q (F0 m (pc + 1) ls rest)) : W p l e R s m args below meth c H locs cells slots Q (F0 m pc ls (.int x :: .int i :: .ref (gx_ad L a) :: rest)) := by
  obtain ⟨hx, hb, -, -, -, hown, hts, hK, -, hok⟩ := C
  refine va_zast hx hb hK hM.1 (gx_ws_D hok cell) hM.2 a 1 (by rw [gx_ws_get ha, hc]) rfl hi hdg fun H1 locs1 hP hD hS => ?_
  rw [gx_ws_set hc' ho] at hP
  exact kk H1 locs1 ⟨hP, hS⟩
theorem gq_cast (C : gx_C L N p s m args meth c own cc n ret) (hM : gx_S L N cell s.heap H locs) (ha : a < N) {k : Nat} {f : Nat → Int32} (hc : cell a = .inl (gx_cC L, k, .inl f)) {i x : Int32} (hi : vp_in i k) (hc' : cell' a = .inl (gx_cC L, k, .inl (upd f i.toNatClampNeg (vp_nar .char x)))) (ho : ∀ b, b ≠ a → cell' b = cell b) (hdg : decode cc pc = .ok (.castore, 1))
    (kk : ∀ (H : Heap) (locs : List Loc), gx_S L N cell' s.heap H locs → W p l e R s m args below meth c H locs cells slots Q (F0 m (pc + 1) ls rest)) : W p l e R s m args below meth c H locs cells slots Q (F0 m pc ls (.int x :: .int i :: .ref (gx_ad L a) :: rest)) := by
  obtain ⟨hx, hb, -, -, -, hown, hts, hK, -, hok⟩ := C
  refine va_cast hx hb hK hM.1 (gx_ws_D hok cell) hM.2 a 2 (by rw [gx_ws_get ha, hc]) rfl hi hdg fun H1 locs1 hP hD hS => ?_
  rw [gx_ws_set hc' ho] at hP
  exact kk H1 locs1 ⟨hP, hS⟩
/-- an array's length -/
theorem gq_alen (C : gx_C L N p s m args meth c own cc n ret) (hM : gx_S L N cell s.heap H locs) (ha : a < N) {cA : ClassId} {x : vp_A} (hc : cell a = .inl (cA, x)) (t : Nat) {ty : FieldType} (ht : (gx_tys L)[t]? = some (cA, ty)) (hdg : decode cc pc = .ok (.arraylength, 1))
    (kk : W p l e R s m args below meth c H locs cells slots Q (F0 m (pc + 1) ls (.int (nI x.1) :: rest))) : W p l e R s m args below meth c H locs cells slots Q (F0 m pc ls (.ref (gx_ad L a) :: rest)) := by
  obtain ⟨hx, hb, -, -, -, hown, hts, hK, -, hok⟩ := C
  exact va_alen hx hb hK hM.1 a t (by rw [gx_ws_get ha, hc]) ht rfl hdg kk
/-- an element of an array of objects is read -/
theorem gq_aald (C : gx_C L N p s m args meth c own cc n ret) (hM : gx_S L N cell s.heap H locs) (ha : a < N) {cA : ClassId} {k : Nat} {f : Nat → Option Nat} (hc : cell a = .inl (cA, k, .inr (.inr (.inr (.inr f))))) (t : Nat) {Cn : String} (ht : (gx_tys L)[t]? = some (cA, .object Cn)) {i : Int32} (hi : vp_in i k) {b : Nat} (hf : f i.toNatClampNeg = some b) (hdg : decode cc pc = .ok (.aaload, 1))
    (kk : W p l e R s m args below meth c H locs cells slots Q (F0 m (pc + 1) ls (.ref b :: rest))) : W p l e R s m args below meth c H locs cells slots Q (F0 m pc ls (.int i :: .ref (gx_ad L a) :: rest)) := by
  obtain ⟨hx, hb, -, -, -, hown, hts, hK, -, hok⟩ := C
  refine va_aldq hx hb hK hM.1 a t (by rw [gx_ws_get ha, hc]) ht hi hdg ?_
  rw [hf]
  exact kk
/-- an element of an array of objects is written -/
theorem gq_aast (C : gx_C L N p s m args meth c own cc n ret) (hM : gx_S L N cell s.heap H locs) (ha : a < N) {cA : ClassId} {k : Nat} {f : Nat → Option Nat} (hc : cell a = .inl (cA, k, .inr (.inr (.inr (.inr f))))) (t : Nat) {r : vw_C} (ht : (gx_tys L)[t]? = some (cA, .object r.1)) {i : Int32} (hi : vp_in i k) {b ci : Nat} {fs : List Value} (hb' : b < N) (hcb : cell b = .inr (ci, fs)) (hcl : gx_cls[ci]? = some r)
    (hc' : cell' a = .inl (cA, k, .inr (.inr (.inr (.inr (va_up f i.toNatClampNeg (some (gx_ad L b)))))))) (ho : ∀ b, b ≠ a → cell' b = cell b) (hdg : decode cc pc = .ok (.aastore, 1))
    (kk : ∀ (H : Heap) (locs : List Loc), gx_S L N cell' s.heap H locs → W p l e R s m args below meth c H locs cells slots Q (F0 m (pc + 1) ls rest)) : W p l e R s m args below meth c H locs cells slots Q (F0 m pc ls (.ref (gx_ad L b) :: .int i :: .ref (gx_ad L a) :: rest)) := by
  obtain ⟨hx, hb, -, -, -, hown, hts, hK, -, hok⟩ := C
  refine va_astq hx hb hK hM.1 (gx_ws_D hok cell) hM.2 a t b ci (by rw [gx_ws_get ha, hc]) ht (by rw [gx_ws_get hb', hcb]) hcl hi hdg fun H1 locs1 hP hD hS => ?_
  rw [gx_ws_set hc' ho] at hP
  exact kk H1 locs1 ⟨hP, hS⟩
/-- System.arraycopy of ints -/
theorem gq_copyi (C : gx_C L N p s m args meth c own cc n ret) (hM : gx_S L N cell s.heap H locs) {a0 : Nat} (ha0 : a0 < N) (ha : a < N) {n0 n1 : Nat} {f g : Nat → Int32} (hc0 : cell a0 = .inl (gx_cI L, n0, .inl f)) (hc1 : cell a = .inl (gx_cI L, n1, .inl g)) {index : Nat} (hl : Cond.methodLink own index arraycopyName ∈ gx_T) (hnat : Cond.native arraycopyName ∈ gx_T) (hst : Cond.static arraycopyName ∈ gx_T) (hini : Cond.initialized "java/lang/System" ∈ gx_T)
    (hls : ls.size = n) {sp dp k : Int32} (h : (¬ sp < 0 ∧ ¬ dp < 0 ∧ ¬ k < 0) ∧ sp.toNatClampNeg + k.toNatClampNeg ≤ n0 ∧ dp.toNatClampNeg + k.toNatClampNeg ≤ n1) (hr1 : 1 ≤ R.frames) (hr2 : (rest.map fun v => v.category).sum + (nativeFrameWords "java/lang/System" "arraycopy" 5 + 11) ≤ R.locals)
    (hc' : cell' a = .inl (gx_cI L, n1, .inl (va_cpy f g sp.toNatClampNeg dp.toNatClampNeg k.toNatClampNeg))) (ho : ∀ b, b ≠ a → cell' b = cell b) (hdg : decode cc pc = .ok (.invokestatic index, 3))
    (kk : ∀ (H : Heap) (locs : List Loc), gx_S L N cell' s.heap H locs → W p l e R s m args below meth c H locs cells slots Q (F0 m (pc + 3) ls rest)) : W p l e R s m args below meth c H locs cells slots Q (F0 m pc ls (.int k :: .int dp :: .ref (gx_ad L a) :: .int sp :: .ref (gx_ad L a0) :: rest)) := by
  obtain ⟨hx, hb, -, -, hml, hown, hts, hK, -, hok⟩ := C
  refine va_copyi hx hb (by rw [hml, hls]) hown (hts _ hl) (hts _ hnat) (hts _ hst) (hts _ hini) hK hM.1 (gx_ws_D hok cell) hM.2 a0 a 0 0 (by rw [gx_ws_get ha0, hc0]) (by rw [gx_ws_get ha, hc1]) rfl rfl rfl h.1.1 h.1.2.1 h.1.2.2 h.2.1 h.2.2 (fun _ _ => rfl) hr1 hr2 hdg fun H1 locs1 hP hD hS => ?_
  rw [gx_ws_set hc' ho] at hP
  exact kk H1 locs1 ⟨hP, hS⟩
theorem gq_max (C : gx_C L N p s m args meth c own cc n ret) (hls : ls.size = n) {index : Nat} (hl : Cond.methodLink own index Lib.Math.max.name ∈ gx_T) (hst : Cond.static Lib.Math.max.name ∈ gx_T) (hini : Cond.initialized "java/lang/Math" ∈ gx_T) (hcd : Cond.code Lib.Math.max.name Lib.Math.max.code 2 (some .int) ∈ gx_T) (hr1 : 1 ≤ R.frames) (hr2 : (rest.map fun v => v.category).sum + 13 ≤ R.locals) (hc : cells ≤ R.cells) (hs : slots ≤ R.slots) {x y : Int32} (hdg : decode cc pc = .ok (.invokestatic index, 3))
    (kk : W p l e R s m args below meth c H locs cells slots Q (F0 m (pc + 3) ls (.int (if x < y then y else x) :: rest))) : W p l e R s m args below meth c H locs cells slots Q (F0 m pc ls (.int y :: .int x :: rest)) := by
  obtain ⟨hx, hb, -, -, hml, hown, hts, hK, -, hok⟩ := C
  exact va_mmax hx hb (by rw [hml, hls]) hown (hts _ hl) (hts _ hst) (hts _ hini) (hts _ hcd) hr1 hr2 hc hs hdg kk
theorem gq_min (C : gx_C L N p s m args meth c own cc n ret) (hls : ls.size = n) {index : Nat} (hl : Cond.methodLink own index Lib.Math.min.name ∈ gx_T) (hst : Cond.static Lib.Math.min.name ∈ gx_T) (hini : Cond.initialized "java/lang/Math" ∈ gx_T) (hcd : Cond.code Lib.Math.min.name Lib.Math.min.code 2 (some .int) ∈ gx_T) (hr1 : 1 ≤ R.frames) (hr2 : (rest.map fun v => v.category).sum + 13 ≤ R.locals) (hc : cells ≤ R.cells) (hs : slots ≤ R.slots) {x y : Int32} (hdg : decode cc pc = .ok (.invokestatic index, 3))
    (kk : W p l e R s m args below meth c H locs cells slots Q (F0 m (pc + 3) ls (.int (if y < x then y else x) :: rest))) : W p l e R s m args below meth c H locs cells slots Q (F0 m pc ls (.int y :: .int x :: rest)) := by
  obtain ⟨hx, hb, -, -, hml, hown, hts, hK, -, hok⟩ := C
  exact va_mmin hx hb (by rw [hml, hls]) hown (hts _ hl) (hts _ hst) (hts _ hini) (hts _ hcd) hr1 hr2 hc hs hdg kk
theorem gq_abs (C : gx_C L N p s m args meth c own cc n ret) (hls : ls.size = n) {index : Nat} (hl : Cond.methodLink own index Lib.Math.abs.name ∈ gx_T) (hst : Cond.static Lib.Math.abs.name ∈ gx_T) (hini : Cond.initialized "java/lang/Math" ∈ gx_T) (hcd : Cond.code Lib.Math.abs.name Lib.Math.abs.code 1 (some .int) ∈ gx_T) (hr1 : 1 ≤ R.frames) (hr2 : (rest.map fun v => v.category).sum + 13 ≤ R.locals) (hc : cells ≤ R.cells) (hs : slots ≤ R.slots) {x : Int32} (hdg : decode cc pc = .ok (.invokestatic index, 3))
    (kk : W p l e R s m args below meth c H locs cells slots Q (F0 m (pc + 3) ls (.int (if 0 ≤ x then x else 0 - x) :: rest))) : W p l e R s m args below meth c H locs cells slots Q (F0 m pc ls (.int x :: rest)) := by
  obtain ⟨hx, hb, -, -, hml, hown, hts, hK, -, hok⟩ := C
  exact va_mabs hx hb (by rw [hml, hls]) hown (hts _ hl) (hts _ hst) (hts _ hini) (hts _ hcd) hr1 hr2 hc hs hdg kk
theorem gq_gets (C : gx_C L N p s m args meth c own cc n ret) (hM : gx_S L N cell s.heap H locs) {C1 n1 d1 host : String} {v : Value} (hZ : va_Z C1 n1 d1 v (gx_A L) s s.heap) {index : Nat} (hl : Cond.fieldLinkNest own index C1 n1 d1 host ∈ gx_T) (hdg : decode cc pc = .ok (.getstatic index, 3))
    (kk : W p l e R s m args below meth c H locs cells slots Q (F0 m (pc + 3) ls (v :: rest))) : W p l e R s m args below meth c H locs cells slots Q (F0 m pc ls rest) := by
  obtain ⟨hx, hb, -, -, -, hown, hts, hK, -, hok⟩ := C
  exact va_getsN hx hb hZ hM.2 hown (hts _ hl) (fun _ h => h) hdg kk
theorem gq_tald (C : gx_C L N p s m args meth c own cc n ret) (hM : gx_S L N cell s.heap H locs) {t k : Nat} {f : Nat → Int32} (hT : va_T .int t k (fun j => .int (f j)) (gx_A L) s s.heap) {i : Int32} (hi : vp_in i k) (hdg : decode cc pc = .ok (.iaload, 1))
    (kk : W p l e R s m args below meth c H locs cells slots Q (F0 m (pc + 1) ls (.int (f i.toNatClampNeg) :: rest))) : W p l e R s m args below meth c H locs cells slots Q (F0 m pc ls (.int i :: .ref t :: rest)) := by
  obtain ⟨hx, hb, -, -, -, hown, hts, hK, -, hok⟩ := C
  exact va_ti hx hb hT hM.2 hi rfl hdg kk
theorem gq_ldc (C : gx_C L N p s m args meth c own cc n ret) {index : Nat} {v : Int32} (hl : Cond.constant own index v ∈ gx_T) (hdg : decode cc pc = .ok (.ldc index, 2)) (k : W p l e R s m args below meth c H locs cells slots Q (F0 m (pc + 2) ls (.int v :: rest))) : W p l e R s m args below meth c H locs cells slots Q (F0 m pc ls rest) := by
  obtain ⟨hx, hb, -, -, -, hown, hts, hK, -, hok⟩ := C
  exact lv_ldc hx hb hown (hts _ hl) hdg k
theorem gq_ldcw (C : gx_C L N p s m args meth c own cc n ret) {index : Nat} {v : Int32} (hl : Cond.constant own index v ∈ gx_T) (hdg : decode cc pc = .ok (.ldc_w index, 3)) (k : W p l e R s m args below meth c H locs cells slots Q (F0 m (pc + 3) ls (.int v :: rest))) : W p l e R s m args below meth c H locs cells slots Q (F0 m pc ls rest) := by
  obtain ⟨hx, hb, -, -, -, hown, hts, hK, -, hok⟩ := C
  exact lv_ldcw hx hb hown (hts _ hl) hdg k
theorem gq_ldc2 (C : gx_C L N p s m args meth c own cc n ret) {index : Nat} {v : Int64} (hl : Cond.constantLong own index v ∈ gx_T) (hdg : decode cc pc = .ok (.ldc2_w index, 3)) (k : W p l e R s m args below meth c H locs cells slots Q (F0 m (pc + 3) ls (.long v :: rest))) : W p l e R s m args below meth c H locs cells slots Q (F0 m pc ls rest) := by
  obtain ⟨hx, hb, -, -, -, hown, hts, hK, -, hok⟩ := C
  exact lv_ldc2 hx hb hown (hts _ hl) hdg k
end GX1
/-- the callee's words -/
def gx_k (y : MethodName) (bytes : ByteArray) (maxL : Nat) (ret : Option FieldType) (k : Nat) : Prop :=
  Cond.code y bytes maxL ret ∈ gx_T ∧ Cond.initialized y.cls ∈ gx_T ∧ (y.cls ≠ "java/lang/invoke/MethodHandle" ∧ y.cls ≠ "java/lang/invoke/VarHandle" ∧ (parseMethodDescriptor y.desc).map (fun d => d.parameters.length) = some k)
def gx_kV (y : MethodName) (bytes : ByteArray) (maxL : Nat) (ret : Option FieldType) (k : Nat) : Prop :=
  gx_k y bytes maxL ret k ∧ Cond.instanceMethod y ∈ gx_T ∧ Cond.selects y.cls y y ∈ gx_T
def gx_kS (y : MethodName) (bytes : ByteArray) (maxL : Nat) (ret : Option FieldType) (k : Nat) : Prop :=
  gx_k y bytes maxL ret k ∧ Cond.static y ∈ gx_T
section GX2
variable {p : Program} {l : Launch} {e : Env} {R : Room} {s : State} {m : MethodId} {args : Array Value} {below : List Frame} {meth : Method} {c : Code} {H : Heap} {locs : List Loc} {cells slots : Nat} {Q : State → Prop}
variable {L : gx_L} {N n : Nat} {own : String} {cc : ByteArray} {ret : Option FieldType} {pc : Nat} {ls : Array Slot} {rest st0 : List Value} {a : Nat} {M : Type} {cellOf : M → Nat → va_E} {I : M}
variable {y : MethodName} {bytes : ByteArray} {maxL k index ci : Nat} {r1 : Option FieldType} {rm : Room} {As : List Value} {Qc : Array Value → State → Outcome → State → Prop} {fs : List Value}
/-- a call of a method of an object, run -/
theorem gq_runV (C : gx_C L N p s m args meth c own cc n ret) (hM : gx_S L N (cellOf I) s.heap H locs) (ha : a < N) (hc : cellOf I a = .inr (ci, fs)) {T : u_T} {Nf : Nat} (hcl : gx_cls[ci]? = some (y.cls, T, Nf))
    (hY : Met l y (gx_w y bytes maxL r1) rm (va_Pc (.ref (gx_ad L a) :: As) (gx_U L N (cellOf I))) Qc 0 0 (gx_A L)) (hk : gx_kV y bytes maxL r1 k) (hl : Cond.methodLink own index y ∈ gx_T) (hn : As.length = k) (hls : ls.size = n) (hst : st0 = As.reverse ++ .ref (gx_ad L a) :: rest) (hsum : (rest.map fun v => v.category).sum ≤ 8)
    (hr : (rm.cells = 0 ∧ rm.slots = 0) ∧ rm.frames + 1 ≤ R.frames ∧ 8 + (maxL + 11) + rm.locals ≤ R.locals) (hf : cells ≤ R.cells ∧ slots ≤ R.slots) (hdg : decode cc pc = .ok (.invokevirtual index, 3)) :
    va_Run p l e R s m args below meth c H locs cells slots 0 0 (F0 m pc ls st0) rest (Qc (Value.ref (gx_ad L a) :: As).toArray) (gx_A L) := by
  have C0 := C
  obtain ⟨hx, hb, -, -, hml, hown, hts, hK, -, hok⟩ := C0
  obtain ⟨⟨k1, k2, k3⟩, k4, k5⟩ := hk
  refine va_runV (Ts := gx_T) (As := As) (rest := rest) ⟨hx, hb, hml, hown, hts⟩ hY ⟨callB_of k hts (gx_GI k1) rfl hr.1.1 hr.1.2 (hts _ k2) (hts _ hl) k3 hr.2, hts _ k4, hts _ k5⟩ ⟨gx_U_blind, ?_, fun U hU hW => ⟨rfl, gx_U_of C hM hU hW.alike⟩⟩ rfl hn hls hst (lv_room hsum) hdg ⟨by simpa using hf.1, by simpa using hf.2⟩
  exact va_recv (q := (y.cls, T, Nf)) hK hM.1 hcl (q0 := a) (by rw [gx_ws_get ha, hc])
/-- a call of a static method of the own class -/
theorem gq_runS (C : gx_C L N p s m args meth c own cc n ret) (hM : gx_S L N (cellOf I) s.heap H locs)
    (hY : Met l y (gx_w y bytes maxL r1) rm (va_Pc As (gx_U L N (cellOf I))) Qc 0 0 (gx_A L)) (hk : gx_kS y bytes maxL r1 k) (hl : Cond.methodLink own index y ∈ gx_T) (hn : As.length = k) (hls : ls.size = n) (hst : st0 = As.reverse ++ rest) (hsum : (rest.map fun v => v.category).sum ≤ 8)
    (hr : (rm.cells = 0 ∧ rm.slots = 0) ∧ rm.frames + 1 ≤ R.frames ∧ 8 + (maxL + 11) + rm.locals ≤ R.locals) (hf : cells ≤ R.cells ∧ slots ≤ R.slots) (hdg : decode cc pc = .ok (.invokestatic index, 3)) :
    va_Run p l e R s m args below meth c H locs cells slots 0 0 (F0 m pc ls st0) rest (Qc As.toArray) (gx_A L) := by
  have C0 := C
  obtain ⟨hx, hb, -, -, hml, hown, hts, hK, -, hok⟩ := C0
  obtain ⟨⟨k1, k2, k3⟩, k4⟩ := hk
  exact va_runS (Ts := gx_T) (As := As) (rest := rest) ⟨hx, hb, hml, hown, hts⟩ hY ⟨callB_of k hts (gx_GI k1) rfl hr.1.1 hr.1.2 (hts _ k2) (hts _ hl) k3 hr.2, hts _ k4⟩ ⟨gx_U_blind, fun U hU hW => ⟨rfl, gx_U_of C hM hU hW.alike⟩⟩ rfl hn hls hst (lv_room hsum) hdg ⟨by simpa using hf.1, by simpa using hf.2⟩
/-- a call of a private static method of a nest mate -/
theorem gq_runSN (C : gx_C L N p s m args meth c own cc n ret) (hM : gx_S L N (cellOf I) s.heap H locs) {host : String}
    (hY : Met l y (gx_w y bytes maxL r1) rm (va_Pc As (gx_U L N (cellOf I))) Qc 0 0 (gx_A L)) (hk : gx_kS y bytes maxL r1 k) (hl : Cond.methodLinkNest own index y host ∈ gx_T) (hn : As.length = k) (hls : ls.size = n) (hst : st0 = As.reverse ++ rest) (hsum : (rest.map fun v => v.category).sum ≤ 8)
    (hr : (rm.cells = 0 ∧ rm.slots = 0) ∧ rm.frames + 1 ≤ R.frames ∧ 8 + (maxL + 11) + rm.locals ≤ R.locals) (hf : cells ≤ R.cells ∧ slots ≤ R.slots) (hdg : decode cc pc = .ok (.invokestatic index, 3)) :
    va_Run p l e R s m args below meth c H locs cells slots 0 0 (F0 m pc ls st0) rest (Qc As.toArray) (gx_A L) := by
  have C0 := C
  obtain ⟨hx, hb, -, -, hml, hown, hts, hK, -, hok⟩ := C0
  obtain ⟨⟨k1, k2, k3⟩, k4⟩ := hk
  refine va_runSN (Ts := gx_T) (As := As) (rest := rest) (host := host) ⟨hx, hb, hml, hown, hts⟩ hY ⟨va_cnB (ret := r1) k hts (gx_GI k1) rfl hr.1.1 hr.1.2 ?_ (hts _ k2) k3 hr.2, hts _ k4, trivial⟩ ⟨gx_U_blind, fun U hU hW => ⟨rfl, gx_U_of C hM hU hW.alike⟩⟩ rfl hn hls hst (lv_room hsum) hdg ⟨by simpa using hf.1, by simpa using hf.2⟩
  exact va_Nw.of rfl (hts _ hl)
/-- the answer comes back -/
theorem gq_backi (C : gx_C L N p s m args meth c own cc n ret) (hM : gx_S L N (cellOf I) s.heap H locs) {Qp : Int32 → M → Prop} {aa : Array Value}
    (hr : va_Run p l e R s m args below meth c H locs cells slots 0 0 (F0 m pc ls st0) rest (va_Qi Qp (fun I' t => gx_U L N (cellOf I') t) (gx_A L) aa) (gx_A L))
    (kk : ∀ (r : Int32) (I : M) (H : Heap) (locs : List Loc), Qp r I → gx_S L N (cellOf I) s.heap H locs → W p l e R s m args below meth c H locs cells slots Q (F0 m (pc + 3) ls (.int r :: rest))) : W p l e R s m args below meth c H locs cells slots Q (F0 m pc ls st0) := by
  refine va_calli hr hM.2 (fun _ _ h => h) (fun _ h => h) fun r u t H1 locs1 ht hvm hp hB hz hk1 hS => ?_
  exact kk r u H1 locs1 hp ⟨by rw [← ht]; exact hB.1, hS⟩
theorem gq_backl (C : gx_C L N p s m args meth c own cc n ret) (hM : gx_S L N (cellOf I) s.heap H locs) {Qp : Int64 → M → Prop} {aa : Array Value}
    (hr : va_Run p l e R s m args below meth c H locs cells slots 0 0 (F0 m pc ls st0) rest (va_Ql Qp (fun I' t => gx_U L N (cellOf I') t) (gx_A L) aa) (gx_A L))
    (kk : ∀ (r : Int64) (I : M) (H : Heap) (locs : List Loc), Qp r I → gx_S L N (cellOf I) s.heap H locs → W p l e R s m args below meth c H locs cells slots Q (F0 m (pc + 3) ls (.long r :: rest))) : W p l e R s m args below meth c H locs cells slots Q (F0 m pc ls st0) := by
  refine va_calll hr hM.2 (fun _ _ h => h) (fun _ h => h) fun r u t H1 locs1 ht hvm hp hB hz hk1 hS => ?_
  exact kk r u H1 locs1 hp ⟨by rw [← ht]; exact hB.1, hS⟩
theorem gq_backv (C : gx_C L N p s m args meth c own cc n ret) (hM : gx_S L N (cellOf I) s.heap H locs) {Qp : M → Prop} {aa : Array Value}
    (hr : va_Run p l e R s m args below meth c H locs cells slots 0 0 (F0 m pc ls st0) rest (va_Qv Qp (fun I' t => gx_U L N (cellOf I') t) (gx_A L) aa) (gx_A L))
    (kk : ∀ (I : M) (H : Heap) (locs : List Loc), Qp I → gx_S L N (cellOf I) s.heap H locs → W p l e R s m args below meth c H locs cells slots Q (F0 m (pc + 3) ls rest)) : W p l e R s m args below meth c H locs cells slots Q (F0 m pc ls st0) := by
  refine va_callv hr hM.2 (fun _ _ h => h) (fun _ h => h) fun u t H1 locs1 ht hvm hp hB hz hk1 hS => ?_
  exact kk u H1 locs1 hp ⟨by rw [← ht]; exact hB.1, hS⟩
theorem gq_backe (C : gx_C L N p s m args meth c own cc n ret) (hM : gx_S L N (cellOf I) s.heap H locs) {Qp : Option Nat → M → Prop} {aa : Array Value}
    (hr : va_Run p l e R s m args below meth c H locs cells slots 0 0 (F0 m pc ls st0) rest (va_Qe (gx_ad L) Qp (fun I' t => gx_U L N (cellOf I') t) (gx_A L) aa) (gx_A L))
    (kk : ∀ (r : Option Nat) (I : M) (H : Heap) (locs : List Loc), Qp r I → gx_S L N (cellOf I) s.heap H locs → W p l e R s m args below meth c H locs cells slots Q (F0 m (pc + 3) ls (va_re (gx_ad L) r :: rest))) : W p l e R s m args below meth c H locs cells slots Q (F0 m pc ls st0) := by
  refine va_calle hr hM.2 (fun _ _ h => h) (fun _ h => h) fun r u t H1 locs1 ht hvm hp hB hz hk1 hS => ?_
  exact kk r u H1 locs1 hp ⟨by rw [← ht]; exact hB.1, hS⟩
/-- returns -/
theorem gq_iret (C : gx_C L N p s m args meth c own cc n (some .int)) (hM : gx_S L N (cellOf I) s.heap H locs) {Qp : Int32 → M → Prop} {v : Int32} (hQ : Qp v I) (hdg : decode cc pc = .ok (.ireturn, 1)) :
    W p l e R s m args below meth c H locs cells slots (MQ below (va_Qi Qp (fun I' t => gx_U L N (cellOf I') t) (gx_A L)) args s cells slots (gx_A L)) (F0 m pc ls [.int v]) := by
  have C0 := C
  obtain ⟨hx, hb, hr, hlk, hml, hown, hts, hK, -, hok⟩ := C0
  exact W.iret hx hb hr (fun t ht hW => ⟨⟨v, I, rfl, hQ, gx_U_of C hM ht hW.alike⟩, hM.2.F ht⟩) hM.2.2.2 hdg hlk
theorem gq_zret (C : gx_C L N p s m args meth c own cc n (some .boolean)) (hM : gx_S L N (cellOf I) s.heap H locs) {Qp : Int32 → M → Prop} {v : Int32} (hQ : Qp v I) (hz : v &&& 1 = v) (hdg : decode cc pc = .ok (.ireturn, 1)) :
    W p l e R s m args below meth c H locs cells slots (MQ below (va_Qi Qp (fun I' t => gx_U L N (cellOf I') t) (gx_A L)) args s cells slots (gx_A L)) (F0 m pc ls [.int v]) := by
  have C0 := C
  obtain ⟨hx, hb, hr, hlk, hml, hown, hts, hK, -, hok⟩ := C0
  exact W.zret hx hb hr (by show Value.int (v &&& 1) = _; rw [hz]) (fun t ht hW => ⟨⟨v, I, rfl, hQ, gx_U_of C hM ht hW.alike⟩, hM.2.F ht⟩) hM.2.2.2 hdg hlk
theorem gq_lret (C : gx_C L N p s m args meth c own cc n (some .long)) (hM : gx_S L N (cellOf I) s.heap H locs) {Qp : Int64 → M → Prop} {v : Int64} (hQ : Qp v I) (hdg : decode cc pc = .ok (.lreturn, 1)) :
    W p l e R s m args below meth c H locs cells slots (MQ below (va_Ql Qp (fun I' t => gx_U L N (cellOf I') t) (gx_A L)) args s cells slots (gx_A L)) (F0 m pc ls [.long v]) := by
  have C0 := C
  obtain ⟨hx, hb, hr, hlk, hml, hown, hts, hK, -, hok⟩ := C0
  exact W.lret hx hb hr (fun t ht hW => ⟨⟨v, I, rfl, hQ, gx_U_of C hM ht hW.alike⟩, hM.2.F ht⟩) hM.2.2.2 hdg hlk
theorem gq_vret (C : gx_C L N p s m args meth c own cc n none) (hM : gx_S L N (cellOf I) s.heap H locs) {Qp : M → Prop} (hQ : Qp I) (hdg : decode cc pc = .ok (.return_, 1)) :
    W p l e R s m args below meth c H locs cells slots (MQ below (va_Qv Qp (fun I' t => gx_U L N (cellOf I') t) (gx_A L)) args s cells slots (gx_A L)) (F0 m pc ls []) := by
  have C0 := C
  obtain ⟨hx, hb, hr, hlk, hml, hown, hts, hK, -, hok⟩ := C0
  exact W.vret hx hb hr (fun t ht hW => ⟨⟨I, rfl, hQ, gx_U_of C hM ht hW.alike⟩, hM.2.F ht⟩) hM.2.2.2 hdg hlk
theorem gq_aret {Cn : String} (C : gx_C L N p s m args meth c own cc n (some (.object Cn))) (hM : gx_S L N (cellOf I) s.heap H locs) {Qp : Option Nat → M → Prop} {b : Nat} (hQ : Qp (some b) I) (hdg : decode cc pc = .ok (.areturn, 1)) :
    W p l e R s m args below meth c H locs cells slots (MQ below (va_Qe (gx_ad L) Qp (fun I' t => gx_U L N (cellOf I') t) (gx_A L)) args s cells slots (gx_A L)) (F0 m pc ls [.ref (gx_ad L b)]) := by
  have C0 := C
  obtain ⟨hx, hb, hr, hlk, hml, hown, hts, hK, -, hok⟩ := C0
  exact W.aret hx hb hr (Or.inl ⟨_, rfl⟩) (Or.inr ⟨_, rfl⟩) (fun t ht hW => ⟨⟨some b, I, rfl, hQ, gx_U_of C hM ht hW.alike⟩, hM.2.F ht⟩) hM.2.2.2 hdg hlk
theorem gq_nret {Cn : String} (C : gx_C L N p s m args meth c own cc n (some (.object Cn))) (hM : gx_S L N (cellOf I) s.heap H locs) {Qp : Option Nat → M → Prop} (hQ : Qp none I) (hdg : decode cc pc = .ok (.areturn, 1)) :
    W p l e R s m args below meth c H locs cells slots (MQ below (va_Qe (gx_ad L) Qp (fun I' t => gx_U L N (cellOf I') t) (gx_A L)) args s cells slots (gx_A L)) (F0 m pc ls [.null]) := by
  have C0 := C
  obtain ⟨hx, hb, hr, hlk, hml, hown, hts, hK, -, hok⟩ := C0
  exact W.aret hx hb hr (Or.inl ⟨_, rfl⟩) (Or.inl rfl) (fun t ht hW => ⟨⟨none, I, rfl, hQ, gx_U_of C hM ht hW.alike⟩, hM.2.F ht⟩) hM.2.2.2 hdg hlk
/-- a method's body is entered -/
theorem gq_enter (hy : plainName y.cls = true) (hlen : (lg_sl As).length ≤ maxL)
    (body : ∀ (p : Program) (e : Env) (s : State) (m : MethodId) (below : List Frame) (meth : Method) (c : Code) (ls : Array Slot), gx_C L N p s m As.toArray meth c y.cls bytes maxL r1 → gx_S L N (cellOf I) s.heap s.heap [] → lv_has ls maxL (lv_args 0 As) →
      W p l e rm s m As.toArray below meth c s.heap [] 0 0 (MQ below Qc As.toArray s 0 0 (gx_A L)) (F0 m 0 ls [])) :
    Met l y (gx_w y bytes maxL r1) rm (va_Pc As (gx_U L N (cellOf I))) Qc 0 0 (gx_A L) := by
  refine Met.ofW (cc := bytes) (maxL := maxL) (ret := r1) hy rfl ?_
  intro p e s m args below meth c s₁ B hml hv
  obtain ⟨rfl, hP, hK, hZ, hok⟩ := hv
  have hts := atoms_spec (ws := gx_w y bytes maxL r1) B.pre
  have hown : s.vm.findClass y.cls = some m.cls := findClass_of_methodNamed B.named
  have hl := lv_entry As (n := maxL) hlen
  rw [lg_entry_eq]
  exact body p e s m below meth c _ ⟨B.exec, B.bytes, B.returns, B.notSynchronized, hml, hown, fun w hw => hts w (List.mem_cons_of_mem _ hw), hK, hZ, hok⟩ ⟨hP, va_S.rf⟩ hl
end GX2
end
section
/-! THE CELLS. The class RosetteGantry makes 282 cells, numbered in the order of their making: 0 itself, 1.. its state (38 cells), 39.. its snapshot, 77 the history, 78 its row, 79.. its five states, 269.. the text, 273.. the plan, 275.. the measure. A cell's kind: a class (0 to 8) or an array (20 int, 21 boolean, 22 char, 23 rosettes, 24 states). I a k: what cell a holds at place k. -/
abbrev gx_M : Type := Nat → Nat → Int32
abbrev gx_MM : Type := (Nat → Nat → Int32) × (Nat → Int64)
def up (I : gx_M) (a k : Nat) (v : Int32) : gx_M := fun b => if b = a then upd (I a) k v else I b
def upr (I : gx_M) (a : Nat) (f : Nat → Int32) : gx_M := fun b => if b = a then f else I b
def um (I : gx_MM) (a k : Nat) (v : Int32) : gx_MM := (up I.1 a k v, I.2)
def ul (I : gx_MM) (k : Nat) (v : Int64) : gx_MM := (I.1, fun j => if j = k then v else I.2 j)
def kS (c : Nat) : Nat := if c = 0 then 6 else if c = 1 then 23 else if c = 2 then 5 else if c = 3 then 20 else if c = 4 then 5 else if c = 5 then 20 else if (c - 6) % 4 = 0 then 4 else 20
def kX (a : Nat) : Nat := if a = 0 then 7 else if a < 77 then kS ((a - 1) % 38) else if a = 77 then 0 else if a = 78 then 24 else if a < 269 then kS ((a - 79) % 38) else if a = 269 then 1 else if a = 270 then 20 else if a = 271 then 5 else if a = 272 then 20 else if a = 273 then 3 else if a = 274 then 21 else if a = 275 then 2 else if a < 282 then 20 else 99
def nS (c : Nat) : Nat := if c = 1 then 8 else if c = 3 then 80 else if c = 5 then 48 else 3
def nX (a : Nat) : Nat := if a < 77 then nS ((a - 1) % 38) else if a = 78 then 5 else if a < 269 then nS ((a - 79) % 38) else if a = 270 then 60 else if a = 272 then 80 else if a = 274 then 20 else 3
/-- the states of the history: which one a number names -/
def sd (x : Int32) : Nat := 79 + 38 * min x.toNatClampNeg 4
def kM (a : Nat) : Nat := if a = 0 then 8 else if a = 5 then 22 else if a < 7 then 20 else 99
def nM (a : Nat) : Nat := if a = 1 then 298 else if a = 2 then 1490 else if a = 3 then 298 else if a = 4 then 3 else if a = 5 then 60 else 63
def cellX (L : gx_L) (I : gx_M) (a : Nat) : va_E := match kX a with
  | 0 => .inr (0, [.ref (gx_ad L (a + 1)), .int (I a 1)])
  | 1 => .inr (1, [.ref (gx_ad L (a + 1)), .ref (gx_ad L (a + 2)), .int (I a 2), .int (I a 3)])
  | 2 => .inr (2, [.ref (gx_ad L (a + 1)), .ref (gx_ad L (a + 2)), .ref (gx_ad L (a + 3)), .ref (gx_ad L (a + 4)), .ref (gx_ad L (a + 5)), .ref (gx_ad L (a + 6)), .int (I a 6), .int (I a 7), .int (I a 8 &&& 1), .int (I a 9), .int (I a 10), .int (I a 11), .int (I a 12), .int (I a 13), .int (I a 14)])
  | 3 => .inr (3, [.ref (gx_ad L (a + 1)), .int (I a 1), .int (I a 2), .int (I a 3)])
  | 4 => .inr (4, [.int (I a 0), .int (I a 1 &&& 1), .int (I a 2), .int (I a 3), .int (I a 4), .int (I a 5), .int (I a 6), .int (I a 7), .int (I a 8 &&& 1), .ref (gx_ad L (a + 1)), .ref (gx_ad L (a + 2)), .ref (gx_ad L (a + 3))])
  | 5 => .inr (5, [.ref (gx_ad L (a + 1)), .int (I a 1)])
  | 6 => .inr (6, [.ref (gx_ad L (a + 1)), .ref (gx_ad L (a + 2)), .ref (gx_ad L (a + 4)), .int (I a 3), .int (I a 4), .int (I a 5), .int (I a 6), .int (I a 7), .int (I a 8), .int (I a 9)])
  | 7 => .inr (7, [.ref (gx_ad L (a + 1)), .ref (gx_ad L (a + 39)), .int (I a 2 &&& 1), .ref (gx_ad L (a + 77)), .ref (gx_ad L (a + 269)), .int (I a 5), .ref (gx_ad L (a + 273)), .ref (gx_ad L (a + 275))])
  | 20 => .inl (gx_cI L, nX a, .inl (I a))
  | 21 => .inl (gx_cZ L, nX a, .inl (I a))
  | 23 => .inl (gx_cR L, nX a, .inr (.inr (.inr (.inr (fun k => some (gx_ad L (a + 5 + 4 * k)))))))
  | 24 => .inl (gx_cS L, nX a, .inr (.inr (.inr (.inr (fun k => some (gx_ad L (sd (I a k))))))))
  | _ => .inl (gx_cI L, 0, .inl (I a))
def cellM (L : gx_L) (I : gx_MM) (a : Nat) : va_E := match kM a with
  | 8 => .inr (8, [.ref (gx_ad L (a + 1)), .ref (gx_ad L (a + 2)), .int (I.1 a 2), .ref (gx_ad L (a + 3)), .int (I.1 a 4 &&& 1), .int (I.1 a 5), .long (I.2 6), .long (I.2 7), .long (I.2 8), .int (I.1 a 9), .long (I.2 10), .ref (gx_ad L (a + 4)), .int (I.1 a 12), .ref (gx_ad L (a + 5)), .int (I.1 a 14), .int (I.1 a 15), .ref (gx_ad L (a + 6))])
  | 20 => .inl (gx_cI L, nM a, .inl (I.1 a))
  | 22 => .inl (gx_cC L, nM a, .inl (I.1 a))
  | _ => .inl (gx_cI L, 0, .inl (I.1 a))
theorem kX_lt {a k : Nat} (h : kX a = k) (hk : k < 99) : a < 282 := by
  refine Nat.not_le.mp fun q => ?_
  have : kX a = 99 := by unfold kX; repeat rw [if_neg (by omega)]
  omega
theorem kM_lt {a k : Nat} (h : kM a = k) (hk : k < 99) : a < 7 := by
  refine Nat.not_le.mp fun q => ?_
  have : kM a = 99 := by unfold kM; repeat rw [if_neg (by omega)]
  omega
theorem cX_row {L : gx_L} {I J : gx_M} {a : Nat} (h : I a = J a) : cellX L I a = cellX L J a := by unfold cellX; rw [h]
theorem up_ne {I : gx_M} {a b k : Nat} {v : Int32} (h : b ≠ a) : up I a k v b = I b := if_neg h
theorem up_eq {I : gx_M} {a k : Nat} {v : Int32} : up I a k v a = upd (I a) k v := if_pos rfl
theorem upr_ne {I : gx_M} {a b : Nat} {f : Nat → Int32} (h : b ≠ a) : upr I a f b = I b := if_neg h
theorem upr_eq {I : gx_M} {a : Nat} {f : Nat → Int32} : upr I a f a = f := if_pos rfl
theorem cM_row {L : gx_L} {I J : gx_MM} {a : Nat} (h : I.1 a = J.1 a) (h2 : kM a = 8 → I.2 = J.2) : cellM L I a = cellM L J a := by
  unfold cellM
  rw [h]
  split
  · rw [h2 (by assumption)]
  all_goals rfl
theorem kX_0_0 {a : Nat} (h : kX a = 0) : kX (a + 1) = 24 := (show ∀ a, a < 282 → kX a = 0 → kX (a + 1) = 24 by decide +kernel) a (kX_lt h (by decide)) h
theorem kX_1_0 {a : Nat} (h : kX a = 1) : kX (a + 1) = 20 := (show ∀ a, a < 282 → kX a = 1 → kX (a + 1) = 20 by decide +kernel) a (kX_lt h (by decide)) h
theorem kX_1_1 {a : Nat} (h : kX a = 1) : kX (a + 2) = 5 := (show ∀ a, a < 282 → kX a = 1 → kX (a + 2) = 5 by decide +kernel) a (kX_lt h (by decide)) h
theorem kX_2_0 {a : Nat} (h : kX a = 2) : kX (a + 1) = 20 := (show ∀ a, a < 282 → kX a = 2 → kX (a + 1) = 20 by decide +kernel) a (kX_lt h (by decide)) h
theorem kX_2_1 {a : Nat} (h : kX a = 2) : kX (a + 2) = 20 := (show ∀ a, a < 282 → kX a = 2 → kX (a + 2) = 20 by decide +kernel) a (kX_lt h (by decide)) h
theorem kX_2_2 {a : Nat} (h : kX a = 2) : kX (a + 3) = 20 := (show ∀ a, a < 282 → kX a = 2 → kX (a + 3) = 20 by decide +kernel) a (kX_lt h (by decide)) h
theorem kX_2_3 {a : Nat} (h : kX a = 2) : kX (a + 4) = 20 := (show ∀ a, a < 282 → kX a = 2 → kX (a + 4) = 20 by decide +kernel) a (kX_lt h (by decide)) h
theorem kX_2_4 {a : Nat} (h : kX a = 2) : kX (a + 5) = 20 := (show ∀ a, a < 282 → kX a = 2 → kX (a + 5) = 20 by decide +kernel) a (kX_lt h (by decide)) h
theorem kX_2_5 {a : Nat} (h : kX a = 2) : kX (a + 6) = 20 := (show ∀ a, a < 282 → kX a = 2 → kX (a + 6) = 20 by decide +kernel) a (kX_lt h (by decide)) h
theorem kX_3_0 {a : Nat} (h : kX a = 3) : kX (a + 1) = 21 := (show ∀ a, a < 282 → kX a = 3 → kX (a + 1) = 21 by decide +kernel) a (kX_lt h (by decide)) h
theorem kX_4_9 {a : Nat} (h : kX a = 4) : kX (a + 1) = 20 := (show ∀ a, a < 282 → kX a = 4 → kX (a + 1) = 20 by decide +kernel) a (kX_lt h (by decide)) h
theorem kX_4_10 {a : Nat} (h : kX a = 4) : kX (a + 2) = 20 := (show ∀ a, a < 282 → kX a = 4 → kX (a + 2) = 20 by decide +kernel) a (kX_lt h (by decide)) h
theorem kX_4_11 {a : Nat} (h : kX a = 4) : kX (a + 3) = 20 := (show ∀ a, a < 282 → kX a = 4 → kX (a + 3) = 20 by decide +kernel) a (kX_lt h (by decide)) h
theorem kX_5_0 {a : Nat} (h : kX a = 5) : kX (a + 1) = 20 := (show ∀ a, a < 282 → kX a = 5 → kX (a + 1) = 20 by decide +kernel) a (kX_lt h (by decide)) h
theorem kX_6_0 {a : Nat} (h : kX a = 6) : kX (a + 1) = 23 := (show ∀ a, a < 282 → kX a = 6 → kX (a + 1) = 23 by decide +kernel) a (kX_lt h (by decide)) h
theorem kX_6_1 {a : Nat} (h : kX a = 6) : kX (a + 2) = 5 := (show ∀ a, a < 282 → kX a = 6 → kX (a + 2) = 5 by decide +kernel) a (kX_lt h (by decide)) h
theorem kX_6_2 {a : Nat} (h : kX a = 6) : kX (a + 4) = 5 := (show ∀ a, a < 282 → kX a = 6 → kX (a + 4) = 5 by decide +kernel) a (kX_lt h (by decide)) h
theorem kX_7_0 {a : Nat} (h : kX a = 7) : kX (a + 1) = 6 := (show ∀ a, a < 282 → kX a = 7 → kX (a + 1) = 6 by decide +kernel) a (kX_lt h (by decide)) h
theorem kX_7_1 {a : Nat} (h : kX a = 7) : kX (a + 39) = 6 := (show ∀ a, a < 282 → kX a = 7 → kX (a + 39) = 6 by decide +kernel) a (kX_lt h (by decide)) h
theorem kX_7_3 {a : Nat} (h : kX a = 7) : kX (a + 77) = 0 := (show ∀ a, a < 282 → kX a = 7 → kX (a + 77) = 0 by decide +kernel) a (kX_lt h (by decide)) h
theorem kX_7_4 {a : Nat} (h : kX a = 7) : kX (a + 269) = 1 := (show ∀ a, a < 282 → kX a = 7 → kX (a + 269) = 1 by decide +kernel) a (kX_lt h (by decide)) h
theorem kX_7_6 {a : Nat} (h : kX a = 7) : kX (a + 273) = 3 := (show ∀ a, a < 282 → kX a = 7 → kX (a + 273) = 3 by decide +kernel) a (kX_lt h (by decide)) h
theorem kX_7_7 {a : Nat} (h : kX a = 7) : kX (a + 275) = 2 := (show ∀ a, a < 282 → kX a = 7 → kX (a + 275) = 2 by decide +kernel) a (kX_lt h (by decide)) h
theorem kM_8_0 {a : Nat} (h : kM a = 8) : kM (a + 1) = 20 := (show ∀ a, a < 7 → kM a = 8 → kM (a + 1) = 20 by decide +kernel) a (kM_lt h (by decide)) h
theorem kM_8_1 {a : Nat} (h : kM a = 8) : kM (a + 2) = 20 := (show ∀ a, a < 7 → kM a = 8 → kM (a + 2) = 20 by decide +kernel) a (kM_lt h (by decide)) h
theorem kM_8_3 {a : Nat} (h : kM a = 8) : kM (a + 3) = 20 := (show ∀ a, a < 7 → kM a = 8 → kM (a + 3) = 20 by decide +kernel) a (kM_lt h (by decide)) h
theorem kM_8_11 {a : Nat} (h : kM a = 8) : kM (a + 4) = 20 := (show ∀ a, a < 7 → kM a = 8 → kM (a + 4) = 20 by decide +kernel) a (kM_lt h (by decide)) h
theorem kM_8_13 {a : Nat} (h : kM a = 8) : kM (a + 5) = 22 := (show ∀ a, a < 7 → kM a = 8 → kM (a + 5) = 22 by decide +kernel) a (kM_lt h (by decide)) h
theorem kM_8_16 {a : Nat} (h : kM a = 8) : kM (a + 6) = 20 := (show ∀ a, a < 7 → kM a = 8 → kM (a + 6) = 20 by decide +kernel) a (kM_lt h (by decide)) h
theorem kX_23 {a k : Nat} (h : kX a = 23) (hk : k < nX a) : kX (a + 5 + 4 * k) = 4 := by
  have h8 : nX a = 8 := (show ∀ a, a < 282 → kX a = 23 → nX a = 8 by decide +kernel) a (kX_lt h (by decide)) h
  rw [h8] at hk
  exact (show ∀ a, a < 282 → kX a = 23 → ∀ k, k < 8 → kX (a + 5 + 4 * k) = 4 by decide +kernel) a (kX_lt h (by decide)) h k hk
theorem kX_sd (x : Int32) : kX (sd x) = 6 := by
  have h : ∀ k, k < 5 → kX (79 + 38 * k) = 6 := by decide +kernel
  exact h _ (Nat.lt_succ_of_le (Nat.min_le_right _ _))
theorem cX_0 {L : gx_L} {I : gx_M} {a : Nat} (h : kX a = 0) : cellX L I a = .inr (0, [.ref (gx_ad L (a + 1)), .int (I a 1)]) := by simp only [cellX, h]
theorem in_X0 : ∀ w ∈ u_ws RX0 TX0 2, w ∈ gx_T := by decide +kernel
theorem cX_1 {L : gx_L} {I : gx_M} {a : Nat} (h : kX a = 1) : cellX L I a = .inr (1, [.ref (gx_ad L (a + 1)), .ref (gx_ad L (a + 2)), .int (I a 2), .int (I a 3)]) := by simp only [cellX, h]
theorem in_X1 : ∀ w ∈ u_ws RX1 TX1 4, w ∈ gx_T := by decide +kernel
theorem cX_2 {L : gx_L} {I : gx_M} {a : Nat} (h : kX a = 2) : cellX L I a = .inr (2, [.ref (gx_ad L (a + 1)), .ref (gx_ad L (a + 2)), .ref (gx_ad L (a + 3)), .ref (gx_ad L (a + 4)), .ref (gx_ad L (a + 5)), .ref (gx_ad L (a + 6)), .int (I a 6), .int (I a 7), .int (I a 8 &&& 1), .int (I a 9), .int (I a 10), .int (I a 11), .int (I a 12), .int (I a 13), .int (I a 14)]) := by simp only [cellX, h]
theorem in_X2 : ∀ w ∈ u_ws RX2 TX2 15, w ∈ gx_T := by decide +kernel
theorem cX_3 {L : gx_L} {I : gx_M} {a : Nat} (h : kX a = 3) : cellX L I a = .inr (3, [.ref (gx_ad L (a + 1)), .int (I a 1), .int (I a 2), .int (I a 3)]) := by simp only [cellX, h]
theorem in_X3 : ∀ w ∈ u_ws RX3 TX3 4, w ∈ gx_T := by decide +kernel
theorem cX_4 {L : gx_L} {I : gx_M} {a : Nat} (h : kX a = 4) : cellX L I a = .inr (4, [.int (I a 0), .int (I a 1 &&& 1), .int (I a 2), .int (I a 3), .int (I a 4), .int (I a 5), .int (I a 6), .int (I a 7), .int (I a 8 &&& 1), .ref (gx_ad L (a + 1)), .ref (gx_ad L (a + 2)), .ref (gx_ad L (a + 3))]) := by simp only [cellX, h]
theorem in_X4 : ∀ w ∈ u_ws RX4 TX4 12, w ∈ gx_T := by decide +kernel
theorem cX_5 {L : gx_L} {I : gx_M} {a : Nat} (h : kX a = 5) : cellX L I a = .inr (5, [.ref (gx_ad L (a + 1)), .int (I a 1)]) := by simp only [cellX, h]
theorem in_X5 : ∀ w ∈ u_ws RX5 TX5 2, w ∈ gx_T := by decide +kernel
theorem cX_6 {L : gx_L} {I : gx_M} {a : Nat} (h : kX a = 6) : cellX L I a = .inr (6, [.ref (gx_ad L (a + 1)), .ref (gx_ad L (a + 2)), .ref (gx_ad L (a + 4)), .int (I a 3), .int (I a 4), .int (I a 5), .int (I a 6), .int (I a 7), .int (I a 8), .int (I a 9)]) := by simp only [cellX, h]
theorem in_X6 : ∀ w ∈ u_ws RX6 TX6 10, w ∈ gx_T := by decide +kernel
theorem cX_7 {L : gx_L} {I : gx_M} {a : Nat} (h : kX a = 7) : cellX L I a = .inr (7, [.ref (gx_ad L (a + 1)), .ref (gx_ad L (a + 39)), .int (I a 2 &&& 1), .ref (gx_ad L (a + 77)), .ref (gx_ad L (a + 269)), .int (I a 5), .ref (gx_ad L (a + 273)), .ref (gx_ad L (a + 275))]) := by simp only [cellX, h]
theorem in_X7 : ∀ w ∈ u_ws RX7 TX7 8, w ∈ gx_T := by decide +kernel
theorem cM_8 {L : gx_L} {I : gx_MM} {a : Nat} (h : kM a = 8) : cellM L I a = .inr (8, [.ref (gx_ad L (a + 1)), .ref (gx_ad L (a + 2)), .int (I.1 a 2), .ref (gx_ad L (a + 3)), .int (I.1 a 4 &&& 1), .int (I.1 a 5), .long (I.2 6), .long (I.2 7), .long (I.2 8), .int (I.1 a 9), .long (I.2 10), .ref (gx_ad L (a + 4)), .int (I.1 a 12), .ref (gx_ad L (a + 5)), .int (I.1 a 14), .int (I.1 a 15), .ref (gx_ad L (a + 6))]) := by simp only [cellM, h]
theorem in_X8 : ∀ w ∈ u_ws RX8 TX8 17, w ∈ gx_T := by decide +kernel
theorem cX_20 {L : gx_L} {I : gx_M} {a : Nat} (h : kX a = 20) : cellX L I a = .inl (gx_cI L, nX a, .inl (I a)) := by simp only [cellX, h]
theorem cX_21 {L : gx_L} {I : gx_M} {a : Nat} (h : kX a = 21) : cellX L I a = .inl (gx_cZ L, nX a, .inl (I a)) := by simp only [cellX, h]
theorem cX_23 {L : gx_L} {I : gx_M} {a : Nat} (h : kX a = 23) : cellX L I a = .inl (gx_cR L, nX a, .inr (.inr (.inr (.inr (fun k => some (gx_ad L (a + 5 + 4 * k))))))) := by simp only [cellX, h]
theorem cX_24 {L : gx_L} {I : gx_M} {a : Nat} (h : kX a = 24) : cellX L I a = .inl (gx_cS L, nX a, .inr (.inr (.inr (.inr (fun k => some (gx_ad L (sd (I a k)))))))) := by simp only [cellX, h]
theorem cM_20 {L : gx_L} {I : gx_MM} {a : Nat} (h : kM a = 20) : cellM L I a = .inl (gx_cI L, nM a, .inl (I.1 a)) := by simp only [cellM, h]
theorem cM_22 {L : gx_L} {I : gx_MM} {a : Nat} (h : kM a = 22) : cellM L I a = .inl (gx_cC L, nM a, .inl (I.1 a)) := by simp only [cellM, h]
theorem gz_and (x : Int32) : (x &&& 1) &&& 1 = x &&& 1 := by rw [Int32.and_assoc]; rfl
theorem gz_fits {v : Int32} (h : v &&& 1 = v) : fits .boolean (.int v) = true := by
  obtain ⟨j, hj, e⟩ := pk_andE v (m := 1) 1 rfl
  rw [h] at e
  have : j = 0 ∨ j = 1 := by omega
  rcases this with rfl | rfl <;> rw [e] <;> rfl
section GX3
variable {p : Program} {l : Launch} {e : Env} {R : Room} {s : State} {m : MethodId} {args : Array Value} {below : List Frame} {meth : Method} {c : Code} {H : Heap} {locs : List Loc} {cells slots : Nat} {Q : State → Prop}
variable {L : gx_L} {n : Nat} {own : String} {cc : ByteArray} {ret : Option FieldType} {pc : Nat} {ls : Array Slot} {rest : List Value} {a : Nat}
theorem gX0_0 {I : gx_M} (C : gx_C L 282 p s m args meth c own cc n ret) (hM : gx_S L 282 (cellX L I) s.heap H locs) (hk : kX a = 0) {index : Nat} (hl : Cond.fieldLink own index "RosetteGantry$History" "states" "[LRosetteGantry$State;" ∈ gx_T) (hdg : decode cc pc = .ok (.getfield index, 3)) (kk : W p l e R s m args below meth c H locs cells slots Q (F0 m (pc + 3) ls (.ref (gx_ad L (a + 1)) :: rest))) : W p l e R s m args below meth c H locs cells slots Q (F0 m pc ls (.ref (gx_ad L a) :: rest)) :=
  gq_get C hM (kX_lt hk (by decide)) (cX_0 hk) rfl in_X0 0 (by decide) hl rfl hdg kk
theorem gX0_1 {I : gx_M} (C : gx_C L 282 p s m args meth c own cc n ret) (hM : gx_S L 282 (cellX L I) s.heap H locs) (hk : kX a = 0) {index : Nat} (hl : Cond.fieldLink own index "RosetteGantry$History" "used" "I" ∈ gx_T) (hdg : decode cc pc = .ok (.getfield index, 3)) (kk : W p l e R s m args below meth c H locs cells slots Q (F0 m (pc + 3) ls (.int (I a 1) :: rest))) : W p l e R s m args below meth c H locs cells slots Q (F0 m pc ls (.ref (gx_ad L a) :: rest)) :=
  gq_get C hM (kX_lt hk (by decide)) (cX_0 hk) rfl in_X0 1 (by decide) hl rfl hdg kk
theorem pX0_1 {I I1 : gx_M} {v : Int32} (C : gx_C L 282 p s m args meth c own cc n ret) (hM : gx_S L 282 (cellX L I) s.heap H locs) (hk : kX a = 0) (hI : I1 = up I a 1 v) {index : Nat} (hl : Cond.fieldLink own index "RosetteGantry$History" "used" "I" ∈ gx_T) (hdg : decode cc pc = .ok (.putfield index, 3)) (kk : ∀ (H : Heap) (locs : List Loc), gx_S L 282 (cellX L I1) s.heap H locs → W p l e R s m args below meth c H locs cells slots Q (F0 m (pc + 3) ls rest)) : W p l e R s m args below meth c H locs cells slots Q (F0 m pc ls (.int v :: .ref (gx_ad L a) :: rest)) := by
  subst hI
  exact gq_put (cell' := cellX L (up I a 1 v)) C hM (kX_lt hk (by decide)) (cX_0 hk) rfl in_X0 tyX0 tyX0_ok nmX0 1 (by decide) hl rfl rfl rfl (Nat.le_of_ble_eq_true rfl) (by rw [cX_0 hk]; simp [up, upd]) (fun b hb => cX_row (up_ne hb)) hdg kk
theorem gX1_0 {I : gx_M} (C : gx_C L 282 p s m args meth c own cc n ret) (hM : gx_S L 282 (cellX L I) s.heap H locs) (hk : kX a = 1) {index : Nat} (hl : Cond.fieldLink own index "RosetteGantry$JobText" "signs" "[I" ∈ gx_T) (hdg : decode cc pc = .ok (.getfield index, 3)) (kk : W p l e R s m args below meth c H locs cells slots Q (F0 m (pc + 3) ls (.ref (gx_ad L (a + 1)) :: rest))) : W p l e R s m args below meth c H locs cells slots Q (F0 m pc ls (.ref (gx_ad L a) :: rest)) :=
  gq_get C hM (kX_lt hk (by decide)) (cX_1 hk) rfl in_X1 0 (by decide) hl rfl hdg kk
theorem gX1_1 {I : gx_M} (C : gx_C L 282 p s m args meth c own cc n ret) (hM : gx_S L 282 (cellX L I) s.heap H locs) (hk : kX a = 1) {index : Nat} (hl : Cond.fieldLink own index "RosetteGantry$JobText" "jobs" "LRosetteGantry$Rows;" ∈ gx_T) (hdg : decode cc pc = .ok (.getfield index, 3)) (kk : W p l e R s m args below meth c H locs cells slots Q (F0 m (pc + 3) ls (.ref (gx_ad L (a + 2)) :: rest))) : W p l e R s m args below meth c H locs cells slots Q (F0 m pc ls (.ref (gx_ad L a) :: rest)) :=
  gq_get C hM (kX_lt hk (by decide)) (cX_1 hk) rfl in_X1 1 (by decide) hl rfl hdg kk
theorem gX1_2 {I : gx_M} (C : gx_C L 282 p s m args meth c own cc n ret) (hM : gx_S L 282 (cellX L I) s.heap H locs) (hk : kX a = 1) {index : Nat} (hl : Cond.fieldLink own index "RosetteGantry$JobText" "length" "I" ∈ gx_T) (hdg : decode cc pc = .ok (.getfield index, 3)) (kk : W p l e R s m args below meth c H locs cells slots Q (F0 m (pc + 3) ls (.int (I a 2) :: rest))) : W p l e R s m args below meth c H locs cells slots Q (F0 m pc ls (.ref (gx_ad L a) :: rest)) :=
  gq_get C hM (kX_lt hk (by decide)) (cX_1 hk) rfl in_X1 2 (by decide) hl rfl hdg kk
theorem pX1_2 {I I1 : gx_M} {v : Int32} (C : gx_C L 282 p s m args meth c own cc n ret) (hM : gx_S L 282 (cellX L I) s.heap H locs) (hk : kX a = 1) (hI : I1 = up I a 2 v) {index : Nat} (hl : Cond.fieldLink own index "RosetteGantry$JobText" "length" "I" ∈ gx_T) (hdg : decode cc pc = .ok (.putfield index, 3)) (kk : ∀ (H : Heap) (locs : List Loc), gx_S L 282 (cellX L I1) s.heap H locs → W p l e R s m args below meth c H locs cells slots Q (F0 m (pc + 3) ls rest)) : W p l e R s m args below meth c H locs cells slots Q (F0 m pc ls (.int v :: .ref (gx_ad L a) :: rest)) := by
  subst hI
  exact gq_put (cell' := cellX L (up I a 2 v)) C hM (kX_lt hk (by decide)) (cX_1 hk) rfl in_X1 tyX1 tyX1_ok nmX1 2 (by decide) hl rfl rfl rfl (Nat.le_of_ble_eq_true rfl) (by rw [cX_1 hk]; simp [up, upd]) (fun b hb => cX_row (up_ne hb)) hdg kk
theorem gX1_3 {I : gx_M} (C : gx_C L 282 p s m args meth c own cc n ret) (hM : gx_S L 282 (cellX L I) s.heap H locs) (hk : kX a = 1) {index : Nat} (hl : Cond.fieldLink own index "RosetteGantry$JobText" "kind" "I" ∈ gx_T) (hdg : decode cc pc = .ok (.getfield index, 3)) (kk : W p l e R s m args below meth c H locs cells slots Q (F0 m (pc + 3) ls (.int (I a 3) :: rest))) : W p l e R s m args below meth c H locs cells slots Q (F0 m pc ls (.ref (gx_ad L a) :: rest)) :=
  gq_get C hM (kX_lt hk (by decide)) (cX_1 hk) rfl in_X1 3 (by decide) hl rfl hdg kk
theorem pX1_3 {I I1 : gx_M} {v : Int32} (C : gx_C L 282 p s m args meth c own cc n ret) (hM : gx_S L 282 (cellX L I) s.heap H locs) (hk : kX a = 1) (hI : I1 = up I a 3 v) {index : Nat} (hl : Cond.fieldLink own index "RosetteGantry$JobText" "kind" "I" ∈ gx_T) (hdg : decode cc pc = .ok (.putfield index, 3)) (kk : ∀ (H : Heap) (locs : List Loc), gx_S L 282 (cellX L I1) s.heap H locs → W p l e R s m args below meth c H locs cells slots Q (F0 m (pc + 3) ls rest)) : W p l e R s m args below meth c H locs cells slots Q (F0 m pc ls (.int v :: .ref (gx_ad L a) :: rest)) := by
  subst hI
  exact gq_put (cell' := cellX L (up I a 3 v)) C hM (kX_lt hk (by decide)) (cX_1 hk) rfl in_X1 tyX1 tyX1_ok nmX1 3 (by decide) hl rfl rfl rfl (Nat.le_of_ble_eq_true rfl) (by rw [cX_1 hk]; simp [up, upd]) (fun b hb => cX_row (up_ne hb)) hdg kk
theorem gX2_0 {I : gx_M} (C : gx_C L 282 p s m args meth c own cc n ret) (hM : gx_S L 282 (cellX L I) s.heap H locs) (hk : kX a = 2) {index : Nat} (hl : Cond.fieldLink own index "RosetteGantry$Measure" "strain" "[I" ∈ gx_T) (hdg : decode cc pc = .ok (.getfield index, 3)) (kk : W p l e R s m args below meth c H locs cells slots Q (F0 m (pc + 3) ls (.ref (gx_ad L (a + 1)) :: rest))) : W p l e R s m args below meth c H locs cells slots Q (F0 m pc ls (.ref (gx_ad L a) :: rest)) :=
  gq_get C hM (kX_lt hk (by decide)) (cX_2 hk) rfl in_X2 0 (by decide) hl rfl hdg kk
theorem gX2_1 {I : gx_M} (C : gx_C L 282 p s m args meth c own cc n ret) (hM : gx_S L 282 (cellX L I) s.heap H locs) (hk : kX a = 2) {index : Nat} (hl : Cond.fieldLink own index "RosetteGantry$Measure" "signal" "[I" ∈ gx_T) (hdg : decode cc pc = .ok (.getfield index, 3)) (kk : W p l e R s m args below meth c H locs cells slots Q (F0 m (pc + 3) ls (.ref (gx_ad L (a + 2)) :: rest))) : W p l e R s m args below meth c H locs cells slots Q (F0 m pc ls (.ref (gx_ad L a) :: rest)) :=
  gq_get C hM (kX_lt hk (by decide)) (cX_2 hk) rfl in_X2 1 (by decide) hl rfl hdg kk
theorem gX2_2 {I : gx_M} (C : gx_C L 282 p s m args meth c own cc n ret) (hM : gx_S L 282 (cellX L I) s.heap H locs) (hk : kX a = 2) {index : Nat} (hl : Cond.fieldLink own index "RosetteGantry$Measure" "reading" "[I" ∈ gx_T) (hdg : decode cc pc = .ok (.getfield index, 3)) (kk : W p l e R s m args below meth c H locs cells slots Q (F0 m (pc + 3) ls (.ref (gx_ad L (a + 3)) :: rest))) : W p l e R s m args below meth c H locs cells slots Q (F0 m pc ls (.ref (gx_ad L a) :: rest)) :=
  gq_get C hM (kX_lt hk (by decide)) (cX_2 hk) rfl in_X2 2 (by decide) hl rfl hdg kk
theorem gX2_3 {I : gx_M} (C : gx_C L 282 p s m args meth c own cc n ret) (hM : gx_S L 282 (cellX L I) s.heap H locs) (hk : kX a = 2) {index : Nat} (hl : Cond.fieldLink own index "RosetteGantry$Measure" "heldReading" "[I" ∈ gx_T) (hdg : decode cc pc = .ok (.getfield index, 3)) (kk : W p l e R s m args below meth c H locs cells slots Q (F0 m (pc + 3) ls (.ref (gx_ad L (a + 4)) :: rest))) : W p l e R s m args below meth c H locs cells slots Q (F0 m pc ls (.ref (gx_ad L a) :: rest)) :=
  gq_get C hM (kX_lt hk (by decide)) (cX_2 hk) rfl in_X2 3 (by decide) hl rfl hdg kk
theorem gX2_4 {I : gx_M} (C : gx_C L 282 p s m args meth c own cc n ret) (hM : gx_S L 282 (cellX L I) s.heap H locs) (hk : kX a = 2) {index : Nat} (hl : Cond.fieldLink own index "RosetteGantry$Measure" "step" "[I" ∈ gx_T) (hdg : decode cc pc = .ok (.getfield index, 3)) (kk : W p l e R s m args below meth c H locs cells slots Q (F0 m (pc + 3) ls (.ref (gx_ad L (a + 5)) :: rest))) : W p l e R s m args below meth c H locs cells slots Q (F0 m pc ls (.ref (gx_ad L a) :: rest)) :=
  gq_get C hM (kX_lt hk (by decide)) (cX_2 hk) rfl in_X2 4 (by decide) hl rfl hdg kk
theorem gX2_5 {I : gx_M} (C : gx_C L 282 p s m args meth c own cc n ret) (hM : gx_S L 282 (cellX L I) s.heap H locs) (hk : kX a = 2) {index : Nat} (hl : Cond.fieldLink own index "RosetteGantry$Measure" "corrected" "[I" ∈ gx_T) (hdg : decode cc pc = .ok (.getfield index, 3)) (kk : W p l e R s m args below meth c H locs cells slots Q (F0 m (pc + 3) ls (.ref (gx_ad L (a + 6)) :: rest))) : W p l e R s m args below meth c H locs cells slots Q (F0 m pc ls (.ref (gx_ad L a) :: rest)) :=
  gq_get C hM (kX_lt hk (by decide)) (cX_2 hk) rfl in_X2 5 (by decide) hl rfl hdg kk
theorem gX2_6 {I : gx_M} (C : gx_C L 282 p s m args meth c own cc n ret) (hM : gx_S L 282 (cellX L I) s.heap H locs) (hk : kX a = 2) {index : Nat} (hl : Cond.fieldLink own index "RosetteGantry$Measure" "shuntValue" "I" ∈ gx_T) (hdg : decode cc pc = .ok (.getfield index, 3)) (kk : W p l e R s m args below meth c H locs cells slots Q (F0 m (pc + 3) ls (.int (I a 6) :: rest))) : W p l e R s m args below meth c H locs cells slots Q (F0 m pc ls (.ref (gx_ad L a) :: rest)) :=
  gq_get C hM (kX_lt hk (by decide)) (cX_2 hk) rfl in_X2 6 (by decide) hl rfl hdg kk
theorem pX2_6 {I I1 : gx_M} {v : Int32} (C : gx_C L 282 p s m args meth c own cc n ret) (hM : gx_S L 282 (cellX L I) s.heap H locs) (hk : kX a = 2) (hI : I1 = up I a 6 v) {index : Nat} (hl : Cond.fieldLink own index "RosetteGantry$Measure" "shuntValue" "I" ∈ gx_T) (hdg : decode cc pc = .ok (.putfield index, 3)) (kk : ∀ (H : Heap) (locs : List Loc), gx_S L 282 (cellX L I1) s.heap H locs → W p l e R s m args below meth c H locs cells slots Q (F0 m (pc + 3) ls rest)) : W p l e R s m args below meth c H locs cells slots Q (F0 m pc ls (.int v :: .ref (gx_ad L a) :: rest)) := by
  subst hI
  exact gq_put (cell' := cellX L (up I a 6 v)) C hM (kX_lt hk (by decide)) (cX_2 hk) rfl in_X2 tyX2 tyX2_ok nmX2 6 (by decide) hl rfl rfl rfl (Nat.le_of_ble_eq_true rfl) (by rw [cX_2 hk]; simp [up, upd]) (fun b hb => cX_row (up_ne hb)) hdg kk
theorem gX2_7 {I : gx_M} (C : gx_C L 282 p s m args meth c own cc n ret) (hM : gx_S L 282 (cellX L I) s.heap H locs) (hk : kX a = 2) {index : Nat} (hl : Cond.fieldLink own index "RosetteGantry$Measure" "overloads" "I" ∈ gx_T) (hdg : decode cc pc = .ok (.getfield index, 3)) (kk : W p l e R s m args below meth c H locs cells slots Q (F0 m (pc + 3) ls (.int (I a 7) :: rest))) : W p l e R s m args below meth c H locs cells slots Q (F0 m pc ls (.ref (gx_ad L a) :: rest)) :=
  gq_get C hM (kX_lt hk (by decide)) (cX_2 hk) rfl in_X2 7 (by decide) hl rfl hdg kk
theorem pX2_7 {I I1 : gx_M} {v : Int32} (C : gx_C L 282 p s m args meth c own cc n ret) (hM : gx_S L 282 (cellX L I) s.heap H locs) (hk : kX a = 2) (hI : I1 = up I a 7 v) {index : Nat} (hl : Cond.fieldLink own index "RosetteGantry$Measure" "overloads" "I" ∈ gx_T) (hdg : decode cc pc = .ok (.putfield index, 3)) (kk : ∀ (H : Heap) (locs : List Loc), gx_S L 282 (cellX L I1) s.heap H locs → W p l e R s m args below meth c H locs cells slots Q (F0 m (pc + 3) ls rest)) : W p l e R s m args below meth c H locs cells slots Q (F0 m pc ls (.int v :: .ref (gx_ad L a) :: rest)) := by
  subst hI
  exact gq_put (cell' := cellX L (up I a 7 v)) C hM (kX_lt hk (by decide)) (cX_2 hk) rfl in_X2 tyX2 tyX2_ok nmX2 7 (by decide) hl rfl rfl rfl (Nat.le_of_ble_eq_true rfl) (by rw [cX_2 hk]; simp [up, upd]) (fun b hb => cX_row (up_ne hb)) hdg kk
theorem gX2_8 {I : gx_M} (C : gx_C L 282 p s m args meth c own cc n ret) (hM : gx_S L 282 (cellX L I) s.heap H locs) (hk : kX a = 2) {index : Nat} (hl : Cond.fieldLink own index "RosetteGantry$Measure" "checkOverloads" "Z" ∈ gx_T) (hdg : decode cc pc = .ok (.getfield index, 3)) (kk : W p l e R s m args below meth c H locs cells slots Q (F0 m (pc + 3) ls (.int (I a 8 &&& 1) :: rest))) : W p l e R s m args below meth c H locs cells slots Q (F0 m pc ls (.ref (gx_ad L a) :: rest)) :=
  gq_get C hM (kX_lt hk (by decide)) (cX_2 hk) rfl in_X2 8 (by decide) hl rfl hdg kk
theorem pX2_8 {I I1 : gx_M} {v : Int32} (C : gx_C L 282 p s m args meth c own cc n ret) (hM : gx_S L 282 (cellX L I) s.heap H locs) (hk : kX a = 2) (hz : v &&& 1 = v) (hI : I1 = up I a 8 v) {index : Nat} (hl : Cond.fieldLink own index "RosetteGantry$Measure" "checkOverloads" "Z" ∈ gx_T) (hdg : decode cc pc = .ok (.putfield index, 3)) (kk : ∀ (H : Heap) (locs : List Loc), gx_S L 282 (cellX L I1) s.heap H locs → W p l e R s m args below meth c H locs cells slots Q (F0 m (pc + 3) ls rest)) : W p l e R s m args below meth c H locs cells slots Q (F0 m pc ls (.int v :: .ref (gx_ad L a) :: rest)) := by
  subst hI
  exact gq_put (cell' := cellX L (up I a 8 v)) C hM (kX_lt hk (by decide)) (cX_2 hk) rfl in_X2 tyX2 tyX2_ok nmX2 8 (by decide) hl rfl (by show Value.int (v &&& 1) = _; rw [hz]) (gz_fits hz) (Nat.le_of_ble_eq_true rfl) (by rw [cX_2 hk]; simp [up, upd, hz]) (fun b hb => cX_row (up_ne hb)) hdg kk
theorem gX2_9 {I : gx_M} (C : gx_C L 282 p s m args meth c own cc n ret) (hM : gx_S L 282 (cellX L I) s.heap H locs) (hk : kX a = 2) {index : Nat} (hl : Cond.fieldLink own index "RosetteGantry$Measure" "x" "I" ∈ gx_T) (hdg : decode cc pc = .ok (.getfield index, 3)) (kk : W p l e R s m args below meth c H locs cells slots Q (F0 m (pc + 3) ls (.int (I a 9) :: rest))) : W p l e R s m args below meth c H locs cells slots Q (F0 m pc ls (.ref (gx_ad L a) :: rest)) :=
  gq_get C hM (kX_lt hk (by decide)) (cX_2 hk) rfl in_X2 9 (by decide) hl rfl hdg kk
theorem pX2_9 {I I1 : gx_M} {v : Int32} (C : gx_C L 282 p s m args meth c own cc n ret) (hM : gx_S L 282 (cellX L I) s.heap H locs) (hk : kX a = 2) (hI : I1 = up I a 9 v) {index : Nat} (hl : Cond.fieldLink own index "RosetteGantry$Measure" "x" "I" ∈ gx_T) (hdg : decode cc pc = .ok (.putfield index, 3)) (kk : ∀ (H : Heap) (locs : List Loc), gx_S L 282 (cellX L I1) s.heap H locs → W p l e R s m args below meth c H locs cells slots Q (F0 m (pc + 3) ls rest)) : W p l e R s m args below meth c H locs cells slots Q (F0 m pc ls (.int v :: .ref (gx_ad L a) :: rest)) := by
  subst hI
  exact gq_put (cell' := cellX L (up I a 9 v)) C hM (kX_lt hk (by decide)) (cX_2 hk) rfl in_X2 tyX2 tyX2_ok nmX2 9 (by decide) hl rfl rfl rfl (Nat.le_of_ble_eq_true rfl) (by rw [cX_2 hk]; simp [up, upd]) (fun b hb => cX_row (up_ne hb)) hdg kk
theorem gX2_10 {I : gx_M} (C : gx_C L 282 p s m args meth c own cc n ret) (hM : gx_S L 282 (cellX L I) s.heap H locs) (hk : kX a = 2) {index : Nat} (hl : Cond.fieldLink own index "RosetteGantry$Measure" "y" "I" ∈ gx_T) (hdg : decode cc pc = .ok (.getfield index, 3)) (kk : W p l e R s m args below meth c H locs cells slots Q (F0 m (pc + 3) ls (.int (I a 10) :: rest))) : W p l e R s m args below meth c H locs cells slots Q (F0 m pc ls (.ref (gx_ad L a) :: rest)) :=
  gq_get C hM (kX_lt hk (by decide)) (cX_2 hk) rfl in_X2 10 (by decide) hl rfl hdg kk
theorem pX2_10 {I I1 : gx_M} {v : Int32} (C : gx_C L 282 p s m args meth c own cc n ret) (hM : gx_S L 282 (cellX L I) s.heap H locs) (hk : kX a = 2) (hI : I1 = up I a 10 v) {index : Nat} (hl : Cond.fieldLink own index "RosetteGantry$Measure" "y" "I" ∈ gx_T) (hdg : decode cc pc = .ok (.putfield index, 3)) (kk : ∀ (H : Heap) (locs : List Loc), gx_S L 282 (cellX L I1) s.heap H locs → W p l e R s m args below meth c H locs cells slots Q (F0 m (pc + 3) ls rest)) : W p l e R s m args below meth c H locs cells slots Q (F0 m pc ls (.int v :: .ref (gx_ad L a) :: rest)) := by
  subst hI
  exact gq_put (cell' := cellX L (up I a 10 v)) C hM (kX_lt hk (by decide)) (cX_2 hk) rfl in_X2 tyX2 tyX2_ok nmX2 10 (by decide) hl rfl rfl rfl (Nat.le_of_ble_eq_true rfl) (by rw [cX_2 hk]; simp [up, upd]) (fun b hb => cX_row (up_ne hb)) hdg kk
theorem gX2_11 {I : gx_M} (C : gx_C L 282 p s m args meth c own cc n ret) (hM : gx_S L 282 (cellX L I) s.heap H locs) (hk : kX a = 2) {index : Nat} (hl : Cond.fieldLink own index "RosetteGantry$Measure" "g" "I" ∈ gx_T) (hdg : decode cc pc = .ok (.getfield index, 3)) (kk : W p l e R s m args below meth c H locs cells slots Q (F0 m (pc + 3) ls (.int (I a 11) :: rest))) : W p l e R s m args below meth c H locs cells slots Q (F0 m pc ls (.ref (gx_ad L a) :: rest)) :=
  gq_get C hM (kX_lt hk (by decide)) (cX_2 hk) rfl in_X2 11 (by decide) hl rfl hdg kk
theorem pX2_11 {I I1 : gx_M} {v : Int32} (C : gx_C L 282 p s m args meth c own cc n ret) (hM : gx_S L 282 (cellX L I) s.heap H locs) (hk : kX a = 2) (hI : I1 = up I a 11 v) {index : Nat} (hl : Cond.fieldLink own index "RosetteGantry$Measure" "g" "I" ∈ gx_T) (hdg : decode cc pc = .ok (.putfield index, 3)) (kk : ∀ (H : Heap) (locs : List Loc), gx_S L 282 (cellX L I1) s.heap H locs → W p l e R s m args below meth c H locs cells slots Q (F0 m (pc + 3) ls rest)) : W p l e R s m args below meth c H locs cells slots Q (F0 m pc ls (.int v :: .ref (gx_ad L a) :: rest)) := by
  subst hI
  exact gq_put (cell' := cellX L (up I a 11 v)) C hM (kX_lt hk (by decide)) (cX_2 hk) rfl in_X2 tyX2 tyX2_ok nmX2 11 (by decide) hl rfl rfl rfl (Nat.le_of_ble_eq_true rfl) (by rw [cX_2 hk]; simp [up, upd]) (fun b hb => cX_row (up_ne hb)) hdg kk
theorem gX2_12 {I : gx_M} (C : gx_C L 282 p s m args meth c own cc n ret) (hM : gx_S L 282 (cellX L I) s.heap H locs) (hk : kX a = 2) {index : Nat} (hl : Cond.fieldLink own index "RosetteGantry$Measure" "mean" "I" ∈ gx_T) (hdg : decode cc pc = .ok (.getfield index, 3)) (kk : W p l e R s m args below meth c H locs cells slots Q (F0 m (pc + 3) ls (.int (I a 12) :: rest))) : W p l e R s m args below meth c H locs cells slots Q (F0 m pc ls (.ref (gx_ad L a) :: rest)) :=
  gq_get C hM (kX_lt hk (by decide)) (cX_2 hk) rfl in_X2 12 (by decide) hl rfl hdg kk
theorem pX2_12 {I I1 : gx_M} {v : Int32} (C : gx_C L 282 p s m args meth c own cc n ret) (hM : gx_S L 282 (cellX L I) s.heap H locs) (hk : kX a = 2) (hI : I1 = up I a 12 v) {index : Nat} (hl : Cond.fieldLink own index "RosetteGantry$Measure" "mean" "I" ∈ gx_T) (hdg : decode cc pc = .ok (.putfield index, 3)) (kk : ∀ (H : Heap) (locs : List Loc), gx_S L 282 (cellX L I1) s.heap H locs → W p l e R s m args below meth c H locs cells slots Q (F0 m (pc + 3) ls rest)) : W p l e R s m args below meth c H locs cells slots Q (F0 m pc ls (.int v :: .ref (gx_ad L a) :: rest)) := by
  subst hI
  exact gq_put (cell' := cellX L (up I a 12 v)) C hM (kX_lt hk (by decide)) (cX_2 hk) rfl in_X2 tyX2 tyX2_ok nmX2 12 (by decide) hl rfl rfl rfl (Nat.le_of_ble_eq_true rfl) (by rw [cX_2 hk]; simp [up, upd]) (fun b hb => cX_row (up_ne hb)) hdg kk
theorem gX2_13 {I : gx_M} (C : gx_C L 282 p s m args meth c own cc n ret) (hM : gx_S L 282 (cellX L I) s.heap H locs) (hk : kX a = 2) {index : Nat} (hl : Cond.fieldLink own index "RosetteGantry$Measure" "direction" "I" ∈ gx_T) (hdg : decode cc pc = .ok (.getfield index, 3)) (kk : W p l e R s m args below meth c H locs cells slots Q (F0 m (pc + 3) ls (.int (I a 13) :: rest))) : W p l e R s m args below meth c H locs cells slots Q (F0 m pc ls (.ref (gx_ad L a) :: rest)) :=
  gq_get C hM (kX_lt hk (by decide)) (cX_2 hk) rfl in_X2 13 (by decide) hl rfl hdg kk
theorem pX2_13 {I I1 : gx_M} {v : Int32} (C : gx_C L 282 p s m args meth c own cc n ret) (hM : gx_S L 282 (cellX L I) s.heap H locs) (hk : kX a = 2) (hI : I1 = up I a 13 v) {index : Nat} (hl : Cond.fieldLink own index "RosetteGantry$Measure" "direction" "I" ∈ gx_T) (hdg : decode cc pc = .ok (.putfield index, 3)) (kk : ∀ (H : Heap) (locs : List Loc), gx_S L 282 (cellX L I1) s.heap H locs → W p l e R s m args below meth c H locs cells slots Q (F0 m (pc + 3) ls rest)) : W p l e R s m args below meth c H locs cells slots Q (F0 m pc ls (.int v :: .ref (gx_ad L a) :: rest)) := by
  subst hI
  exact gq_put (cell' := cellX L (up I a 13 v)) C hM (kX_lt hk (by decide)) (cX_2 hk) rfl in_X2 tyX2 tyX2_ok nmX2 13 (by decide) hl rfl rfl rfl (Nat.le_of_ble_eq_true rfl) (by rw [cX_2 hk]; simp [up, upd]) (fun b hb => cX_row (up_ne hb)) hdg kk
theorem gX2_14 {I : gx_M} (C : gx_C L 282 p s m args meth c own cc n ret) (hM : gx_S L 282 (cellX L I) s.heap H locs) (hk : kX a = 2) {index : Nat} (hl : Cond.fieldLink own index "RosetteGantry$Measure" "radius" "I" ∈ gx_T) (hdg : decode cc pc = .ok (.getfield index, 3)) (kk : W p l e R s m args below meth c H locs cells slots Q (F0 m (pc + 3) ls (.int (I a 14) :: rest))) : W p l e R s m args below meth c H locs cells slots Q (F0 m pc ls (.ref (gx_ad L a) :: rest)) :=
  gq_get C hM (kX_lt hk (by decide)) (cX_2 hk) rfl in_X2 14 (by decide) hl rfl hdg kk
theorem pX2_14 {I I1 : gx_M} {v : Int32} (C : gx_C L 282 p s m args meth c own cc n ret) (hM : gx_S L 282 (cellX L I) s.heap H locs) (hk : kX a = 2) (hI : I1 = up I a 14 v) {index : Nat} (hl : Cond.fieldLink own index "RosetteGantry$Measure" "radius" "I" ∈ gx_T) (hdg : decode cc pc = .ok (.putfield index, 3)) (kk : ∀ (H : Heap) (locs : List Loc), gx_S L 282 (cellX L I1) s.heap H locs → W p l e R s m args below meth c H locs cells slots Q (F0 m (pc + 3) ls rest)) : W p l e R s m args below meth c H locs cells slots Q (F0 m pc ls (.int v :: .ref (gx_ad L a) :: rest)) := by
  subst hI
  exact gq_put (cell' := cellX L (up I a 14 v)) C hM (kX_lt hk (by decide)) (cX_2 hk) rfl in_X2 tyX2 tyX2_ok nmX2 14 (by decide) hl rfl rfl rfl (Nat.le_of_ble_eq_true rfl) (by rw [cX_2 hk]; simp [up, upd]) (fun b hb => cX_row (up_ne hb)) hdg kk
theorem gX3_0 {I : gx_M} (C : gx_C L 282 p s m args meth c own cc n ret) (hM : gx_S L 282 (cellX L I) s.heap H locs) (hk : kX a = 3) {index : Nat} (hl : Cond.fieldLink own index "RosetteGantry$Plan" "passed" "[Z" ∈ gx_T) (hdg : decode cc pc = .ok (.getfield index, 3)) (kk : W p l e R s m args below meth c H locs cells slots Q (F0 m (pc + 3) ls (.ref (gx_ad L (a + 1)) :: rest))) : W p l e R s m args below meth c H locs cells slots Q (F0 m pc ls (.ref (gx_ad L a) :: rest)) :=
  gq_get C hM (kX_lt hk (by decide)) (cX_3 hk) rfl in_X3 0 (by decide) hl rfl hdg kk
theorem gX3_1 {I : gx_M} (C : gx_C L 282 p s m args meth c own cc n ret) (hM : gx_S L 282 (cellX L I) s.heap H locs) (hk : kX a = 3) {index : Nat} (hl : Cond.fieldLink own index "RosetteGantry$Plan" "row" "I" ∈ gx_T) (hdg : decode cc pc = .ok (.getfield index, 3)) (kk : W p l e R s m args below meth c H locs cells slots Q (F0 m (pc + 3) ls (.int (I a 1) :: rest))) : W p l e R s m args below meth c H locs cells slots Q (F0 m pc ls (.ref (gx_ad L a) :: rest)) :=
  gq_get C hM (kX_lt hk (by decide)) (cX_3 hk) rfl in_X3 1 (by decide) hl rfl hdg kk
theorem pX3_1 {I I1 : gx_M} {v : Int32} (C : gx_C L 282 p s m args meth c own cc n ret) (hM : gx_S L 282 (cellX L I) s.heap H locs) (hk : kX a = 3) (hI : I1 = up I a 1 v) {index : Nat} (hl : Cond.fieldLink own index "RosetteGantry$Plan" "row" "I" ∈ gx_T) (hdg : decode cc pc = .ok (.putfield index, 3)) (kk : ∀ (H : Heap) (locs : List Loc), gx_S L 282 (cellX L I1) s.heap H locs → W p l e R s m args below meth c H locs cells slots Q (F0 m (pc + 3) ls rest)) : W p l e R s m args below meth c H locs cells slots Q (F0 m pc ls (.int v :: .ref (gx_ad L a) :: rest)) := by
  subst hI
  exact gq_put (cell' := cellX L (up I a 1 v)) C hM (kX_lt hk (by decide)) (cX_3 hk) rfl in_X3 tyX3 tyX3_ok nmX3 1 (by decide) hl rfl rfl rfl (Nat.le_of_ble_eq_true rfl) (by rw [cX_3 hk]; simp [up, upd]) (fun b hb => cX_row (up_ne hb)) hdg kk
theorem gX3_2 {I : gx_M} (C : gx_C L 282 p s m args meth c own cc n ret) (hM : gx_S L 282 (cellX L I) s.heap H locs) (hk : kX a = 3) {index : Nat} (hl : Cond.fieldLink own index "RosetteGantry$Plan" "place" "I" ∈ gx_T) (hdg : decode cc pc = .ok (.getfield index, 3)) (kk : W p l e R s m args below meth c H locs cells slots Q (F0 m (pc + 3) ls (.int (I a 2) :: rest))) : W p l e R s m args below meth c H locs cells slots Q (F0 m pc ls (.ref (gx_ad L a) :: rest)) :=
  gq_get C hM (kX_lt hk (by decide)) (cX_3 hk) rfl in_X3 2 (by decide) hl rfl hdg kk
theorem pX3_2 {I I1 : gx_M} {v : Int32} (C : gx_C L 282 p s m args meth c own cc n ret) (hM : gx_S L 282 (cellX L I) s.heap H locs) (hk : kX a = 3) (hI : I1 = up I a 2 v) {index : Nat} (hl : Cond.fieldLink own index "RosetteGantry$Plan" "place" "I" ∈ gx_T) (hdg : decode cc pc = .ok (.putfield index, 3)) (kk : ∀ (H : Heap) (locs : List Loc), gx_S L 282 (cellX L I1) s.heap H locs → W p l e R s m args below meth c H locs cells slots Q (F0 m (pc + 3) ls rest)) : W p l e R s m args below meth c H locs cells slots Q (F0 m pc ls (.int v :: .ref (gx_ad L a) :: rest)) := by
  subst hI
  exact gq_put (cell' := cellX L (up I a 2 v)) C hM (kX_lt hk (by decide)) (cX_3 hk) rfl in_X3 tyX3 tyX3_ok nmX3 2 (by decide) hl rfl rfl rfl (Nat.le_of_ble_eq_true rfl) (by rw [cX_3 hk]; simp [up, upd]) (fun b hb => cX_row (up_ne hb)) hdg kk
theorem gX3_3 {I : gx_M} (C : gx_C L 282 p s m args meth c own cc n ret) (hM : gx_S L 282 (cellX L I) s.heap H locs) (hk : kX a = 3) {index : Nat} (hl : Cond.fieldLink own index "RosetteGantry$Plan" "way" "I" ∈ gx_T) (hdg : decode cc pc = .ok (.getfield index, 3)) (kk : W p l e R s m args below meth c H locs cells slots Q (F0 m (pc + 3) ls (.int (I a 3) :: rest))) : W p l e R s m args below meth c H locs cells slots Q (F0 m pc ls (.ref (gx_ad L a) :: rest)) :=
  gq_get C hM (kX_lt hk (by decide)) (cX_3 hk) rfl in_X3 3 (by decide) hl rfl hdg kk
theorem pX3_3 {I I1 : gx_M} {v : Int32} (C : gx_C L 282 p s m args meth c own cc n ret) (hM : gx_S L 282 (cellX L I) s.heap H locs) (hk : kX a = 3) (hI : I1 = up I a 3 v) {index : Nat} (hl : Cond.fieldLink own index "RosetteGantry$Plan" "way" "I" ∈ gx_T) (hdg : decode cc pc = .ok (.putfield index, 3)) (kk : ∀ (H : Heap) (locs : List Loc), gx_S L 282 (cellX L I1) s.heap H locs → W p l e R s m args below meth c H locs cells slots Q (F0 m (pc + 3) ls rest)) : W p l e R s m args below meth c H locs cells slots Q (F0 m pc ls (.int v :: .ref (gx_ad L a) :: rest)) := by
  subst hI
  exact gq_put (cell' := cellX L (up I a 3 v)) C hM (kX_lt hk (by decide)) (cX_3 hk) rfl in_X3 tyX3 tyX3_ok nmX3 3 (by decide) hl rfl rfl rfl (Nat.le_of_ble_eq_true rfl) (by rw [cX_3 hk]; simp [up, upd]) (fun b hb => cX_row (up_ne hb)) hdg kk
theorem gX4_0 {I : gx_M} (C : gx_C L 282 p s m args meth c own cc n ret) (hM : gx_S L 282 (cellX L I) s.heap H locs) (hk : kX a = 4) {index : Nat} (hl : Cond.fieldLink own index "RosetteGantry$Rosette" "place" "I" ∈ gx_T) (hdg : decode cc pc = .ok (.getfield index, 3)) (kk : W p l e R s m args below meth c H locs cells slots Q (F0 m (pc + 3) ls (.int (I a 0) :: rest))) : W p l e R s m args below meth c H locs cells slots Q (F0 m pc ls (.ref (gx_ad L a) :: rest)) :=
  gq_get C hM (kX_lt hk (by decide)) (cX_4 hk) rfl in_X4 0 (by decide) hl rfl hdg kk
theorem pX4_0 {I I1 : gx_M} {v : Int32} (C : gx_C L 282 p s m args meth c own cc n ret) (hM : gx_S L 282 (cellX L I) s.heap H locs) (hk : kX a = 4) (hI : I1 = up I a 0 v) {index : Nat} (hl : Cond.fieldLink own index "RosetteGantry$Rosette" "place" "I" ∈ gx_T) (hdg : decode cc pc = .ok (.putfield index, 3)) (kk : ∀ (H : Heap) (locs : List Loc), gx_S L 282 (cellX L I1) s.heap H locs → W p l e R s m args below meth c H locs cells slots Q (F0 m (pc + 3) ls rest)) : W p l e R s m args below meth c H locs cells slots Q (F0 m pc ls (.int v :: .ref (gx_ad L a) :: rest)) := by
  subst hI
  exact gq_put (cell' := cellX L (up I a 0 v)) C hM (kX_lt hk (by decide)) (cX_4 hk) rfl in_X4 tyX4 tyX4_ok nmX4 0 (by decide) hl rfl rfl rfl (Nat.le_of_ble_eq_true rfl) (by rw [cX_4 hk]; simp [up, upd]) (fun b hb => cX_row (up_ne hb)) hdg kk
theorem gX4_1 {I : gx_M} (C : gx_C L 282 p s m args meth c own cc n ret) (hM : gx_S L 282 (cellX L I) s.heap H locs) (hk : kX a = 4) {index : Nat} (hl : Cond.fieldLink own index "RosetteGantry$Rosette" "delta" "Z" ∈ gx_T) (hdg : decode cc pc = .ok (.getfield index, 3)) (kk : W p l e R s m args below meth c H locs cells slots Q (F0 m (pc + 3) ls (.int (I a 1 &&& 1) :: rest))) : W p l e R s m args below meth c H locs cells slots Q (F0 m pc ls (.ref (gx_ad L a) :: rest)) :=
  gq_get C hM (kX_lt hk (by decide)) (cX_4 hk) rfl in_X4 1 (by decide) hl rfl hdg kk
theorem pX4_1 {I I1 : gx_M} {v : Int32} (C : gx_C L 282 p s m args meth c own cc n ret) (hM : gx_S L 282 (cellX L I) s.heap H locs) (hk : kX a = 4) (hz : v &&& 1 = v) (hI : I1 = up I a 1 v) {index : Nat} (hl : Cond.fieldLink own index "RosetteGantry$Rosette" "delta" "Z" ∈ gx_T) (hdg : decode cc pc = .ok (.putfield index, 3)) (kk : ∀ (H : Heap) (locs : List Loc), gx_S L 282 (cellX L I1) s.heap H locs → W p l e R s m args below meth c H locs cells slots Q (F0 m (pc + 3) ls rest)) : W p l e R s m args below meth c H locs cells slots Q (F0 m pc ls (.int v :: .ref (gx_ad L a) :: rest)) := by
  subst hI
  exact gq_put (cell' := cellX L (up I a 1 v)) C hM (kX_lt hk (by decide)) (cX_4 hk) rfl in_X4 tyX4 tyX4_ok nmX4 1 (by decide) hl rfl (by show Value.int (v &&& 1) = _; rw [hz]) (gz_fits hz) (Nat.le_of_ble_eq_true rfl) (by rw [cX_4 hk]; simp [up, upd, hz]) (fun b hb => cX_row (up_ne hb)) hdg kk
theorem gX4_2 {I : gx_M} (C : gx_C L 282 p s m args meth c own cc n ret) (hM : gx_S L 282 (cellX L I) s.heap H locs) (hk : kX a = 4) {index : Nat} (hl : Cond.fieldLink own index "RosetteGantry$Rosette" "resistance" "I" ∈ gx_T) (hdg : decode cc pc = .ok (.getfield index, 3)) (kk : W p l e R s m args below meth c H locs cells slots Q (F0 m (pc + 3) ls (.int (I a 2) :: rest))) : W p l e R s m args below meth c H locs cells slots Q (F0 m pc ls (.ref (gx_ad L a) :: rest)) :=
  gq_get C hM (kX_lt hk (by decide)) (cX_4 hk) rfl in_X4 2 (by decide) hl rfl hdg kk
theorem pX4_2 {I I1 : gx_M} {v : Int32} (C : gx_C L 282 p s m args meth c own cc n ret) (hM : gx_S L 282 (cellX L I) s.heap H locs) (hk : kX a = 4) (hI : I1 = up I a 2 v) {index : Nat} (hl : Cond.fieldLink own index "RosetteGantry$Rosette" "resistance" "I" ∈ gx_T) (hdg : decode cc pc = .ok (.putfield index, 3)) (kk : ∀ (H : Heap) (locs : List Loc), gx_S L 282 (cellX L I1) s.heap H locs → W p l e R s m args below meth c H locs cells slots Q (F0 m (pc + 3) ls rest)) : W p l e R s m args below meth c H locs cells slots Q (F0 m pc ls (.int v :: .ref (gx_ad L a) :: rest)) := by
  subst hI
  exact gq_put (cell' := cellX L (up I a 2 v)) C hM (kX_lt hk (by decide)) (cX_4 hk) rfl in_X4 tyX4 tyX4_ok nmX4 2 (by decide) hl rfl rfl rfl (Nat.le_of_ble_eq_true rfl) (by rw [cX_4 hk]; simp [up, upd]) (fun b hb => cX_row (up_ne hb)) hdg kk
theorem gX4_3 {I : gx_M} (C : gx_C L 282 p s m args meth c own cc n ret) (hM : gx_S L 282 (cellX L I) s.heap H locs) (hk : kX a = 4) {index : Nat} (hl : Cond.fieldLink own index "RosetteGantry$Rosette" "factor" "I" ∈ gx_T) (hdg : decode cc pc = .ok (.getfield index, 3)) (kk : W p l e R s m args below meth c H locs cells slots Q (F0 m (pc + 3) ls (.int (I a 3) :: rest))) : W p l e R s m args below meth c H locs cells slots Q (F0 m pc ls (.ref (gx_ad L a) :: rest)) :=
  gq_get C hM (kX_lt hk (by decide)) (cX_4 hk) rfl in_X4 3 (by decide) hl rfl hdg kk
theorem pX4_3 {I I1 : gx_M} {v : Int32} (C : gx_C L 282 p s m args meth c own cc n ret) (hM : gx_S L 282 (cellX L I) s.heap H locs) (hk : kX a = 4) (hI : I1 = up I a 3 v) {index : Nat} (hl : Cond.fieldLink own index "RosetteGantry$Rosette" "factor" "I" ∈ gx_T) (hdg : decode cc pc = .ok (.putfield index, 3)) (kk : ∀ (H : Heap) (locs : List Loc), gx_S L 282 (cellX L I1) s.heap H locs → W p l e R s m args below meth c H locs cells slots Q (F0 m (pc + 3) ls rest)) : W p l e R s m args below meth c H locs cells slots Q (F0 m pc ls (.int v :: .ref (gx_ad L a) :: rest)) := by
  subst hI
  exact gq_put (cell' := cellX L (up I a 3 v)) C hM (kX_lt hk (by decide)) (cX_4 hk) rfl in_X4 tyX4 tyX4_ok nmX4 3 (by decide) hl rfl rfl rfl (Nat.le_of_ble_eq_true rfl) (by rw [cX_4 hk]; simp [up, upd]) (fun b hb => cX_row (up_ne hb)) hdg kk
theorem gX4_4 {I : gx_M} (C : gx_C L 282 p s m args meth c own cc n ret) (hM : gx_S L 282 (cellX L I) s.heap H locs) (hk : kX a = 4) {index : Nat} (hl : Cond.fieldLink own index "RosetteGantry$Rosette" "leads" "I" ∈ gx_T) (hdg : decode cc pc = .ok (.getfield index, 3)) (kk : W p l e R s m args below meth c H locs cells slots Q (F0 m (pc + 3) ls (.int (I a 4) :: rest))) : W p l e R s m args below meth c H locs cells slots Q (F0 m pc ls (.ref (gx_ad L a) :: rest)) :=
  gq_get C hM (kX_lt hk (by decide)) (cX_4 hk) rfl in_X4 4 (by decide) hl rfl hdg kk
theorem pX4_4 {I I1 : gx_M} {v : Int32} (C : gx_C L 282 p s m args meth c own cc n ret) (hM : gx_S L 282 (cellX L I) s.heap H locs) (hk : kX a = 4) (hI : I1 = up I a 4 v) {index : Nat} (hl : Cond.fieldLink own index "RosetteGantry$Rosette" "leads" "I" ∈ gx_T) (hdg : decode cc pc = .ok (.putfield index, 3)) (kk : ∀ (H : Heap) (locs : List Loc), gx_S L 282 (cellX L I1) s.heap H locs → W p l e R s m args below meth c H locs cells slots Q (F0 m (pc + 3) ls rest)) : W p l e R s m args below meth c H locs cells slots Q (F0 m pc ls (.int v :: .ref (gx_ad L a) :: rest)) := by
  subst hI
  exact gq_put (cell' := cellX L (up I a 4 v)) C hM (kX_lt hk (by decide)) (cX_4 hk) rfl in_X4 tyX4 tyX4_ok nmX4 4 (by decide) hl rfl rfl rfl (Nat.le_of_ble_eq_true rfl) (by rw [cX_4 hk]; simp [up, upd]) (fun b hb => cX_row (up_ne hb)) hdg kk
theorem gX4_5 {I : gx_M} (C : gx_C L 282 p s m args meth c own cc n ret) (hM : gx_S L 282 (cellX L I) s.heap H locs) (hk : kX a = 4) {index : Nat} (hl : Cond.fieldLink own index "RosetteGantry$Rosette" "x" "I" ∈ gx_T) (hdg : decode cc pc = .ok (.getfield index, 3)) (kk : W p l e R s m args below meth c H locs cells slots Q (F0 m (pc + 3) ls (.int (I a 5) :: rest))) : W p l e R s m args below meth c H locs cells slots Q (F0 m pc ls (.ref (gx_ad L a) :: rest)) :=
  gq_get C hM (kX_lt hk (by decide)) (cX_4 hk) rfl in_X4 5 (by decide) hl rfl hdg kk
theorem pX4_5 {I I1 : gx_M} {v : Int32} (C : gx_C L 282 p s m args meth c own cc n ret) (hM : gx_S L 282 (cellX L I) s.heap H locs) (hk : kX a = 4) (hI : I1 = up I a 5 v) {index : Nat} (hl : Cond.fieldLink own index "RosetteGantry$Rosette" "x" "I" ∈ gx_T) (hdg : decode cc pc = .ok (.putfield index, 3)) (kk : ∀ (H : Heap) (locs : List Loc), gx_S L 282 (cellX L I1) s.heap H locs → W p l e R s m args below meth c H locs cells slots Q (F0 m (pc + 3) ls rest)) : W p l e R s m args below meth c H locs cells slots Q (F0 m pc ls (.int v :: .ref (gx_ad L a) :: rest)) := by
  subst hI
  exact gq_put (cell' := cellX L (up I a 5 v)) C hM (kX_lt hk (by decide)) (cX_4 hk) rfl in_X4 tyX4 tyX4_ok nmX4 5 (by decide) hl rfl rfl rfl (Nat.le_of_ble_eq_true rfl) (by rw [cX_4 hk]; simp [up, upd]) (fun b hb => cX_row (up_ne hb)) hdg kk
theorem gX4_6 {I : gx_M} (C : gx_C L 282 p s m args meth c own cc n ret) (hM : gx_S L 282 (cellX L I) s.heap H locs) (hk : kX a = 4) {index : Nat} (hl : Cond.fieldLink own index "RosetteGantry$Rosette" "y" "I" ∈ gx_T) (hdg : decode cc pc = .ok (.getfield index, 3)) (kk : W p l e R s m args below meth c H locs cells slots Q (F0 m (pc + 3) ls (.int (I a 6) :: rest))) : W p l e R s m args below meth c H locs cells slots Q (F0 m pc ls (.ref (gx_ad L a) :: rest)) :=
  gq_get C hM (kX_lt hk (by decide)) (cX_4 hk) rfl in_X4 6 (by decide) hl rfl hdg kk
theorem pX4_6 {I I1 : gx_M} {v : Int32} (C : gx_C L 282 p s m args meth c own cc n ret) (hM : gx_S L 282 (cellX L I) s.heap H locs) (hk : kX a = 4) (hI : I1 = up I a 6 v) {index : Nat} (hl : Cond.fieldLink own index "RosetteGantry$Rosette" "y" "I" ∈ gx_T) (hdg : decode cc pc = .ok (.putfield index, 3)) (kk : ∀ (H : Heap) (locs : List Loc), gx_S L 282 (cellX L I1) s.heap H locs → W p l e R s m args below meth c H locs cells slots Q (F0 m (pc + 3) ls rest)) : W p l e R s m args below meth c H locs cells slots Q (F0 m pc ls (.int v :: .ref (gx_ad L a) :: rest)) := by
  subst hI
  exact gq_put (cell' := cellX L (up I a 6 v)) C hM (kX_lt hk (by decide)) (cX_4 hk) rfl in_X4 tyX4 tyX4_ok nmX4 6 (by decide) hl rfl rfl rfl (Nat.le_of_ble_eq_true rfl) (by rw [cX_4 hk]; simp [up, upd]) (fun b hb => cX_row (up_ne hb)) hdg kk
theorem gX4_7 {I : gx_M} (C : gx_C L 282 p s m args meth c own cc n ret) (hM : gx_S L 282 (cellX L I) s.heap H locs) (hk : kX a = 4) {index : Nat} (hl : Cond.fieldLink own index "RosetteGantry$Rosette" "g" "I" ∈ gx_T) (hdg : decode cc pc = .ok (.getfield index, 3)) (kk : W p l e R s m args below meth c H locs cells slots Q (F0 m (pc + 3) ls (.int (I a 7) :: rest))) : W p l e R s m args below meth c H locs cells slots Q (F0 m pc ls (.ref (gx_ad L a) :: rest)) :=
  gq_get C hM (kX_lt hk (by decide)) (cX_4 hk) rfl in_X4 7 (by decide) hl rfl hdg kk
theorem pX4_7 {I I1 : gx_M} {v : Int32} (C : gx_C L 282 p s m args meth c own cc n ret) (hM : gx_S L 282 (cellX L I) s.heap H locs) (hk : kX a = 4) (hI : I1 = up I a 7 v) {index : Nat} (hl : Cond.fieldLink own index "RosetteGantry$Rosette" "g" "I" ∈ gx_T) (hdg : decode cc pc = .ok (.putfield index, 3)) (kk : ∀ (H : Heap) (locs : List Loc), gx_S L 282 (cellX L I1) s.heap H locs → W p l e R s m args below meth c H locs cells slots Q (F0 m (pc + 3) ls rest)) : W p l e R s m args below meth c H locs cells slots Q (F0 m pc ls (.int v :: .ref (gx_ad L a) :: rest)) := by
  subst hI
  exact gq_put (cell' := cellX L (up I a 7 v)) C hM (kX_lt hk (by decide)) (cX_4 hk) rfl in_X4 tyX4 tyX4_ok nmX4 7 (by decide) hl rfl rfl rfl (Nat.le_of_ble_eq_true rfl) (by rw [cX_4 hk]; simp [up, upd]) (fun b hb => cX_row (up_ne hb)) hdg kk
theorem gX4_8 {I : gx_M} (C : gx_C L 282 p s m args meth c own cc n ret) (hM : gx_S L 282 (cellX L I) s.heap H locs) (hk : kX a = 4) {index : Nat} (hl : Cond.fieldLink own index "RosetteGantry$Rosette" "shunt" "Z" ∈ gx_T) (hdg : decode cc pc = .ok (.getfield index, 3)) (kk : W p l e R s m args below meth c H locs cells slots Q (F0 m (pc + 3) ls (.int (I a 8 &&& 1) :: rest))) : W p l e R s m args below meth c H locs cells slots Q (F0 m pc ls (.ref (gx_ad L a) :: rest)) :=
  gq_get C hM (kX_lt hk (by decide)) (cX_4 hk) rfl in_X4 8 (by decide) hl rfl hdg kk
theorem pX4_8 {I I1 : gx_M} {v : Int32} (C : gx_C L 282 p s m args meth c own cc n ret) (hM : gx_S L 282 (cellX L I) s.heap H locs) (hk : kX a = 4) (hz : v &&& 1 = v) (hI : I1 = up I a 8 v) {index : Nat} (hl : Cond.fieldLink own index "RosetteGantry$Rosette" "shunt" "Z" ∈ gx_T) (hdg : decode cc pc = .ok (.putfield index, 3)) (kk : ∀ (H : Heap) (locs : List Loc), gx_S L 282 (cellX L I1) s.heap H locs → W p l e R s m args below meth c H locs cells slots Q (F0 m (pc + 3) ls rest)) : W p l e R s m args below meth c H locs cells slots Q (F0 m pc ls (.int v :: .ref (gx_ad L a) :: rest)) := by
  subst hI
  exact gq_put (cell' := cellX L (up I a 8 v)) C hM (kX_lt hk (by decide)) (cX_4 hk) rfl in_X4 tyX4 tyX4_ok nmX4 8 (by decide) hl rfl (by show Value.int (v &&& 1) = _; rw [hz]) (gz_fits hz) (Nat.le_of_ble_eq_true rfl) (by rw [cX_4 hk]; simp [up, upd, hz]) (fun b hb => cX_row (up_ne hb)) hdg kk
theorem gX4_9 {I : gx_M} (C : gx_C L 282 p s m args meth c own cc n ret) (hM : gx_S L 282 (cellX L I) s.heap H locs) (hk : kX a = 4) {index : Nat} (hl : Cond.fieldLink own index "RosetteGantry$Rosette" "offset" "[I" ∈ gx_T) (hdg : decode cc pc = .ok (.getfield index, 3)) (kk : W p l e R s m args below meth c H locs cells slots Q (F0 m (pc + 3) ls (.ref (gx_ad L (a + 1)) :: rest))) : W p l e R s m args below meth c H locs cells slots Q (F0 m pc ls (.ref (gx_ad L a) :: rest)) :=
  gq_get C hM (kX_lt hk (by decide)) (cX_4 hk) rfl in_X4 9 (by decide) hl rfl hdg kk
theorem gX4_10 {I : gx_M} (C : gx_C L 282 p s m args meth c own cc n ret) (hM : gx_S L 282 (cellX L I) s.heap H locs) (hk : kX a = 4) {index : Nat} (hl : Cond.fieldLink own index "RosetteGantry$Rosette" "zero" "[I" ∈ gx_T) (hdg : decode cc pc = .ok (.getfield index, 3)) (kk : W p l e R s m args below meth c H locs cells slots Q (F0 m (pc + 3) ls (.ref (gx_ad L (a + 2)) :: rest))) : W p l e R s m args below meth c H locs cells slots Q (F0 m pc ls (.ref (gx_ad L a) :: rest)) :=
  gq_get C hM (kX_lt hk (by decide)) (cX_4 hk) rfl in_X4 10 (by decide) hl rfl hdg kk
theorem gX4_11 {I : gx_M} (C : gx_C L 282 p s m args meth c own cc n ret) (hM : gx_S L 282 (cellX L I) s.heap H locs) (hk : kX a = 4) {index : Nat} (hl : Cond.fieldLink own index "RosetteGantry$Rosette" "gain" "[I" ∈ gx_T) (hdg : decode cc pc = .ok (.getfield index, 3)) (kk : W p l e R s m args below meth c H locs cells slots Q (F0 m (pc + 3) ls (.ref (gx_ad L (a + 3)) :: rest))) : W p l e R s m args below meth c H locs cells slots Q (F0 m pc ls (.ref (gx_ad L a) :: rest)) :=
  gq_get C hM (kX_lt hk (by decide)) (cX_4 hk) rfl in_X4 11 (by decide) hl rfl hdg kk
theorem gX5_0 {I : gx_M} (C : gx_C L 282 p s m args meth c own cc n ret) (hM : gx_S L 282 (cellX L I) s.heap H locs) (hk : kX a = 5) {index : Nat} (hl : Cond.fieldLink own index "RosetteGantry$Rows" "cells" "[I" ∈ gx_T) (hdg : decode cc pc = .ok (.getfield index, 3)) (kk : W p l e R s m args below meth c H locs cells slots Q (F0 m (pc + 3) ls (.ref (gx_ad L (a + 1)) :: rest))) : W p l e R s m args below meth c H locs cells slots Q (F0 m pc ls (.ref (gx_ad L a) :: rest)) :=
  gq_get C hM (kX_lt hk (by decide)) (cX_5 hk) rfl in_X5 0 (by decide) hl rfl hdg kk
theorem gX5_1 {I : gx_M} (C : gx_C L 282 p s m args meth c own cc n ret) (hM : gx_S L 282 (cellX L I) s.heap H locs) (hk : kX a = 5) {index : Nat} (hl : Cond.fieldLink own index "RosetteGantry$Rows" "used" "I" ∈ gx_T) (hdg : decode cc pc = .ok (.getfield index, 3)) (kk : W p l e R s m args below meth c H locs cells slots Q (F0 m (pc + 3) ls (.int (I a 1) :: rest))) : W p l e R s m args below meth c H locs cells slots Q (F0 m pc ls (.ref (gx_ad L a) :: rest)) :=
  gq_get C hM (kX_lt hk (by decide)) (cX_5 hk) rfl in_X5 1 (by decide) hl rfl hdg kk
theorem pX5_1 {I I1 : gx_M} {v : Int32} (C : gx_C L 282 p s m args meth c own cc n ret) (hM : gx_S L 282 (cellX L I) s.heap H locs) (hk : kX a = 5) (hI : I1 = up I a 1 v) {index : Nat} (hl : Cond.fieldLink own index "RosetteGantry$Rows" "used" "I" ∈ gx_T) (hdg : decode cc pc = .ok (.putfield index, 3)) (kk : ∀ (H : Heap) (locs : List Loc), gx_S L 282 (cellX L I1) s.heap H locs → W p l e R s m args below meth c H locs cells slots Q (F0 m (pc + 3) ls rest)) : W p l e R s m args below meth c H locs cells slots Q (F0 m pc ls (.int v :: .ref (gx_ad L a) :: rest)) := by
  subst hI
  exact gq_put (cell' := cellX L (up I a 1 v)) C hM (kX_lt hk (by decide)) (cX_5 hk) rfl in_X5 tyX5 tyX5_ok nmX5 1 (by decide) hl rfl rfl rfl (Nat.le_of_ble_eq_true rfl) (by rw [cX_5 hk]; simp [up, upd]) (fun b hb => cX_row (up_ne hb)) hdg kk
theorem gX6_0 {I : gx_M} (C : gx_C L 282 p s m args meth c own cc n ret) (hM : gx_S L 282 (cellX L I) s.heap H locs) (hk : kX a = 6) {index : Nat} (hl : Cond.fieldLink own index "RosetteGantry$State" "rosettes" "[LRosetteGantry$Rosette;" ∈ gx_T) (hdg : decode cc pc = .ok (.getfield index, 3)) (kk : W p l e R s m args below meth c H locs cells slots Q (F0 m (pc + 3) ls (.ref (gx_ad L (a + 1)) :: rest))) : W p l e R s m args below meth c H locs cells slots Q (F0 m pc ls (.ref (gx_ad L a) :: rest)) :=
  gq_get C hM (kX_lt hk (by decide)) (cX_6 hk) rfl in_X6 0 (by decide) hl rfl hdg kk
theorem gX6_1 {I : gx_M} (C : gx_C L 282 p s m args meth c own cc n ret) (hM : gx_S L 282 (cellX L I) s.heap H locs) (hk : kX a = 6) {index : Nat} (hl : Cond.fieldLink own index "RosetteGantry$State" "jobs" "LRosetteGantry$Rows;" ∈ gx_T) (hdg : decode cc pc = .ok (.getfield index, 3)) (kk : W p l e R s m args below meth c H locs cells slots Q (F0 m (pc + 3) ls (.ref (gx_ad L (a + 2)) :: rest))) : W p l e R s m args below meth c H locs cells slots Q (F0 m pc ls (.ref (gx_ad L a) :: rest)) :=
  gq_get C hM (kX_lt hk (by decide)) (cX_6 hk) rfl in_X6 1 (by decide) hl rfl hdg kk
theorem gX6_2 {I : gx_M} (C : gx_C L 282 p s m args meth c own cc n ret) (hM : gx_S L 282 (cellX L I) s.heap H locs) (hk : kX a = 6) {index : Nat} (hl : Cond.fieldLink own index "RosetteGantry$State" "records" "LRosetteGantry$Rows;" ∈ gx_T) (hdg : decode cc pc = .ok (.getfield index, 3)) (kk : W p l e R s m args below meth c H locs cells slots Q (F0 m (pc + 3) ls (.ref (gx_ad L (a + 4)) :: rest))) : W p l e R s m args below meth c H locs cells slots Q (F0 m pc ls (.ref (gx_ad L a) :: rest)) :=
  gq_get C hM (kX_lt hk (by decide)) (cX_6 hk) rfl in_X6 2 (by decide) hl rfl hdg kk
theorem gX6_3 {I : gx_M} (C : gx_C L 282 p s m args meth c own cc n ret) (hM : gx_S L 282 (cellX L I) s.heap H locs) (hk : kX a = 6) {index : Nat} (hl : Cond.fieldLink own index "RosetteGantry$State" "rosettesUsed" "I" ∈ gx_T) (hdg : decode cc pc = .ok (.getfield index, 3)) (kk : W p l e R s m args below meth c H locs cells slots Q (F0 m (pc + 3) ls (.int (I a 3) :: rest))) : W p l e R s m args below meth c H locs cells slots Q (F0 m pc ls (.ref (gx_ad L a) :: rest)) :=
  gq_get C hM (kX_lt hk (by decide)) (cX_6 hk) rfl in_X6 3 (by decide) hl rfl hdg kk
theorem pX6_3 {I I1 : gx_M} {v : Int32} (C : gx_C L 282 p s m args meth c own cc n ret) (hM : gx_S L 282 (cellX L I) s.heap H locs) (hk : kX a = 6) (hI : I1 = up I a 3 v) {index : Nat} (hl : Cond.fieldLink own index "RosetteGantry$State" "rosettesUsed" "I" ∈ gx_T) (hdg : decode cc pc = .ok (.putfield index, 3)) (kk : ∀ (H : Heap) (locs : List Loc), gx_S L 282 (cellX L I1) s.heap H locs → W p l e R s m args below meth c H locs cells slots Q (F0 m (pc + 3) ls rest)) : W p l e R s m args below meth c H locs cells slots Q (F0 m pc ls (.int v :: .ref (gx_ad L a) :: rest)) := by
  subst hI
  exact gq_put (cell' := cellX L (up I a 3 v)) C hM (kX_lt hk (by decide)) (cX_6 hk) rfl in_X6 tyX6 tyX6_ok nmX6 3 (by decide) hl rfl rfl rfl (Nat.le_of_ble_eq_true rfl) (by rw [cX_6 hk]; simp [up, upd]) (fun b hb => cX_row (up_ne hb)) hdg kk
theorem gX6_4 {I : gx_M} (C : gx_C L 282 p s m args meth c own cc n ret) (hM : gx_S L 282 (cellX L I) s.heap H locs) (hk : kX a = 6) {index : Nat} (hl : Cond.fieldLink own index "RosetteGantry$State" "size" "I" ∈ gx_T) (hdg : decode cc pc = .ok (.getfield index, 3)) (kk : W p l e R s m args below meth c H locs cells slots Q (F0 m (pc + 3) ls (.int (I a 4) :: rest))) : W p l e R s m args below meth c H locs cells slots Q (F0 m pc ls (.ref (gx_ad L a) :: rest)) :=
  gq_get C hM (kX_lt hk (by decide)) (cX_6 hk) rfl in_X6 4 (by decide) hl rfl hdg kk
theorem pX6_4 {I I1 : gx_M} {v : Int32} (C : gx_C L 282 p s m args meth c own cc n ret) (hM : gx_S L 282 (cellX L I) s.heap H locs) (hk : kX a = 6) (hI : I1 = up I a 4 v) {index : Nat} (hl : Cond.fieldLink own index "RosetteGantry$State" "size" "I" ∈ gx_T) (hdg : decode cc pc = .ok (.putfield index, 3)) (kk : ∀ (H : Heap) (locs : List Loc), gx_S L 282 (cellX L I1) s.heap H locs → W p l e R s m args below meth c H locs cells slots Q (F0 m (pc + 3) ls rest)) : W p l e R s m args below meth c H locs cells slots Q (F0 m pc ls (.int v :: .ref (gx_ad L a) :: rest)) := by
  subst hI
  exact gq_put (cell' := cellX L (up I a 4 v)) C hM (kX_lt hk (by decide)) (cX_6 hk) rfl in_X6 tyX6 tyX6_ok nmX6 4 (by decide) hl rfl rfl rfl (Nat.le_of_ble_eq_true rfl) (by rw [cX_6 hk]; simp [up, upd]) (fun b hb => cX_row (up_ne hb)) hdg kk
theorem gX6_5 {I : gx_M} (C : gx_C L 282 p s m args meth c own cc n ret) (hM : gx_S L 282 (cellX L I) s.heap H locs) (hk : kX a = 6) {index : Nat} (hl : Cond.fieldLink own index "RosetteGantry$State" "place" "I" ∈ gx_T) (hdg : decode cc pc = .ok (.getfield index, 3)) (kk : W p l e R s m args below meth c H locs cells slots Q (F0 m (pc + 3) ls (.int (I a 5) :: rest))) : W p l e R s m args below meth c H locs cells slots Q (F0 m pc ls (.ref (gx_ad L a) :: rest)) :=
  gq_get C hM (kX_lt hk (by decide)) (cX_6 hk) rfl in_X6 5 (by decide) hl rfl hdg kk
theorem pX6_5 {I I1 : gx_M} {v : Int32} (C : gx_C L 282 p s m args meth c own cc n ret) (hM : gx_S L 282 (cellX L I) s.heap H locs) (hk : kX a = 6) (hI : I1 = up I a 5 v) {index : Nat} (hl : Cond.fieldLink own index "RosetteGantry$State" "place" "I" ∈ gx_T) (hdg : decode cc pc = .ok (.putfield index, 3)) (kk : ∀ (H : Heap) (locs : List Loc), gx_S L 282 (cellX L I1) s.heap H locs → W p l e R s m args below meth c H locs cells slots Q (F0 m (pc + 3) ls rest)) : W p l e R s m args below meth c H locs cells slots Q (F0 m pc ls (.int v :: .ref (gx_ad L a) :: rest)) := by
  subst hI
  exact gq_put (cell' := cellX L (up I a 5 v)) C hM (kX_lt hk (by decide)) (cX_6 hk) rfl in_X6 tyX6 tyX6_ok nmX6 5 (by decide) hl rfl rfl rfl (Nat.le_of_ble_eq_true rfl) (by rw [cX_6 hk]; simp [up, upd]) (fun b hb => cX_row (up_ne hb)) hdg kk
theorem gX6_6 {I : gx_M} (C : gx_C L 282 p s m args meth c own cc n ret) (hM : gx_S L 282 (cellX L I) s.heap H locs) (hk : kX a = 6) {index : Nat} (hl : Cond.fieldLink own index "RosetteGantry$State" "way" "I" ∈ gx_T) (hdg : decode cc pc = .ok (.getfield index, 3)) (kk : W p l e R s m args below meth c H locs cells slots Q (F0 m (pc + 3) ls (.int (I a 6) :: rest))) : W p l e R s m args below meth c H locs cells slots Q (F0 m pc ls (.ref (gx_ad L a) :: rest)) :=
  gq_get C hM (kX_lt hk (by decide)) (cX_6 hk) rfl in_X6 6 (by decide) hl rfl hdg kk
theorem pX6_6 {I I1 : gx_M} {v : Int32} (C : gx_C L 282 p s m args meth c own cc n ret) (hM : gx_S L 282 (cellX L I) s.heap H locs) (hk : kX a = 6) (hI : I1 = up I a 6 v) {index : Nat} (hl : Cond.fieldLink own index "RosetteGantry$State" "way" "I" ∈ gx_T) (hdg : decode cc pc = .ok (.putfield index, 3)) (kk : ∀ (H : Heap) (locs : List Loc), gx_S L 282 (cellX L I1) s.heap H locs → W p l e R s m args below meth c H locs cells slots Q (F0 m (pc + 3) ls rest)) : W p l e R s m args below meth c H locs cells slots Q (F0 m pc ls (.int v :: .ref (gx_ad L a) :: rest)) := by
  subst hI
  exact gq_put (cell' := cellX L (up I a 6 v)) C hM (kX_lt hk (by decide)) (cX_6 hk) rfl in_X6 tyX6 tyX6_ok nmX6 6 (by decide) hl rfl rfl rfl (Nat.le_of_ble_eq_true rfl) (by rw [cX_6 hk]; simp [up, upd]) (fun b hb => cX_row (up_ne hb)) hdg kk
theorem gX6_7 {I : gx_M} (C : gx_C L 282 p s m args meth c own cc n ret) (hM : gx_S L 282 (cellX L I) s.heap H locs) (hk : kX a = 6) {index : Nat} (hl : Cond.fieldLink own index "RosetteGantry$State" "requests" "I" ∈ gx_T) (hdg : decode cc pc = .ok (.getfield index, 3)) (kk : W p l e R s m args below meth c H locs cells slots Q (F0 m (pc + 3) ls (.int (I a 7) :: rest))) : W p l e R s m args below meth c H locs cells slots Q (F0 m pc ls (.ref (gx_ad L a) :: rest)) :=
  gq_get C hM (kX_lt hk (by decide)) (cX_6 hk) rfl in_X6 7 (by decide) hl rfl hdg kk
theorem pX6_7 {I I1 : gx_M} {v : Int32} (C : gx_C L 282 p s m args meth c own cc n ret) (hM : gx_S L 282 (cellX L I) s.heap H locs) (hk : kX a = 6) (hI : I1 = up I a 7 v) {index : Nat} (hl : Cond.fieldLink own index "RosetteGantry$State" "requests" "I" ∈ gx_T) (hdg : decode cc pc = .ok (.putfield index, 3)) (kk : ∀ (H : Heap) (locs : List Loc), gx_S L 282 (cellX L I1) s.heap H locs → W p l e R s m args below meth c H locs cells slots Q (F0 m (pc + 3) ls rest)) : W p l e R s m args below meth c H locs cells slots Q (F0 m pc ls (.int v :: .ref (gx_ad L a) :: rest)) := by
  subst hI
  exact gq_put (cell' := cellX L (up I a 7 v)) C hM (kX_lt hk (by decide)) (cX_6 hk) rfl in_X6 tyX6 tyX6_ok nmX6 7 (by decide) hl rfl rfl rfl (Nat.le_of_ble_eq_true rfl) (by rw [cX_6 hk]; simp [up, upd]) (fun b hb => cX_row (up_ne hb)) hdg kk
theorem gX6_8 {I : gx_M} (C : gx_C L 282 p s m args meth c own cc n ret) (hM : gx_S L 282 (cellX L I) s.heap H locs) (hk : kX a = 6) {index : Nat} (hl : Cond.fieldLink own index "RosetteGantry$State" "done" "I" ∈ gx_T) (hdg : decode cc pc = .ok (.getfield index, 3)) (kk : W p l e R s m args below meth c H locs cells slots Q (F0 m (pc + 3) ls (.int (I a 8) :: rest))) : W p l e R s m args below meth c H locs cells slots Q (F0 m pc ls (.ref (gx_ad L a) :: rest)) :=
  gq_get C hM (kX_lt hk (by decide)) (cX_6 hk) rfl in_X6 8 (by decide) hl rfl hdg kk
theorem pX6_8 {I I1 : gx_M} {v : Int32} (C : gx_C L 282 p s m args meth c own cc n ret) (hM : gx_S L 282 (cellX L I) s.heap H locs) (hk : kX a = 6) (hI : I1 = up I a 8 v) {index : Nat} (hl : Cond.fieldLink own index "RosetteGantry$State" "done" "I" ∈ gx_T) (hdg : decode cc pc = .ok (.putfield index, 3)) (kk : ∀ (H : Heap) (locs : List Loc), gx_S L 282 (cellX L I1) s.heap H locs → W p l e R s m args below meth c H locs cells slots Q (F0 m (pc + 3) ls rest)) : W p l e R s m args below meth c H locs cells slots Q (F0 m pc ls (.int v :: .ref (gx_ad L a) :: rest)) := by
  subst hI
  exact gq_put (cell' := cellX L (up I a 8 v)) C hM (kX_lt hk (by decide)) (cX_6 hk) rfl in_X6 tyX6 tyX6_ok nmX6 8 (by decide) hl rfl rfl rfl (Nat.le_of_ble_eq_true rfl) (by rw [cX_6 hk]; simp [up, upd]) (fun b hb => cX_row (up_ne hb)) hdg kk
theorem gX6_9 {I : gx_M} (C : gx_C L 282 p s m args meth c own cc n ret) (hM : gx_S L 282 (cellX L I) s.heap H locs) (hk : kX a = 6) {index : Nat} (hl : Cond.fieldLink own index "RosetteGantry$State" "refused" "I" ∈ gx_T) (hdg : decode cc pc = .ok (.getfield index, 3)) (kk : W p l e R s m args below meth c H locs cells slots Q (F0 m (pc + 3) ls (.int (I a 9) :: rest))) : W p l e R s m args below meth c H locs cells slots Q (F0 m pc ls (.ref (gx_ad L a) :: rest)) :=
  gq_get C hM (kX_lt hk (by decide)) (cX_6 hk) rfl in_X6 9 (by decide) hl rfl hdg kk
theorem pX6_9 {I I1 : gx_M} {v : Int32} (C : gx_C L 282 p s m args meth c own cc n ret) (hM : gx_S L 282 (cellX L I) s.heap H locs) (hk : kX a = 6) (hI : I1 = up I a 9 v) {index : Nat} (hl : Cond.fieldLink own index "RosetteGantry$State" "refused" "I" ∈ gx_T) (hdg : decode cc pc = .ok (.putfield index, 3)) (kk : ∀ (H : Heap) (locs : List Loc), gx_S L 282 (cellX L I1) s.heap H locs → W p l e R s m args below meth c H locs cells slots Q (F0 m (pc + 3) ls rest)) : W p l e R s m args below meth c H locs cells slots Q (F0 m pc ls (.int v :: .ref (gx_ad L a) :: rest)) := by
  subst hI
  exact gq_put (cell' := cellX L (up I a 9 v)) C hM (kX_lt hk (by decide)) (cX_6 hk) rfl in_X6 tyX6 tyX6_ok nmX6 9 (by decide) hl rfl rfl rfl (Nat.le_of_ble_eq_true rfl) (by rw [cX_6 hk]; simp [up, upd]) (fun b hb => cX_row (up_ne hb)) hdg kk
theorem gX7_0 {I : gx_M} (C : gx_C L 282 p s m args meth c own cc n ret) (hM : gx_S L 282 (cellX L I) s.heap H locs) (hk : kX a = 7) {index : Nat} (hl : Cond.fieldLink own index "RosetteGantry" "state" "LRosetteGantry$State;" ∈ gx_T) (hdg : decode cc pc = .ok (.getfield index, 3)) (kk : W p l e R s m args below meth c H locs cells slots Q (F0 m (pc + 3) ls (.ref (gx_ad L (a + 1)) :: rest))) : W p l e R s m args below meth c H locs cells slots Q (F0 m pc ls (.ref (gx_ad L a) :: rest)) :=
  gq_get C hM (kX_lt hk (by decide)) (cX_7 hk) rfl in_X7 0 (by decide) hl rfl hdg kk
theorem gX7_1 {I : gx_M} (C : gx_C L 282 p s m args meth c own cc n ret) (hM : gx_S L 282 (cellX L I) s.heap H locs) (hk : kX a = 7) {index : Nat} (hl : Cond.fieldLink own index "RosetteGantry" "snapshot" "LRosetteGantry$State;" ∈ gx_T) (hdg : decode cc pc = .ok (.getfield index, 3)) (kk : W p l e R s m args below meth c H locs cells slots Q (F0 m (pc + 3) ls (.ref (gx_ad L (a + 39)) :: rest))) : W p l e R s m args below meth c H locs cells slots Q (F0 m pc ls (.ref (gx_ad L a) :: rest)) :=
  gq_get C hM (kX_lt hk (by decide)) (cX_7 hk) rfl in_X7 1 (by decide) hl rfl hdg kk
theorem gX7_2 {I : gx_M} (C : gx_C L 282 p s m args meth c own cc n ret) (hM : gx_S L 282 (cellX L I) s.heap H locs) (hk : kX a = 7) {index : Nat} (hl : Cond.fieldLink own index "RosetteGantry" "hasSnapshot" "Z" ∈ gx_T) (hdg : decode cc pc = .ok (.getfield index, 3)) (kk : W p l e R s m args below meth c H locs cells slots Q (F0 m (pc + 3) ls (.int (I a 2 &&& 1) :: rest))) : W p l e R s m args below meth c H locs cells slots Q (F0 m pc ls (.ref (gx_ad L a) :: rest)) :=
  gq_get C hM (kX_lt hk (by decide)) (cX_7 hk) rfl in_X7 2 (by decide) hl rfl hdg kk
theorem pX7_2 {I I1 : gx_M} {v : Int32} (C : gx_C L 282 p s m args meth c own cc n ret) (hM : gx_S L 282 (cellX L I) s.heap H locs) (hk : kX a = 7) (hz : v &&& 1 = v) (hI : I1 = up I a 2 v) {index : Nat} (hl : Cond.fieldLink own index "RosetteGantry" "hasSnapshot" "Z" ∈ gx_T) (hdg : decode cc pc = .ok (.putfield index, 3)) (kk : ∀ (H : Heap) (locs : List Loc), gx_S L 282 (cellX L I1) s.heap H locs → W p l e R s m args below meth c H locs cells slots Q (F0 m (pc + 3) ls rest)) : W p l e R s m args below meth c H locs cells slots Q (F0 m pc ls (.int v :: .ref (gx_ad L a) :: rest)) := by
  subst hI
  exact gq_put (cell' := cellX L (up I a 2 v)) C hM (kX_lt hk (by decide)) (cX_7 hk) rfl in_X7 tyX7 tyX7_ok nmX7 2 (by decide) hl rfl (by show Value.int (v &&& 1) = _; rw [hz]) (gz_fits hz) (Nat.le_of_ble_eq_true rfl) (by rw [cX_7 hk]; simp [up, upd, hz]) (fun b hb => cX_row (up_ne hb)) hdg kk
theorem gX7_3 {I : gx_M} (C : gx_C L 282 p s m args meth c own cc n ret) (hM : gx_S L 282 (cellX L I) s.heap H locs) (hk : kX a = 7) {index : Nat} (hl : Cond.fieldLink own index "RosetteGantry" "history" "LRosetteGantry$History;" ∈ gx_T) (hdg : decode cc pc = .ok (.getfield index, 3)) (kk : W p l e R s m args below meth c H locs cells slots Q (F0 m (pc + 3) ls (.ref (gx_ad L (a + 77)) :: rest))) : W p l e R s m args below meth c H locs cells slots Q (F0 m pc ls (.ref (gx_ad L a) :: rest)) :=
  gq_get C hM (kX_lt hk (by decide)) (cX_7 hk) rfl in_X7 3 (by decide) hl rfl hdg kk
theorem gX7_4 {I : gx_M} (C : gx_C L 282 p s m args meth c own cc n ret) (hM : gx_S L 282 (cellX L I) s.heap H locs) (hk : kX a = 7) {index : Nat} (hl : Cond.fieldLink own index "RosetteGantry" "text" "LRosetteGantry$JobText;" ∈ gx_T) (hdg : decode cc pc = .ok (.getfield index, 3)) (kk : W p l e R s m args below meth c H locs cells slots Q (F0 m (pc + 3) ls (.ref (gx_ad L (a + 269)) :: rest))) : W p l e R s m args below meth c H locs cells slots Q (F0 m pc ls (.ref (gx_ad L a) :: rest)) :=
  gq_get C hM (kX_lt hk (by decide)) (cX_7 hk) rfl in_X7 4 (by decide) hl rfl hdg kk
theorem gX7_5 {I : gx_M} (C : gx_C L 282 p s m args meth c own cc n ret) (hM : gx_S L 282 (cellX L I) s.heap H locs) (hk : kX a = 7) {index : Nat} (hl : Cond.fieldLink own index "RosetteGantry" "reason" "I" ∈ gx_T) (hdg : decode cc pc = .ok (.getfield index, 3)) (kk : W p l e R s m args below meth c H locs cells slots Q (F0 m (pc + 3) ls (.int (I a 5) :: rest))) : W p l e R s m args below meth c H locs cells slots Q (F0 m pc ls (.ref (gx_ad L a) :: rest)) :=
  gq_get C hM (kX_lt hk (by decide)) (cX_7 hk) rfl in_X7 5 (by decide) hl rfl hdg kk
theorem pX7_5 {I I1 : gx_M} {v : Int32} (C : gx_C L 282 p s m args meth c own cc n ret) (hM : gx_S L 282 (cellX L I) s.heap H locs) (hk : kX a = 7) (hI : I1 = up I a 5 v) {index : Nat} (hl : Cond.fieldLink own index "RosetteGantry" "reason" "I" ∈ gx_T) (hdg : decode cc pc = .ok (.putfield index, 3)) (kk : ∀ (H : Heap) (locs : List Loc), gx_S L 282 (cellX L I1) s.heap H locs → W p l e R s m args below meth c H locs cells slots Q (F0 m (pc + 3) ls rest)) : W p l e R s m args below meth c H locs cells slots Q (F0 m pc ls (.int v :: .ref (gx_ad L a) :: rest)) := by
  subst hI
  exact gq_put (cell' := cellX L (up I a 5 v)) C hM (kX_lt hk (by decide)) (cX_7 hk) rfl in_X7 tyX7 tyX7_ok nmX7 5 (by decide) hl rfl rfl rfl (Nat.le_of_ble_eq_true rfl) (by rw [cX_7 hk]; simp [up, upd]) (fun b hb => cX_row (up_ne hb)) hdg kk
theorem gX7_6 {I : gx_M} (C : gx_C L 282 p s m args meth c own cc n ret) (hM : gx_S L 282 (cellX L I) s.heap H locs) (hk : kX a = 7) {index : Nat} (hl : Cond.fieldLink own index "RosetteGantry" "plan" "LRosetteGantry$Plan;" ∈ gx_T) (hdg : decode cc pc = .ok (.getfield index, 3)) (kk : W p l e R s m args below meth c H locs cells slots Q (F0 m (pc + 3) ls (.ref (gx_ad L (a + 273)) :: rest))) : W p l e R s m args below meth c H locs cells slots Q (F0 m pc ls (.ref (gx_ad L a) :: rest)) :=
  gq_get C hM (kX_lt hk (by decide)) (cX_7 hk) rfl in_X7 6 (by decide) hl rfl hdg kk
theorem gX7_7 {I : gx_M} (C : gx_C L 282 p s m args meth c own cc n ret) (hM : gx_S L 282 (cellX L I) s.heap H locs) (hk : kX a = 7) {index : Nat} (hl : Cond.fieldLink own index "RosetteGantry" "measure" "LRosetteGantry$Measure;" ∈ gx_T) (hdg : decode cc pc = .ok (.getfield index, 3)) (kk : W p l e R s m args below meth c H locs cells slots Q (F0 m (pc + 3) ls (.ref (gx_ad L (a + 275)) :: rest))) : W p l e R s m args below meth c H locs cells slots Q (F0 m pc ls (.ref (gx_ad L a) :: rest)) :=
  gq_get C hM (kX_lt hk (by decide)) (cX_7 hk) rfl in_X7 7 (by decide) hl rfl hdg kk
theorem gX8_0 {I : gx_MM} (C : gx_C L 7 p s m args meth c own cc n ret) (hM : gx_S L 7 (cellM L I) s.heap H locs) (hk : kM a = 8) {index : Nat} (hl : Cond.fieldLink own index "RosetteGantryModel" "now" "[I" ∈ gx_T) (hdg : decode cc pc = .ok (.getfield index, 3)) (kk : W p l e R s m args below meth c H locs cells slots Q (F0 m (pc + 3) ls (.ref (gx_ad L (a + 1)) :: rest))) : W p l e R s m args below meth c H locs cells slots Q (F0 m pc ls (.ref (gx_ad L a) :: rest)) :=
  gq_get C hM (kM_lt hk (by decide)) (cM_8 hk) rfl in_X8 0 (by decide) hl rfl hdg kk
theorem gX8_1 {I : gx_MM} (C : gx_C L 7 p s m args meth c own cc n ret) (hM : gx_S L 7 (cellM L I) s.heap H locs) (hk : kM a = 8) {index : Nat} (hl : Cond.fieldLink own index "RosetteGantryModel" "history" "[I" ∈ gx_T) (hdg : decode cc pc = .ok (.getfield index, 3)) (kk : W p l e R s m args below meth c H locs cells slots Q (F0 m (pc + 3) ls (.ref (gx_ad L (a + 2)) :: rest))) : W p l e R s m args below meth c H locs cells slots Q (F0 m pc ls (.ref (gx_ad L a) :: rest)) :=
  gq_get C hM (kM_lt hk (by decide)) (cM_8 hk) rfl in_X8 1 (by decide) hl rfl hdg kk
theorem gX8_2 {I : gx_MM} (C : gx_C L 7 p s m args meth c own cc n ret) (hM : gx_S L 7 (cellM L I) s.heap H locs) (hk : kM a = 8) {index : Nat} (hl : Cond.fieldLink own index "RosetteGantryModel" "kept" "I" ∈ gx_T) (hdg : decode cc pc = .ok (.getfield index, 3)) (kk : W p l e R s m args below meth c H locs cells slots Q (F0 m (pc + 3) ls (.int (I.1 a 2) :: rest))) : W p l e R s m args below meth c H locs cells slots Q (F0 m pc ls (.ref (gx_ad L a) :: rest)) :=
  gq_get C hM (kM_lt hk (by decide)) (cM_8 hk) rfl in_X8 2 (by decide) hl rfl hdg kk
theorem pX8_2 {I I1 : gx_MM} {v : Int32} (C : gx_C L 7 p s m args meth c own cc n ret) (hM : gx_S L 7 (cellM L I) s.heap H locs) (hk : kM a = 8) (hI : I1 = um I a 2 v) {index : Nat} (hl : Cond.fieldLink own index "RosetteGantryModel" "kept" "I" ∈ gx_T) (hdg : decode cc pc = .ok (.putfield index, 3)) (kk : ∀ (H : Heap) (locs : List Loc), gx_S L 7 (cellM L I1) s.heap H locs → W p l e R s m args below meth c H locs cells slots Q (F0 m (pc + 3) ls rest)) : W p l e R s m args below meth c H locs cells slots Q (F0 m pc ls (.int v :: .ref (gx_ad L a) :: rest)) := by
  subst hI
  exact gq_put (cell' := cellM L (um I a 2 v)) C hM (kM_lt hk (by decide)) (cM_8 hk) rfl in_X8 tyX8 tyX8_ok nmX8 2 (by decide) hl rfl rfl rfl (Nat.le_of_ble_eq_true rfl) (by rw [cM_8 hk]; simp [um, up, upd]) (fun b hb => cM_row (up_ne hb) (fun _ => rfl)) hdg kk
theorem gX8_3 {I : gx_MM} (C : gx_C L 7 p s m args meth c own cc n ret) (hM : gx_S L 7 (cellM L I) s.heap H locs) (hk : kM a = 8) {index : Nat} (hl : Cond.fieldLink own index "RosetteGantryModel" "slot" "[I" ∈ gx_T) (hdg : decode cc pc = .ok (.getfield index, 3)) (kk : W p l e R s m args below meth c H locs cells slots Q (F0 m (pc + 3) ls (.ref (gx_ad L (a + 3)) :: rest))) : W p l e R s m args below meth c H locs cells slots Q (F0 m pc ls (.ref (gx_ad L a) :: rest)) :=
  gq_get C hM (kM_lt hk (by decide)) (cM_8 hk) rfl in_X8 3 (by decide) hl rfl hdg kk
theorem gX8_4 {I : gx_MM} (C : gx_C L 7 p s m args meth c own cc n ret) (hM : gx_S L 7 (cellM L I) s.heap H locs) (hk : kM a = 8) {index : Nat} (hl : Cond.fieldLink own index "RosetteGantryModel" "isFilled" "Z" ∈ gx_T) (hdg : decode cc pc = .ok (.getfield index, 3)) (kk : W p l e R s m args below meth c H locs cells slots Q (F0 m (pc + 3) ls (.int (I.1 a 4 &&& 1) :: rest))) : W p l e R s m args below meth c H locs cells slots Q (F0 m pc ls (.ref (gx_ad L a) :: rest)) :=
  gq_get C hM (kM_lt hk (by decide)) (cM_8 hk) rfl in_X8 4 (by decide) hl rfl hdg kk
theorem pX8_4 {I I1 : gx_MM} {v : Int32} (C : gx_C L 7 p s m args meth c own cc n ret) (hM : gx_S L 7 (cellM L I) s.heap H locs) (hk : kM a = 8) (hz : v &&& 1 = v) (hI : I1 = um I a 4 v) {index : Nat} (hl : Cond.fieldLink own index "RosetteGantryModel" "isFilled" "Z" ∈ gx_T) (hdg : decode cc pc = .ok (.putfield index, 3)) (kk : ∀ (H : Heap) (locs : List Loc), gx_S L 7 (cellM L I1) s.heap H locs → W p l e R s m args below meth c H locs cells slots Q (F0 m (pc + 3) ls rest)) : W p l e R s m args below meth c H locs cells slots Q (F0 m pc ls (.int v :: .ref (gx_ad L a) :: rest)) := by
  subst hI
  exact gq_put (cell' := cellM L (um I a 4 v)) C hM (kM_lt hk (by decide)) (cM_8 hk) rfl in_X8 tyX8 tyX8_ok nmX8 4 (by decide) hl rfl (by show Value.int (v &&& 1) = _; rw [hz]) (gz_fits hz) (Nat.le_of_ble_eq_true rfl) (by rw [cM_8 hk]; simp [um, up, upd, hz]) (fun b hb => cM_row (up_ne hb) (fun _ => rfl)) hdg kk
theorem gX8_5 {I : gx_MM} (C : gx_C L 7 p s m args meth c own cc n ret) (hM : gx_S L 7 (cellM L I) s.heap H locs) (hk : kM a = 8) {index : Nat} (hl : Cond.fieldLink own index "RosetteGantryModel" "reason" "I" ∈ gx_T) (hdg : decode cc pc = .ok (.getfield index, 3)) (kk : W p l e R s m args below meth c H locs cells slots Q (F0 m (pc + 3) ls (.int (I.1 a 5) :: rest))) : W p l e R s m args below meth c H locs cells slots Q (F0 m pc ls (.ref (gx_ad L a) :: rest)) :=
  gq_get C hM (kM_lt hk (by decide)) (cM_8 hk) rfl in_X8 5 (by decide) hl rfl hdg kk
theorem pX8_5 {I I1 : gx_MM} {v : Int32} (C : gx_C L 7 p s m args meth c own cc n ret) (hM : gx_S L 7 (cellM L I) s.heap H locs) (hk : kM a = 8) (hI : I1 = um I a 5 v) {index : Nat} (hl : Cond.fieldLink own index "RosetteGantryModel" "reason" "I" ∈ gx_T) (hdg : decode cc pc = .ok (.putfield index, 3)) (kk : ∀ (H : Heap) (locs : List Loc), gx_S L 7 (cellM L I1) s.heap H locs → W p l e R s m args below meth c H locs cells slots Q (F0 m (pc + 3) ls rest)) : W p l e R s m args below meth c H locs cells slots Q (F0 m pc ls (.int v :: .ref (gx_ad L a) :: rest)) := by
  subst hI
  exact gq_put (cell' := cellM L (um I a 5 v)) C hM (kM_lt hk (by decide)) (cM_8 hk) rfl in_X8 tyX8 tyX8_ok nmX8 5 (by decide) hl rfl rfl rfl (Nat.le_of_ble_eq_true rfl) (by rw [cM_8 hk]; simp [um, up, upd]) (fun b hb => cM_row (up_ne hb) (fun _ => rfl)) hdg kk
theorem gX8_6 {I : gx_MM} (C : gx_C L 7 p s m args meth c own cc n ret) (hM : gx_S L 7 (cellM L I) s.heap H locs) (hk : kM a = 8) {index : Nat} (hl : Cond.fieldLink own index "RosetteGantryModel" "foundX" "J" ∈ gx_T) (hdg : decode cc pc = .ok (.getfield index, 3)) (kk : W p l e R s m args below meth c H locs cells slots Q (F0 m (pc + 3) ls (.long (I.2 6) :: rest))) : W p l e R s m args below meth c H locs cells slots Q (F0 m pc ls (.ref (gx_ad L a) :: rest)) :=
  gq_get C hM (kM_lt hk (by decide)) (cM_8 hk) rfl in_X8 6 (by decide) hl rfl hdg kk
theorem pX8_6 {I I1 : gx_MM} {v : Int64} (C : gx_C L 7 p s m args meth c own cc n ret) (hM : gx_S L 7 (cellM L I) s.heap H locs) (hk : kM a = 8) (hI : I1 = ul I 6 v) {index : Nat} (hl : Cond.fieldLink own index "RosetteGantryModel" "foundX" "J" ∈ gx_T) (hdg : decode cc pc = .ok (.putfield index, 3)) (kk : ∀ (H : Heap) (locs : List Loc), gx_S L 7 (cellM L I1) s.heap H locs → W p l e R s m args below meth c H locs cells slots Q (F0 m (pc + 3) ls rest)) : W p l e R s m args below meth c H locs cells slots Q (F0 m pc ls (.long v :: .ref (gx_ad L a) :: rest)) := by
  subst hI
  exact gq_put (cell' := cellM L (ul I 6 v)) C hM (kM_lt hk (by decide)) (cM_8 hk) rfl in_X8 tyX8 tyX8_ok nmX8 6 (by decide) hl rfl rfl rfl (Nat.le_of_ble_eq_true rfl) (by rw [cM_8 hk]; simp [ul]) (fun b hb => cM_row rfl (fun h8 => absurd ((show ∀ b, b < 7 → kM b = 8 → b = 0 by decide +kernel) b (kM_lt h8 (by decide)) h8) (fun e0 => hb (e0.trans ((show ∀ b, b < 7 → kM b = 8 → b = 0 by decide +kernel) a (kM_lt hk (by decide)) hk).symm)))) hdg kk
theorem gX8_7 {I : gx_MM} (C : gx_C L 7 p s m args meth c own cc n ret) (hM : gx_S L 7 (cellM L I) s.heap H locs) (hk : kM a = 8) {index : Nat} (hl : Cond.fieldLink own index "RosetteGantryModel" "foundY" "J" ∈ gx_T) (hdg : decode cc pc = .ok (.getfield index, 3)) (kk : W p l e R s m args below meth c H locs cells slots Q (F0 m (pc + 3) ls (.long (I.2 7) :: rest))) : W p l e R s m args below meth c H locs cells slots Q (F0 m pc ls (.ref (gx_ad L a) :: rest)) :=
  gq_get C hM (kM_lt hk (by decide)) (cM_8 hk) rfl in_X8 7 (by decide) hl rfl hdg kk
theorem pX8_7 {I I1 : gx_MM} {v : Int64} (C : gx_C L 7 p s m args meth c own cc n ret) (hM : gx_S L 7 (cellM L I) s.heap H locs) (hk : kM a = 8) (hI : I1 = ul I 7 v) {index : Nat} (hl : Cond.fieldLink own index "RosetteGantryModel" "foundY" "J" ∈ gx_T) (hdg : decode cc pc = .ok (.putfield index, 3)) (kk : ∀ (H : Heap) (locs : List Loc), gx_S L 7 (cellM L I1) s.heap H locs → W p l e R s m args below meth c H locs cells slots Q (F0 m (pc + 3) ls rest)) : W p l e R s m args below meth c H locs cells slots Q (F0 m pc ls (.long v :: .ref (gx_ad L a) :: rest)) := by
  subst hI
  exact gq_put (cell' := cellM L (ul I 7 v)) C hM (kM_lt hk (by decide)) (cM_8 hk) rfl in_X8 tyX8 tyX8_ok nmX8 7 (by decide) hl rfl rfl rfl (Nat.le_of_ble_eq_true rfl) (by rw [cM_8 hk]; simp [ul]) (fun b hb => cM_row rfl (fun h8 => absurd ((show ∀ b, b < 7 → kM b = 8 → b = 0 by decide +kernel) b (kM_lt h8 (by decide)) h8) (fun e0 => hb (e0.trans ((show ∀ b, b < 7 → kM b = 8 → b = 0 by decide +kernel) a (kM_lt hk (by decide)) hk).symm)))) hdg kk
theorem gX8_8 {I : gx_MM} (C : gx_C L 7 p s m args meth c own cc n ret) (hM : gx_S L 7 (cellM L I) s.heap H locs) (hk : kM a = 8) {index : Nat} (hl : Cond.fieldLink own index "RosetteGantryModel" "foundG" "J" ∈ gx_T) (hdg : decode cc pc = .ok (.getfield index, 3)) (kk : W p l e R s m args below meth c H locs cells slots Q (F0 m (pc + 3) ls (.long (I.2 8) :: rest))) : W p l e R s m args below meth c H locs cells slots Q (F0 m pc ls (.ref (gx_ad L a) :: rest)) :=
  gq_get C hM (kM_lt hk (by decide)) (cM_8 hk) rfl in_X8 8 (by decide) hl rfl hdg kk
theorem pX8_8 {I I1 : gx_MM} {v : Int64} (C : gx_C L 7 p s m args meth c own cc n ret) (hM : gx_S L 7 (cellM L I) s.heap H locs) (hk : kM a = 8) (hI : I1 = ul I 8 v) {index : Nat} (hl : Cond.fieldLink own index "RosetteGantryModel" "foundG" "J" ∈ gx_T) (hdg : decode cc pc = .ok (.putfield index, 3)) (kk : ∀ (H : Heap) (locs : List Loc), gx_S L 7 (cellM L I1) s.heap H locs → W p l e R s m args below meth c H locs cells slots Q (F0 m (pc + 3) ls rest)) : W p l e R s m args below meth c H locs cells slots Q (F0 m pc ls (.long v :: .ref (gx_ad L a) :: rest)) := by
  subst hI
  exact gq_put (cell' := cellM L (ul I 8 v)) C hM (kM_lt hk (by decide)) (cM_8 hk) rfl in_X8 tyX8 tyX8_ok nmX8 8 (by decide) hl rfl rfl rfl (Nat.le_of_ble_eq_true rfl) (by rw [cM_8 hk]; simp [ul]) (fun b hb => cM_row rfl (fun h8 => absurd ((show ∀ b, b < 7 → kM b = 8 → b = 0 by decide +kernel) b (kM_lt h8 (by decide)) h8) (fun e0 => hb (e0.trans ((show ∀ b, b < 7 → kM b = 8 → b = 0 by decide +kernel) a (kM_lt hk (by decide)) hk).symm)))) hdg kk
theorem gX8_9 {I : gx_MM} (C : gx_C L 7 p s m args meth c own cc n ret) (hM : gx_S L 7 (cellM L I) s.heap H locs) (hk : kM a = 8) {index : Nat} (hl : Cond.fieldLink own index "RosetteGantryModel" "direction" "I" ∈ gx_T) (hdg : decode cc pc = .ok (.getfield index, 3)) (kk : W p l e R s m args below meth c H locs cells slots Q (F0 m (pc + 3) ls (.int (I.1 a 9) :: rest))) : W p l e R s m args below meth c H locs cells slots Q (F0 m pc ls (.ref (gx_ad L a) :: rest)) :=
  gq_get C hM (kM_lt hk (by decide)) (cM_8 hk) rfl in_X8 9 (by decide) hl rfl hdg kk
theorem pX8_9 {I I1 : gx_MM} {v : Int32} (C : gx_C L 7 p s m args meth c own cc n ret) (hM : gx_S L 7 (cellM L I) s.heap H locs) (hk : kM a = 8) (hI : I1 = um I a 9 v) {index : Nat} (hl : Cond.fieldLink own index "RosetteGantryModel" "direction" "I" ∈ gx_T) (hdg : decode cc pc = .ok (.putfield index, 3)) (kk : ∀ (H : Heap) (locs : List Loc), gx_S L 7 (cellM L I1) s.heap H locs → W p l e R s m args below meth c H locs cells slots Q (F0 m (pc + 3) ls rest)) : W p l e R s m args below meth c H locs cells slots Q (F0 m pc ls (.int v :: .ref (gx_ad L a) :: rest)) := by
  subst hI
  exact gq_put (cell' := cellM L (um I a 9 v)) C hM (kM_lt hk (by decide)) (cM_8 hk) rfl in_X8 tyX8 tyX8_ok nmX8 9 (by decide) hl rfl rfl rfl (Nat.le_of_ble_eq_true rfl) (by rw [cM_8 hk]; simp [um, up, upd]) (fun b hb => cM_row (up_ne hb) (fun _ => rfl)) hdg kk
theorem gX8_10 {I : gx_MM} (C : gx_C L 7 p s m args meth c own cc n ret) (hM : gx_S L 7 (cellM L I) s.heap H locs) (hk : kM a = 8) {index : Nat} (hl : Cond.fieldLink own index "RosetteGantryModel" "greatest" "J" ∈ gx_T) (hdg : decode cc pc = .ok (.getfield index, 3)) (kk : W p l e R s m args below meth c H locs cells slots Q (F0 m (pc + 3) ls (.long (I.2 10) :: rest))) : W p l e R s m args below meth c H locs cells slots Q (F0 m pc ls (.ref (gx_ad L a) :: rest)) :=
  gq_get C hM (kM_lt hk (by decide)) (cM_8 hk) rfl in_X8 10 (by decide) hl rfl hdg kk
theorem pX8_10 {I I1 : gx_MM} {v : Int64} (C : gx_C L 7 p s m args meth c own cc n ret) (hM : gx_S L 7 (cellM L I) s.heap H locs) (hk : kM a = 8) (hI : I1 = ul I 10 v) {index : Nat} (hl : Cond.fieldLink own index "RosetteGantryModel" "greatest" "J" ∈ gx_T) (hdg : decode cc pc = .ok (.putfield index, 3)) (kk : ∀ (H : Heap) (locs : List Loc), gx_S L 7 (cellM L I1) s.heap H locs → W p l e R s m args below meth c H locs cells slots Q (F0 m (pc + 3) ls rest)) : W p l e R s m args below meth c H locs cells slots Q (F0 m pc ls (.long v :: .ref (gx_ad L a) :: rest)) := by
  subst hI
  exact gq_put (cell' := cellM L (ul I 10 v)) C hM (kM_lt hk (by decide)) (cM_8 hk) rfl in_X8 tyX8 tyX8_ok nmX8 10 (by decide) hl rfl rfl rfl (Nat.le_of_ble_eq_true rfl) (by rw [cM_8 hk]; simp [ul]) (fun b hb => cM_row rfl (fun h8 => absurd ((show ∀ b, b < 7 → kM b = 8 → b = 0 by decide +kernel) b (kM_lt h8 (by decide)) h8) (fun e0 => hb (e0.trans ((show ∀ b, b < 7 → kM b = 8 → b = 0 by decide +kernel) a (kM_lt hk (by decide)) hk).symm)))) hdg kk
theorem gX8_11 {I : gx_MM} (C : gx_C L 7 p s m args meth c own cc n ret) (hM : gx_S L 7 (cellM L I) s.heap H locs) (hk : kM a = 8) {index : Nat} (hl : Cond.fieldLink own index "RosetteGantryModel" "before" "[I" ∈ gx_T) (hdg : decode cc pc = .ok (.getfield index, 3)) (kk : W p l e R s m args below meth c H locs cells slots Q (F0 m (pc + 3) ls (.ref (gx_ad L (a + 4)) :: rest))) : W p l e R s m args below meth c H locs cells slots Q (F0 m pc ls (.ref (gx_ad L a) :: rest)) :=
  gq_get C hM (kM_lt hk (by decide)) (cM_8 hk) rfl in_X8 11 (by decide) hl rfl hdg kk
theorem gX8_12 {I : gx_MM} (C : gx_C L 7 p s m args meth c own cc n ret) (hM : gx_S L 7 (cellM L I) s.heap H locs) (hk : kM a = 8) {index : Nat} (hl : Cond.fieldLink own index "RosetteGantryModel" "typed" "I" ∈ gx_T) (hdg : decode cc pc = .ok (.getfield index, 3)) (kk : W p l e R s m args below meth c H locs cells slots Q (F0 m (pc + 3) ls (.int (I.1 a 12) :: rest))) : W p l e R s m args below meth c H locs cells slots Q (F0 m pc ls (.ref (gx_ad L a) :: rest)) :=
  gq_get C hM (kM_lt hk (by decide)) (cM_8 hk) rfl in_X8 12 (by decide) hl rfl hdg kk
theorem pX8_12 {I I1 : gx_MM} {v : Int32} (C : gx_C L 7 p s m args meth c own cc n ret) (hM : gx_S L 7 (cellM L I) s.heap H locs) (hk : kM a = 8) (hI : I1 = um I a 12 v) {index : Nat} (hl : Cond.fieldLink own index "RosetteGantryModel" "typed" "I" ∈ gx_T) (hdg : decode cc pc = .ok (.putfield index, 3)) (kk : ∀ (H : Heap) (locs : List Loc), gx_S L 7 (cellM L I1) s.heap H locs → W p l e R s m args below meth c H locs cells slots Q (F0 m (pc + 3) ls rest)) : W p l e R s m args below meth c H locs cells slots Q (F0 m pc ls (.int v :: .ref (gx_ad L a) :: rest)) := by
  subst hI
  exact gq_put (cell' := cellM L (um I a 12 v)) C hM (kM_lt hk (by decide)) (cM_8 hk) rfl in_X8 tyX8 tyX8_ok nmX8 12 (by decide) hl rfl rfl rfl (Nat.le_of_ble_eq_true rfl) (by rw [cM_8 hk]; simp [um, up, upd]) (fun b hb => cM_row (up_ne hb) (fun _ => rfl)) hdg kk
theorem gX8_13 {I : gx_MM} (C : gx_C L 7 p s m args meth c own cc n ret) (hM : gx_S L 7 (cellM L I) s.heap H locs) (hk : kM a = 8) {index : Nat} (hl : Cond.fieldLink own index "RosetteGantryModel" "text" "[C" ∈ gx_T) (hdg : decode cc pc = .ok (.getfield index, 3)) (kk : W p l e R s m args below meth c H locs cells slots Q (F0 m (pc + 3) ls (.ref (gx_ad L (a + 5)) :: rest))) : W p l e R s m args below meth c H locs cells slots Q (F0 m pc ls (.ref (gx_ad L a) :: rest)) :=
  gq_get C hM (kM_lt hk (by decide)) (cM_8 hk) rfl in_X8 13 (by decide) hl rfl hdg kk
theorem gX8_14 {I : gx_MM} (C : gx_C L 7 p s m args meth c own cc n ret) (hM : gx_S L 7 (cellM L I) s.heap H locs) (hk : kM a = 8) {index : Nat} (hl : Cond.fieldLink own index "RosetteGantryModel" "at" "I" ∈ gx_T) (hdg : decode cc pc = .ok (.getfield index, 3)) (kk : W p l e R s m args below meth c H locs cells slots Q (F0 m (pc + 3) ls (.int (I.1 a 14) :: rest))) : W p l e R s m args below meth c H locs cells slots Q (F0 m pc ls (.ref (gx_ad L a) :: rest)) :=
  gq_get C hM (kM_lt hk (by decide)) (cM_8 hk) rfl in_X8 14 (by decide) hl rfl hdg kk
theorem pX8_14 {I I1 : gx_MM} {v : Int32} (C : gx_C L 7 p s m args meth c own cc n ret) (hM : gx_S L 7 (cellM L I) s.heap H locs) (hk : kM a = 8) (hI : I1 = um I a 14 v) {index : Nat} (hl : Cond.fieldLink own index "RosetteGantryModel" "at" "I" ∈ gx_T) (hdg : decode cc pc = .ok (.putfield index, 3)) (kk : ∀ (H : Heap) (locs : List Loc), gx_S L 7 (cellM L I1) s.heap H locs → W p l e R s m args below meth c H locs cells slots Q (F0 m (pc + 3) ls rest)) : W p l e R s m args below meth c H locs cells slots Q (F0 m pc ls (.int v :: .ref (gx_ad L a) :: rest)) := by
  subst hI
  exact gq_put (cell' := cellM L (um I a 14 v)) C hM (kM_lt hk (by decide)) (cM_8 hk) rfl in_X8 tyX8 tyX8_ok nmX8 14 (by decide) hl rfl rfl rfl (Nat.le_of_ble_eq_true rfl) (by rw [cM_8 hk]; simp [um, up, upd]) (fun b hb => cM_row (up_ne hb) (fun _ => rfl)) hdg kk
theorem gX8_15 {I : gx_MM} (C : gx_C L 7 p s m args meth c own cc n ret) (hM : gx_S L 7 (cellM L I) s.heap H locs) (hk : kM a = 8) {index : Nat} (hl : Cond.fieldLink own index "RosetteGantryModel" "readMany" "I" ∈ gx_T) (hdg : decode cc pc = .ok (.getfield index, 3)) (kk : W p l e R s m args below meth c H locs cells slots Q (F0 m (pc + 3) ls (.int (I.1 a 15) :: rest))) : W p l e R s m args below meth c H locs cells slots Q (F0 m pc ls (.ref (gx_ad L a) :: rest)) :=
  gq_get C hM (kM_lt hk (by decide)) (cM_8 hk) rfl in_X8 15 (by decide) hl rfl hdg kk
theorem pX8_15 {I I1 : gx_MM} {v : Int32} (C : gx_C L 7 p s m args meth c own cc n ret) (hM : gx_S L 7 (cellM L I) s.heap H locs) (hk : kM a = 8) (hI : I1 = um I a 15 v) {index : Nat} (hl : Cond.fieldLink own index "RosetteGantryModel" "readMany" "I" ∈ gx_T) (hdg : decode cc pc = .ok (.putfield index, 3)) (kk : ∀ (H : Heap) (locs : List Loc), gx_S L 7 (cellM L I1) s.heap H locs → W p l e R s m args below meth c H locs cells slots Q (F0 m (pc + 3) ls rest)) : W p l e R s m args below meth c H locs cells slots Q (F0 m pc ls (.int v :: .ref (gx_ad L a) :: rest)) := by
  subst hI
  exact gq_put (cell' := cellM L (um I a 15 v)) C hM (kM_lt hk (by decide)) (cM_8 hk) rfl in_X8 tyX8 tyX8_ok nmX8 15 (by decide) hl rfl rfl rfl (Nat.le_of_ble_eq_true rfl) (by rw [cM_8 hk]; simp [um, up, upd]) (fun b hb => cM_row (up_ne hb) (fun _ => rfl)) hdg kk
theorem gX8_16 {I : gx_MM} (C : gx_C L 7 p s m args meth c own cc n ret) (hM : gx_S L 7 (cellM L I) s.heap H locs) (hk : kM a = 8) {index : Nat} (hl : Cond.fieldLink own index "RosetteGantryModel" "readJob" "[I" ∈ gx_T) (hdg : decode cc pc = .ok (.getfield index, 3)) (kk : W p l e R s m args below meth c H locs cells slots Q (F0 m (pc + 3) ls (.ref (gx_ad L (a + 6)) :: rest))) : W p l e R s m args below meth c H locs cells slots Q (F0 m pc ls (.ref (gx_ad L a) :: rest)) :=
  gq_get C hM (kM_lt hk (by decide)) (cM_8 hk) rfl in_X8 16 (by decide) hl rfl hdg kk
theorem gialdX {I : gx_M} (C : gx_C L 282 p s m args meth c own cc n ret) (hM : gx_S L 282 (cellX L I) s.heap H locs) (hk : kX a = 20) {i : Int32} (hi : vp_in i (nX a)) (hdg : decode cc pc = .ok (.iaload, 1)) (kk : W p l e R s m args below meth c H locs cells slots Q (F0 m (pc + 1) ls (.int (I a i.toNatClampNeg) :: rest))) : W p l e R s m args below meth c H locs cells slots Q (F0 m pc ls (.int i :: .ref (gx_ad L a) :: rest)) :=
  gq_iald C hM (kX_lt hk (by decide)) (cX_20 hk) hi hdg kk
theorem giastX {I I1 : gx_M} (C : gx_C L 282 p s m args meth c own cc n ret) (hM : gx_S L 282 (cellX L I) s.heap H locs) (hk : kX a = 20) {i x : Int32} (hi : vp_in i (nX a)) (hI : I1 = up I a i.toNatClampNeg x) (hdg : decode cc pc = .ok (.iastore, 1)) (kk : ∀ (H : Heap) (locs : List Loc), gx_S L 282 (cellX L I1) s.heap H locs → W p l e R s m args below meth c H locs cells slots Q (F0 m (pc + 1) ls rest)) : W p l e R s m args below meth c H locs cells slots Q (F0 m pc ls (.int x :: .int i :: .ref (gx_ad L a) :: rest)) := by
  subst hI
  exact gq_iast (cell' := cellX L (up I a i.toNatClampNeg x)) C hM (kX_lt hk (by decide)) (cX_20 hk) hi (by rw [cX_20 hk]; rw [up_eq]) (fun b hb => cX_row (up_ne hb)) hdg kk
theorem gzaldX {I : gx_M} (C : gx_C L 282 p s m args meth c own cc n ret) (hM : gx_S L 282 (cellX L I) s.heap H locs) (hk : kX a = 21) {i : Int32} (hi : vp_in i (nX a)) (hdg : decode cc pc = .ok (.baload, 1)) (kk : W p l e R s m args below meth c H locs cells slots Q (F0 m (pc + 1) ls (.int (I a i.toNatClampNeg) :: rest))) : W p l e R s m args below meth c H locs cells slots Q (F0 m pc ls (.int i :: .ref (gx_ad L a) :: rest)) :=
  gq_zald C hM (kX_lt hk (by decide)) (cX_21 hk) hi hdg kk
theorem gzastX {I I1 : gx_M} (C : gx_C L 282 p s m args meth c own cc n ret) (hM : gx_S L 282 (cellX L I) s.heap H locs) (hk : kX a = 21) {i x : Int32} (hi : vp_in i (nX a)) (hI : I1 = up I a i.toNatClampNeg (x &&& 1)) (hdg : decode cc pc = .ok (.bastore, 1)) (kk : ∀ (H : Heap) (locs : List Loc), gx_S L 282 (cellX L I1) s.heap H locs → W p l e R s m args below meth c H locs cells slots Q (F0 m (pc + 1) ls rest)) : W p l e R s m args below meth c H locs cells slots Q (F0 m pc ls (.int x :: .int i :: .ref (gx_ad L a) :: rest)) := by
  subst hI
  exact gq_zast (cell' := cellX L (up I a i.toNatClampNeg (x &&& 1))) C hM (kX_lt hk (by decide)) (cX_21 hk) hi (by rw [cX_21 hk]; rw [up_eq]; rfl) (fun b hb => cX_row (up_ne hb)) hdg kk
theorem gialdM {I : gx_MM} (C : gx_C L 7 p s m args meth c own cc n ret) (hM : gx_S L 7 (cellM L I) s.heap H locs) (hk : kM a = 20) {i : Int32} (hi : vp_in i (nM a)) (hdg : decode cc pc = .ok (.iaload, 1)) (kk : W p l e R s m args below meth c H locs cells slots Q (F0 m (pc + 1) ls (.int (I.1 a i.toNatClampNeg) :: rest))) : W p l e R s m args below meth c H locs cells slots Q (F0 m pc ls (.int i :: .ref (gx_ad L a) :: rest)) :=
  gq_iald C hM (kM_lt hk (by decide)) (cM_20 hk) hi hdg kk
theorem giastM {I I1 : gx_MM} (C : gx_C L 7 p s m args meth c own cc n ret) (hM : gx_S L 7 (cellM L I) s.heap H locs) (hk : kM a = 20) {i x : Int32} (hi : vp_in i (nM a)) (hI : I1 = um I a i.toNatClampNeg x) (hdg : decode cc pc = .ok (.iastore, 1)) (kk : ∀ (H : Heap) (locs : List Loc), gx_S L 7 (cellM L I1) s.heap H locs → W p l e R s m args below meth c H locs cells slots Q (F0 m (pc + 1) ls rest)) : W p l e R s m args below meth c H locs cells slots Q (F0 m pc ls (.int x :: .int i :: .ref (gx_ad L a) :: rest)) := by
  subst hI
  exact gq_iast (cell' := cellM L (um I a i.toNatClampNeg x)) C hM (kM_lt hk (by decide)) (cM_20 hk) hi (by rw [cM_20 hk]; unfold um; dsimp only; rw [up_eq]) (fun b hb => cM_row (up_ne hb) (fun _ => rfl)) hdg kk
theorem gcaldM {I : gx_MM} (C : gx_C L 7 p s m args meth c own cc n ret) (hM : gx_S L 7 (cellM L I) s.heap H locs) (hk : kM a = 22) {i : Int32} (hi : vp_in i (nM a)) (hdg : decode cc pc = .ok (.caload, 1)) (kk : W p l e R s m args below meth c H locs cells slots Q (F0 m (pc + 1) ls (.int (I.1 a i.toNatClampNeg) :: rest))) : W p l e R s m args below meth c H locs cells slots Q (F0 m pc ls (.int i :: .ref (gx_ad L a) :: rest)) :=
  gq_cald C hM (kM_lt hk (by decide)) (cM_22 hk) hi hdg kk
theorem gcastM {I I1 : gx_MM} (C : gx_C L 7 p s m args meth c own cc n ret) (hM : gx_S L 7 (cellM L I) s.heap H locs) (hk : kM a = 22) {i x : Int32} (hi : vp_in i (nM a)) (hI : I1 = um I a i.toNatClampNeg (vp_nar .char x)) (hdg : decode cc pc = .ok (.castore, 1)) (kk : ∀ (H : Heap) (locs : List Loc), gx_S L 7 (cellM L I1) s.heap H locs → W p l e R s m args below meth c H locs cells slots Q (F0 m (pc + 1) ls rest)) : W p l e R s m args below meth c H locs cells slots Q (F0 m pc ls (.int x :: .int i :: .ref (gx_ad L a) :: rest)) := by
  subst hI
  exact gq_cast (cell' := cellM L (um I a i.toNatClampNeg (vp_nar .char x))) C hM (kM_lt hk (by decide)) (cM_22 hk) hi (by rw [cM_22 hk]; unfold um; dsimp only; rw [up_eq]) (fun b hb => cM_row (up_ne hb) (fun _ => rfl)) hdg kk
theorem galenX_20 {I : gx_M} (C : gx_C L 282 p s m args meth c own cc n ret) (hM : gx_S L 282 (cellX L I) s.heap H locs) (hk : kX a = 20) (hdg : decode cc pc = .ok (.arraylength, 1)) (kk : W p l e R s m args below meth c H locs cells slots Q (F0 m (pc + 1) ls (.int (nI (nX a)) :: rest))) : W p l e R s m args below meth c H locs cells slots Q (F0 m pc ls (.ref (gx_ad L a) :: rest)) :=
  gq_alen C hM (kX_lt hk (by decide)) (cX_20 hk) 0 rfl hdg kk
theorem galenX_21 {I : gx_M} (C : gx_C L 282 p s m args meth c own cc n ret) (hM : gx_S L 282 (cellX L I) s.heap H locs) (hk : kX a = 21) (hdg : decode cc pc = .ok (.arraylength, 1)) (kk : W p l e R s m args below meth c H locs cells slots Q (F0 m (pc + 1) ls (.int (nI (nX a)) :: rest))) : W p l e R s m args below meth c H locs cells slots Q (F0 m pc ls (.ref (gx_ad L a) :: rest)) :=
  gq_alen C hM (kX_lt hk (by decide)) (cX_21 hk) 1 rfl hdg kk
theorem galenX_23 {I : gx_M} (C : gx_C L 282 p s m args meth c own cc n ret) (hM : gx_S L 282 (cellX L I) s.heap H locs) (hk : kX a = 23) (hdg : decode cc pc = .ok (.arraylength, 1)) (kk : W p l e R s m args below meth c H locs cells slots Q (F0 m (pc + 1) ls (.int (nI (nX a)) :: rest))) : W p l e R s m args below meth c H locs cells slots Q (F0 m pc ls (.ref (gx_ad L a) :: rest)) :=
  gq_alen C hM (kX_lt hk (by decide)) (cX_23 hk) 3 rfl hdg kk
theorem galenX_24 {I : gx_M} (C : gx_C L 282 p s m args meth c own cc n ret) (hM : gx_S L 282 (cellX L I) s.heap H locs) (hk : kX a = 24) (hdg : decode cc pc = .ok (.arraylength, 1)) (kk : W p l e R s m args below meth c H locs cells slots Q (F0 m (pc + 1) ls (.int (nI (nX a)) :: rest))) : W p l e R s m args below meth c H locs cells slots Q (F0 m pc ls (.ref (gx_ad L a) :: rest)) :=
  gq_alen C hM (kX_lt hk (by decide)) (cX_24 hk) 4 rfl hdg kk
theorem galenM_20 {I : gx_MM} (C : gx_C L 7 p s m args meth c own cc n ret) (hM : gx_S L 7 (cellM L I) s.heap H locs) (hk : kM a = 20) (hdg : decode cc pc = .ok (.arraylength, 1)) (kk : W p l e R s m args below meth c H locs cells slots Q (F0 m (pc + 1) ls (.int (nI (nM a)) :: rest))) : W p l e R s m args below meth c H locs cells slots Q (F0 m pc ls (.ref (gx_ad L a) :: rest)) :=
  gq_alen C hM (kM_lt hk (by decide)) (cM_20 hk) 0 rfl hdg kk
theorem galenM_22 {I : gx_MM} (C : gx_C L 7 p s m args meth c own cc n ret) (hM : gx_S L 7 (cellM L I) s.heap H locs) (hk : kM a = 22) (hdg : decode cc pc = .ok (.arraylength, 1)) (kk : W p l e R s m args below meth c H locs cells slots Q (F0 m (pc + 1) ls (.int (nI (nM a)) :: rest))) : W p l e R s m args below meth c H locs cells slots Q (F0 m pc ls (.ref (gx_ad L a) :: rest)) :=
  gq_alen C hM (kM_lt hk (by decide)) (cM_22 hk) 2 rfl hdg kk
theorem gaald_23 {I : gx_M} (C : gx_C L 282 p s m args meth c own cc n ret) (hM : gx_S L 282 (cellX L I) s.heap H locs) (hk : kX a = 23) {i : Int32} (hi : vp_in i (nX a)) (hdg : decode cc pc = .ok (.aaload, 1)) (kk : W p l e R s m args below meth c H locs cells slots Q (F0 m (pc + 1) ls (.ref (gx_ad L (a + 5 + 4 * i.toNatClampNeg)) :: rest))) : W p l e R s m args below meth c H locs cells slots Q (F0 m pc ls (.int i :: .ref (gx_ad L a) :: rest)) :=
  gq_aald C hM (kX_lt hk (by decide)) (cX_23 hk) 3 rfl hi rfl hdg kk
theorem gaald_24 {I : gx_M} (C : gx_C L 282 p s m args meth c own cc n ret) (hM : gx_S L 282 (cellX L I) s.heap H locs) (hk : kX a = 24) {i : Int32} (hi : vp_in i (nX a)) (hdg : decode cc pc = .ok (.aaload, 1)) (kk : W p l e R s m args below meth c H locs cells slots Q (F0 m (pc + 1) ls (.ref (gx_ad L (sd (I a i.toNatClampNeg))) :: rest))) : W p l e R s m args below meth c H locs cells slots Q (F0 m pc ls (.int i :: .ref (gx_ad L a) :: rest)) :=
  gq_aald C hM (kX_lt hk (by decide)) (cX_24 hk) 4 rfl hi rfl hdg kk
theorem gaast_24 {I I1 : gx_M} (C : gx_C L 282 p s m args meth c own cc n ret) (hM : gx_S L 282 (cellX L I) s.heap H locs) (hk : kX a = 24) {i x : Int32} (hi : vp_in i (nX a)) (hI : I1 = up I a i.toNatClampNeg x) (hdg : decode cc pc = .ok (.aastore, 1)) (kk : ∀ (H : Heap) (locs : List Loc), gx_S L 282 (cellX L I1) s.heap H locs → W p l e R s m args below meth c H locs cells slots Q (F0 m (pc + 1) ls rest)) : W p l e R s m args below meth c H locs cells slots Q (F0 m pc ls (.ref (gx_ad L (sd x)) :: .int i :: .ref (gx_ad L a) :: rest)) := by
  subst hI
  refine gq_aast (r := (RX6, TX6, 10)) C hM (kX_lt hk (by decide)) (cX_24 hk) 4 rfl hi (kX_lt (kX_sd x) (by decide)) (cX_6 (kX_sd x)) rfl ?_ (fun b hb => cX_row (up_ne hb)) hdg kk
  rw [cX_24 hk, up_eq]
  congr 7
  funext q
  by_cases hq : q = i.toNatClampNeg
  · simp [va_up, upd, hq]
  · simp [va_up, upd, hq]
theorem gcopyX {I I1 : gx_M} {a0 : Nat} (C : gx_C L 282 p s m args meth c own cc n ret) (hM : gx_S L 282 (cellX L I) s.heap H locs) (hk0 : kX a0 = 20) (hk : kX a = 20) {index : Nat} (hl : Cond.methodLink own index arraycopyName ∈ gx_T) (hls : ls.size = n) {sp dp k : Int32} (h : (¬ sp < 0 ∧ ¬ dp < 0 ∧ ¬ k < 0) ∧ sp.toNatClampNeg + k.toNatClampNeg ≤ nX a0 ∧ dp.toNatClampNeg + k.toNatClampNeg ≤ nX a) (hI : I1 = upr I a (va_cpy (I a0) (I a) sp.toNatClampNeg dp.toNatClampNeg k.toNatClampNeg)) (hr1 : 1 ≤ R.frames) (hr2 : (rest.map fun v => v.category).sum + (nativeFrameWords "java/lang/System" "arraycopy" 5 + 11) ≤ R.locals) (hdg : decode cc pc = .ok (.invokestatic index, 3)) (kk : ∀ (H : Heap) (locs : List Loc), gx_S L 282 (cellX L I1) s.heap H locs → W p l e R s m args below meth c H locs cells slots Q (F0 m (pc + 3) ls rest)) : W p l e R s m args below meth c H locs cells slots Q (F0 m pc ls (.int k :: .int dp :: .ref (gx_ad L a) :: .int sp :: .ref (gx_ad L a0) :: rest)) := by
  subst hI
  exact gq_copyi C hM (kX_lt hk0 (by decide)) (kX_lt hk (by decide)) (cX_20 hk0) (cX_20 hk) hl (gx_in 415 (by decide +kernel) (by decide +kernel)) (gx_in 414 (by decide +kernel) (by decide +kernel)) (gx_in 68 (by decide +kernel) (by decide +kernel)) hls h hr1 hr2 (by rw [cX_20 hk, upr_eq]) (fun b hb => cX_row (upr_ne hb)) hdg kk
end GX3
end
