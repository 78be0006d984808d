section
-- ===== PART A: goes FIRST, ahead of the names: the tables' words, and 'selects' of the private methods out of them =====
/-- a private method of a class that the tables say can be made, by its rows of tables_1 -/
def lw_okq (q : MethodName × Nat) : Prop := (q.1.cls ≠ "java/lang/invoke/MethodHandle" ∧ q.1.cls ≠ "java/lang/invoke/VarHandle") ∧ Cond.instantiable q.1.cls q.2 ∈ tables_1 ∧ Cond.privateMethod q.1 ∈ tables_1 ∧ Cond.instanceMethod q.1 ∈ tables_1
theorem lw_p0 : lw_okq (⟨"HarvestPlans$Search", "hopeBeforeAny", "()J"⟩, 10) := ⟨⟨by decide +kernel, by decide +kernel⟩, List.mem_of_getElem? (i := 155) (by decide +kernel), List.mem_of_getElem? (i := 227) (by decide +kernel), List.mem_of_getElem? (i := 228) (by decide +kernel)⟩
theorem lw_p1 : lw_okq (⟨"HarvestPlans$Search", "foretell", "()V"⟩, 10) := ⟨⟨by decide +kernel, by decide +kernel⟩, List.mem_of_getElem? (i := 155) (by decide +kernel), List.mem_of_getElem? (i := 231) (by decide +kernel), List.mem_of_getElem? (i := 232) (by decide +kernel)⟩
theorem lw_p2 : lw_okq (⟨"HarvestPlans$Farm", "greatestTop", "(I)J"⟩, 13) := ⟨⟨by decide +kernel, by decide +kernel⟩, List.mem_of_getElem? (i := 28) (by decide +kernel), List.mem_of_getElem? (i := 235) (by decide +kernel), List.mem_of_getElem? (i := 236) (by decide +kernel)⟩
theorem lw_p3 : lw_okq (⟨"HarvestPlans$Farm", "centsKept", "(I)J"⟩, 13) := ⟨⟨by decide +kernel, by decide +kernel⟩, List.mem_of_getElem? (i := 28) (by decide +kernel), List.mem_of_getElem? (i := 239) (by decide +kernel), List.mem_of_getElem? (i := 240) (by decide +kernel)⟩
theorem lw_p4 : lw_okq (⟨"HarvestPlans$Farm", "top", "(II)J"⟩, 13) := ⟨⟨by decide +kernel, by decide +kernel⟩, List.mem_of_getElem? (i := 28) (by decide +kernel), List.mem_of_getElem? (i := 243) (by decide +kernel), List.mem_of_getElem? (i := 244) (by decide +kernel)⟩
theorem lw_p5 : lw_okq (⟨"HarvestPlans$Order", "wants", "(LHarvestPlans$Cage;I)Z"⟩, 5) := ⟨⟨by decide +kernel, by decide +kernel⟩, List.mem_of_getElem? (i := 249) (by decide +kernel), List.mem_of_getElem? (i := 247) (by decide +kernel), List.mem_of_getElem? (i := 248) (by decide +kernel)⟩
theorem lw_p6 : lw_okq (⟨"java/lang/Throwable", "fillInStackTrace", "(I)Ljava/lang/Throwable;"⟩, 6) := ⟨⟨by decide +kernel, by decide +kernel⟩, List.mem_of_getElem? (i := 309) (by decide +kernel), List.mem_of_getElem? (i := 307) (by decide +kernel), List.mem_of_getElem? (i := 308) (by decide +kernel)⟩
theorem lw_p7 : lw_okq (⟨"HarvestPlans", "forgetPlan", "()V"⟩, 6) := ⟨⟨by decide +kernel, by decide +kernel⟩, List.mem_of_getElem? (i := 20) (by decide +kernel), List.mem_of_getElem? (i := 358) (by decide +kernel), List.mem_of_getElem? (i := 359) (by decide +kernel)⟩
theorem lw_p8 : lw_okq (⟨"HarvestPlans$Farm", "addPlace", "(LHarvestPlans$Place;)I"⟩, 13) := ⟨⟨by decide +kernel, by decide +kernel⟩, List.mem_of_getElem? (i := 28) (by decide +kernel), List.mem_of_getElem? (i := 379) (by decide +kernel), List.mem_of_getElem? (i := 380) (by decide +kernel)⟩
theorem lw_p9 : lw_okq (⟨"HarvestPlans", "requireWeek", "(I)V"⟩, 6) := ⟨⟨by decide +kernel, by decide +kernel⟩, List.mem_of_getElem? (i := 20) (by decide +kernel), List.mem_of_getElem? (i := 394) (by decide +kernel), List.mem_of_getElem? (i := 395) (by decide +kernel)⟩
theorem lw_p10 : lw_okq (⟨"HarvestPlans$Farm", "addCage", "(LHarvestPlans$Cage;)I"⟩, 13) := ⟨⟨by decide +kernel, by decide +kernel⟩, List.mem_of_getElem? (i := 28) (by decide +kernel), List.mem_of_getElem? (i := 428) (by decide +kernel), List.mem_of_getElem? (i := 429) (by decide +kernel)⟩
theorem lw_p11 : lw_okq (⟨"HarvestPlans$Farm", "addBoat", "(LHarvestPlans$Boat;)I"⟩, 13) := ⟨⟨by decide +kernel, by decide +kernel⟩, List.mem_of_getElem? (i := 28) (by decide +kernel), List.mem_of_getElem? (i := 463) (by decide +kernel), List.mem_of_getElem? (i := 464) (by decide +kernel)⟩
theorem lw_p12 : lw_okq (⟨"HarvestPlans$Farm", "addOrder", "(LHarvestPlans$Order;)I"⟩, 13) := ⟨⟨by decide +kernel, by decide +kernel⟩, List.mem_of_getElem? (i := 28) (by decide +kernel), List.mem_of_getElem? (i := 512) (by decide +kernel), List.mem_of_getElem? (i := 513) (by decide +kernel)⟩
theorem lw_p13 : lw_okq (⟨"HarvestPlans$Search", "start", "(I)V"⟩, 10) := ⟨⟨by decide +kernel, by decide +kernel⟩, List.mem_of_getElem? (i := 155) (by decide +kernel), List.mem_of_getElem? (i := 530) (by decide +kernel), List.mem_of_getElem? (i := 531) (by decide +kernel)⟩
theorem lw_p14 : lw_okq (⟨"HarvestPlans$Search", "branch", "(IJ)V"⟩, 10) := ⟨⟨by decide +kernel, by decide +kernel⟩, List.mem_of_getElem? (i := 155) (by decide +kernel), List.mem_of_getElem? (i := 535) (by decide +kernel), List.mem_of_getElem? (i := 536) (by decide +kernel)⟩
theorem lw_p15 : lw_okq (⟨"HarvestPlans$Search", "meet", "()V"⟩, 10) := ⟨⟨by decide +kernel, by decide +kernel⟩, List.mem_of_getElem? (i := 155) (by decide +kernel), List.mem_of_getElem? (i := 539) (by decide +kernel), List.mem_of_getElem? (i := 540) (by decide +kernel)⟩
def lw_privs_1 : List (MethodName × Nat) := [(⟨"HarvestPlans$Search", "hopeBeforeAny", "()J"⟩, 10), (⟨"HarvestPlans$Search", "foretell", "()V"⟩, 10), (⟨"HarvestPlans$Farm", "greatestTop", "(I)J"⟩, 13), (⟨"HarvestPlans$Farm", "centsKept", "(I)J"⟩, 13), (⟨"HarvestPlans$Farm", "top", "(II)J"⟩, 13), (⟨"HarvestPlans$Order", "wants", "(LHarvestPlans$Cage;I)Z"⟩, 5), (⟨"java/lang/Throwable", "fillInStackTrace", "(I)Ljava/lang/Throwable;"⟩, 6), (⟨"HarvestPlans", "forgetPlan", "()V"⟩, 6), (⟨"HarvestPlans$Farm", "addPlace", "(LHarvestPlans$Place;)I"⟩, 13), (⟨"HarvestPlans", "requireWeek", "(I)V"⟩, 6), (⟨"HarvestPlans$Farm", "addCage", "(LHarvestPlans$Cage;)I"⟩, 13), (⟨"HarvestPlans$Farm", "addBoat", "(LHarvestPlans$Boat;)I"⟩, 13), (⟨"HarvestPlans$Farm", "addOrder", "(LHarvestPlans$Order;)I"⟩, 13), (⟨"HarvestPlans$Search", "start", "(I)V"⟩, 10), (⟨"HarvestPlans$Search", "branch", "(IJ)V"⟩, 10), (⟨"HarvestPlans$Search", "meet", "()V"⟩, 10)]
theorem lw_r1 : ∀ q ∈ lw_privs_1, lw_okq q := List.forall_mem_cons.mpr ⟨lw_p0, List.forall_mem_cons.mpr ⟨lw_p1, List.forall_mem_cons.mpr ⟨lw_p2, List.forall_mem_cons.mpr ⟨lw_p3, List.forall_mem_cons.mpr ⟨lw_p4, List.forall_mem_cons.mpr ⟨lw_p5, List.forall_mem_cons.mpr ⟨lw_p6, List.forall_mem_cons.mpr ⟨lw_p7, List.forall_mem_cons.mpr ⟨lw_p8, List.forall_mem_cons.mpr ⟨lw_p9, List.forall_mem_cons.mpr ⟨lw_p10, List.forall_mem_cons.mpr ⟨lw_p11, List.forall_mem_cons.mpr ⟨lw_p12, List.forall_mem_cons.mpr ⟨lw_p13, List.forall_mem_cons.mpr ⟨lw_p14, List.forall_mem_cons.mpr ⟨lw_p15, fun _ h => absurd h List.not_mem_nil⟩⟩⟩⟩⟩⟩⟩⟩⟩⟩⟩⟩⟩⟩⟩⟩
theorem lw_p16 : lw_okq (⟨"HarvestPlans$Rules", "keepsAllHeld", "([I)Z"⟩, 5) := ⟨⟨by decide +kernel, by decide +kernel⟩, List.mem_of_getElem? (i := 116) (by decide +kernel), List.mem_of_getElem? (i := 543) (by decide +kernel), List.mem_of_getElem? (i := 544) (by decide +kernel)⟩
theorem lw_p17 : lw_okq (⟨"HarvestPlans$Rules", "keepsHeld", "([II)Z"⟩, 5) := ⟨⟨by decide +kernel, by decide +kernel⟩, List.mem_of_getElem? (i := 116) (by decide +kernel), List.mem_of_getElem? (i := 547) (by decide +kernel), List.mem_of_getElem? (i := 548) (by decide +kernel)⟩
theorem lw_p18 : lw_okq (⟨"HarvestPlans$Sales", "sellAll", "([I)J"⟩, 3) := ⟨⟨by decide +kernel, by decide +kernel⟩, List.mem_of_getElem? (i := 138) (by decide +kernel), List.mem_of_getElem? (i := 552) (by decide +kernel), List.mem_of_getElem? (i := 553) (by decide +kernel)⟩
theorem lw_p19 : lw_okq (⟨"HarvestPlans$Sales", "serve", "(LHarvestPlans$Order;[I)I"⟩, 3) := ⟨⟨by decide +kernel, by decide +kernel⟩, List.mem_of_getElem? (i := 138) (by decide +kernel), List.mem_of_getElem? (i := 556) (by decide +kernel), List.mem_of_getElem? (i := 557) (by decide +kernel)⟩
theorem lw_p20 : lw_okq (⟨"HarvestPlans$Sales", "priceOfRest", "([I)J"⟩, 3) := ⟨⟨by decide +kernel, by decide +kernel⟩, List.mem_of_getElem? (i := 138) (by decide +kernel), List.mem_of_getElem? (i := 562) (by decide +kernel), List.mem_of_getElem? (i := 563) (by decide +kernel)⟩
theorem lw_p21 : lw_okq (⟨"HarvestPlans$Rules", "allowsTaking", "([II)Z"⟩, 5) := ⟨⟨by decide +kernel, by decide +kernel⟩, List.mem_of_getElem? (i := 116) (by decide +kernel), List.mem_of_getElem? (i := 570) (by decide +kernel), List.mem_of_getElem? (i := 571) (by decide +kernel)⟩
theorem lw_p22 : lw_okq (⟨"HarvestPlans$Rules", "keepsClosed", "([II)Z"⟩, 5) := ⟨⟨by decide +kernel, by decide +kernel⟩, List.mem_of_getElem? (i := 116) (by decide +kernel), List.mem_of_getElem? (i := 574) (by decide +kernel), List.mem_of_getElem? (i := 575) (by decide +kernel)⟩
theorem lw_p23 : lw_okq (⟨"HarvestPlans$Rules", "keepsPlant", "([II)Z"⟩, 5) := ⟨⟨by decide +kernel, by decide +kernel⟩, List.mem_of_getElem? (i := 116) (by decide +kernel), List.mem_of_getElem? (i := 578) (by decide +kernel), List.mem_of_getElem? (i := 579) (by decide +kernel)⟩
theorem lw_p24 : lw_okq (⟨"HarvestPlans$Rules", "keepsBoats", "([II)Z"⟩, 5) := ⟨⟨by decide +kernel, by decide +kernel⟩, List.mem_of_getElem? (i := 116) (by decide +kernel), List.mem_of_getElem? (i := 582) (by decide +kernel), List.mem_of_getElem? (i := 583) (by decide +kernel)⟩
theorem lw_p25 : lw_okq (⟨"HarvestPlans$Rules", "gatherNeeds", "([II)I"⟩, 5) := ⟨⟨by decide +kernel, by decide +kernel⟩, List.mem_of_getElem? (i := 116) (by decide +kernel), List.mem_of_getElem? (i := 586) (by decide +kernel), List.mem_of_getElem? (i := 587) (by decide +kernel)⟩
theorem lw_p26 : lw_okq (⟨"HarvestPlans$Rules", "gatherLoads", "(I)I"⟩, 5) := ⟨⟨by decide +kernel, by decide +kernel⟩, List.mem_of_getElem? (i := 116) (by decide +kernel), List.mem_of_getElem? (i := 590) (by decide +kernel), List.mem_of_getElem? (i := 591) (by decide +kernel)⟩
theorem lw_p27 : lw_okq (⟨"HarvestPlans$Rules", "carriesAll", "(III)Z"⟩, 5) := ⟨⟨by decide +kernel, by decide +kernel⟩, List.mem_of_getElem? (i := 116) (by decide +kernel), List.mem_of_getElem? (i := 594) (by decide +kernel), List.mem_of_getElem? (i := 595) (by decide +kernel)⟩
theorem lw_p28 : lw_okq (⟨"HarvestPlans$Search", "makeNode", "(IJ)V"⟩, 10) := ⟨⟨by decide +kernel, by decide +kernel⟩, List.mem_of_getElem? (i := 155) (by decide +kernel), List.mem_of_getElem? (i := 599) (by decide +kernel), List.mem_of_getElem? (i := 600) (by decide +kernel)⟩
theorem lw_p29 : lw_okq (⟨"HarvestPlans$Search", "hasMet", "()Z"⟩, 10) := ⟨⟨by decide +kernel, by decide +kernel⟩, List.mem_of_getElem? (i := 155) (by decide +kernel), List.mem_of_getElem? (i := 604) (by decide +kernel), List.mem_of_getElem? (i := 605) (by decide +kernel)⟩
theorem lw_p30 : lw_okq (⟨"HarvestPlans", "requirePlan", "()V"⟩, 6) := ⟨⟨by decide +kernel, by decide +kernel⟩, List.mem_of_getElem? (i := 20) (by decide +kernel), List.mem_of_getElem? (i := 630) (by decide +kernel), List.mem_of_getElem? (i := 631) (by decide +kernel)⟩
theorem lw_p31 : lw_okq (⟨"HarvestPlans$Rules", "leastBroken", "([II)I"⟩, 5) := ⟨⟨by decide +kernel, by decide +kernel⟩, List.mem_of_getElem? (i := 116) (by decide +kernel), List.mem_of_getElem? (i := 635) (by decide +kernel), List.mem_of_getElem? (i := 636) (by decide +kernel)⟩
def lw_privs_2 : List (MethodName × Nat) := [(⟨"HarvestPlans$Rules", "keepsAllHeld", "([I)Z"⟩, 5), (⟨"HarvestPlans$Rules", "keepsHeld", "([II)Z"⟩, 5), (⟨"HarvestPlans$Sales", "sellAll", "([I)J"⟩, 3), (⟨"HarvestPlans$Sales", "serve", "(LHarvestPlans$Order;[I)I"⟩, 3), (⟨"HarvestPlans$Sales", "priceOfRest", "([I)J"⟩, 3), (⟨"HarvestPlans$Rules", "allowsTaking", "([II)Z"⟩, 5), (⟨"HarvestPlans$Rules", "keepsClosed", "([II)Z"⟩, 5), (⟨"HarvestPlans$Rules", "keepsPlant", "([II)Z"⟩, 5), (⟨"HarvestPlans$Rules", "keepsBoats", "([II)Z"⟩, 5), (⟨"HarvestPlans$Rules", "gatherNeeds", "([II)I"⟩, 5), (⟨"HarvestPlans$Rules", "gatherLoads", "(I)I"⟩, 5), (⟨"HarvestPlans$Rules", "carriesAll", "(III)Z"⟩, 5), (⟨"HarvestPlans$Search", "makeNode", "(IJ)V"⟩, 10), (⟨"HarvestPlans$Search", "hasMet", "()Z"⟩, 10), (⟨"HarvestPlans", "requirePlan", "()V"⟩, 6), (⟨"HarvestPlans$Rules", "leastBroken", "([II)I"⟩, 5)]
theorem lw_r2 : ∀ q ∈ lw_privs_2, lw_okq q := List.forall_mem_cons.mpr ⟨lw_p16, List.forall_mem_cons.mpr ⟨lw_p17, List.forall_mem_cons.mpr ⟨lw_p18, List.forall_mem_cons.mpr ⟨lw_p19, List.forall_mem_cons.mpr ⟨lw_p20, List.forall_mem_cons.mpr ⟨lw_p21, List.forall_mem_cons.mpr ⟨lw_p22, List.forall_mem_cons.mpr ⟨lw_p23, List.forall_mem_cons.mpr ⟨lw_p24, List.forall_mem_cons.mpr ⟨lw_p25, List.forall_mem_cons.mpr ⟨lw_p26, List.forall_mem_cons.mpr ⟨lw_p27, List.forall_mem_cons.mpr ⟨lw_p28, List.forall_mem_cons.mpr ⟨lw_p29, List.forall_mem_cons.mpr ⟨lw_p30, List.forall_mem_cons.mpr ⟨lw_p31, fun _ h => absurd h List.not_mem_nil⟩⟩⟩⟩⟩⟩⟩⟩⟩⟩⟩⟩⟩⟩⟩⟩
theorem lw_p32 : lw_okq (⟨"HarvestPlansModel", "refuses", "(ZZ)Z"⟩, 33) := ⟨⟨by decide +kernel, by decide +kernel⟩, List.mem_of_getElem? (i := 654) (by decide +kernel), List.mem_of_getElem? (i := 772) (by decide +kernel), List.mem_of_getElem? (i := 773) (by decide +kernel)⟩
theorem lw_p33 : lw_okq (⟨"HarvestPlansModel", "kilos", "(II)J"⟩, 33) := ⟨⟨by decide +kernel, by decide +kernel⟩, List.mem_of_getElem? (i := 654) (by decide +kernel), List.mem_of_getElem? (i := 790) (by decide +kernel), List.mem_of_getElem? (i := 791) (by decide +kernel)⟩
theorem lw_p34 : lw_okq (⟨"HarvestPlansModel", "meet", "()V"⟩, 33) := ⟨⟨by decide +kernel, by decide +kernel⟩, List.mem_of_getElem? (i := 654) (by decide +kernel), List.mem_of_getElem? (i := 821) (by decide +kernel), List.mem_of_getElem? (i := 822) (by decide +kernel)⟩
theorem lw_p35 : lw_okq (⟨"HarvestPlansModel", "keepsAll", "(IZ)Z"⟩, 33) := ⟨⟨by decide +kernel, by decide +kernel⟩, List.mem_of_getElem? (i := 654) (by decide +kernel), List.mem_of_getElem? (i := 825) (by decide +kernel), List.mem_of_getElem? (i := 826) (by decide +kernel)⟩
theorem lw_p36 : lw_okq (⟨"HarvestPlansModel", "broken", "(IIZ)I"⟩, 33) := ⟨⟨by decide +kernel, by decide +kernel⟩, List.mem_of_getElem? (i := 654) (by decide +kernel), List.mem_of_getElem? (i := 829) (by decide +kernel), List.mem_of_getElem? (i := 830) (by decide +kernel)⟩
theorem lw_p37 : lw_okq (⟨"HarvestPlansModel", "keepsPlant", "(II)Z"⟩, 33) := ⟨⟨by decide +kernel, by decide +kernel⟩, List.mem_of_getElem? (i := 654) (by decide +kernel), List.mem_of_getElem? (i := 833) (by decide +kernel), List.mem_of_getElem? (i := 834) (by decide +kernel)⟩
theorem lw_p38 : lw_okq (⟨"HarvestPlansModel", "takes", "(III)Z"⟩, 33) := ⟨⟨by decide +kernel, by decide +kernel⟩, List.mem_of_getElem? (i := 654) (by decide +kernel), List.mem_of_getElem? (i := 837) (by decide +kernel), List.mem_of_getElem? (i := 838) (by decide +kernel)⟩
theorem lw_p39 : lw_okq (⟨"HarvestPlansModel", "keepsBoats", "(II)Z"⟩, 33) := ⟨⟨by decide +kernel, by decide +kernel⟩, List.mem_of_getElem? (i := 654) (by decide +kernel), List.mem_of_getElem? (i := 841) (by decide +kernel), List.mem_of_getElem? (i := 842) (by decide +kernel)⟩
theorem lw_p40 : lw_okq (⟨"HarvestPlansModel", "keepsOpen", "(II)Z"⟩, 33) := ⟨⟨by decide +kernel, by decide +kernel⟩, List.mem_of_getElem? (i := 654) (by decide +kernel), List.mem_of_getElem? (i := 845) (by decide +kernel), List.mem_of_getElem? (i := 846) (by decide +kernel)⟩
theorem lw_p41 : lw_okq (⟨"HarvestPlansModel", "keepsHeld", "(I)Z"⟩, 33) := ⟨⟨by decide +kernel, by decide +kernel⟩, List.mem_of_getElem? (i := 654) (by decide +kernel), List.mem_of_getElem? (i := 849) (by decide +kernel), List.mem_of_getElem? (i := 850) (by decide +kernel)⟩
theorem lw_p42 : lw_okq (⟨"HarvestPlansModel", "value", "()J"⟩, 33) := ⟨⟨by decide +kernel, by decide +kernel⟩, List.mem_of_getElem? (i := 654) (by decide +kernel), List.mem_of_getElem? (i := 853) (by decide +kernel), List.mem_of_getElem? (i := 854) (by decide +kernel)⟩
theorem lw_p43 : lw_okq (⟨"HarvestPlansModel", "nextOrder", "(I)I"⟩, 33) := ⟨⟨by decide +kernel, by decide +kernel⟩, List.mem_of_getElem? (i := 654) (by decide +kernel), List.mem_of_getElem? (i := 857) (by decide +kernel), List.mem_of_getElem? (i := 858) (by decide +kernel)⟩
theorem lw_p44 : lw_okq (⟨"HarvestPlansModel", "serve", "(II)J"⟩, 33) := ⟨⟨by decide +kernel, by decide +kernel⟩, List.mem_of_getElem? (i := 654) (by decide +kernel), List.mem_of_getElem? (i := 861) (by decide +kernel), List.mem_of_getElem? (i := 862) (by decide +kernel)⟩
theorem lw_p45 : lw_okq (⟨"HarvestPlansModel", "search", "(I)Z"⟩, 33) := ⟨⟨by decide +kernel, by decide +kernel⟩, List.mem_of_getElem? (i := 654) (by decide +kernel), List.mem_of_getElem? (i := 865) (by decide +kernel), List.mem_of_getElem? (i := 866) (by decide +kernel)⟩
theorem lw_p46 : lw_okq (⟨"HarvestPlansModel", "hopeOf", "(I)J"⟩, 33) := ⟨⟨by decide +kernel, by decide +kernel⟩, List.mem_of_getElem? (i := 654) (by decide +kernel), List.mem_of_getElem? (i := 869) (by decide +kernel), List.mem_of_getElem? (i := 870) (by decide +kernel)⟩
theorem lw_p47 : lw_okq (⟨"HarvestPlansModel", "top", "(II)J"⟩, 33) := ⟨⟨by decide +kernel, by decide +kernel⟩, List.mem_of_getElem? (i := 654) (by decide +kernel), List.mem_of_getElem? (i := 873) (by decide +kernel), List.mem_of_getElem? (i := 874) (by decide +kernel)⟩
def lw_privs_3 : List (MethodName × Nat) := [(⟨"HarvestPlansModel", "refuses", "(ZZ)Z"⟩, 33), (⟨"HarvestPlansModel", "kilos", "(II)J"⟩, 33), (⟨"HarvestPlansModel", "meet", "()V"⟩, 33), (⟨"HarvestPlansModel", "keepsAll", "(IZ)Z"⟩, 33), (⟨"HarvestPlansModel", "broken", "(IIZ)I"⟩, 33), (⟨"HarvestPlansModel", "keepsPlant", "(II)Z"⟩, 33), (⟨"HarvestPlansModel", "takes", "(III)Z"⟩, 33), (⟨"HarvestPlansModel", "keepsBoats", "(II)Z"⟩, 33), (⟨"HarvestPlansModel", "keepsOpen", "(II)Z"⟩, 33), (⟨"HarvestPlansModel", "keepsHeld", "(I)Z"⟩, 33), (⟨"HarvestPlansModel", "value", "()J"⟩, 33), (⟨"HarvestPlansModel", "nextOrder", "(I)I"⟩, 33), (⟨"HarvestPlansModel", "serve", "(II)J"⟩, 33), (⟨"HarvestPlansModel", "search", "(I)Z"⟩, 33), (⟨"HarvestPlansModel", "hopeOf", "(I)J"⟩, 33), (⟨"HarvestPlansModel", "top", "(II)J"⟩, 33)]
theorem lw_r3 : ∀ q ∈ lw_privs_3, lw_okq q := List.forall_mem_cons.mpr ⟨lw_p32, List.forall_mem_cons.mpr ⟨lw_p33, List.forall_mem_cons.mpr ⟨lw_p34, List.forall_mem_cons.mpr ⟨lw_p35, List.forall_mem_cons.mpr ⟨lw_p36, List.forall_mem_cons.mpr ⟨lw_p37, List.forall_mem_cons.mpr ⟨lw_p38, List.forall_mem_cons.mpr ⟨lw_p39, List.forall_mem_cons.mpr ⟨lw_p40, List.forall_mem_cons.mpr ⟨lw_p41, List.forall_mem_cons.mpr ⟨lw_p42, List.forall_mem_cons.mpr ⟨lw_p43, List.forall_mem_cons.mpr ⟨lw_p44, List.forall_mem_cons.mpr ⟨lw_p45, List.forall_mem_cons.mpr ⟨lw_p46, List.forall_mem_cons.mpr ⟨lw_p47, fun _ h => absurd h List.not_mem_nil⟩⟩⟩⟩⟩⟩⟩⟩⟩⟩⟩⟩⟩⟩⟩⟩
theorem lw_p48 : lw_okq (⟨"HarvestPlansModel", "greatestTop", "(I)J"⟩, 33) := ⟨⟨by decide +kernel, by decide +kernel⟩, List.mem_of_getElem? (i := 654) (by decide +kernel), List.mem_of_getElem? (i := 877) (by decide +kernel), List.mem_of_getElem? (i := 878) (by decide +kernel)⟩
theorem lw_p49 : lw_okq (⟨"HarvestPlansModel", "tryPlan", "()V"⟩, 33) := ⟨⟨by decide +kernel, by decide +kernel⟩, List.mem_of_getElem? (i := 654) (by decide +kernel), List.mem_of_getElem? (i := 902) (by decide +kernel), List.mem_of_getElem? (i := 903) (by decide +kernel)⟩
def lw_privs_4 : List (MethodName × Nat) := [(⟨"HarvestPlansModel", "greatestTop", "(I)J"⟩, 33), (⟨"HarvestPlansModel", "tryPlan", "()V"⟩, 33)]
theorem lw_r4 : ∀ q ∈ lw_privs_4, lw_okq q := List.forall_mem_cons.mpr ⟨lw_p48, List.forall_mem_cons.mpr ⟨lw_p49, fun _ h => absurd h List.not_mem_nil⟩⟩
def lw_privs : List (MethodName × Nat) := lw_privs_1 ++ (lw_privs_2 ++ (lw_privs_3 ++ (lw_privs_4)))
def lw_tbl : List Cond := k2_sels lw_privs ++ tables_1
theorem lw_privs_ok : ∀ q ∈ lw_privs, lw_okq q := by
  show ∀ q ∈ lw_privs_1 ++ (lw_privs_2 ++ (lw_privs_3 ++ (lw_privs_4))), lw_okq q
  exact List.forall_mem_append.mpr ⟨lw_r1, List.forall_mem_append.mpr ⟨lw_r2, List.forall_mem_append.mpr ⟨lw_r3, lw_r4⟩⟩⟩
end
section
/-! NAMES: by wip/whole/gen/mknames.py out of the class files as the Statement has them -/
abbrev b_X_init : ByteArray := prog_1_method_1_code
abbrev y_X_init : MethodName := ⟨"HarvestPlans", "<init>", "(I)V"⟩
abbrev b_X_place : ByteArray := prog_1_method_2_code
abbrev y_X_place : MethodName := ⟨"HarvestPlans", "place", "(I)I"⟩
abbrev b_X_closed : ByteArray := prog_1_method_3_code
abbrev y_X_closed : MethodName := ⟨"HarvestPlans", "closed", "(IIZ)Z"⟩
abbrev b_X_cage : ByteArray := prog_1_method_4_code
abbrev y_X_cage : MethodName := ⟨"HarvestPlans", "cage", "(I)I"⟩
abbrev b_X_size : ByteArray := prog_1_method_5_code
abbrev y_X_size : MethodName := ⟨"HarvestPlans", "size", "(IIII)I"⟩
abbrev b_X_boat : ByteArray := prog_1_method_6_code
abbrev y_X_boat : MethodName := ⟨"HarvestPlans", "boat", "(I)I"⟩
abbrev b_X_weather : ByteArray := prog_1_method_7_code
abbrev y_X_weather : MethodName := ⟨"HarvestPlans", "weather", "(IIZ)Z"⟩
abbrev b_X_plant : ByteArray := prog_1_method_8_code
abbrev y_X_plant : MethodName := ⟨"HarvestPlans", "plant", "(II)I"⟩
abbrev b_X_order : ByteArray := prog_1_method_9_code
abbrev y_X_order : MethodName := ⟨"HarvestPlans", "order", "(IIIII)I"⟩
abbrev b_X_prices : ByteArray := prog_1_method_10_code
abbrev y_X_prices : MethodName := ⟨"HarvestPlans", "prices", "(II)V"⟩
abbrev b_X_run : ByteArray := prog_1_method_11_code
abbrev y_X_run : MethodName := ⟨"HarvestPlans", "run", "(I)I"⟩
abbrev b_X_nodes : ByteArray := prog_1_method_12_code
abbrev y_X_nodes : MethodName := ⟨"HarvestPlans", "nodes", "()I"⟩
abbrev b_X_hope : ByteArray := prog_1_method_13_code
abbrev y_X_hope : MethodName := ⟨"HarvestPlans", "hope", "()J"⟩
abbrev b_X_move : ByteArray := prog_1_method_14_code
abbrev y_X_move : MethodName := ⟨"HarvestPlans", "move", "(II)I"⟩
abbrev b_X_taken : ByteArray := prog_1_method_15_code
abbrev y_X_taken : MethodName := ⟨"HarvestPlans", "taken", "(I)I"⟩
abbrev b_X_check : ByteArray := prog_1_method_16_code
abbrev y_X_check : MethodName := ⟨"HarvestPlans", "check", "()I"⟩
abbrev b_X_worth : ByteArray := prog_1_method_17_code
abbrev y_X_worth : MethodName := ⟨"HarvestPlans", "worth", "()J"⟩
abbrev b_X_sold : ByteArray := prog_1_method_18_code
abbrev y_X_sold : MethodName := ⟨"HarvestPlans", "sold", "(I)I"⟩
abbrev b_X_forgetPlan : ByteArray := prog_1_method_19_code
abbrev y_X_forgetPlan : MethodName := ⟨"HarvestPlans", "forgetPlan", "()V"⟩
abbrev b_X_requirePlan : ByteArray := prog_1_method_20_code
abbrev y_X_requirePlan : MethodName := ⟨"HarvestPlans", "requirePlan", "()V"⟩
abbrev b_X_requireWeek : ByteArray := prog_1_method_21_code
abbrev y_X_requireWeek : MethodName := ⟨"HarvestPlans", "requireWeek", "(I)V"⟩
abbrev b_X_requireOneOf : ByteArray := prog_1_method_22_code
abbrev y_X_requireOneOf : MethodName := ⟨"HarvestPlans", "requireOneOf", "(II)V"⟩
abbrev b_X_requireWithin : ByteArray := prog_1_method_23_code
abbrev y_X_requireWithin : MethodName := ⟨"HarvestPlans", "requireWithin", "(III)V"⟩
abbrev b_X_requireRoom : ByteArray := prog_1_method_24_code
abbrev y_X_requireRoom : MethodName := ⟨"HarvestPlans", "requireRoom", "(II)V"⟩
abbrev b_M_init : ByteArray := prog_11_method_1_code
abbrev y_M_init : MethodName := ⟨"HarvestPlansModel", "<init>", "(I)V"⟩
abbrev b_M_thrown : ByteArray := prog_11_method_2_code
abbrev y_M_thrown : MethodName := ⟨"HarvestPlansModel", "thrown", "()I"⟩
abbrev b_M_in : ByteArray := prog_11_method_3_code
abbrev y_M_in : MethodName := ⟨"HarvestPlansModel", "in", "(JJJ)Z"⟩
abbrev b_M_refuses : ByteArray := prog_11_method_4_code
abbrev y_M_refuses : MethodName := ⟨"HarvestPlansModel", "refuses", "(ZZ)Z"⟩
abbrev b_M_kilos : ByteArray := prog_11_method_5_code
abbrev y_M_kilos : MethodName := ⟨"HarvestPlansModel", "kilos", "(II)J"⟩
abbrev b_M_place : ByteArray := prog_11_method_6_code
abbrev y_M_place : MethodName := ⟨"HarvestPlansModel", "place", "(I)I"⟩
abbrev b_M_closed : ByteArray := prog_11_method_7_code
abbrev y_M_closed : MethodName := ⟨"HarvestPlansModel", "closed", "(IIZ)Z"⟩
abbrev b_M_cage : ByteArray := prog_11_method_8_code
abbrev y_M_cage : MethodName := ⟨"HarvestPlansModel", "cage", "(I)I"⟩
abbrev b_M_size : ByteArray := prog_11_method_9_code
abbrev y_M_size : MethodName := ⟨"HarvestPlansModel", "size", "(IIII)I"⟩
abbrev b_M_boat : ByteArray := prog_11_method_10_code
abbrev y_M_boat : MethodName := ⟨"HarvestPlansModel", "boat", "(I)I"⟩
abbrev b_M_weather : ByteArray := prog_11_method_11_code
abbrev y_M_weather : MethodName := ⟨"HarvestPlansModel", "weather", "(IIZ)Z"⟩
abbrev b_M_plant : ByteArray := prog_11_method_12_code
abbrev y_M_plant : MethodName := ⟨"HarvestPlansModel", "plant", "(II)I"⟩
abbrev b_M_order : ByteArray := prog_11_method_13_code
abbrev y_M_order : MethodName := ⟨"HarvestPlansModel", "order", "(IIIII)I"⟩
abbrev b_M_prices : ByteArray := prog_11_method_14_code
abbrev y_M_prices : MethodName := ⟨"HarvestPlansModel", "prices", "(II)V"⟩
abbrev b_M_takes : ByteArray := prog_11_method_15_code
abbrev y_M_takes : MethodName := ⟨"HarvestPlansModel", "takes", "(III)Z"⟩
abbrev b_M_keepsPlant : ByteArray := prog_11_method_16_code
abbrev y_M_keepsPlant : MethodName := ⟨"HarvestPlansModel", "keepsPlant", "(II)Z"⟩
abbrev b_M_keepsBoats : ByteArray := prog_11_method_17_code
abbrev y_M_keepsBoats : MethodName := ⟨"HarvestPlansModel", "keepsBoats", "(II)Z"⟩
abbrev b_M_keepsOpen : ByteArray := prog_11_method_18_code
abbrev y_M_keepsOpen : MethodName := ⟨"HarvestPlansModel", "keepsOpen", "(II)Z"⟩
abbrev b_M_keepsHeld : ByteArray := prog_11_method_19_code
abbrev y_M_keepsHeld : MethodName := ⟨"HarvestPlansModel", "keepsHeld", "(I)Z"⟩
abbrev b_M_broken : ByteArray := prog_11_method_20_code
abbrev y_M_broken : MethodName := ⟨"HarvestPlansModel", "broken", "(IIZ)I"⟩
abbrev b_M_keepsAll : ByteArray := prog_11_method_21_code
abbrev y_M_keepsAll : MethodName := ⟨"HarvestPlansModel", "keepsAll", "(IZ)Z"⟩
abbrev b_M_nextOrder : ByteArray := prog_11_method_22_code
abbrev y_M_nextOrder : MethodName := ⟨"HarvestPlansModel", "nextOrder", "(I)I"⟩
abbrev b_M_serve : ByteArray := prog_11_method_23_code
abbrev y_M_serve : MethodName := ⟨"HarvestPlansModel", "serve", "(II)J"⟩
abbrev b_M_value : ByteArray := prog_11_method_24_code
abbrev y_M_value : MethodName := ⟨"HarvestPlansModel", "value", "()J"⟩
abbrev b_M_top : ByteArray := prog_11_method_25_code
abbrev y_M_top : MethodName := ⟨"HarvestPlansModel", "top", "(II)J"⟩
abbrev b_M_greatestTop : ByteArray := prog_11_method_26_code
abbrev y_M_greatestTop : MethodName := ⟨"HarvestPlansModel", "greatestTop", "(I)J"⟩
abbrev b_M_hopeOf : ByteArray := prog_11_method_27_code
abbrev y_M_hopeOf : MethodName := ⟨"HarvestPlansModel", "hopeOf", "(I)J"⟩
abbrev b_M_meet : ByteArray := prog_11_method_28_code
abbrev y_M_meet : MethodName := ⟨"HarvestPlansModel", "meet", "()V"⟩
abbrev b_M_search : ByteArray := prog_11_method_29_code
abbrev y_M_search : MethodName := ⟨"HarvestPlansModel", "search", "(I)Z"⟩
abbrev b_M_run : ByteArray := prog_11_method_30_code
abbrev y_M_run : MethodName := ⟨"HarvestPlansModel", "run", "(I)I"⟩
abbrev b_M_nodes : ByteArray := prog_11_method_31_code
abbrev y_M_nodes : MethodName := ⟨"HarvestPlansModel", "nodes", "()I"⟩
abbrev b_M_hope : ByteArray := prog_11_method_32_code
abbrev y_M_hope : MethodName := ⟨"HarvestPlansModel", "hope", "()J"⟩
abbrev b_M_move : ByteArray := prog_11_method_33_code
abbrev y_M_move : MethodName := ⟨"HarvestPlansModel", "move", "(II)I"⟩
abbrev b_M_taken : ByteArray := prog_11_method_34_code
abbrev y_M_taken : MethodName := ⟨"HarvestPlansModel", "taken", "(I)I"⟩
abbrev b_M_tryPlan : ByteArray := prog_11_method_35_code
abbrev y_M_tryPlan : MethodName := ⟨"HarvestPlansModel", "tryPlan", "()V"⟩
abbrev b_M_check : ByteArray := prog_11_method_36_code
abbrev y_M_check : MethodName := ⟨"HarvestPlansModel", "check", "()I"⟩
abbrev b_M_worth : ByteArray := prog_11_method_37_code
abbrev y_M_worth : MethodName := ⟨"HarvestPlansModel", "worth", "()J"⟩
abbrev b_M_sold : ByteArray := prog_11_method_38_code
abbrev y_M_sold : MethodName := ⟨"HarvestPlansModel", "sold", "(I)I"⟩
abbrev b_Boat_init : ByteArray := prog_2_method_1_code
abbrev y_Boat_init : MethodName := ⟨"HarvestPlans$Boat", "<init>", "(II)V"⟩
abbrev b_Cage_init : ByteArray := prog_3_method_1_code
abbrev y_Cage_init : MethodName := ⟨"HarvestPlans$Cage", "<init>", "(II)V"⟩
abbrev b_Farm_init : ByteArray := prog_4_method_1_code
abbrev y_Farm_init : MethodName := ⟨"HarvestPlans$Farm", "<init>", "(I)V"⟩
abbrev b_Farm_addPlace : ByteArray := prog_4_method_2_code
abbrev y_Farm_addPlace : MethodName := ⟨"HarvestPlans$Farm", "addPlace", "(LHarvestPlans$Place;)I"⟩
abbrev b_Farm_addCage : ByteArray := prog_4_method_3_code
abbrev y_Farm_addCage : MethodName := ⟨"HarvestPlans$Farm", "addCage", "(LHarvestPlans$Cage;)I"⟩
abbrev b_Farm_addBoat : ByteArray := prog_4_method_4_code
abbrev y_Farm_addBoat : MethodName := ⟨"HarvestPlans$Farm", "addBoat", "(LHarvestPlans$Boat;)I"⟩
abbrev b_Farm_addOrder : ByteArray := prog_4_method_5_code
abbrev y_Farm_addOrder : MethodName := ⟨"HarvestPlans$Farm", "addOrder", "(LHarvestPlans$Order;)I"⟩
abbrev b_Farm_centsKept : ByteArray := prog_4_method_6_code
abbrev y_Farm_centsKept : MethodName := ⟨"HarvestPlans$Farm", "centsKept", "(I)J"⟩
abbrev b_Farm_top : ByteArray := prog_4_method_7_code
abbrev y_Farm_top : MethodName := ⟨"HarvestPlans$Farm", "top", "(II)J"⟩
abbrev b_Farm_greatestTop : ByteArray := prog_4_method_8_code
abbrev y_Farm_greatestTop : MethodName := ⟨"HarvestPlans$Farm", "greatestTop", "(I)J"⟩
abbrev b_Order_init : ByteArray := prog_5_method_1_code
abbrev y_Order_init : MethodName := ⟨"HarvestPlans$Order", "<init>", "(IIIII)V"⟩
abbrev b_Order_wants : ByteArray := prog_5_method_2_code
abbrev y_Order_wants : MethodName := ⟨"HarvestPlans$Order", "wants", "(LHarvestPlans$Cage;I)Z"⟩
abbrev b_Place_init : ByteArray := prog_6_method_1_code
abbrev y_Place_init : MethodName := ⟨"HarvestPlans$Place", "<init>", "(II)V"⟩
abbrev b_Rules_init : ByteArray := prog_7_method_1_code
abbrev y_Rules_init : MethodName := ⟨"HarvestPlans$Rules", "<init>", "(LHarvestPlans$Farm;)V"⟩
abbrev b_Rules_leastBroken : ByteArray := prog_7_method_2_code
abbrev y_Rules_leastBroken : MethodName := ⟨"HarvestPlans$Rules", "leastBroken", "([II)I"⟩
abbrev b_Rules_allowsTaking : ByteArray := prog_7_method_3_code
abbrev y_Rules_allowsTaking : MethodName := ⟨"HarvestPlans$Rules", "allowsTaking", "([II)Z"⟩
abbrev b_Rules_keepsPlant : ByteArray := prog_7_method_4_code
abbrev y_Rules_keepsPlant : MethodName := ⟨"HarvestPlans$Rules", "keepsPlant", "([II)Z"⟩
abbrev b_Rules_keepsClosed : ByteArray := prog_7_method_5_code
abbrev y_Rules_keepsClosed : MethodName := ⟨"HarvestPlans$Rules", "keepsClosed", "([II)Z"⟩
abbrev b_Rules_keepsHeld : ByteArray := prog_7_method_6_code
abbrev y_Rules_keepsHeld : MethodName := ⟨"HarvestPlans$Rules", "keepsHeld", "([II)Z"⟩
abbrev b_Rules_keepsAllHeld : ByteArray := prog_7_method_7_code
abbrev y_Rules_keepsAllHeld : MethodName := ⟨"HarvestPlans$Rules", "keepsAllHeld", "([I)Z"⟩
abbrev b_Rules_keepsBoats : ByteArray := prog_7_method_8_code
abbrev y_Rules_keepsBoats : MethodName := ⟨"HarvestPlans$Rules", "keepsBoats", "([II)Z"⟩
abbrev b_Rules_gatherNeeds : ByteArray := prog_7_method_9_code
abbrev y_Rules_gatherNeeds : MethodName := ⟨"HarvestPlans$Rules", "gatherNeeds", "([II)I"⟩
abbrev b_Rules_gatherLoads : ByteArray := prog_7_method_10_code
abbrev y_Rules_gatherLoads : MethodName := ⟨"HarvestPlans$Rules", "gatherLoads", "(I)I"⟩
abbrev b_Rules_carriesAll : ByteArray := prog_7_method_11_code
abbrev y_Rules_carriesAll : MethodName := ⟨"HarvestPlans$Rules", "carriesAll", "(III)Z"⟩
abbrev b_Sales_init : ByteArray := prog_8_method_1_code
abbrev y_Sales_init : MethodName := ⟨"HarvestPlans$Sales", "<init>", "(LHarvestPlans$Farm;)V"⟩
abbrev b_Sales_sellAll : ByteArray := prog_8_method_2_code
abbrev y_Sales_sellAll : MethodName := ⟨"HarvestPlans$Sales", "sellAll", "([I)J"⟩
abbrev b_Sales_serve : ByteArray := prog_8_method_3_code
abbrev y_Sales_serve : MethodName := ⟨"HarvestPlans$Sales", "serve", "(LHarvestPlans$Order;[I)I"⟩
abbrev b_Sales_priceOfRest : ByteArray := prog_8_method_4_code
abbrev y_Sales_priceOfRest : MethodName := ⟨"HarvestPlans$Sales", "priceOfRest", "([I)J"⟩
abbrev b_Search_init : ByteArray := prog_9_method_1_code
abbrev y_Search_init : MethodName := ⟨"HarvestPlans$Search", "<init>", "(LHarvestPlans$Farm;LHarvestPlans$Rules;LHarvestPlans$Sales;)V"⟩
abbrev b_Search_start : ByteArray := prog_9_method_2_code
abbrev y_Search_start : MethodName := ⟨"HarvestPlans$Search", "start", "(I)V"⟩
abbrev b_Search_hasMet : ByteArray := prog_9_method_3_code
abbrev y_Search_hasMet : MethodName := ⟨"HarvestPlans$Search", "hasMet", "()Z"⟩
abbrev b_Search_hopeBeforeAny : ByteArray := prog_9_method_4_code
abbrev y_Search_hopeBeforeAny : MethodName := ⟨"HarvestPlans$Search", "hopeBeforeAny", "()J"⟩
abbrev b_Search_foretell : ByteArray := prog_9_method_5_code
abbrev y_Search_foretell : MethodName := ⟨"HarvestPlans$Search", "foretell", "()V"⟩
abbrev b_Search_branch : ByteArray := prog_9_method_6_code
abbrev y_Search_branch : MethodName := ⟨"HarvestPlans$Search", "branch", "(IJ)V"⟩
abbrev b_Search_makeNode : ByteArray := prog_9_method_7_code
abbrev y_Search_makeNode : MethodName := ⟨"HarvestPlans$Search", "makeNode", "(IJ)V"⟩
abbrev b_Search_meet : ByteArray := prog_9_method_8_code
abbrev y_Search_meet : MethodName := ⟨"HarvestPlans$Search", "meet", "()V"⟩
abbrev b_L_cell : ByteArray := method_2_code
abbrev y_L_cell : MethodName := ⟨"HarvestPlansLaw", "cell", "([II)I"⟩
abbrev b_L_place : ByteArray := method_3_code
abbrev y_L_place : MethodName := ⟨"HarvestPlansLaw", "place", "(LHarvestPlans;I[J)I"⟩
abbrev b_L_closed : ByteArray := method_4_code
abbrev y_L_closed : MethodName := ⟨"HarvestPlansLaw", "closed", "(LHarvestPlans;IIZ[J)I"⟩
abbrev b_L_cage : ByteArray := method_5_code
abbrev y_L_cage : MethodName := ⟨"HarvestPlansLaw", "cage", "(LHarvestPlans;I[J)I"⟩
abbrev b_L_size : ByteArray := method_6_code
abbrev y_L_size : MethodName := ⟨"HarvestPlansLaw", "size", "(LHarvestPlans;IIII[J)I"⟩
abbrev b_L_boat : ByteArray := method_7_code
abbrev y_L_boat : MethodName := ⟨"HarvestPlansLaw", "boat", "(LHarvestPlans;I[J)I"⟩
abbrev b_L_weather : ByteArray := method_8_code
abbrev y_L_weather : MethodName := ⟨"HarvestPlansLaw", "weather", "(LHarvestPlans;IIZ[J)I"⟩
abbrev b_L_plant : ByteArray := method_9_code
abbrev y_L_plant : MethodName := ⟨"HarvestPlansLaw", "plant", "(LHarvestPlans;II[J)I"⟩
abbrev b_L_order : ByteArray := method_10_code
abbrev y_L_order : MethodName := ⟨"HarvestPlansLaw", "order", "(LHarvestPlans;IIIII[J)I"⟩
abbrev b_L_prices : ByteArray := method_11_code
abbrev y_L_prices : MethodName := ⟨"HarvestPlansLaw", "prices", "(LHarvestPlans;II)I"⟩
abbrev b_L_run : ByteArray := method_12_code
abbrev y_L_run : MethodName := ⟨"HarvestPlansLaw", "run", "(LHarvestPlans;I[J)I"⟩
abbrev b_L_move : ByteArray := method_13_code
abbrev y_L_move : MethodName := ⟨"HarvestPlansLaw", "move", "(LHarvestPlans;II[J)I"⟩
abbrev b_L_taken : ByteArray := method_14_code
abbrev y_L_taken : MethodName := ⟨"HarvestPlansLaw", "taken", "(LHarvestPlans;I[J)I"⟩
abbrev b_L_check : ByteArray := method_15_code
abbrev y_L_check : MethodName := ⟨"HarvestPlansLaw", "check", "(LHarvestPlans;[J)I"⟩
abbrev b_L_worth : ByteArray := method_16_code
abbrev y_L_worth : MethodName := ⟨"HarvestPlansLaw", "worth", "(LHarvestPlans;[J)I"⟩
abbrev b_L_sold : ByteArray := method_17_code
abbrev y_L_sold : MethodName := ⟨"HarvestPlansLaw", "sold", "(LHarvestPlans;I[J)I"⟩
abbrev b_L_law : ByteArray := code
def F_Farm : u_T := fun k => match k with
  | 0 => ("HarvestPlans$Farm", "weeks", "I", true)
  | 1 => ("HarvestPlans$Farm", "places", "[LHarvestPlans$Place;", true)
  | 2 => ("HarvestPlans$Farm", "cages", "[LHarvestPlans$Cage;", true)
  | 3 => ("HarvestPlans$Farm", "boats", "[LHarvestPlans$Boat;", true)
  | 4 => ("HarvestPlans$Farm", "orders", "[LHarvestPlans$Order;", true)
  | 5 => ("HarvestPlans$Farm", "served", "[I", true)
  | 6 => ("HarvestPlans$Farm", "plantKilos", "[I", true)
  | 7 => ("HarvestPlans$Farm", "placeCount", "I", false)
  | 8 => ("HarvestPlans$Farm", "cageCount", "I", false)
  | 9 => ("HarvestPlans$Farm", "boatCount", "I", false)
  | 10 => ("HarvestPlans$Farm", "orderCount", "I", false)
  | 11 => ("HarvestPlans$Farm", "spot", "I", false)
  | _ => ("HarvestPlans$Farm", "keep", "I", false)
def t_Farm : Nat → FieldType := fun k => match k with
  | 0 => .int
  | 1 => (.array (.object "HarvestPlans$Place"))
  | 2 => (.array (.object "HarvestPlans$Cage"))
  | 3 => (.array (.object "HarvestPlans$Boat"))
  | 4 => (.array (.object "HarvestPlans$Order"))
  | 5 => (.array .int)
  | 6 => (.array .int)
  | 7 => .int
  | 8 => .int
  | 9 => .int
  | 10 => .int
  | 11 => .int
  | _ => .int
theorem tk_Farm : ∀ k, k < 13 → parseFieldDescriptor (F_Farm k).2.2.1 = some (t_Farm k) := by decide +kernel
theorem n_Farm : ∀ a, a < 13 → ∀ b, b < 13 → a ≠ b → (F_Farm a).2.1 ≠ (F_Farm b).2.1 := by decide +kernel
def F_Rules : u_T := fun k => match k with
  | 0 => ("HarvestPlans$Rules", "farm", "LHarvestPlans$Farm;", true)
  | 1 => ("HarvestPlans$Rules", "needs", "[I", true)
  | 2 => ("HarvestPlans$Rules", "loads", "[I", true)
  | 3 => ("HarvestPlans$Rules", "missing", "[I", true)
  | _ => ("HarvestPlans$Rules", "held", "[I", true)
def t_Rules : Nat → FieldType := fun k => match k with
  | 0 => (.object "HarvestPlans$Farm")
  | 1 => (.array .int)
  | 2 => (.array .int)
  | 3 => (.array .int)
  | _ => (.array .int)
theorem tk_Rules : ∀ k, k < 5 → parseFieldDescriptor (F_Rules k).2.2.1 = some (t_Rules k) := by decide +kernel
theorem n_Rules : ∀ a, a < 5 → ∀ b, b < 5 → a ≠ b → (F_Rules a).2.1 ≠ (F_Rules b).2.1 := by decide +kernel
def F_Sales : u_T := fun k => match k with
  | 0 => ("HarvestPlans$Sales", "farm", "LHarvestPlans$Farm;", true)
  | 1 => ("HarvestPlans$Sales", "left", "[I", true)
  | _ => ("HarvestPlans$Sales", "gotten", "[I", true)
def t_Sales : Nat → FieldType := fun k => match k with
  | 0 => (.object "HarvestPlans$Farm")
  | 1 => (.array .int)
  | _ => (.array .int)
theorem tk_Sales : ∀ k, k < 3 → parseFieldDescriptor (F_Sales k).2.2.1 = some (t_Sales k) := by decide +kernel
theorem n_Sales : ∀ a, a < 3 → ∀ b, b < 3 → a ≠ b → (F_Sales a).2.1 ≠ (F_Sales b).2.1 := by decide +kernel
def F_Search : u_T := fun k => match k with
  | 0 => ("HarvestPlans$Search", "farm", "LHarvestPlans$Farm;", true)
  | 1 => ("HarvestPlans$Search", "rules", "LHarvestPlans$Rules;", true)
  | 2 => ("HarvestPlans$Search", "sales", "LHarvestPlans$Sales;", true)
  | 3 => ("HarvestPlans$Search", "trial", "[I", true)
  | 4 => ("HarvestPlans$Search", "best", "[I", true)
  | 5 => ("HarvestPlans$Search", "hopeFrom", "[J", true)
  | 6 => ("HarvestPlans$Search", "bestWorth", "J", false)
  | 7 => ("HarvestPlans$Search", "limit", "I", false)
  | 8 => ("HarvestPlans$Search", "made", "I", false)
  | _ => ("HarvestPlans$Search", "spent", "Z", false)
def t_Search : Nat → FieldType := fun k => match k with
  | 0 => (.object "HarvestPlans$Farm")
  | 1 => (.object "HarvestPlans$Rules")
  | 2 => (.object "HarvestPlans$Sales")
  | 3 => (.array .int)
  | 4 => (.array .int)
  | 5 => (.array .long)
  | 6 => .long
  | 7 => .int
  | 8 => .int
  | _ => .boolean
theorem tk_Search : ∀ k, k < 10 → parseFieldDescriptor (F_Search k).2.2.1 = some (t_Search k) := by decide +kernel
theorem n_Search : ∀ a, a < 10 → ∀ b, b < 10 → a ≠ b → (F_Search a).2.1 ≠ (F_Search b).2.1 := by decide +kernel
def F_X : u_T := fun k => match k with
  | 0 => ("HarvestPlans", "farm", "LHarvestPlans$Farm;", true)
  | 1 => ("HarvestPlans", "rules", "LHarvestPlans$Rules;", true)
  | 2 => ("HarvestPlans", "sales", "LHarvestPlans$Sales;", true)
  | 3 => ("HarvestPlans", "search", "LHarvestPlans$Search;", true)
  | 4 => ("HarvestPlans", "plan", "[I", true)
  | _ => ("HarvestPlans", "planAtHand", "Z", false)
def t_X : Nat → FieldType := fun k => match k with
  | 0 => (.object "HarvestPlans$Farm")
  | 1 => (.object "HarvestPlans$Rules")
  | 2 => (.object "HarvestPlans$Sales")
  | 3 => (.object "HarvestPlans$Search")
  | 4 => (.array .int)
  | _ => .boolean
theorem tk_X : ∀ k, k < 6 → parseFieldDescriptor (F_X k).2.2.1 = some (t_X k) := by decide +kernel
theorem n_X : ∀ a, a < 6 → ∀ b, b < 6 → a ≠ b → (F_X a).2.1 ≠ (F_X b).2.1 := by decide +kernel
def F_Place : u_T := fun k => match k with
  | 0 => ("HarvestPlans$Place", "most", "I", true)
  | _ => ("HarvestPlans$Place", "closedIn", "[Z", true)
def t_Place : Nat → FieldType := fun k => match k with
  | 0 => .int
  | _ => (.array .boolean)
theorem tk_Place : ∀ k, k < 2 → parseFieldDescriptor (F_Place k).2.2.1 = some (t_Place k) := by decide +kernel
theorem n_Place : ∀ a, a < 2 → ∀ b, b < 2 → a ≠ b → (F_Place a).2.1 ≠ (F_Place b).2.1 := by decide +kernel
def F_Cage : u_T := fun k => match k with
  | 0 => ("HarvestPlans$Cage", "home", "I", true)
  | 1 => ("HarvestPlans$Cage", "grams", "[I", true)
  | _ => ("HarvestPlans$Cage", "kilos", "[I", true)
def t_Cage : Nat → FieldType := fun k => match k with
  | 0 => .int
  | 1 => (.array .int)
  | _ => (.array .int)
theorem tk_Cage : ∀ k, k < 3 → parseFieldDescriptor (F_Cage k).2.2.1 = some (t_Cage k) := by decide +kernel
theorem n_Cage : ∀ a, a < 3 → ∀ b, b < 3 → a ≠ b → (F_Cage a).2.1 ≠ (F_Cage b).2.1 := by decide +kernel
def F_Boat : u_T := fun k => match k with
  | 0 => ("HarvestPlans$Boat", "load", "I", true)
  | _ => ("HarvestPlans$Boat", "barredIn", "[Z", true)
def t_Boat : Nat → FieldType := fun k => match k with
  | 0 => .int
  | _ => (.array .boolean)
theorem tk_Boat : ∀ k, k < 2 → parseFieldDescriptor (F_Boat k).2.2.1 = some (t_Boat k) := by decide +kernel
theorem n_Boat : ∀ a, a < 2 → ∀ b, b < 2 → a ≠ b → (F_Boat a).2.1 ≠ (F_Boat b).2.1 := by decide +kernel
def F_Order : u_T := fun k => match k with
  | 0 => ("HarvestPlans$Order", "week", "I", true)
  | 1 => ("HarvestPlans$Order", "least", "I", true)
  | 2 => ("HarvestPlans$Order", "most", "I", true)
  | 3 => ("HarvestPlans$Order", "kilos", "I", true)
  | _ => ("HarvestPlans$Order", "cents", "I", true)
def t_Order : Nat → FieldType := fun k => match k with
  | 0 => .int
  | 1 => .int
  | 2 => .int
  | 3 => .int
  | _ => .int
theorem tk_Order : ∀ k, k < 5 → parseFieldDescriptor (F_Order k).2.2.1 = some (t_Order k) := by decide +kernel
theorem n_Order : ∀ a, a < 5 → ∀ b, b < 5 → a ≠ b → (F_Order a).2.1 ≠ (F_Order b).2.1 := by decide +kernel
def F_M : u_T := fun k => match k with
  | 0 => ("HarvestPlansModel", "weeks", "I", true)
  | 1 => ("HarvestPlansModel", "thrown", "I", false)
  | 2 => ("HarvestPlansModel", "places", "I", false)
  | 3 => ("HarvestPlansModel", "mosts", "[I", true)
  | 4 => ("HarvestPlansModel", "closed", "[Z", true)
  | 5 => ("HarvestPlansModel", "cages", "I", false)
  | 6 => ("HarvestPlansModel", "placeOf", "[I", true)
  | 7 => ("HarvestPlansModel", "grams", "[I", true)
  | 8 => ("HarvestPlansModel", "fish", "[I", true)
  | 9 => ("HarvestPlansModel", "boats", "I", false)
  | 10 => ("HarvestPlansModel", "loads", "[I", true)
  | 11 => ("HarvestPlansModel", "barred", "[Z", true)
  | 12 => ("HarvestPlansModel", "plants", "[I", true)
  | 13 => ("HarvestPlansModel", "orders", "I", false)
  | 14 => ("HarvestPlansModel", "orderWeek", "[I", true)
  | 15 => ("HarvestPlansModel", "orderLeast", "[I", true)
  | 16 => ("HarvestPlansModel", "orderMost", "[I", true)
  | 17 => ("HarvestPlansModel", "orderKilos", "[I", true)
  | 18 => ("HarvestPlansModel", "orderCents", "[I", true)
  | 19 => ("HarvestPlansModel", "spot", "I", false)
  | 20 => ("HarvestPlansModel", "keep", "I", false)
  | 21 => ("HarvestPlansModel", "hasPlan", "Z", false)
  | 22 => ("HarvestPlansModel", "plan", "[I", true)
  | 23 => ("HarvestPlansModel", "nodes", "I", false)
  | 24 => ("HarvestPlansModel", "tried", "[I", true)
  | 25 => ("HarvestPlansModel", "best", "[I", true)
  | 26 => ("HarvestPlansModel", "hasBest", "Z", false)
  | 27 => ("HarvestPlansModel", "bestWorth", "J", false)
  | 28 => ("HarvestPlansModel", "left", "[J", true)
  | 29 => ("HarvestPlansModel", "sold", "[J", true)
  | 30 => ("HarvestPlansModel", "served", "[Z", true)
  | 31 => ("HarvestPlansModel", "needs", "[J", true)
  | _ => ("HarvestPlansModel", "carried", "[J", true)
def t_M : Nat → FieldType := fun k => match k with
  | 0 => .int
  | 1 => .int
  | 2 => .int
  | 3 => (.array .int)
  | 4 => (.array .boolean)
  | 5 => .int
  | 6 => (.array .int)
  | 7 => (.array .int)
  | 8 => (.array .int)
  | 9 => .int
  | 10 => (.array .int)
  | 11 => (.array .boolean)
  | 12 => (.array .int)
  | 13 => .int
  | 14 => (.array .int)
  | 15 => (.array .int)
  | 16 => (.array .int)
  | 17 => (.array .int)
  | 18 => (.array .int)
  | 19 => .int
  | 20 => .int
  | 21 => .boolean
  | 22 => (.array .int)
  | 23 => .int
  | 24 => (.array .int)
  | 25 => (.array .int)
  | 26 => .boolean
  | 27 => .long
  | 28 => (.array .long)
  | 29 => (.array .long)
  | 30 => (.array .boolean)
  | 31 => (.array .long)
  | _ => (.array .long)
theorem tk_M : ∀ k, k < 33 → parseFieldDescriptor (F_M k).2.2.1 = some (t_M k) := by decide +kernel
theorem n_M : ∀ a, a < 33 → ∀ b, b < 33 → a ≠ b → (F_M a).2.1 ≠ (F_M b).2.1 := by decide +kernel
abbrev hpC : List vw_C := [("HarvestPlans", F_X, 6), ("HarvestPlans$Farm", F_Farm, 13), ("HarvestPlans$Rules", F_Rules, 5), ("HarvestPlans$Sales", F_Sales, 3), ("HarvestPlans$Search", F_Search, 10), ("HarvestPlans$Place", F_Place, 2), ("HarvestPlans$Cage", F_Cage, 3), ("HarvestPlans$Boat", F_Boat, 2), ("HarvestPlans$Order", F_Order, 5), ("HarvestPlansModel", F_M, 33)]
end
section
/-! THE WORDS of the tables by their places -/
def nw_T : List Cond := lw_tbl.filter goodWord
theorem nw_T_in {w : Cond} (h : w ∈ tables_1) (hg : goodWord w = true) : w ∈ nw_T := List.mem_filter.mpr ⟨List.mem_append_right _ h, hg⟩
theorem nw_T_sel {q : MethodName × Nat} (h : q ∈ lw_privs) : Cond.selects q.1.cls q.1 q.1 ∈ nw_T := List.mem_filter.mpr ⟨List.mem_append_left _ (List.mem_map.mpr ⟨q, h, rfl⟩), rfl⟩
theorem kw_0 : (Jvm.Cond.initialized "HarvestPlansLaw") ∈ nw_T := nw_T_in (List.mem_of_getElem? (i := 0) (by decide +kernel)) rfl
theorem kw_1 : (Jvm.Cond.initialized "HarvestPlans") ∈ nw_T := nw_T_in (List.mem_of_getElem? (i := 1) (by decide +kernel)) rfl
theorem kw_2 : (Jvm.Cond.initialized "HarvestPlans$Farm") ∈ nw_T := nw_T_in (List.mem_of_getElem? (i := 2) (by decide +kernel)) rfl
theorem kw_3 : (Jvm.Cond.initialized "java/lang/Math") ∈ nw_T := nw_T_in (List.mem_of_getElem? (i := 3) (by decide +kernel)) rfl
theorem kw_4 : (Jvm.Cond.initialized "HarvestPlans$Rules") ∈ nw_T := nw_T_in (List.mem_of_getElem? (i := 4) (by decide +kernel)) rfl
theorem kw_5 : (Jvm.Cond.initialized "HarvestPlans$Sales") ∈ nw_T := nw_T_in (List.mem_of_getElem? (i := 5) (by decide +kernel)) rfl
theorem kw_6 : (Jvm.Cond.initialized "HarvestPlans$Search") ∈ nw_T := nw_T_in (List.mem_of_getElem? (i := 6) (by decide +kernel)) rfl
theorem kw_7 : (Jvm.Cond.initialized "java/util/Arrays") ∈ nw_T := nw_T_in (List.mem_of_getElem? (i := 7) (by decide +kernel)) rfl
theorem kw_8 : (Jvm.Cond.initialized "HarvestPlansModel") ∈ nw_T := nw_T_in (List.mem_of_getElem? (i := 8) (by decide +kernel)) rfl
theorem kw_9 : (Jvm.Cond.initialized "java/lang/Throwable") ∈ nw_T := nw_T_in (List.mem_of_getElem? (i := 9) (by decide +kernel)) rfl
theorem kw_10 : (Jvm.Cond.initialized "java/lang/Exception") ∈ nw_T := nw_T_in (List.mem_of_getElem? (i := 10) (by decide +kernel)) rfl
theorem kw_11 : (Jvm.Cond.initialized "java/lang/RuntimeException") ∈ nw_T := nw_T_in (List.mem_of_getElem? (i := 11) (by decide +kernel)) rfl
theorem kw_12 : (Jvm.Cond.initialized "java/lang/IllegalArgumentException") ∈ nw_T := nw_T_in (List.mem_of_getElem? (i := 12) (by decide +kernel)) rfl
theorem kw_13 : (Jvm.Cond.initialized "java/lang/IllegalStateException") ∈ nw_T := nw_T_in (List.mem_of_getElem? (i := 13) (by decide +kernel)) rfl
theorem kw_14 : (Jvm.Cond.initialized "HarvestPlans$Place") ∈ nw_T := nw_T_in (List.mem_of_getElem? (i := 14) (by decide +kernel)) rfl
theorem kw_15 : (Jvm.Cond.initialized "HarvestPlans$Cage") ∈ nw_T := nw_T_in (List.mem_of_getElem? (i := 15) (by decide +kernel)) rfl
theorem kw_16 : (Jvm.Cond.initialized "HarvestPlans$Boat") ∈ nw_T := nw_T_in (List.mem_of_getElem? (i := 16) (by decide +kernel)) rfl
theorem kw_17 : (Jvm.Cond.initialized "HarvestPlans$Order") ∈ nw_T := nw_T_in (List.mem_of_getElem? (i := 17) (by decide +kernel)) rfl
theorem kw_18 : (Jvm.Cond.initialized "java/lang/System") ∈ nw_T := nw_T_in (List.mem_of_getElem? (i := 18) (by decide +kernel)) rfl
theorem kw_19 : (Jvm.Cond.classLink "HarvestPlansLaw" (8 : Nat) "HarvestPlans") ∈ nw_T := nw_T_in (List.mem_of_getElem? (i := 19) (by decide +kernel)) rfl
theorem kw_20 : (Jvm.Cond.instantiable "HarvestPlans" (6 : Nat)) ∈ nw_T := nw_T_in (List.mem_of_getElem? (i := 20) (by decide +kernel)) rfl
theorem kw_21 : (Jvm.Cond.methodLink "HarvestPlansLaw" (72 : Nat) ({ cls := "HarvestPlans", name := "<init>", desc := "(I)V" } : Jvm.MethodName)) ∈ nw_T := nw_T_in (List.mem_of_getElem? (i := 21) (by decide +kernel)) rfl
theorem kw_22 : (Jvm.Cond.instanceMethod ({ cls := "HarvestPlans", name := "<init>", desc := "(I)V" } : Jvm.MethodName)) ∈ nw_T := nw_T_in (List.mem_of_getElem? (i := 22) (by decide +kernel)) rfl
theorem kw_23 : (Jvm.Cond.code ({ cls := "HarvestPlans", name := "<init>", desc := "(I)V" } : Jvm.MethodName) prog_1_method_1_code (5 : Nat) (Option.none : Option Jvm.ClassFile.FieldType)) ∈ nw_T := nw_T_in (List.mem_of_getElem? (i := 23) (by decide +kernel)) rfl
theorem kw_24 : (Jvm.Cond.methodLink "HarvestPlans" (1 : Nat) ({ cls := "java/lang/Object", name := "<init>", desc := "()V" } : Jvm.MethodName)) ∈ nw_T := nw_T_in (List.mem_of_getElem? (i := 24) (by decide +kernel)) rfl
theorem kw_25 : (Jvm.Cond.instanceMethod ({ cls := "java/lang/Object", name := "<init>", desc := "()V" } : Jvm.MethodName)) ∈ nw_T := nw_T_in (List.mem_of_getElem? (i := 25) (by decide +kernel)) rfl
theorem kw_26 : (Jvm.Cond.code ({ cls := "java/lang/Object", name := "<init>", desc := "()V" } : Jvm.MethodName) object_method_1_code (1 : Nat) (Option.none : Option Jvm.ClassFile.FieldType)) ∈ nw_T := nw_T_in (List.mem_of_getElem? (i := 26) (by decide +kernel)) rfl
theorem kw_27 : (Jvm.Cond.classLink "HarvestPlans" (7 : Nat) "HarvestPlans$Farm") ∈ nw_T := nw_T_in (List.mem_of_getElem? (i := 27) (by decide +kernel)) rfl
theorem kw_28 : (Jvm.Cond.instantiable "HarvestPlans$Farm" (13 : Nat)) ∈ nw_T := nw_T_in (List.mem_of_getElem? (i := 28) (by decide +kernel)) rfl
theorem kw_29 : (Jvm.Cond.methodLink "HarvestPlans" (11 : Nat) ({ cls := "java/lang/Math", name := "min", desc := "(II)I" } : Jvm.MethodName)) ∈ nw_T := nw_T_in (List.mem_of_getElem? (i := 29) (by decide +kernel)) rfl
theorem kw_30 : (Jvm.Cond.static ({ cls := "java/lang/Math", name := "min", desc := "(II)I" } : Jvm.MethodName)) ∈ nw_T := nw_T_in (List.mem_of_getElem? (i := 30) (by decide +kernel)) rfl
theorem kw_31 : (Jvm.Cond.code ({ cls := "java/lang/Math", name := "min", desc := "(II)I" } : Jvm.MethodName) prog_15_method_69_code (2 : Nat) (Option.some Jvm.ClassFile.FieldType.int)) ∈ nw_T := nw_T_in (List.mem_of_getElem? (i := 31) (by decide +kernel)) rfl
theorem kw_32 : (Jvm.Cond.methodLink "HarvestPlans" (17 : Nat) ({ cls := "java/lang/Math", name := "max", desc := "(II)I" } : Jvm.MethodName)) ∈ nw_T := nw_T_in (List.mem_of_getElem? (i := 32) (by decide +kernel)) rfl
theorem kw_33 : (Jvm.Cond.static ({ cls := "java/lang/Math", name := "max", desc := "(II)I" } : Jvm.MethodName)) ∈ nw_T := nw_T_in (List.mem_of_getElem? (i := 33) (by decide +kernel)) rfl
theorem kw_34 : (Jvm.Cond.code ({ cls := "java/lang/Math", name := "max", desc := "(II)I" } : Jvm.MethodName) prog_15_method_65_code (2 : Nat) (Option.some Jvm.ClassFile.FieldType.int)) ∈ nw_T := nw_T_in (List.mem_of_getElem? (i := 34) (by decide +kernel)) rfl
theorem kn_35 : (Jvm.Cond.methodLinkNest "HarvestPlans" (20 : Nat) ({ cls := "HarvestPlans$Farm", name := "<init>", desc := "(I)V" } : Jvm.MethodName) "HarvestPlans") ∈ lw_tbl := List.mem_append_right _ (List.mem_of_getElem? (i := 35) (by decide +kernel))
theorem kw_36 : (Jvm.Cond.instanceMethod ({ cls := "HarvestPlans$Farm", name := "<init>", desc := "(I)V" } : Jvm.MethodName)) ∈ nw_T := nw_T_in (List.mem_of_getElem? (i := 36) (by decide +kernel)) rfl
theorem kw_37 : (Jvm.Cond.code ({ cls := "HarvestPlans$Farm", name := "<init>", desc := "(I)V" } : Jvm.MethodName) prog_4_method_1_code (2 : Nat) (Option.none : Option Jvm.ClassFile.FieldType)) ∈ nw_T := nw_T_in (List.mem_of_getElem? (i := 37) (by decide +kernel)) rfl
theorem kw_38 : (Jvm.Cond.methodLink "HarvestPlans$Farm" (3 : Nat) ({ cls := "java/lang/Object", name := "<init>", desc := "()V" } : Jvm.MethodName)) ∈ nw_T := nw_T_in (List.mem_of_getElem? (i := 38) (by decide +kernel)) rfl
theorem kw_39 : (Jvm.Cond.classLink "HarvestPlans$Farm" (9 : Nat) "HarvestPlans$Place") ∈ nw_T := nw_T_in (List.mem_of_getElem? (i := 39) (by decide +kernel)) rfl
-- 40: arrayOver
theorem kt_40 : (Jvm.Cond.arrayOver (Jvm.ClassFile.FieldType.object "HarvestPlans$Place")) ∈ tables_1 := List.mem_of_getElem? (i := 40) (by decide +kernel)
theorem kw_41 : (Jvm.Cond.classLink "HarvestPlans$Farm" (17 : Nat) "HarvestPlans$Cage") ∈ nw_T := nw_T_in (List.mem_of_getElem? (i := 41) (by decide +kernel)) rfl
-- 42: arrayOver
theorem kt_42 : (Jvm.Cond.arrayOver (Jvm.ClassFile.FieldType.object "HarvestPlans$Cage")) ∈ tables_1 := List.mem_of_getElem? (i := 42) (by decide +kernel)
theorem kw_43 : (Jvm.Cond.classLink "HarvestPlans$Farm" (23 : Nat) "HarvestPlans$Boat") ∈ nw_T := nw_T_in (List.mem_of_getElem? (i := 43) (by decide +kernel)) rfl
-- 44: arrayOver
theorem kt_44 : (Jvm.Cond.arrayOver (Jvm.ClassFile.FieldType.object "HarvestPlans$Boat")) ∈ tables_1 := List.mem_of_getElem? (i := 44) (by decide +kernel)
theorem kw_45 : (Jvm.Cond.classLink "HarvestPlans$Farm" (29 : Nat) "HarvestPlans$Order") ∈ nw_T := nw_T_in (List.mem_of_getElem? (i := 45) (by decide +kernel)) rfl
-- 46: arrayOver
theorem kt_46 : (Jvm.Cond.arrayOver (Jvm.ClassFile.FieldType.object "HarvestPlans$Order")) ∈ tables_1 := List.mem_of_getElem? (i := 46) (by decide +kernel)
theorem kw_47 : (Jvm.Cond.fieldLink "HarvestPlans$Farm" (39 : Nat) "HarvestPlans$Farm" "weeks" "I") ∈ nw_T := nw_T_in (List.mem_of_getElem? (i := 47) (by decide +kernel)) rfl
theorem kn_48 : (Jvm.Cond.fieldLinkNest "HarvestPlans" (84 : Nat) "HarvestPlans$Farm" "weeks" "I" "HarvestPlans") ∈ lw_tbl := List.mem_append_right _ (List.mem_of_getElem? (i := 48) (by decide +kernel))
theorem kn_49 : (Jvm.Cond.fieldLinkNest "HarvestPlans$Search" (76 : Nat) "HarvestPlans$Farm" "weeks" "I" "HarvestPlans") ∈ lw_tbl := List.mem_append_right _ (List.mem_of_getElem? (i := 49) (by decide +kernel))
theorem kn_50 : (Jvm.Cond.fieldLinkNest "HarvestPlans$Rules" (84 : Nat) "HarvestPlans$Farm" "weeks" "I" "HarvestPlans") ∈ lw_tbl := List.mem_append_right _ (List.mem_of_getElem? (i := 50) (by decide +kernel))
theorem kw_51 : (Jvm.Cond.fieldLink "HarvestPlans$Farm" (11 : Nat) "HarvestPlans$Farm" "places" "[LHarvestPlans$Place;") ∈ nw_T := nw_T_in (List.mem_of_getElem? (i := 51) (by decide +kernel)) rfl
theorem kn_52 : (Jvm.Cond.fieldLinkNest "HarvestPlans" (99 : Nat) "HarvestPlans$Farm" "places" "[LHarvestPlans$Place;" "HarvestPlans") ∈ lw_tbl := List.mem_append_right _ (List.mem_of_getElem? (i := 52) (by decide +kernel))
theorem kn_53 : (Jvm.Cond.fieldLinkNest "HarvestPlans$Rules" (59 : Nat) "HarvestPlans$Farm" "places" "[LHarvestPlans$Place;" "HarvestPlans") ∈ lw_tbl := List.mem_append_right _ (List.mem_of_getElem? (i := 53) (by decide +kernel))
theorem kw_54 : (Jvm.Cond.fieldLink "HarvestPlans$Farm" (19 : Nat) "HarvestPlans$Farm" "cages" "[LHarvestPlans$Cage;") ∈ nw_T := nw_T_in (List.mem_of_getElem? (i := 54) (by decide +kernel)) rfl
theorem kn_55 : (Jvm.Cond.fieldLinkNest "HarvestPlans$Sales" (28 : Nat) "HarvestPlans$Farm" "cages" "[LHarvestPlans$Cage;" "HarvestPlans") ∈ lw_tbl := List.mem_append_right _ (List.mem_of_getElem? (i := 55) (by decide +kernel))
theorem kn_56 : (Jvm.Cond.fieldLinkNest "HarvestPlans$Rules" (47 : Nat) "HarvestPlans$Farm" "cages" "[LHarvestPlans$Cage;" "HarvestPlans") ∈ lw_tbl := List.mem_append_right _ (List.mem_of_getElem? (i := 56) (by decide +kernel))
theorem kn_57 : (Jvm.Cond.fieldLinkNest "HarvestPlans" (118 : Nat) "HarvestPlans$Farm" "cages" "[LHarvestPlans$Cage;" "HarvestPlans") ∈ lw_tbl := List.mem_append_right _ (List.mem_of_getElem? (i := 57) (by decide +kernel))
theorem kw_58 : (Jvm.Cond.fieldLink "HarvestPlans$Farm" (25 : Nat) "HarvestPlans$Farm" "boats" "[LHarvestPlans$Boat;") ∈ nw_T := nw_T_in (List.mem_of_getElem? (i := 58) (by decide +kernel)) rfl
theorem kn_59 : (Jvm.Cond.fieldLinkNest "HarvestPlans" (138 : Nat) "HarvestPlans$Farm" "boats" "[LHarvestPlans$Boat;" "HarvestPlans") ∈ lw_tbl := List.mem_append_right _ (List.mem_of_getElem? (i := 59) (by decide +kernel))
theorem kn_60 : (Jvm.Cond.fieldLinkNest "HarvestPlans$Rules" (102 : Nat) "HarvestPlans$Farm" "boats" "[LHarvestPlans$Boat;" "HarvestPlans") ∈ lw_tbl := List.mem_append_right _ (List.mem_of_getElem? (i := 60) (by decide +kernel))
theorem kw_61 : (Jvm.Cond.fieldLink "HarvestPlans$Farm" (31 : Nat) "HarvestPlans$Farm" "orders" "[LHarvestPlans$Order;") ∈ nw_T := nw_T_in (List.mem_of_getElem? (i := 61) (by decide +kernel)) rfl
theorem kn_62 : (Jvm.Cond.fieldLinkNest "HarvestPlans$Sales" (43 : Nat) "HarvestPlans$Farm" "orders" "[LHarvestPlans$Order;" "HarvestPlans") ∈ lw_tbl := List.mem_append_right _ (List.mem_of_getElem? (i := 62) (by decide +kernel))
theorem kw_63 : (Jvm.Cond.fieldLink "HarvestPlans$Farm" (35 : Nat) "HarvestPlans$Farm" "served" "[I") ∈ nw_T := nw_T_in (List.mem_of_getElem? (i := 63) (by decide +kernel)) rfl
theorem kn_64 : (Jvm.Cond.fieldLinkNest "HarvestPlans$Sales" (40 : Nat) "HarvestPlans$Farm" "served" "[I" "HarvestPlans") ∈ lw_tbl := List.mem_append_right _ (List.mem_of_getElem? (i := 64) (by decide +kernel))
theorem kw_65 : (Jvm.Cond.fieldLink "HarvestPlans$Farm" (43 : Nat) "HarvestPlans$Farm" "plantKilos" "[I") ∈ nw_T := nw_T_in (List.mem_of_getElem? (i := 65) (by decide +kernel)) rfl
theorem kn_66 : (Jvm.Cond.fieldLinkNest "HarvestPlans$Rules" (56 : Nat) "HarvestPlans$Farm" "plantKilos" "[I" "HarvestPlans") ∈ lw_tbl := List.mem_append_right _ (List.mem_of_getElem? (i := 66) (by decide +kernel))
theorem kn_67 : (Jvm.Cond.fieldLinkNest "HarvestPlans" (145 : Nat) "HarvestPlans$Farm" "plantKilos" "[I" "HarvestPlans") ∈ lw_tbl := List.mem_append_right _ (List.mem_of_getElem? (i := 67) (by decide +kernel))
theorem kw_68 : (Jvm.Cond.fieldLink "HarvestPlans$Farm" (46 : Nat) "HarvestPlans$Farm" "placeCount" "I") ∈ nw_T := nw_T_in (List.mem_of_getElem? (i := 68) (by decide +kernel)) rfl
theorem kn_69 : (Jvm.Cond.fieldLinkNest "HarvestPlans" (71 : Nat) "HarvestPlans$Farm" "placeCount" "I" "HarvestPlans") ∈ lw_tbl := List.mem_append_right _ (List.mem_of_getElem? (i := 69) (by decide +kernel))
theorem kn_70 : (Jvm.Cond.fieldLinkNest "HarvestPlans$Rules" (78 : Nat) "HarvestPlans$Farm" "placeCount" "I" "HarvestPlans") ∈ lw_tbl := List.mem_append_right _ (List.mem_of_getElem? (i := 70) (by decide +kernel))
theorem kn_71 : (Jvm.Cond.fieldLinkNest "HarvestPlans$Sales" (22 : Nat) "HarvestPlans$Farm" "cageCount" "I" "HarvestPlans") ∈ lw_tbl := List.mem_append_right _ (List.mem_of_getElem? (i := 71) (by decide +kernel))
theorem kw_72 : (Jvm.Cond.fieldLink "HarvestPlans$Farm" (49 : Nat) "HarvestPlans$Farm" "cageCount" "I") ∈ nw_T := nw_T_in (List.mem_of_getElem? (i := 72) (by decide +kernel)) rfl
theorem kn_73 : (Jvm.Cond.fieldLinkNest "HarvestPlans$Rules" (41 : Nat) "HarvestPlans$Farm" "cageCount" "I" "HarvestPlans") ∈ lw_tbl := List.mem_append_right _ (List.mem_of_getElem? (i := 73) (by decide +kernel))
theorem kn_74 : (Jvm.Cond.fieldLinkNest "HarvestPlans" (107 : Nat) "HarvestPlans$Farm" "cageCount" "I" "HarvestPlans") ∈ lw_tbl := List.mem_append_right _ (List.mem_of_getElem? (i := 74) (by decide +kernel))
theorem kn_75 : (Jvm.Cond.fieldLinkNest "HarvestPlans$Search" (64 : Nat) "HarvestPlans$Farm" "cageCount" "I" "HarvestPlans") ∈ lw_tbl := List.mem_append_right _ (List.mem_of_getElem? (i := 75) (by decide +kernel))
theorem kw_76 : (Jvm.Cond.fieldLink "HarvestPlans$Farm" (52 : Nat) "HarvestPlans$Farm" "boatCount" "I") ∈ nw_T := nw_T_in (List.mem_of_getElem? (i := 76) (by decide +kernel)) rfl
theorem kn_77 : (Jvm.Cond.fieldLinkNest "HarvestPlans" (128 : Nat) "HarvestPlans$Farm" "boatCount" "I" "HarvestPlans") ∈ lw_tbl := List.mem_append_right _ (List.mem_of_getElem? (i := 77) (by decide +kernel))
theorem kn_78 : (Jvm.Cond.fieldLinkNest "HarvestPlans$Rules" (99 : Nat) "HarvestPlans$Farm" "boatCount" "I" "HarvestPlans") ∈ lw_tbl := List.mem_append_right _ (List.mem_of_getElem? (i := 78) (by decide +kernel))
theorem kn_79 : (Jvm.Cond.fieldLinkNest "HarvestPlans$Sales" (37 : Nat) "HarvestPlans$Farm" "orderCount" "I" "HarvestPlans") ∈ lw_tbl := List.mem_append_right _ (List.mem_of_getElem? (i := 79) (by decide +kernel))
theorem kw_80 : (Jvm.Cond.fieldLink "HarvestPlans$Farm" (55 : Nat) "HarvestPlans$Farm" "orderCount" "I") ∈ nw_T := nw_T_in (List.mem_of_getElem? (i := 80) (by decide +kernel)) rfl
theorem kn_81 : (Jvm.Cond.fieldLinkNest "HarvestPlans" (148 : Nat) "HarvestPlans$Farm" "orderCount" "I" "HarvestPlans") ∈ lw_tbl := List.mem_append_right _ (List.mem_of_getElem? (i := 81) (by decide +kernel))
theorem kn_82 : (Jvm.Cond.fieldLinkNest "HarvestPlans$Sales" (76 : Nat) "HarvestPlans$Farm" "spot" "I" "HarvestPlans") ∈ lw_tbl := List.mem_append_right _ (List.mem_of_getElem? (i := 82) (by decide +kernel))
theorem kw_83 : (Jvm.Cond.fieldLink "HarvestPlans$Farm" (71 : Nat) "HarvestPlans$Farm" "spot" "I") ∈ nw_T := nw_T_in (List.mem_of_getElem? (i := 83) (by decide +kernel)) rfl
theorem kn_84 : (Jvm.Cond.fieldLinkNest "HarvestPlans" (160 : Nat) "HarvestPlans$Farm" "spot" "I" "HarvestPlans") ∈ lw_tbl := List.mem_append_right _ (List.mem_of_getElem? (i := 84) (by decide +kernel))
theorem kw_85 : (Jvm.Cond.fieldLink "HarvestPlans$Farm" (64 : Nat) "HarvestPlans$Farm" "keep" "I") ∈ nw_T := nw_T_in (List.mem_of_getElem? (i := 85) (by decide +kernel)) rfl
theorem kn_86 : (Jvm.Cond.fieldLinkNest "HarvestPlans" (163 : Nat) "HarvestPlans$Farm" "keep" "I" "HarvestPlans") ∈ lw_tbl := List.mem_append_right _ (List.mem_of_getElem? (i := 86) (by decide +kernel))
theorem kw_87 : (Jvm.Cond.laysFinal "HarvestPlans$Farm" "HarvestPlans$Farm" "weeks" "I") ∈ nw_T := nw_T_in (List.mem_of_getElem? (i := 87) (by decide +kernel)) rfl
theorem kw_89 : (Jvm.Cond.laysFinal "HarvestPlans$Farm" "HarvestPlans$Farm" "places" "[LHarvestPlans$Place;") ∈ nw_T := nw_T_in (List.mem_of_getElem? (i := 89) (by decide +kernel)) rfl
theorem kw_91 : (Jvm.Cond.laysFinal "HarvestPlans$Farm" "HarvestPlans$Farm" "cages" "[LHarvestPlans$Cage;") ∈ nw_T := nw_T_in (List.mem_of_getElem? (i := 91) (by decide +kernel)) rfl
theorem kw_93 : (Jvm.Cond.laysFinal "HarvestPlans$Farm" "HarvestPlans$Farm" "boats" "[LHarvestPlans$Boat;") ∈ nw_T := nw_T_in (List.mem_of_getElem? (i := 93) (by decide +kernel)) rfl
theorem kw_95 : (Jvm.Cond.laysFinal "HarvestPlans$Farm" "HarvestPlans$Farm" "orders" "[LHarvestPlans$Order;") ∈ nw_T := nw_T_in (List.mem_of_getElem? (i := 95) (by decide +kernel)) rfl
theorem kw_97 : (Jvm.Cond.laysFinal "HarvestPlans$Farm" "HarvestPlans$Farm" "served" "[I") ∈ nw_T := nw_T_in (List.mem_of_getElem? (i := 97) (by decide +kernel)) rfl
theorem kw_99 : (Jvm.Cond.laysFinal "HarvestPlans$Farm" "HarvestPlans$Farm" "plantKilos" "[I") ∈ nw_T := nw_T_in (List.mem_of_getElem? (i := 99) (by decide +kernel)) rfl
theorem kw_101 : (Jvm.Cond.lays "HarvestPlans$Farm" "HarvestPlans$Farm" "placeCount" "I") ∈ nw_T := nw_T_in (List.mem_of_getElem? (i := 101) (by decide +kernel)) rfl
theorem kw_103 : (Jvm.Cond.lays "HarvestPlans$Farm" "HarvestPlans$Farm" "cageCount" "I") ∈ nw_T := nw_T_in (List.mem_of_getElem? (i := 103) (by decide +kernel)) rfl
theorem kw_105 : (Jvm.Cond.lays "HarvestPlans$Farm" "HarvestPlans$Farm" "boatCount" "I") ∈ nw_T := nw_T_in (List.mem_of_getElem? (i := 105) (by decide +kernel)) rfl
theorem kw_107 : (Jvm.Cond.lays "HarvestPlans$Farm" "HarvestPlans$Farm" "orderCount" "I") ∈ nw_T := nw_T_in (List.mem_of_getElem? (i := 107) (by decide +kernel)) rfl
theorem kw_109 : (Jvm.Cond.lays "HarvestPlans$Farm" "HarvestPlans$Farm" "spot" "I") ∈ nw_T := nw_T_in (List.mem_of_getElem? (i := 109) (by decide +kernel)) rfl
theorem kw_111 : (Jvm.Cond.lays "HarvestPlans$Farm" "HarvestPlans$Farm" "keep" "I") ∈ nw_T := nw_T_in (List.mem_of_getElem? (i := 111) (by decide +kernel)) rfl
theorem kw_113 : (Jvm.Cond.superclass "HarvestPlans$Farm" "java/lang/Object") ∈ nw_T := nw_T_in (List.mem_of_getElem? (i := 113) (by decide +kernel)) rfl
theorem kw_114 : (Jvm.Cond.arrayClass Jvm.ClassFile.FieldType.int) ∈ nw_T := nw_T_in (List.mem_of_getElem? (i := 114) (by decide +kernel)) rfl
theorem kw_115 : (Jvm.Cond.classLink "HarvestPlans" (23 : Nat) "HarvestPlans$Rules") ∈ nw_T := nw_T_in (List.mem_of_getElem? (i := 115) (by decide +kernel)) rfl
theorem kw_116 : (Jvm.Cond.instantiable "HarvestPlans$Rules" (5 : Nat)) ∈ nw_T := nw_T_in (List.mem_of_getElem? (i := 116) (by decide +kernel)) rfl
theorem kn_117 : (Jvm.Cond.methodLinkNest "HarvestPlans" (25 : Nat) ({ cls := "HarvestPlans$Rules", name := "<init>", desc := "(LHarvestPlans$Farm;)V" } : Jvm.MethodName) "HarvestPlans") ∈ lw_tbl := List.mem_append_right _ (List.mem_of_getElem? (i := 117) (by decide +kernel))
theorem kw_118 : (Jvm.Cond.instanceMethod ({ cls := "HarvestPlans$Rules", name := "<init>", desc := "(LHarvestPlans$Farm;)V" } : Jvm.MethodName)) ∈ nw_T := nw_T_in (List.mem_of_getElem? (i := 118) (by decide +kernel)) rfl
theorem kw_119 : (Jvm.Cond.code ({ cls := "HarvestPlans$Rules", name := "<init>", desc := "(LHarvestPlans$Farm;)V" } : Jvm.MethodName) prog_7_method_1_code (2 : Nat) (Option.none : Option Jvm.ClassFile.FieldType)) ∈ nw_T := nw_T_in (List.mem_of_getElem? (i := 119) (by decide +kernel)) rfl
theorem kw_120 : (Jvm.Cond.methodLink "HarvestPlans$Rules" (3 : Nat) ({ cls := "java/lang/Object", name := "<init>", desc := "()V" } : Jvm.MethodName)) ∈ nw_T := nw_T_in (List.mem_of_getElem? (i := 120) (by decide +kernel)) rfl
theorem kw_121 : (Jvm.Cond.fieldLink "HarvestPlans$Rules" (24 : Nat) "HarvestPlans$Rules" "farm" "LHarvestPlans$Farm;") ∈ nw_T := nw_T_in (List.mem_of_getElem? (i := 121) (by decide +kernel)) rfl
theorem kw_122 : (Jvm.Cond.fieldLink "HarvestPlans$Rules" (9 : Nat) "HarvestPlans$Rules" "needs" "[I") ∈ nw_T := nw_T_in (List.mem_of_getElem? (i := 122) (by decide +kernel)) rfl
theorem kw_123 : (Jvm.Cond.fieldLink "HarvestPlans$Rules" (15 : Nat) "HarvestPlans$Rules" "loads" "[I") ∈ nw_T := nw_T_in (List.mem_of_getElem? (i := 123) (by decide +kernel)) rfl
theorem kw_124 : (Jvm.Cond.fieldLink "HarvestPlans$Rules" (18 : Nat) "HarvestPlans$Rules" "missing" "[I") ∈ nw_T := nw_T_in (List.mem_of_getElem? (i := 124) (by decide +kernel)) rfl
theorem kw_125 : (Jvm.Cond.fieldLink "HarvestPlans$Rules" (21 : Nat) "HarvestPlans$Rules" "held" "[I") ∈ nw_T := nw_T_in (List.mem_of_getElem? (i := 125) (by decide +kernel)) rfl
theorem kw_126 : (Jvm.Cond.laysFinal "HarvestPlans$Rules" "HarvestPlans$Rules" "farm" "LHarvestPlans$Farm;") ∈ nw_T := nw_T_in (List.mem_of_getElem? (i := 126) (by decide +kernel)) rfl
theorem kw_128 : (Jvm.Cond.laysFinal "HarvestPlans$Rules" "HarvestPlans$Rules" "needs" "[I") ∈ nw_T := nw_T_in (List.mem_of_getElem? (i := 128) (by decide +kernel)) rfl
theorem kw_130 : (Jvm.Cond.laysFinal "HarvestPlans$Rules" "HarvestPlans$Rules" "loads" "[I") ∈ nw_T := nw_T_in (List.mem_of_getElem? (i := 130) (by decide +kernel)) rfl
theorem kw_132 : (Jvm.Cond.laysFinal "HarvestPlans$Rules" "HarvestPlans$Rules" "missing" "[I") ∈ nw_T := nw_T_in (List.mem_of_getElem? (i := 132) (by decide +kernel)) rfl
theorem kw_134 : (Jvm.Cond.laysFinal "HarvestPlans$Rules" "HarvestPlans$Rules" "held" "[I") ∈ nw_T := nw_T_in (List.mem_of_getElem? (i := 134) (by decide +kernel)) rfl
theorem kw_136 : (Jvm.Cond.superclass "HarvestPlans$Rules" "java/lang/Object") ∈ nw_T := nw_T_in (List.mem_of_getElem? (i := 136) (by decide +kernel)) rfl
theorem kw_137 : (Jvm.Cond.classLink "HarvestPlans" (28 : Nat) "HarvestPlans$Sales") ∈ nw_T := nw_T_in (List.mem_of_getElem? (i := 137) (by decide +kernel)) rfl
theorem kw_138 : (Jvm.Cond.instantiable "HarvestPlans$Sales" (3 : Nat)) ∈ nw_T := nw_T_in (List.mem_of_getElem? (i := 138) (by decide +kernel)) rfl
theorem kn_139 : (Jvm.Cond.methodLinkNest "HarvestPlans" (30 : Nat) ({ cls := "HarvestPlans$Sales", name := "<init>", desc := "(LHarvestPlans$Farm;)V" } : Jvm.MethodName) "HarvestPlans") ∈ lw_tbl := List.mem_append_right _ (List.mem_of_getElem? (i := 139) (by decide +kernel))
theorem kw_140 : (Jvm.Cond.instanceMethod ({ cls := "HarvestPlans$Sales", name := "<init>", desc := "(LHarvestPlans$Farm;)V" } : Jvm.MethodName)) ∈ nw_T := nw_T_in (List.mem_of_getElem? (i := 140) (by decide +kernel)) rfl
theorem kw_141 : (Jvm.Cond.code ({ cls := "HarvestPlans$Sales", name := "<init>", desc := "(LHarvestPlans$Farm;)V" } : Jvm.MethodName) prog_8_method_1_code (2 : Nat) (Option.none : Option Jvm.ClassFile.FieldType)) ∈ nw_T := nw_T_in (List.mem_of_getElem? (i := 141) (by decide +kernel)) rfl
theorem kw_142 : (Jvm.Cond.methodLink "HarvestPlans$Sales" (3 : Nat) ({ cls := "java/lang/Object", name := "<init>", desc := "()V" } : Jvm.MethodName)) ∈ nw_T := nw_T_in (List.mem_of_getElem? (i := 142) (by decide +kernel)) rfl
theorem kw_143 : (Jvm.Cond.fieldLink "HarvestPlans$Sales" (18 : Nat) "HarvestPlans$Sales" "farm" "LHarvestPlans$Farm;") ∈ nw_T := nw_T_in (List.mem_of_getElem? (i := 143) (by decide +kernel)) rfl
theorem kw_144 : (Jvm.Cond.fieldLink "HarvestPlans$Sales" (9 : Nat) "HarvestPlans$Sales" "left" "[I") ∈ nw_T := nw_T_in (List.mem_of_getElem? (i := 144) (by decide +kernel)) rfl
theorem kw_145 : (Jvm.Cond.fieldLink "HarvestPlans$Sales" (15 : Nat) "HarvestPlans$Sales" "gotten" "[I") ∈ nw_T := nw_T_in (List.mem_of_getElem? (i := 145) (by decide +kernel)) rfl
theorem kn_146 : (Jvm.Cond.fieldLinkNest "HarvestPlans" (203 : Nat) "HarvestPlans$Sales" "gotten" "[I" "HarvestPlans") ∈ lw_tbl := List.mem_append_right _ (List.mem_of_getElem? (i := 146) (by decide +kernel))
theorem kw_147 : (Jvm.Cond.laysFinal "HarvestPlans$Sales" "HarvestPlans$Sales" "farm" "LHarvestPlans$Farm;") ∈ nw_T := nw_T_in (List.mem_of_getElem? (i := 147) (by decide +kernel)) rfl
theorem kw_149 : (Jvm.Cond.laysFinal "HarvestPlans$Sales" "HarvestPlans$Sales" "left" "[I") ∈ nw_T := nw_T_in (List.mem_of_getElem? (i := 149) (by decide +kernel)) rfl
theorem kw_151 : (Jvm.Cond.laysFinal "HarvestPlans$Sales" "HarvestPlans$Sales" "gotten" "[I") ∈ nw_T := nw_T_in (List.mem_of_getElem? (i := 151) (by decide +kernel)) rfl
theorem kw_153 : (Jvm.Cond.superclass "HarvestPlans$Sales" "java/lang/Object") ∈ nw_T := nw_T_in (List.mem_of_getElem? (i := 153) (by decide +kernel)) rfl
theorem kw_154 : (Jvm.Cond.classLink "HarvestPlans" (43 : Nat) "HarvestPlans$Search") ∈ nw_T := nw_T_in (List.mem_of_getElem? (i := 154) (by decide +kernel)) rfl
theorem kw_155 : (Jvm.Cond.instantiable "HarvestPlans$Search" (10 : Nat)) ∈ nw_T := nw_T_in (List.mem_of_getElem? (i := 155) (by decide +kernel)) rfl
theorem kn_156 : (Jvm.Cond.methodLinkNest "HarvestPlans" (45 : Nat) ({ cls := "HarvestPlans$Search", name := "<init>", desc := "(LHarvestPlans$Farm;LHarvestPlans$Rules;LHarvestPlans$Sales;)V" } : Jvm.MethodName) "HarvestPlans") ∈ lw_tbl := List.mem_append_right _ (List.mem_of_getElem? (i := 156) (by decide +kernel))
theorem kw_157 : (Jvm.Cond.instanceMethod ({ cls := "HarvestPlans$Search", name := "<init>", desc := "(LHarvestPlans$Farm;LHarvestPlans$Rules;LHarvestPlans$Sales;)V" } : Jvm.MethodName)) ∈ nw_T := nw_T_in (List.mem_of_getElem? (i := 157) (by decide +kernel)) rfl
theorem kw_158 : (Jvm.Cond.code ({ cls := "HarvestPlans$Search", name := "<init>", desc := "(LHarvestPlans$Farm;LHarvestPlans$Rules;LHarvestPlans$Sales;)V" } : Jvm.MethodName) prog_9_method_1_code (4 : Nat) (Option.none : Option Jvm.ClassFile.FieldType)) ∈ nw_T := nw_T_in (List.mem_of_getElem? (i := 158) (by decide +kernel)) rfl
theorem kw_159 : (Jvm.Cond.methodLink "HarvestPlans$Search" (3 : Nat) ({ cls := "java/lang/Object", name := "<init>", desc := "()V" } : Jvm.MethodName)) ∈ nw_T := nw_T_in (List.mem_of_getElem? (i := 159) (by decide +kernel)) rfl
theorem kw_160 : (Jvm.Cond.constantLong "HarvestPlans$Search" (22 : Nat) (-1 : Int64)) ∈ nw_T := nw_T_in (List.mem_of_getElem? (i := 160) (by decide +kernel)) rfl
theorem kw_161 : (Jvm.Cond.fieldLink "HarvestPlans$Search" (28 : Nat) "HarvestPlans$Search" "farm" "LHarvestPlans$Farm;") ∈ nw_T := nw_T_in (List.mem_of_getElem? (i := 161) (by decide +kernel)) rfl
theorem kw_162 : (Jvm.Cond.fieldLink "HarvestPlans$Search" (32 : Nat) "HarvestPlans$Search" "rules" "LHarvestPlans$Rules;") ∈ nw_T := nw_T_in (List.mem_of_getElem? (i := 162) (by decide +kernel)) rfl
theorem kw_163 : (Jvm.Cond.fieldLink "HarvestPlans$Search" (36 : Nat) "HarvestPlans$Search" "sales" "LHarvestPlans$Sales;") ∈ nw_T := nw_T_in (List.mem_of_getElem? (i := 163) (by decide +kernel)) rfl
theorem kw_164 : (Jvm.Cond.fieldLink "HarvestPlans$Search" (9 : Nat) "HarvestPlans$Search" "trial" "[I") ∈ nw_T := nw_T_in (List.mem_of_getElem? (i := 164) (by decide +kernel)) rfl
theorem kw_165 : (Jvm.Cond.fieldLink "HarvestPlans$Search" (15 : Nat) "HarvestPlans$Search" "best" "[I") ∈ nw_T := nw_T_in (List.mem_of_getElem? (i := 165) (by decide +kernel)) rfl
theorem kn_166 : (Jvm.Cond.fieldLinkNest "HarvestPlans" (176 : Nat) "HarvestPlans$Search" "best" "[I" "HarvestPlans") ∈ lw_tbl := List.mem_append_right _ (List.mem_of_getElem? (i := 166) (by decide +kernel))
theorem kw_167 : (Jvm.Cond.fieldLink "HarvestPlans$Search" (18 : Nat) "HarvestPlans$Search" "hopeFrom" "[J") ∈ nw_T := nw_T_in (List.mem_of_getElem? (i := 167) (by decide +kernel)) rfl
theorem kw_168 : (Jvm.Cond.fieldLink "HarvestPlans$Search" (24 : Nat) "HarvestPlans$Search" "bestWorth" "J") ∈ nw_T := nw_T_in (List.mem_of_getElem? (i := 168) (by decide +kernel)) rfl
theorem kw_169 : (Jvm.Cond.fieldLink "HarvestPlans$Search" (40 : Nat) "HarvestPlans$Search" "limit" "I") ∈ nw_T := nw_T_in (List.mem_of_getElem? (i := 169) (by decide +kernel)) rfl
theorem kw_170 : (Jvm.Cond.fieldLink "HarvestPlans$Search" (44 : Nat) "HarvestPlans$Search" "made" "I") ∈ nw_T := nw_T_in (List.mem_of_getElem? (i := 170) (by decide +kernel)) rfl
theorem kn_171 : (Jvm.Cond.fieldLinkNest "HarvestPlans" (185 : Nat) "HarvestPlans$Search" "made" "I" "HarvestPlans") ∈ lw_tbl := List.mem_append_right _ (List.mem_of_getElem? (i := 171) (by decide +kernel))
theorem kw_172 : (Jvm.Cond.fieldLink "HarvestPlans$Search" (47 : Nat) "HarvestPlans$Search" "spent" "Z") ∈ nw_T := nw_T_in (List.mem_of_getElem? (i := 172) (by decide +kernel)) rfl
theorem kn_173 : (Jvm.Cond.fieldLinkNest "HarvestPlans" (173 : Nat) "HarvestPlans$Search" "spent" "Z" "HarvestPlans") ∈ lw_tbl := List.mem_append_right _ (List.mem_of_getElem? (i := 173) (by decide +kernel))
theorem kw_174 : (Jvm.Cond.laysFinal "HarvestPlans$Search" "HarvestPlans$Search" "farm" "LHarvestPlans$Farm;") ∈ nw_T := nw_T_in (List.mem_of_getElem? (i := 174) (by decide +kernel)) rfl
theorem kw_176 : (Jvm.Cond.laysFinal "HarvestPlans$Search" "HarvestPlans$Search" "rules" "LHarvestPlans$Rules;") ∈ nw_T := nw_T_in (List.mem_of_getElem? (i := 176) (by decide +kernel)) rfl
theorem kw_178 : (Jvm.Cond.laysFinal "HarvestPlans$Search" "HarvestPlans$Search" "sales" "LHarvestPlans$Sales;") ∈ nw_T := nw_T_in (List.mem_of_getElem? (i := 178) (by decide +kernel)) rfl
theorem kw_180 : (Jvm.Cond.laysFinal "HarvestPlans$Search" "HarvestPlans$Search" "trial" "[I") ∈ nw_T := nw_T_in (List.mem_of_getElem? (i := 180) (by decide +kernel)) rfl
theorem kw_182 : (Jvm.Cond.laysFinal "HarvestPlans$Search" "HarvestPlans$Search" "best" "[I") ∈ nw_T := nw_T_in (List.mem_of_getElem? (i := 182) (by decide +kernel)) rfl
theorem kw_184 : (Jvm.Cond.laysFinal "HarvestPlans$Search" "HarvestPlans$Search" "hopeFrom" "[J") ∈ nw_T := nw_T_in (List.mem_of_getElem? (i := 184) (by decide +kernel)) rfl
theorem kw_186 : (Jvm.Cond.lays "HarvestPlans$Search" "HarvestPlans$Search" "bestWorth" "J") ∈ nw_T := nw_T_in (List.mem_of_getElem? (i := 186) (by decide +kernel)) rfl
theorem kw_188 : (Jvm.Cond.lays "HarvestPlans$Search" "HarvestPlans$Search" "limit" "I") ∈ nw_T := nw_T_in (List.mem_of_getElem? (i := 188) (by decide +kernel)) rfl
theorem kw_190 : (Jvm.Cond.lays "HarvestPlans$Search" "HarvestPlans$Search" "made" "I") ∈ nw_T := nw_T_in (List.mem_of_getElem? (i := 190) (by decide +kernel)) rfl
theorem kw_192 : (Jvm.Cond.lays "HarvestPlans$Search" "HarvestPlans$Search" "spent" "Z") ∈ nw_T := nw_T_in (List.mem_of_getElem? (i := 192) (by decide +kernel)) rfl
theorem kw_194 : (Jvm.Cond.superclass "HarvestPlans$Search" "java/lang/Object") ∈ nw_T := nw_T_in (List.mem_of_getElem? (i := 194) (by decide +kernel)) rfl
theorem kw_195 : (Jvm.Cond.arrayClass Jvm.ClassFile.FieldType.long) ∈ nw_T := nw_T_in (List.mem_of_getElem? (i := 195) (by decide +kernel)) rfl
theorem kw_196 : (Jvm.Cond.methodLink "HarvestPlans" (56 : Nat) ({ cls := "java/util/Arrays", name := "fill", desc := "([II)V" } : Jvm.MethodName)) ∈ nw_T := nw_T_in (List.mem_of_getElem? (i := 196) (by decide +kernel)) rfl
theorem kw_197 : (Jvm.Cond.static ({ cls := "java/util/Arrays", name := "fill", desc := "([II)V" } : Jvm.MethodName)) ∈ nw_T := nw_T_in (List.mem_of_getElem? (i := 197) (by decide +kernel)) rfl
theorem kw_198 : (Jvm.Cond.code ({ cls := "java/util/Arrays", name := "fill", desc := "([II)V" } : Jvm.MethodName) prog_20_method_103_code (4 : Nat) (Option.none : Option Jvm.ClassFile.FieldType)) ∈ nw_T := nw_T_in (List.mem_of_getElem? (i := 198) (by decide +kernel)) rfl
theorem kw_199 : (Jvm.Cond.fieldLink "HarvestPlans" (31 : Nat) "HarvestPlans" "farm" "LHarvestPlans$Farm;") ∈ nw_T := nw_T_in (List.mem_of_getElem? (i := 199) (by decide +kernel)) rfl
theorem kw_200 : (Jvm.Cond.fieldLink "HarvestPlans" (35 : Nat) "HarvestPlans" "rules" "LHarvestPlans$Rules;") ∈ nw_T := nw_T_in (List.mem_of_getElem? (i := 200) (by decide +kernel)) rfl
theorem kw_201 : (Jvm.Cond.fieldLink "HarvestPlans" (39 : Nat) "HarvestPlans" "sales" "LHarvestPlans$Sales;") ∈ nw_T := nw_T_in (List.mem_of_getElem? (i := 201) (by decide +kernel)) rfl
theorem kw_202 : (Jvm.Cond.fieldLink "HarvestPlans" (48 : Nat) "HarvestPlans" "search" "LHarvestPlans$Search;") ∈ nw_T := nw_T_in (List.mem_of_getElem? (i := 202) (by decide +kernel)) rfl
theorem kw_203 : (Jvm.Cond.fieldLink "HarvestPlans" (52 : Nat) "HarvestPlans" "plan" "[I") ∈ nw_T := nw_T_in (List.mem_of_getElem? (i := 203) (by decide +kernel)) rfl
theorem kw_204 : (Jvm.Cond.fieldLink "HarvestPlans" (62 : Nat) "HarvestPlans" "planAtHand" "Z") ∈ nw_T := nw_T_in (List.mem_of_getElem? (i := 204) (by decide +kernel)) rfl
theorem kw_205 : (Jvm.Cond.laysFinal "HarvestPlans" "HarvestPlans" "farm" "LHarvestPlans$Farm;") ∈ nw_T := nw_T_in (List.mem_of_getElem? (i := 205) (by decide +kernel)) rfl
theorem kw_207 : (Jvm.Cond.laysFinal "HarvestPlans" "HarvestPlans" "rules" "LHarvestPlans$Rules;") ∈ nw_T := nw_T_in (List.mem_of_getElem? (i := 207) (by decide +kernel)) rfl
theorem kw_209 : (Jvm.Cond.laysFinal "HarvestPlans" "HarvestPlans" "sales" "LHarvestPlans$Sales;") ∈ nw_T := nw_T_in (List.mem_of_getElem? (i := 209) (by decide +kernel)) rfl
theorem kw_211 : (Jvm.Cond.laysFinal "HarvestPlans" "HarvestPlans" "search" "LHarvestPlans$Search;") ∈ nw_T := nw_T_in (List.mem_of_getElem? (i := 211) (by decide +kernel)) rfl
theorem kw_213 : (Jvm.Cond.laysFinal "HarvestPlans" "HarvestPlans" "plan" "[I") ∈ nw_T := nw_T_in (List.mem_of_getElem? (i := 213) (by decide +kernel)) rfl
theorem kw_215 : (Jvm.Cond.lays "HarvestPlans" "HarvestPlans" "planAtHand" "Z") ∈ nw_T := nw_T_in (List.mem_of_getElem? (i := 215) (by decide +kernel)) rfl
theorem kw_217 : (Jvm.Cond.superclass "HarvestPlans" "java/lang/Object") ∈ nw_T := nw_T_in (List.mem_of_getElem? (i := 217) (by decide +kernel)) rfl
theorem kw_218 : (Jvm.Cond.methodLink "HarvestPlansLaw" (117 : Nat) ({ cls := "HarvestPlans", name := "nodes", desc := "()I" } : Jvm.MethodName)) ∈ nw_T := nw_T_in (List.mem_of_getElem? (i := 218) (by decide +kernel)) rfl
theorem kw_219 : (Jvm.Cond.instanceMethod ({ cls := "HarvestPlans", name := "nodes", desc := "()I" } : Jvm.MethodName)) ∈ nw_T := nw_T_in (List.mem_of_getElem? (i := 219) (by decide +kernel)) rfl
theorem kw_220 : (Jvm.Cond.selects "HarvestPlans" ({ cls := "HarvestPlans", name := "nodes", desc := "()I" } : Jvm.MethodName) ({ cls := "HarvestPlans", name := "nodes", desc := "()I" } : Jvm.MethodName)) ∈ nw_T := nw_T_in (List.mem_of_getElem? (i := 220) (by decide +kernel)) rfl
theorem kw_221 : (Jvm.Cond.code ({ cls := "HarvestPlans", name := "nodes", desc := "()I" } : Jvm.MethodName) prog_1_method_12_code (1 : Nat) (Option.some Jvm.ClassFile.FieldType.int)) ∈ nw_T := nw_T_in (List.mem_of_getElem? (i := 221) (by decide +kernel)) rfl
theorem kw_222 : (Jvm.Cond.methodLink "HarvestPlansLaw" (121 : Nat) ({ cls := "HarvestPlans", name := "hope", desc := "()J" } : Jvm.MethodName)) ∈ nw_T := nw_T_in (List.mem_of_getElem? (i := 222) (by decide +kernel)) rfl
theorem kw_223 : (Jvm.Cond.instanceMethod ({ cls := "HarvestPlans", name := "hope", desc := "()J" } : Jvm.MethodName)) ∈ nw_T := nw_T_in (List.mem_of_getElem? (i := 223) (by decide +kernel)) rfl
theorem kw_224 : (Jvm.Cond.selects "HarvestPlans" ({ cls := "HarvestPlans", name := "hope", desc := "()J" } : Jvm.MethodName) ({ cls := "HarvestPlans", name := "hope", desc := "()J" } : Jvm.MethodName)) ∈ nw_T := nw_T_in (List.mem_of_getElem? (i := 224) (by decide +kernel)) rfl
theorem kw_225 : (Jvm.Cond.code ({ cls := "HarvestPlans", name := "hope", desc := "()J" } : Jvm.MethodName) prog_1_method_13_code (1 : Nat) (Option.some Jvm.ClassFile.FieldType.long)) ∈ nw_T := nw_T_in (List.mem_of_getElem? (i := 225) (by decide +kernel)) rfl
theorem kn_226 : (Jvm.Cond.methodLinkNest "HarvestPlans" (188 : Nat) ({ cls := "HarvestPlans$Search", name := "hopeBeforeAny", desc := "()J" } : Jvm.MethodName) "HarvestPlans") ∈ lw_tbl := List.mem_append_right _ (List.mem_of_getElem? (i := 226) (by decide +kernel))
theorem kw_228 : (Jvm.Cond.instanceMethod ({ cls := "HarvestPlans$Search", name := "hopeBeforeAny", desc := "()J" } : Jvm.MethodName)) ∈ nw_T := nw_T_in (List.mem_of_getElem? (i := 228) (by decide +kernel)) rfl
theorem kw_229 : (Jvm.Cond.code ({ cls := "HarvestPlans$Search", name := "hopeBeforeAny", desc := "()J" } : Jvm.MethodName) prog_9_method_4_code (1 : Nat) (Option.some Jvm.ClassFile.FieldType.long)) ∈ nw_T := nw_T_in (List.mem_of_getElem? (i := 229) (by decide +kernel)) rfl
theorem kw_230 : (Jvm.Cond.methodLink "HarvestPlans$Search" (57 : Nat) ({ cls := "HarvestPlans$Search", name := "foretell", desc := "()V" } : Jvm.MethodName)) ∈ nw_T := nw_T_in (List.mem_of_getElem? (i := 230) (by decide +kernel)) rfl
theorem kw_232 : (Jvm.Cond.instanceMethod ({ cls := "HarvestPlans$Search", name := "foretell", desc := "()V" } : Jvm.MethodName)) ∈ nw_T := nw_T_in (List.mem_of_getElem? (i := 232) (by decide +kernel)) rfl
theorem kw_233 : (Jvm.Cond.code ({ cls := "HarvestPlans$Search", name := "foretell", desc := "()V" } : Jvm.MethodName) prog_9_method_5_code (2 : Nat) (Option.none : Option Jvm.ClassFile.FieldType)) ∈ nw_T := nw_T_in (List.mem_of_getElem? (i := 233) (by decide +kernel)) rfl
theorem kn_234 : (Jvm.Cond.methodLinkNest "HarvestPlans$Search" (69 : Nat) ({ cls := "HarvestPlans$Farm", name := "greatestTop", desc := "(I)J" } : Jvm.MethodName) "HarvestPlans") ∈ lw_tbl := List.mem_append_right _ (List.mem_of_getElem? (i := 234) (by decide +kernel))
theorem kw_236 : (Jvm.Cond.instanceMethod ({ cls := "HarvestPlans$Farm", name := "greatestTop", desc := "(I)J" } : Jvm.MethodName)) ∈ nw_T := nw_T_in (List.mem_of_getElem? (i := 236) (by decide +kernel)) rfl
theorem kw_237 : (Jvm.Cond.code ({ cls := "HarvestPlans$Farm", name := "greatestTop", desc := "(I)J" } : Jvm.MethodName) prog_4_method_8_code (5 : Nat) (Option.some Jvm.ClassFile.FieldType.long)) ∈ nw_T := nw_T_in (List.mem_of_getElem? (i := 237) (by decide +kernel)) rfl
theorem kw_238 : (Jvm.Cond.methodLink "HarvestPlans$Farm" (67 : Nat) ({ cls := "HarvestPlans$Farm", name := "centsKept", desc := "(I)J" } : Jvm.MethodName)) ∈ nw_T := nw_T_in (List.mem_of_getElem? (i := 238) (by decide +kernel)) rfl
theorem kw_240 : (Jvm.Cond.instanceMethod ({ cls := "HarvestPlans$Farm", name := "centsKept", desc := "(I)J" } : Jvm.MethodName)) ∈ nw_T := nw_T_in (List.mem_of_getElem? (i := 240) (by decide +kernel)) rfl
theorem kw_241 : (Jvm.Cond.code ({ cls := "HarvestPlans$Farm", name := "centsKept", desc := "(I)J" } : Jvm.MethodName) prog_4_method_6_code (2 : Nat) (Option.some Jvm.ClassFile.FieldType.long)) ∈ nw_T := nw_T_in (List.mem_of_getElem? (i := 241) (by decide +kernel)) rfl
theorem kw_242 : (Jvm.Cond.methodLink "HarvestPlans$Farm" (84 : Nat) ({ cls := "HarvestPlans$Farm", name := "top", desc := "(II)J" } : Jvm.MethodName)) ∈ nw_T := nw_T_in (List.mem_of_getElem? (i := 242) (by decide +kernel)) rfl
theorem kw_244 : (Jvm.Cond.instanceMethod ({ cls := "HarvestPlans$Farm", name := "top", desc := "(II)J" } : Jvm.MethodName)) ∈ nw_T := nw_T_in (List.mem_of_getElem? (i := 244) (by decide +kernel)) rfl
theorem kw_245 : (Jvm.Cond.code ({ cls := "HarvestPlans$Farm", name := "top", desc := "(II)J" } : Jvm.MethodName) prog_4_method_7_code (5 : Nat) (Option.some Jvm.ClassFile.FieldType.long)) ∈ nw_T := nw_T_in (List.mem_of_getElem? (i := 245) (by decide +kernel)) rfl
theorem kn_246 : (Jvm.Cond.methodLinkNest "HarvestPlans$Farm" (74 : Nat) ({ cls := "HarvestPlans$Order", name := "wants", desc := "(LHarvestPlans$Cage;I)Z" } : Jvm.MethodName) "HarvestPlans") ∈ lw_tbl := List.mem_append_right _ (List.mem_of_getElem? (i := 246) (by decide +kernel))
theorem kw_248 : (Jvm.Cond.instanceMethod ({ cls := "HarvestPlans$Order", name := "wants", desc := "(LHarvestPlans$Cage;I)Z" } : Jvm.MethodName)) ∈ nw_T := nw_T_in (List.mem_of_getElem? (i := 248) (by decide +kernel)) rfl
theorem kw_249 : (Jvm.Cond.instantiable "HarvestPlans$Order" (5 : Nat)) ∈ nw_T := nw_T_in (List.mem_of_getElem? (i := 249) (by decide +kernel)) rfl
theorem kw_250 : (Jvm.Cond.code ({ cls := "HarvestPlans$Order", name := "wants", desc := "(LHarvestPlans$Cage;I)Z" } : Jvm.MethodName) prog_5_method_2_code (3 : Nat) (Option.some Jvm.ClassFile.FieldType.boolean)) ∈ nw_T := nw_T_in (List.mem_of_getElem? (i := 250) (by decide +kernel)) rfl
theorem kw_251 : (Jvm.Cond.methodLink "HarvestPlans$Farm" (78 : Nat) ({ cls := "java/lang/Math", name := "max", desc := "(II)I" } : Jvm.MethodName)) ∈ nw_T := nw_T_in (List.mem_of_getElem? (i := 251) (by decide +kernel)) rfl
theorem kw_252 : (Jvm.Cond.methodLink "HarvestPlans$Farm" (88 : Nat) ({ cls := "java/lang/Math", name := "max", desc := "(JJ)J" } : Jvm.MethodName)) ∈ nw_T := nw_T_in (List.mem_of_getElem? (i := 252) (by decide +kernel)) rfl
theorem kw_253 : (Jvm.Cond.static ({ cls := "java/lang/Math", name := "max", desc := "(JJ)J" } : Jvm.MethodName)) ∈ nw_T := nw_T_in (List.mem_of_getElem? (i := 253) (by decide +kernel)) rfl
theorem kw_254 : (Jvm.Cond.code ({ cls := "java/lang/Math", name := "max", desc := "(JJ)J" } : Jvm.MethodName) prog_15_method_66_code (4 : Nat) (Option.some Jvm.ClassFile.FieldType.long)) ∈ nw_T := nw_T_in (List.mem_of_getElem? (i := 254) (by decide +kernel)) rfl
theorem kw_255 : (Jvm.Cond.methodLink "HarvestPlansLaw" (66 : Nat) ({ cls := "HarvestPlansLaw", name := "cell", desc := "([II)I" } : Jvm.MethodName)) ∈ nw_T := nw_T_in (List.mem_of_getElem? (i := 255) (by decide +kernel)) rfl
theorem kw_256 : (Jvm.Cond.static ({ cls := "HarvestPlansLaw", name := "cell", desc := "([II)I" } : Jvm.MethodName)) ∈ nw_T := nw_T_in (List.mem_of_getElem? (i := 256) (by decide +kernel)) rfl
theorem kw_257 : (Jvm.Cond.code ({ cls := "HarvestPlansLaw", name := "cell", desc := "([II)I" } : Jvm.MethodName) method_2_code (2 : Nat) (Option.some Jvm.ClassFile.FieldType.int)) ∈ nw_T := nw_T_in (List.mem_of_getElem? (i := 257) (by decide +kernel)) rfl
theorem kw_258 : (Jvm.Cond.methodLink "HarvestPlansLaw" (78 : Nat) ({ cls := "HarvestPlansLaw", name := "place", desc := "(LHarvestPlans;I[J)I" } : Jvm.MethodName)) ∈ nw_T := nw_T_in (List.mem_of_getElem? (i := 258) (by decide +kernel)) rfl
theorem kw_259 : (Jvm.Cond.static ({ cls := "HarvestPlansLaw", name := "place", desc := "(LHarvestPlans;I[J)I" } : Jvm.MethodName)) ∈ nw_T := nw_T_in (List.mem_of_getElem? (i := 259) (by decide +kernel)) rfl
-- 260: codeWith
theorem kt_260 : (Jvm.Cond.codeWith ({ cls := "HarvestPlansLaw", name := "place", desc := "(LHarvestPlans;I[J)I" } : Jvm.MethodName) method_3_code (4 : Nat) (Option.some Jvm.ClassFile.FieldType.int) [((0 : Nat), (9 : Nat), (12 : Nat), (13 : Nat)), ((0 : Nat), (9 : Nat), (15 : Nat), (15 : Nat))]) ∈ tables_1 := List.mem_of_getElem? (i := 260) (by decide +kernel)
theorem kw_261 : (Jvm.Cond.classLink "HarvestPlansLaw" (13 : Nat) "java/lang/IllegalArgumentException") ∈ nw_T := nw_T_in (List.mem_of_getElem? (i := 261) (by decide +kernel)) rfl
theorem kw_262 : (Jvm.Cond.classLink "HarvestPlansLaw" (15 : Nat) "java/lang/IllegalStateException") ∈ nw_T := nw_T_in (List.mem_of_getElem? (i := 262) (by decide +kernel)) rfl
theorem kw_263 : (Jvm.Cond.methodLink "HarvestPlansLaw" (7 : Nat) ({ cls := "HarvestPlans", name := "place", desc := "(I)I" } : Jvm.MethodName)) ∈ nw_T := nw_T_in (List.mem_of_getElem? (i := 263) (by decide +kernel)) rfl
theorem kw_264 : (Jvm.Cond.instanceMethod ({ cls := "HarvestPlans", name := "place", desc := "(I)I" } : Jvm.MethodName)) ∈ nw_T := nw_T_in (List.mem_of_getElem? (i := 264) (by decide +kernel)) rfl
theorem kw_265 : (Jvm.Cond.selects "HarvestPlans" ({ cls := "HarvestPlans", name := "place", desc := "(I)I" } : Jvm.MethodName) ({ cls := "HarvestPlans", name := "place", desc := "(I)I" } : Jvm.MethodName)) ∈ nw_T := nw_T_in (List.mem_of_getElem? (i := 265) (by decide +kernel)) rfl
theorem kw_266 : (Jvm.Cond.code ({ cls := "HarvestPlans", name := "place", desc := "(I)I" } : Jvm.MethodName) prog_1_method_2_code (2 : Nat) (Option.some Jvm.ClassFile.FieldType.int)) ∈ nw_T := nw_T_in (List.mem_of_getElem? (i := 266) (by decide +kernel)) rfl
theorem kw_267 : (Jvm.Cond.constant "HarvestPlans" (66 : Nat) (100000000 : Int32)) ∈ nw_T := nw_T_in (List.mem_of_getElem? (i := 267) (by decide +kernel)) rfl
theorem kw_268 : (Jvm.Cond.methodLink "HarvestPlans" (67 : Nat) ({ cls := "HarvestPlans", name := "requireWithin", desc := "(III)V" } : Jvm.MethodName)) ∈ nw_T := nw_T_in (List.mem_of_getElem? (i := 268) (by decide +kernel)) rfl
theorem kw_269 : (Jvm.Cond.static ({ cls := "HarvestPlans", name := "requireWithin", desc := "(III)V" } : Jvm.MethodName)) ∈ nw_T := nw_T_in (List.mem_of_getElem? (i := 269) (by decide +kernel)) rfl
theorem kw_270 : (Jvm.Cond.code ({ cls := "HarvestPlans", name := "requireWithin", desc := "(III)V" } : Jvm.MethodName) prog_1_method_23_code (3 : Nat) (Option.none : Option Jvm.ClassFile.FieldType)) ∈ nw_T := nw_T_in (List.mem_of_getElem? (i := 270) (by decide +kernel)) rfl
theorem kw_271 : (Jvm.Cond.classLink "HarvestPlans" (213 : Nat) "java/lang/IllegalArgumentException") ∈ nw_T := nw_T_in (List.mem_of_getElem? (i := 271) (by decide +kernel)) rfl
theorem kw_272 : (Jvm.Cond.instantiable "java/lang/IllegalArgumentException" (6 : Nat)) ∈ nw_T := nw_T_in (List.mem_of_getElem? (i := 272) (by decide +kernel)) rfl
-- 273: castable
theorem kt_273 : (Jvm.Cond.castable "java/lang/IllegalArgumentException" "java/lang/IllegalArgumentException") ∈ tables_1 := List.mem_of_getElem? (i := 273) (by decide +kernel)
-- 274: declares
theorem kt_274 : (Jvm.Cond.declares ({ cls := "java/lang/RuntimeException", name := "<init>", desc := "()V" } : Jvm.MethodName)) ∈ tables_1 := List.mem_of_getElem? (i := 274) (by decide +kernel)
-- 275: declares
theorem kt_275 : (Jvm.Cond.declares ({ cls := "java/lang/RuntimeException", name := "<init>", desc := "(Ljava/lang/String;)V" } : Jvm.MethodName)) ∈ tables_1 := List.mem_of_getElem? (i := 275) (by decide +kernel)
-- 276: declares
theorem kt_276 : (Jvm.Cond.declares ({ cls := "java/lang/Exception", name := "<init>", desc := "()V" } : Jvm.MethodName)) ∈ tables_1 := List.mem_of_getElem? (i := 276) (by decide +kernel)
-- 277: declares
theorem kt_277 : (Jvm.Cond.declares ({ cls := "java/lang/Exception", name := "<init>", desc := "(Ljava/lang/String;)V" } : Jvm.MethodName)) ∈ tables_1 := List.mem_of_getElem? (i := 277) (by decide +kernel)
-- 278: declares
theorem kt_278 : (Jvm.Cond.declares ({ cls := "java/lang/Throwable", name := "<init>", desc := "()V" } : Jvm.MethodName)) ∈ tables_1 := List.mem_of_getElem? (i := 278) (by decide +kernel)
-- 279: declares
theorem kt_279 : (Jvm.Cond.declares ({ cls := "java/lang/Throwable", name := "<init>", desc := "(Ljava/lang/String;)V" } : Jvm.MethodName)) ∈ tables_1 := List.mem_of_getElem? (i := 279) (by decide +kernel)
theorem kw_280 : (Jvm.Cond.selects "java/lang/IllegalArgumentException" ({ cls := "java/lang/Throwable", name := "fillInStackTrace", desc := "(I)Ljava/lang/Throwable;" } : Jvm.MethodName) ({ cls := "java/lang/Throwable", name := "fillInStackTrace", desc := "(I)Ljava/lang/Throwable;" } : Jvm.MethodName)) ∈ nw_T := nw_T_in (List.mem_of_getElem? (i := 280) (by decide +kernel)) rfl
theorem kw_281 : (Jvm.Cond.selects "java/lang/IllegalArgumentException" ({ cls := "java/lang/Throwable", name := "fillInStackTrace", desc := "()Ljava/lang/Throwable;" } : Jvm.MethodName) ({ cls := "java/lang/Throwable", name := "fillInStackTrace", desc := "()Ljava/lang/Throwable;" } : Jvm.MethodName)) ∈ nw_T := nw_T_in (List.mem_of_getElem? (i := 281) (by decide +kernel)) rfl
theorem kw_282 : (Jvm.Cond.lays "java/lang/IllegalArgumentException" "java/lang/Throwable" "cause" "Ljava/lang/Throwable;") ∈ nw_T := nw_T_in (List.mem_of_getElem? (i := 282) (by decide +kernel)) rfl
theorem kw_283 : (Jvm.Cond.lays "java/lang/Throwable" "java/lang/Throwable" "cause" "Ljava/lang/Throwable;") ∈ nw_T := nw_T_in (List.mem_of_getElem? (i := 283) (by decide +kernel)) rfl
theorem kw_284 : (Jvm.Cond.lays "java/lang/IllegalArgumentException" "java/lang/Throwable" "stackTrace" "[Ljava/lang/StackTraceElement;") ∈ nw_T := nw_T_in (List.mem_of_getElem? (i := 284) (by decide +kernel)) rfl
theorem kw_285 : (Jvm.Cond.lays "java/lang/Throwable" "java/lang/Throwable" "stackTrace" "[Ljava/lang/StackTraceElement;") ∈ nw_T := nw_T_in (List.mem_of_getElem? (i := 285) (by decide +kernel)) rfl
theorem kw_286 : (Jvm.Cond.lays "java/lang/IllegalArgumentException" "java/lang/Throwable" "suppressedExceptions" "Ljava/util/List;") ∈ nw_T := nw_T_in (List.mem_of_getElem? (i := 286) (by decide +kernel)) rfl
theorem kw_287 : (Jvm.Cond.lays "java/lang/Throwable" "java/lang/Throwable" "suppressedExceptions" "Ljava/util/List;") ∈ nw_T := nw_T_in (List.mem_of_getElem? (i := 287) (by decide +kernel)) rfl
theorem kw_288 : (Jvm.Cond.lays "java/lang/IllegalArgumentException" "java/lang/Throwable" "detailMessage" "Ljava/lang/String;") ∈ nw_T := nw_T_in (List.mem_of_getElem? (i := 288) (by decide +kernel)) rfl
theorem kw_289 : (Jvm.Cond.lays "java/lang/Throwable" "java/lang/Throwable" "detailMessage" "Ljava/lang/String;") ∈ nw_T := nw_T_in (List.mem_of_getElem? (i := 289) (by decide +kernel)) rfl
theorem kw_290 : (Jvm.Cond.lays "java/lang/IllegalArgumentException" "java/lang/Throwable" "backtrace" "Ljava/lang/Object;") ∈ nw_T := nw_T_in (List.mem_of_getElem? (i := 290) (by decide +kernel)) rfl
theorem kw_291 : (Jvm.Cond.lays "java/lang/Throwable" "java/lang/Throwable" "backtrace" "Ljava/lang/Object;") ∈ nw_T := nw_T_in (List.mem_of_getElem? (i := 291) (by decide +kernel)) rfl
theorem kw_292 : (Jvm.Cond.fieldLink "java/lang/Throwable" (198 : Nat) "java/lang/Throwable" "backtrace" "Ljava/lang/Object;") ∈ nw_T := nw_T_in (List.mem_of_getElem? (i := 292) (by decide +kernel)) rfl
theorem kw_293 : (Jvm.Cond.superclass "java/lang/Throwable" "java/lang/Object") ∈ nw_T := nw_T_in (List.mem_of_getElem? (i := 293) (by decide +kernel)) rfl
theorem kw_294 : (Jvm.Cond.instanceMethod ({ cls := "java/lang/Throwable", name := "<init>", desc := "()V" } : Jvm.MethodName)) ∈ nw_T := nw_T_in (List.mem_of_getElem? (i := 294) (by decide +kernel)) rfl
theorem kw_295 : (Jvm.Cond.code ({ cls := "java/lang/Throwable", name := "<init>", desc := "()V" } : Jvm.MethodName) prog_19_method_1_code (1 : Nat) (Option.none : Option Jvm.ClassFile.FieldType)) ∈ nw_T := nw_T_in (List.mem_of_getElem? (i := 295) (by decide +kernel)) rfl
theorem kw_296 : (Jvm.Cond.methodLink "java/lang/Throwable" (1 : Nat) ({ cls := "java/lang/Object", name := "<init>", desc := "()V" } : Jvm.MethodName)) ∈ nw_T := nw_T_in (List.mem_of_getElem? (i := 296) (by decide +kernel)) rfl
theorem kw_297 : (Jvm.Cond.fieldLink "java/lang/Throwable" (13 : Nat) "java/lang/Throwable" "UNASSIGNED_STACK" "[Ljava/lang/StackTraceElement;") ∈ nw_T := nw_T_in (List.mem_of_getElem? (i := 297) (by decide +kernel)) rfl
-- 298: laysStatic
theorem kt_298 : (Jvm.Cond.laysStatic "java/lang/Throwable" "UNASSIGNED_STACK" "[Ljava/lang/StackTraceElement;") ∈ tables_1 := List.mem_of_getElem? (i := 298) (by decide +kernel)
theorem kw_299 : (Jvm.Cond.fieldLink "java/lang/Throwable" (20 : Nat) "java/lang/Throwable" "SUPPRESSED_SENTINEL" "Ljava/util/List;") ∈ nw_T := nw_T_in (List.mem_of_getElem? (i := 299) (by decide +kernel)) rfl
-- 300: laysStatic
theorem kt_300 : (Jvm.Cond.laysStatic "java/lang/Throwable" "SUPPRESSED_SENTINEL" "Ljava/util/List;") ∈ tables_1 := List.mem_of_getElem? (i := 300) (by decide +kernel)
theorem kw_301 : (Jvm.Cond.methodLink "java/lang/Throwable" (27 : Nat) ({ cls := "java/lang/Throwable", name := "fillInStackTrace", desc := "()Ljava/lang/Throwable;" } : Jvm.MethodName)) ∈ nw_T := nw_T_in (List.mem_of_getElem? (i := 301) (by decide +kernel)) rfl
theorem kw_302 : (Jvm.Cond.instanceMethod ({ cls := "java/lang/Throwable", name := "fillInStackTrace", desc := "()Ljava/lang/Throwable;" } : Jvm.MethodName)) ∈ nw_T := nw_T_in (List.mem_of_getElem? (i := 302) (by decide +kernel)) rfl
theorem kw_303 : (Jvm.Cond.sameMethod "java/lang/Throwable" "java/lang/Throwable" "fillInStackTrace" "()Ljava/lang/Throwable;") ∈ nw_T := nw_T_in (List.mem_of_getElem? (i := 303) (by decide +kernel)) rfl
theorem kw_304 : (Jvm.Cond.selects "java/lang/IllegalStateException" ({ cls := "java/lang/Throwable", name := "fillInStackTrace", desc := "()Ljava/lang/Throwable;" } : Jvm.MethodName) ({ cls := "java/lang/Throwable", name := "fillInStackTrace", desc := "()Ljava/lang/Throwable;" } : Jvm.MethodName)) ∈ nw_T := nw_T_in (List.mem_of_getElem? (i := 304) (by decide +kernel)) rfl
-- 305: codeSync
theorem kt_305 : (Jvm.Cond.codeSync ({ cls := "java/lang/Throwable", name := "fillInStackTrace", desc := "()Ljava/lang/Throwable;" } : Jvm.MethodName) prog_19_method_18_code (1 : Nat) (Option.some (Jvm.ClassFile.FieldType.object "java/lang/Throwable"))) ∈ tables_1 := List.mem_of_getElem? (i := 305) (by decide +kernel)
theorem kw_306 : (Jvm.Cond.methodLink "java/lang/Throwable" (202 : Nat) ({ cls := "java/lang/Throwable", name := "fillInStackTrace", desc := "(I)Ljava/lang/Throwable;" } : Jvm.MethodName)) ∈ nw_T := nw_T_in (List.mem_of_getElem? (i := 306) (by decide +kernel)) rfl
theorem kw_308 : (Jvm.Cond.instanceMethod ({ cls := "java/lang/Throwable", name := "fillInStackTrace", desc := "(I)Ljava/lang/Throwable;" } : Jvm.MethodName)) ∈ nw_T := nw_T_in (List.mem_of_getElem? (i := 308) (by decide +kernel)) rfl
theorem kw_309 : (Jvm.Cond.instantiable "java/lang/Throwable" (6 : Nat)) ∈ nw_T := nw_T_in (List.mem_of_getElem? (i := 309) (by decide +kernel)) rfl
-- 310: native
theorem kt_310 : (Jvm.Cond.native ({ cls := "java/lang/Throwable", name := "fillInStackTrace", desc := "(I)Ljava/lang/Throwable;" } : Jvm.MethodName)) ∈ tables_1 := List.mem_of_getElem? (i := 310) (by decide +kernel)
-- 311: stringRef
theorem kt_311 : (Jvm.Cond.stringRef "HarvestPlans" (218 : Nat) "a number is out of its bounds") ∈ tables_1 := List.mem_of_getElem? (i := 311) (by decide +kernel)
theorem kw_312 : (Jvm.Cond.methodLink "HarvestPlans" (217 : Nat) ({ cls := "java/lang/IllegalArgumentException", name := "<init>", desc := "(Ljava/lang/String;)V" } : Jvm.MethodName)) ∈ nw_T := nw_T_in (List.mem_of_getElem? (i := 312) (by decide +kernel)) rfl
theorem kw_313 : (Jvm.Cond.instanceMethod ({ cls := "java/lang/IllegalArgumentException", name := "<init>", desc := "(Ljava/lang/String;)V" } : Jvm.MethodName)) ∈ nw_T := nw_T_in (List.mem_of_getElem? (i := 313) (by decide +kernel)) rfl
theorem kw_314 : (Jvm.Cond.code ({ cls := "java/lang/IllegalArgumentException", name := "<init>", desc := "(Ljava/lang/String;)V" } : Jvm.MethodName) prog_13_method_2_code (2 : Nat) (Option.none : Option Jvm.ClassFile.FieldType)) ∈ nw_T := nw_T_in (List.mem_of_getElem? (i := 314) (by decide +kernel)) rfl
theorem kw_315 : (Jvm.Cond.methodLink "java/lang/IllegalArgumentException" (7 : Nat) ({ cls := "java/lang/RuntimeException", name := "<init>", desc := "(Ljava/lang/String;)V" } : Jvm.MethodName)) ∈ nw_T := nw_T_in (List.mem_of_getElem? (i := 315) (by decide +kernel)) rfl
theorem kw_316 : (Jvm.Cond.instanceMethod ({ cls := "java/lang/RuntimeException", name := "<init>", desc := "(Ljava/lang/String;)V" } : Jvm.MethodName)) ∈ nw_T := nw_T_in (List.mem_of_getElem? (i := 316) (by decide +kernel)) rfl
theorem kw_317 : (Jvm.Cond.code ({ cls := "java/lang/RuntimeException", name := "<init>", desc := "(Ljava/lang/String;)V" } : Jvm.MethodName) prog_16_method_2_code (2 : Nat) (Option.none : Option Jvm.ClassFile.FieldType)) ∈ nw_T := nw_T_in (List.mem_of_getElem? (i := 317) (by decide +kernel)) rfl
theorem kw_318 : (Jvm.Cond.methodLink "java/lang/RuntimeException" (7 : Nat) ({ cls := "java/lang/Exception", name := "<init>", desc := "(Ljava/lang/String;)V" } : Jvm.MethodName)) ∈ nw_T := nw_T_in (List.mem_of_getElem? (i := 318) (by decide +kernel)) rfl
theorem kw_319 : (Jvm.Cond.instanceMethod ({ cls := "java/lang/Exception", name := "<init>", desc := "(Ljava/lang/String;)V" } : Jvm.MethodName)) ∈ nw_T := nw_T_in (List.mem_of_getElem? (i := 319) (by decide +kernel)) rfl
theorem kw_320 : (Jvm.Cond.code ({ cls := "java/lang/Exception", name := "<init>", desc := "(Ljava/lang/String;)V" } : Jvm.MethodName) prog_12_method_2_code (2 : Nat) (Option.none : Option Jvm.ClassFile.FieldType)) ∈ nw_T := nw_T_in (List.mem_of_getElem? (i := 320) (by decide +kernel)) rfl
theorem kw_321 : (Jvm.Cond.methodLink "java/lang/Exception" (7 : Nat) ({ cls := "java/lang/Throwable", name := "<init>", desc := "(Ljava/lang/String;)V" } : Jvm.MethodName)) ∈ nw_T := nw_T_in (List.mem_of_getElem? (i := 321) (by decide +kernel)) rfl
theorem kw_322 : (Jvm.Cond.instanceMethod ({ cls := "java/lang/Throwable", name := "<init>", desc := "(Ljava/lang/String;)V" } : Jvm.MethodName)) ∈ nw_T := nw_T_in (List.mem_of_getElem? (i := 322) (by decide +kernel)) rfl
theorem kw_323 : (Jvm.Cond.code ({ cls := "java/lang/Throwable", name := "<init>", desc := "(Ljava/lang/String;)V" } : Jvm.MethodName) prog_19_method_2_code (2 : Nat) (Option.none : Option Jvm.ClassFile.FieldType)) ∈ nw_T := nw_T_in (List.mem_of_getElem? (i := 323) (by decide +kernel)) rfl
theorem kw_324 : (Jvm.Cond.fieldLink "java/lang/Throwable" (198 : Nat) "java/lang/Throwable" "backtrace" "Ljava/lang/Object;") ∈ nw_T := nw_T_in (List.mem_of_getElem? (i := 324) (by decide +kernel)) rfl
theorem kw_325 : (Jvm.Cond.fieldLink "java/lang/Throwable" (31 : Nat) "java/lang/Throwable" "detailMessage" "Ljava/lang/String;") ∈ nw_T := nw_T_in (List.mem_of_getElem? (i := 325) (by decide +kernel)) rfl
theorem kw_326 : (Jvm.Cond.fieldLink "java/lang/Throwable" (7 : Nat) "java/lang/Throwable" "cause" "Ljava/lang/Throwable;") ∈ nw_T := nw_T_in (List.mem_of_getElem? (i := 326) (by decide +kernel)) rfl
theorem kw_327 : (Jvm.Cond.fieldLink "java/lang/Throwable" (17 : Nat) "java/lang/Throwable" "stackTrace" "[Ljava/lang/StackTraceElement;") ∈ nw_T := nw_T_in (List.mem_of_getElem? (i := 327) (by decide +kernel)) rfl
theorem kw_328 : (Jvm.Cond.fieldLink "java/lang/Throwable" (24 : Nat) "java/lang/Throwable" "suppressedExceptions" "Ljava/util/List;") ∈ nw_T := nw_T_in (List.mem_of_getElem? (i := 328) (by decide +kernel)) rfl
theorem kw_333 : (Jvm.Cond.lays "java/lang/IllegalArgumentException" "java/lang/Throwable" "depth" "I") ∈ nw_T := nw_T_in (List.mem_of_getElem? (i := 333) (by decide +kernel)) rfl
theorem kw_336 : (Jvm.Cond.superclass "java/lang/IllegalArgumentException" "java/lang/RuntimeException") ∈ nw_T := nw_T_in (List.mem_of_getElem? (i := 336) (by decide +kernel)) rfl
theorem kw_337 : (Jvm.Cond.arrayClass Jvm.ClassFile.FieldType.byte) ∈ nw_T := nw_T_in (List.mem_of_getElem? (i := 337) (by decide +kernel)) rfl
theorem kw_338 : (Jvm.Cond.methodLink "HarvestPlans" (75 : Nat) ({ cls := "HarvestPlans", name := "requireRoom", desc := "(II)V" } : Jvm.MethodName)) ∈ nw_T := nw_T_in (List.mem_of_getElem? (i := 338) (by decide +kernel)) rfl
theorem kw_339 : (Jvm.Cond.static ({ cls := "HarvestPlans", name := "requireRoom", desc := "(II)V" } : Jvm.MethodName)) ∈ nw_T := nw_T_in (List.mem_of_getElem? (i := 339) (by decide +kernel)) rfl
theorem kw_340 : (Jvm.Cond.code ({ cls := "HarvestPlans", name := "requireRoom", desc := "(II)V" } : Jvm.MethodName) prog_1_method_24_code (2 : Nat) (Option.none : Option Jvm.ClassFile.FieldType)) ∈ nw_T := nw_T_in (List.mem_of_getElem? (i := 340) (by decide +kernel)) rfl
theorem kw_341 : (Jvm.Cond.classLink "HarvestPlans" (206 : Nat) "java/lang/IllegalStateException") ∈ nw_T := nw_T_in (List.mem_of_getElem? (i := 341) (by decide +kernel)) rfl
theorem kw_342 : (Jvm.Cond.instantiable "java/lang/IllegalStateException" (6 : Nat)) ∈ nw_T := nw_T_in (List.mem_of_getElem? (i := 342) (by decide +kernel)) rfl
-- 343: castable
theorem kt_343 : (Jvm.Cond.castable "java/lang/IllegalStateException" "java/lang/IllegalStateException") ∈ tables_1 := List.mem_of_getElem? (i := 343) (by decide +kernel)
theorem kw_344 : (Jvm.Cond.selects "java/lang/IllegalStateException" ({ cls := "java/lang/Throwable", name := "fillInStackTrace", desc := "(I)Ljava/lang/Throwable;" } : Jvm.MethodName) ({ cls := "java/lang/Throwable", name := "fillInStackTrace", desc := "(I)Ljava/lang/Throwable;" } : Jvm.MethodName)) ∈ nw_T := nw_T_in (List.mem_of_getElem? (i := 344) (by decide +kernel)) rfl
theorem kw_345 : (Jvm.Cond.lays "java/lang/IllegalStateException" "java/lang/Throwable" "cause" "Ljava/lang/Throwable;") ∈ nw_T := nw_T_in (List.mem_of_getElem? (i := 345) (by decide +kernel)) rfl
theorem kw_346 : (Jvm.Cond.lays "java/lang/IllegalStateException" "java/lang/Throwable" "stackTrace" "[Ljava/lang/StackTraceElement;") ∈ nw_T := nw_T_in (List.mem_of_getElem? (i := 346) (by decide +kernel)) rfl
theorem kw_347 : (Jvm.Cond.lays "java/lang/IllegalStateException" "java/lang/Throwable" "suppressedExceptions" "Ljava/util/List;") ∈ nw_T := nw_T_in (List.mem_of_getElem? (i := 347) (by decide +kernel)) rfl
theorem kw_348 : (Jvm.Cond.lays "java/lang/IllegalStateException" "java/lang/Throwable" "detailMessage" "Ljava/lang/String;") ∈ nw_T := nw_T_in (List.mem_of_getElem? (i := 348) (by decide +kernel)) rfl
theorem kw_349 : (Jvm.Cond.lays "java/lang/IllegalStateException" "java/lang/Throwable" "backtrace" "Ljava/lang/Object;") ∈ nw_T := nw_T_in (List.mem_of_getElem? (i := 349) (by decide +kernel)) rfl
-- 350: stringRef
theorem kt_350 : (Jvm.Cond.stringRef "HarvestPlans" (220 : Nat) "there are as many as there may be") ∈ tables_1 := List.mem_of_getElem? (i := 350) (by decide +kernel)
theorem kw_351 : (Jvm.Cond.methodLink "HarvestPlans" (210 : Nat) ({ cls := "java/lang/IllegalStateException", name := "<init>", desc := "(Ljava/lang/String;)V" } : Jvm.MethodName)) ∈ nw_T := nw_T_in (List.mem_of_getElem? (i := 351) (by decide +kernel)) rfl
theorem kw_352 : (Jvm.Cond.instanceMethod ({ cls := "java/lang/IllegalStateException", name := "<init>", desc := "(Ljava/lang/String;)V" } : Jvm.MethodName)) ∈ nw_T := nw_T_in (List.mem_of_getElem? (i := 352) (by decide +kernel)) rfl
theorem kw_353 : (Jvm.Cond.code ({ cls := "java/lang/IllegalStateException", name := "<init>", desc := "(Ljava/lang/String;)V" } : Jvm.MethodName) prog_14_method_2_code (2 : Nat) (Option.none : Option Jvm.ClassFile.FieldType)) ∈ nw_T := nw_T_in (List.mem_of_getElem? (i := 353) (by decide +kernel)) rfl
theorem kw_354 : (Jvm.Cond.methodLink "java/lang/IllegalStateException" (7 : Nat) ({ cls := "java/lang/RuntimeException", name := "<init>", desc := "(Ljava/lang/String;)V" } : Jvm.MethodName)) ∈ nw_T := nw_T_in (List.mem_of_getElem? (i := 354) (by decide +kernel)) rfl
theorem kw_355 : (Jvm.Cond.lays "java/lang/IllegalStateException" "java/lang/Throwable" "depth" "I") ∈ nw_T := nw_T_in (List.mem_of_getElem? (i := 355) (by decide +kernel)) rfl
theorem kw_356 : (Jvm.Cond.superclass "java/lang/IllegalStateException" "java/lang/RuntimeException") ∈ nw_T := nw_T_in (List.mem_of_getElem? (i := 356) (by decide +kernel)) rfl
theorem kw_357 : (Jvm.Cond.methodLink "HarvestPlans" (79 : Nat) ({ cls := "HarvestPlans", name := "forgetPlan", desc := "()V" } : Jvm.MethodName)) ∈ nw_T := nw_T_in (List.mem_of_getElem? (i := 357) (by decide +kernel)) rfl
theorem kw_359 : (Jvm.Cond.instanceMethod ({ cls := "HarvestPlans", name := "forgetPlan", desc := "()V" } : Jvm.MethodName)) ∈ nw_T := nw_T_in (List.mem_of_getElem? (i := 359) (by decide +kernel)) rfl
theorem kw_360 : (Jvm.Cond.code ({ cls := "HarvestPlans", name := "forgetPlan", desc := "()V" } : Jvm.MethodName) prog_1_method_19_code (1 : Nat) (Option.none : Option Jvm.ClassFile.FieldType)) ∈ nw_T := nw_T_in (List.mem_of_getElem? (i := 360) (by decide +kernel)) rfl
theorem kw_361 : (Jvm.Cond.classLink "HarvestPlans" (82 : Nat) "HarvestPlans$Place") ∈ nw_T := nw_T_in (List.mem_of_getElem? (i := 361) (by decide +kernel)) rfl
theorem kw_362 : (Jvm.Cond.instantiable "HarvestPlans$Place" (2 : Nat)) ∈ nw_T := nw_T_in (List.mem_of_getElem? (i := 362) (by decide +kernel)) rfl
theorem kn_363 : (Jvm.Cond.methodLinkNest "HarvestPlans" (87 : Nat) ({ cls := "HarvestPlans$Place", name := "<init>", desc := "(II)V" } : Jvm.MethodName) "HarvestPlans") ∈ lw_tbl := List.mem_append_right _ (List.mem_of_getElem? (i := 363) (by decide +kernel))
theorem kw_364 : (Jvm.Cond.instanceMethod ({ cls := "HarvestPlans$Place", name := "<init>", desc := "(II)V" } : Jvm.MethodName)) ∈ nw_T := nw_T_in (List.mem_of_getElem? (i := 364) (by decide +kernel)) rfl
theorem kw_365 : (Jvm.Cond.code ({ cls := "HarvestPlans$Place", name := "<init>", desc := "(II)V" } : Jvm.MethodName) prog_6_method_1_code (3 : Nat) (Option.none : Option Jvm.ClassFile.FieldType)) ∈ nw_T := nw_T_in (List.mem_of_getElem? (i := 365) (by decide +kernel)) rfl
theorem kw_366 : (Jvm.Cond.methodLink "HarvestPlans$Place" (1 : Nat) ({ cls := "java/lang/Object", name := "<init>", desc := "()V" } : Jvm.MethodName)) ∈ nw_T := nw_T_in (List.mem_of_getElem? (i := 366) (by decide +kernel)) rfl
theorem kw_367 : (Jvm.Cond.fieldLink "HarvestPlans$Place" (7 : Nat) "HarvestPlans$Place" "most" "I") ∈ nw_T := nw_T_in (List.mem_of_getElem? (i := 367) (by decide +kernel)) rfl
theorem kn_368 : (Jvm.Cond.fieldLinkNest "HarvestPlans$Rules" (81 : Nat) "HarvestPlans$Place" "most" "I" "HarvestPlans") ∈ lw_tbl := List.mem_append_right _ (List.mem_of_getElem? (i := 368) (by decide +kernel))
theorem kw_369 : (Jvm.Cond.fieldLink "HarvestPlans$Place" (13 : Nat) "HarvestPlans$Place" "closedIn" "[Z") ∈ nw_T := nw_T_in (List.mem_of_getElem? (i := 369) (by decide +kernel)) rfl
theorem kn_370 : (Jvm.Cond.fieldLinkNest "HarvestPlans" (103 : Nat) "HarvestPlans$Place" "closedIn" "[Z" "HarvestPlans") ∈ lw_tbl := List.mem_append_right _ (List.mem_of_getElem? (i := 370) (by decide +kernel))
theorem kn_371 : (Jvm.Cond.fieldLinkNest "HarvestPlans$Rules" (66 : Nat) "HarvestPlans$Place" "closedIn" "[Z" "HarvestPlans") ∈ lw_tbl := List.mem_append_right _ (List.mem_of_getElem? (i := 371) (by decide +kernel))
theorem kw_372 : (Jvm.Cond.laysFinal "HarvestPlans$Place" "HarvestPlans$Place" "most" "I") ∈ nw_T := nw_T_in (List.mem_of_getElem? (i := 372) (by decide +kernel)) rfl
theorem kw_374 : (Jvm.Cond.laysFinal "HarvestPlans$Place" "HarvestPlans$Place" "closedIn" "[Z") ∈ nw_T := nw_T_in (List.mem_of_getElem? (i := 374) (by decide +kernel)) rfl
theorem kw_376 : (Jvm.Cond.superclass "HarvestPlans$Place" "java/lang/Object") ∈ nw_T := nw_T_in (List.mem_of_getElem? (i := 376) (by decide +kernel)) rfl
theorem kw_377 : (Jvm.Cond.arrayClass Jvm.ClassFile.FieldType.boolean) ∈ nw_T := nw_T_in (List.mem_of_getElem? (i := 377) (by decide +kernel)) rfl
theorem kn_378 : (Jvm.Cond.methodLinkNest "HarvestPlans" (89 : Nat) ({ cls := "HarvestPlans$Farm", name := "addPlace", desc := "(LHarvestPlans$Place;)I" } : Jvm.MethodName) "HarvestPlans") ∈ lw_tbl := List.mem_append_right _ (List.mem_of_getElem? (i := 378) (by decide +kernel))
theorem kw_380 : (Jvm.Cond.instanceMethod ({ cls := "HarvestPlans$Farm", name := "addPlace", desc := "(LHarvestPlans$Place;)I" } : Jvm.MethodName)) ∈ nw_T := nw_T_in (List.mem_of_getElem? (i := 380) (by decide +kernel)) rfl
theorem kw_381 : (Jvm.Cond.code ({ cls := "HarvestPlans$Farm", name := "addPlace", desc := "(LHarvestPlans$Place;)I" } : Jvm.MethodName) prog_4_method_2_code (2 : Nat) (Option.some Jvm.ClassFile.FieldType.int)) ∈ nw_T := nw_T_in (List.mem_of_getElem? (i := 381) (by decide +kernel)) rfl
theorem kw_382 : (Jvm.Cond.methodLink "HarvestPlansLaw" (85 : Nat) ({ cls := "HarvestPlansLaw", name := "closed", desc := "(LHarvestPlans;IIZ[J)I" } : Jvm.MethodName)) ∈ nw_T := nw_T_in (List.mem_of_getElem? (i := 382) (by decide +kernel)) rfl
theorem kw_383 : (Jvm.Cond.static ({ cls := "HarvestPlansLaw", name := "closed", desc := "(LHarvestPlans;IIZ[J)I" } : Jvm.MethodName)) ∈ nw_T := nw_T_in (List.mem_of_getElem? (i := 383) (by decide +kernel)) rfl
-- 384: codeWith
theorem kt_384 : (Jvm.Cond.codeWith ({ cls := "HarvestPlansLaw", name := "closed", desc := "(LHarvestPlans;IIZ[J)I" } : Jvm.MethodName) method_4_code (6 : Nat) (Option.some Jvm.ClassFile.FieldType.int) [((0 : Nat), (19 : Nat), (22 : Nat), (13 : Nat))]) ∈ tables_1 := List.mem_of_getElem? (i := 384) (by decide +kernel)
theorem kw_385 : (Jvm.Cond.methodLink "HarvestPlansLaw" (17 : Nat) ({ cls := "HarvestPlans", name := "closed", desc := "(IIZ)Z" } : Jvm.MethodName)) ∈ nw_T := nw_T_in (List.mem_of_getElem? (i := 385) (by decide +kernel)) rfl
theorem kw_386 : (Jvm.Cond.instanceMethod ({ cls := "HarvestPlans", name := "closed", desc := "(IIZ)Z" } : Jvm.MethodName)) ∈ nw_T := nw_T_in (List.mem_of_getElem? (i := 386) (by decide +kernel)) rfl
theorem kw_387 : (Jvm.Cond.selects "HarvestPlans" ({ cls := "HarvestPlans", name := "closed", desc := "(IIZ)Z" } : Jvm.MethodName) ({ cls := "HarvestPlans", name := "closed", desc := "(IIZ)Z" } : Jvm.MethodName)) ∈ nw_T := nw_T_in (List.mem_of_getElem? (i := 387) (by decide +kernel)) rfl
theorem kw_388 : (Jvm.Cond.code ({ cls := "HarvestPlans", name := "closed", desc := "(IIZ)Z" } : Jvm.MethodName) prog_1_method_3_code (6 : Nat) (Option.some Jvm.ClassFile.FieldType.boolean)) ∈ nw_T := nw_T_in (List.mem_of_getElem? (i := 388) (by decide +kernel)) rfl
theorem kw_389 : (Jvm.Cond.methodLink "HarvestPlans" (93 : Nat) ({ cls := "HarvestPlans", name := "requireOneOf", desc := "(II)V" } : Jvm.MethodName)) ∈ nw_T := nw_T_in (List.mem_of_getElem? (i := 389) (by decide +kernel)) rfl
theorem kw_390 : (Jvm.Cond.static ({ cls := "HarvestPlans", name := "requireOneOf", desc := "(II)V" } : Jvm.MethodName)) ∈ nw_T := nw_T_in (List.mem_of_getElem? (i := 390) (by decide +kernel)) rfl
theorem kw_391 : (Jvm.Cond.code ({ cls := "HarvestPlans", name := "requireOneOf", desc := "(II)V" } : Jvm.MethodName) prog_1_method_22_code (2 : Nat) (Option.none : Option Jvm.ClassFile.FieldType)) ∈ nw_T := nw_T_in (List.mem_of_getElem? (i := 391) (by decide +kernel)) rfl
-- 392: stringRef
theorem kt_392 : (Jvm.Cond.stringRef "HarvestPlans" (215 : Nat) "there is no such place, cage, boat, order or week") ∈ tables_1 := List.mem_of_getElem? (i := 392) (by decide +kernel)
theorem kw_393 : (Jvm.Cond.methodLink "HarvestPlans" (96 : Nat) ({ cls := "HarvestPlans", name := "requireWeek", desc := "(I)V" } : Jvm.MethodName)) ∈ nw_T := nw_T_in (List.mem_of_getElem? (i := 393) (by decide +kernel)) rfl
theorem kw_395 : (Jvm.Cond.instanceMethod ({ cls := "HarvestPlans", name := "requireWeek", desc := "(I)V" } : Jvm.MethodName)) ∈ nw_T := nw_T_in (List.mem_of_getElem? (i := 395) (by decide +kernel)) rfl
theorem kw_396 : (Jvm.Cond.code ({ cls := "HarvestPlans", name := "requireWeek", desc := "(I)V" } : Jvm.MethodName) prog_1_method_21_code (2 : Nat) (Option.none : Option Jvm.ClassFile.FieldType)) ∈ nw_T := nw_T_in (List.mem_of_getElem? (i := 396) (by decide +kernel)) rfl
theorem kw_397 : (Jvm.Cond.methodLink "HarvestPlansLaw" (89 : Nat) ({ cls := "HarvestPlansLaw", name := "cage", desc := "(LHarvestPlans;I[J)I" } : Jvm.MethodName)) ∈ nw_T := nw_T_in (List.mem_of_getElem? (i := 397) (by decide +kernel)) rfl
theorem kw_398 : (Jvm.Cond.static ({ cls := "HarvestPlansLaw", name := "cage", desc := "(LHarvestPlans;I[J)I" } : Jvm.MethodName)) ∈ nw_T := nw_T_in (List.mem_of_getElem? (i := 398) (by decide +kernel)) rfl
-- 399: codeWith
theorem kt_399 : (Jvm.Cond.codeWith ({ cls := "HarvestPlansLaw", name := "cage", desc := "(LHarvestPlans;I[J)I" } : Jvm.MethodName) method_5_code (4 : Nat) (Option.some Jvm.ClassFile.FieldType.int) [((0 : Nat), (9 : Nat), (12 : Nat), (13 : Nat)), ((0 : Nat), (9 : Nat), (15 : Nat), (15 : Nat))]) ∈ tables_1 := List.mem_of_getElem? (i := 399) (by decide +kernel)
theorem kw_400 : (Jvm.Cond.methodLink "HarvestPlansLaw" (21 : Nat) ({ cls := "HarvestPlans", name := "cage", desc := "(I)I" } : Jvm.MethodName)) ∈ nw_T := nw_T_in (List.mem_of_getElem? (i := 400) (by decide +kernel)) rfl
theorem kw_401 : (Jvm.Cond.instanceMethod ({ cls := "HarvestPlans", name := "cage", desc := "(I)I" } : Jvm.MethodName)) ∈ nw_T := nw_T_in (List.mem_of_getElem? (i := 401) (by decide +kernel)) rfl
theorem kw_402 : (Jvm.Cond.selects "HarvestPlans" ({ cls := "HarvestPlans", name := "cage", desc := "(I)I" } : Jvm.MethodName) ({ cls := "HarvestPlans", name := "cage", desc := "(I)I" } : Jvm.MethodName)) ∈ nw_T := nw_T_in (List.mem_of_getElem? (i := 402) (by decide +kernel)) rfl
theorem kw_403 : (Jvm.Cond.code ({ cls := "HarvestPlans", name := "cage", desc := "(I)I" } : Jvm.MethodName) prog_1_method_4_code (2 : Nat) (Option.some Jvm.ClassFile.FieldType.int)) ∈ nw_T := nw_T_in (List.mem_of_getElem? (i := 403) (by decide +kernel)) rfl
theorem kw_404 : (Jvm.Cond.classLink "HarvestPlans" (110 : Nat) "HarvestPlans$Cage") ∈ nw_T := nw_T_in (List.mem_of_getElem? (i := 404) (by decide +kernel)) rfl
theorem kw_405 : (Jvm.Cond.instantiable "HarvestPlans$Cage" (3 : Nat)) ∈ nw_T := nw_T_in (List.mem_of_getElem? (i := 405) (by decide +kernel)) rfl
theorem kn_406 : (Jvm.Cond.methodLinkNest "HarvestPlans" (112 : Nat) ({ cls := "HarvestPlans$Cage", name := "<init>", desc := "(II)V" } : Jvm.MethodName) "HarvestPlans") ∈ lw_tbl := List.mem_append_right _ (List.mem_of_getElem? (i := 406) (by decide +kernel))
theorem kw_407 : (Jvm.Cond.instanceMethod ({ cls := "HarvestPlans$Cage", name := "<init>", desc := "(II)V" } : Jvm.MethodName)) ∈ nw_T := nw_T_in (List.mem_of_getElem? (i := 407) (by decide +kernel)) rfl
theorem kw_408 : (Jvm.Cond.code ({ cls := "HarvestPlans$Cage", name := "<init>", desc := "(II)V" } : Jvm.MethodName) prog_3_method_1_code (3 : Nat) (Option.none : Option Jvm.ClassFile.FieldType)) ∈ nw_T := nw_T_in (List.mem_of_getElem? (i := 408) (by decide +kernel)) rfl
theorem kw_409 : (Jvm.Cond.methodLink "HarvestPlans$Cage" (1 : Nat) ({ cls := "java/lang/Object", name := "<init>", desc := "()V" } : Jvm.MethodName)) ∈ nw_T := nw_T_in (List.mem_of_getElem? (i := 409) (by decide +kernel)) rfl
theorem kw_410 : (Jvm.Cond.fieldLink "HarvestPlans$Cage" (7 : Nat) "HarvestPlans$Cage" "home" "I") ∈ nw_T := nw_T_in (List.mem_of_getElem? (i := 410) (by decide +kernel)) rfl
theorem kn_411 : (Jvm.Cond.fieldLinkNest "HarvestPlans$Rules" (63 : Nat) "HarvestPlans$Cage" "home" "I" "HarvestPlans") ∈ lw_tbl := List.mem_append_right _ (List.mem_of_getElem? (i := 411) (by decide +kernel))
theorem kw_412 : (Jvm.Cond.fieldLink "HarvestPlans$Cage" (13 : Nat) "HarvestPlans$Cage" "grams" "[I") ∈ nw_T := nw_T_in (List.mem_of_getElem? (i := 412) (by decide +kernel)) rfl
theorem kn_413 : (Jvm.Cond.fieldLinkNest "HarvestPlans$Order" (25 : Nat) "HarvestPlans$Cage" "grams" "[I" "HarvestPlans") ∈ lw_tbl := List.mem_append_right _ (List.mem_of_getElem? (i := 413) (by decide +kernel))
theorem kn_414 : (Jvm.Cond.fieldLinkNest "HarvestPlans" (122 : Nat) "HarvestPlans$Cage" "grams" "[I" "HarvestPlans") ∈ lw_tbl := List.mem_append_right _ (List.mem_of_getElem? (i := 414) (by decide +kernel))
theorem kw_415 : (Jvm.Cond.fieldLink "HarvestPlans$Cage" (17 : Nat) "HarvestPlans$Cage" "kilos" "[I") ∈ nw_T := nw_T_in (List.mem_of_getElem? (i := 415) (by decide +kernel)) rfl
theorem kn_416 : (Jvm.Cond.fieldLinkNest "HarvestPlans$Sales" (32 : Nat) "HarvestPlans$Cage" "kilos" "[I" "HarvestPlans") ∈ lw_tbl := List.mem_append_right _ (List.mem_of_getElem? (i := 416) (by decide +kernel))
theorem kn_417 : (Jvm.Cond.fieldLinkNest "HarvestPlans$Rules" (51 : Nat) "HarvestPlans$Cage" "kilos" "[I" "HarvestPlans") ∈ lw_tbl := List.mem_append_right _ (List.mem_of_getElem? (i := 417) (by decide +kernel))
theorem kn_418 : (Jvm.Cond.fieldLinkNest "HarvestPlans" (125 : Nat) "HarvestPlans$Cage" "kilos" "[I" "HarvestPlans") ∈ lw_tbl := List.mem_append_right _ (List.mem_of_getElem? (i := 418) (by decide +kernel))
theorem kn_419 : (Jvm.Cond.fieldLinkNest "HarvestPlans$Farm" (61 : Nat) "HarvestPlans$Cage" "kilos" "[I" "HarvestPlans") ∈ lw_tbl := List.mem_append_right _ (List.mem_of_getElem? (i := 419) (by decide +kernel))
theorem kw_420 : (Jvm.Cond.laysFinal "HarvestPlans$Cage" "HarvestPlans$Cage" "home" "I") ∈ nw_T := nw_T_in (List.mem_of_getElem? (i := 420) (by decide +kernel)) rfl
theorem kw_422 : (Jvm.Cond.laysFinal "HarvestPlans$Cage" "HarvestPlans$Cage" "grams" "[I") ∈ nw_T := nw_T_in (List.mem_of_getElem? (i := 422) (by decide +kernel)) rfl
theorem kw_424 : (Jvm.Cond.laysFinal "HarvestPlans$Cage" "HarvestPlans$Cage" "kilos" "[I") ∈ nw_T := nw_T_in (List.mem_of_getElem? (i := 424) (by decide +kernel)) rfl
theorem kw_426 : (Jvm.Cond.superclass "HarvestPlans$Cage" "java/lang/Object") ∈ nw_T := nw_T_in (List.mem_of_getElem? (i := 426) (by decide +kernel)) rfl
theorem kn_427 : (Jvm.Cond.methodLinkNest "HarvestPlans" (113 : Nat) ({ cls := "HarvestPlans$Farm", name := "addCage", desc := "(LHarvestPlans$Cage;)I" } : Jvm.MethodName) "HarvestPlans") ∈ lw_tbl := List.mem_append_right _ (List.mem_of_getElem? (i := 427) (by decide +kernel))
theorem kw_429 : (Jvm.Cond.instanceMethod ({ cls := "HarvestPlans$Farm", name := "addCage", desc := "(LHarvestPlans$Cage;)I" } : Jvm.MethodName)) ∈ nw_T := nw_T_in (List.mem_of_getElem? (i := 429) (by decide +kernel)) rfl
theorem kw_430 : (Jvm.Cond.code ({ cls := "HarvestPlans$Farm", name := "addCage", desc := "(LHarvestPlans$Cage;)I" } : Jvm.MethodName) prog_4_method_3_code (2 : Nat) (Option.some Jvm.ClassFile.FieldType.int)) ∈ nw_T := nw_T_in (List.mem_of_getElem? (i := 430) (by decide +kernel)) rfl
theorem kw_431 : (Jvm.Cond.methodLink "HarvestPlansLaw" (92 : Nat) ({ cls := "HarvestPlansLaw", name := "size", desc := "(LHarvestPlans;IIII[J)I" } : Jvm.MethodName)) ∈ nw_T := nw_T_in (List.mem_of_getElem? (i := 431) (by decide +kernel)) rfl
theorem kw_432 : (Jvm.Cond.static ({ cls := "HarvestPlansLaw", name := "size", desc := "(LHarvestPlans;IIII[J)I" } : Jvm.MethodName)) ∈ nw_T := nw_T_in (List.mem_of_getElem? (i := 432) (by decide +kernel)) rfl
-- 433: codeWith
theorem kt_433 : (Jvm.Cond.codeWith ({ cls := "HarvestPlansLaw", name := "size", desc := "(LHarvestPlans;IIII[J)I" } : Jvm.MethodName) method_6_code (7 : Nat) (Option.some Jvm.ClassFile.FieldType.int) [((0 : Nat), (14 : Nat), (17 : Nat), (13 : Nat))]) ∈ tables_1 := List.mem_of_getElem? (i := 433) (by decide +kernel)
theorem kw_434 : (Jvm.Cond.methodLink "HarvestPlansLaw" (24 : Nat) ({ cls := "HarvestPlans", name := "size", desc := "(IIII)I" } : Jvm.MethodName)) ∈ nw_T := nw_T_in (List.mem_of_getElem? (i := 434) (by decide +kernel)) rfl
theorem kw_435 : (Jvm.Cond.instanceMethod ({ cls := "HarvestPlans", name := "size", desc := "(IIII)I" } : Jvm.MethodName)) ∈ nw_T := nw_T_in (List.mem_of_getElem? (i := 435) (by decide +kernel)) rfl
theorem kw_436 : (Jvm.Cond.selects "HarvestPlans" ({ cls := "HarvestPlans", name := "size", desc := "(IIII)I" } : Jvm.MethodName) ({ cls := "HarvestPlans", name := "size", desc := "(IIII)I" } : Jvm.MethodName)) ∈ nw_T := nw_T_in (List.mem_of_getElem? (i := 436) (by decide +kernel)) rfl
theorem kw_437 : (Jvm.Cond.code ({ cls := "HarvestPlans", name := "size", desc := "(IIII)I" } : Jvm.MethodName) prog_1_method_5_code (6 : Nat) (Option.some Jvm.ClassFile.FieldType.int)) ∈ nw_T := nw_T_in (List.mem_of_getElem? (i := 437) (by decide +kernel)) rfl
theorem kw_438 : (Jvm.Cond.constant "HarvestPlans" (117 : Nat) (100000 : Int32)) ∈ nw_T := nw_T_in (List.mem_of_getElem? (i := 438) (by decide +kernel)) rfl
theorem kw_439 : (Jvm.Cond.methodLink "HarvestPlansLaw" (96 : Nat) ({ cls := "HarvestPlansLaw", name := "boat", desc := "(LHarvestPlans;I[J)I" } : Jvm.MethodName)) ∈ nw_T := nw_T_in (List.mem_of_getElem? (i := 439) (by decide +kernel)) rfl
theorem kw_440 : (Jvm.Cond.static ({ cls := "HarvestPlansLaw", name := "boat", desc := "(LHarvestPlans;I[J)I" } : Jvm.MethodName)) ∈ nw_T := nw_T_in (List.mem_of_getElem? (i := 440) (by decide +kernel)) rfl
-- 441: codeWith
theorem kt_441 : (Jvm.Cond.codeWith ({ cls := "HarvestPlansLaw", name := "boat", desc := "(LHarvestPlans;I[J)I" } : Jvm.MethodName) method_7_code (4 : Nat) (Option.some Jvm.ClassFile.FieldType.int) [((0 : Nat), (9 : Nat), (12 : Nat), (13 : Nat)), ((0 : Nat), (9 : Nat), (15 : Nat), (15 : Nat))]) ∈ tables_1 := List.mem_of_getElem? (i := 441) (by decide +kernel)
theorem kw_442 : (Jvm.Cond.methodLink "HarvestPlansLaw" (28 : Nat) ({ cls := "HarvestPlans", name := "boat", desc := "(I)I" } : Jvm.MethodName)) ∈ nw_T := nw_T_in (List.mem_of_getElem? (i := 442) (by decide +kernel)) rfl
theorem kw_443 : (Jvm.Cond.instanceMethod ({ cls := "HarvestPlans", name := "boat", desc := "(I)I" } : Jvm.MethodName)) ∈ nw_T := nw_T_in (List.mem_of_getElem? (i := 443) (by decide +kernel)) rfl
theorem kw_444 : (Jvm.Cond.selects "HarvestPlans" ({ cls := "HarvestPlans", name := "boat", desc := "(I)I" } : Jvm.MethodName) ({ cls := "HarvestPlans", name := "boat", desc := "(I)I" } : Jvm.MethodName)) ∈ nw_T := nw_T_in (List.mem_of_getElem? (i := 444) (by decide +kernel)) rfl
theorem kw_445 : (Jvm.Cond.code ({ cls := "HarvestPlans", name := "boat", desc := "(I)I" } : Jvm.MethodName) prog_1_method_6_code (2 : Nat) (Option.some Jvm.ClassFile.FieldType.int)) ∈ nw_T := nw_T_in (List.mem_of_getElem? (i := 445) (by decide +kernel)) rfl
theorem kw_446 : (Jvm.Cond.classLink "HarvestPlans" (131 : Nat) "HarvestPlans$Boat") ∈ nw_T := nw_T_in (List.mem_of_getElem? (i := 446) (by decide +kernel)) rfl
theorem kw_447 : (Jvm.Cond.instantiable "HarvestPlans$Boat" (2 : Nat)) ∈ nw_T := nw_T_in (List.mem_of_getElem? (i := 447) (by decide +kernel)) rfl
theorem kn_448 : (Jvm.Cond.methodLinkNest "HarvestPlans" (133 : Nat) ({ cls := "HarvestPlans$Boat", name := "<init>", desc := "(II)V" } : Jvm.MethodName) "HarvestPlans") ∈ lw_tbl := List.mem_append_right _ (List.mem_of_getElem? (i := 448) (by decide +kernel))
theorem kw_449 : (Jvm.Cond.instanceMethod ({ cls := "HarvestPlans$Boat", name := "<init>", desc := "(II)V" } : Jvm.MethodName)) ∈ nw_T := nw_T_in (List.mem_of_getElem? (i := 449) (by decide +kernel)) rfl
theorem kw_450 : (Jvm.Cond.code ({ cls := "HarvestPlans$Boat", name := "<init>", desc := "(II)V" } : Jvm.MethodName) prog_2_method_1_code (3 : Nat) (Option.none : Option Jvm.ClassFile.FieldType)) ∈ nw_T := nw_T_in (List.mem_of_getElem? (i := 450) (by decide +kernel)) rfl
theorem kw_451 : (Jvm.Cond.methodLink "HarvestPlans$Boat" (1 : Nat) ({ cls := "java/lang/Object", name := "<init>", desc := "()V" } : Jvm.MethodName)) ∈ nw_T := nw_T_in (List.mem_of_getElem? (i := 451) (by decide +kernel)) rfl
theorem kw_452 : (Jvm.Cond.fieldLink "HarvestPlans$Boat" (7 : Nat) "HarvestPlans$Boat" "load" "I") ∈ nw_T := nw_T_in (List.mem_of_getElem? (i := 452) (by decide +kernel)) rfl
theorem kn_453 : (Jvm.Cond.fieldLinkNest "HarvestPlans$Rules" (111 : Nat) "HarvestPlans$Boat" "load" "I" "HarvestPlans") ∈ lw_tbl := List.mem_append_right _ (List.mem_of_getElem? (i := 453) (by decide +kernel))
theorem kw_454 : (Jvm.Cond.fieldLink "HarvestPlans$Boat" (13 : Nat) "HarvestPlans$Boat" "barredIn" "[Z") ∈ nw_T := nw_T_in (List.mem_of_getElem? (i := 454) (by decide +kernel)) rfl
theorem kn_455 : (Jvm.Cond.fieldLinkNest "HarvestPlans" (142 : Nat) "HarvestPlans$Boat" "barredIn" "[Z" "HarvestPlans") ∈ lw_tbl := List.mem_append_right _ (List.mem_of_getElem? (i := 455) (by decide +kernel))
theorem kn_456 : (Jvm.Cond.fieldLinkNest "HarvestPlans$Rules" (106 : Nat) "HarvestPlans$Boat" "barredIn" "[Z" "HarvestPlans") ∈ lw_tbl := List.mem_append_right _ (List.mem_of_getElem? (i := 456) (by decide +kernel))
theorem kw_457 : (Jvm.Cond.laysFinal "HarvestPlans$Boat" "HarvestPlans$Boat" "load" "I") ∈ nw_T := nw_T_in (List.mem_of_getElem? (i := 457) (by decide +kernel)) rfl
theorem kw_459 : (Jvm.Cond.laysFinal "HarvestPlans$Boat" "HarvestPlans$Boat" "barredIn" "[Z") ∈ nw_T := nw_T_in (List.mem_of_getElem? (i := 459) (by decide +kernel)) rfl
theorem kw_461 : (Jvm.Cond.superclass "HarvestPlans$Boat" "java/lang/Object") ∈ nw_T := nw_T_in (List.mem_of_getElem? (i := 461) (by decide +kernel)) rfl
theorem kn_462 : (Jvm.Cond.methodLinkNest "HarvestPlans" (134 : Nat) ({ cls := "HarvestPlans$Farm", name := "addBoat", desc := "(LHarvestPlans$Boat;)I" } : Jvm.MethodName) "HarvestPlans") ∈ lw_tbl := List.mem_append_right _ (List.mem_of_getElem? (i := 462) (by decide +kernel))
theorem kw_464 : (Jvm.Cond.instanceMethod ({ cls := "HarvestPlans$Farm", name := "addBoat", desc := "(LHarvestPlans$Boat;)I" } : Jvm.MethodName)) ∈ nw_T := nw_T_in (List.mem_of_getElem? (i := 464) (by decide +kernel)) rfl
theorem kw_465 : (Jvm.Cond.code ({ cls := "HarvestPlans$Farm", name := "addBoat", desc := "(LHarvestPlans$Boat;)I" } : Jvm.MethodName) prog_4_method_4_code (2 : Nat) (Option.some Jvm.ClassFile.FieldType.int)) ∈ nw_T := nw_T_in (List.mem_of_getElem? (i := 465) (by decide +kernel)) rfl
theorem kw_466 : (Jvm.Cond.methodLink "HarvestPlansLaw" (99 : Nat) ({ cls := "HarvestPlansLaw", name := "weather", desc := "(LHarvestPlans;IIZ[J)I" } : Jvm.MethodName)) ∈ nw_T := nw_T_in (List.mem_of_getElem? (i := 466) (by decide +kernel)) rfl
theorem kw_467 : (Jvm.Cond.static ({ cls := "HarvestPlansLaw", name := "weather", desc := "(LHarvestPlans;IIZ[J)I" } : Jvm.MethodName)) ∈ nw_T := nw_T_in (List.mem_of_getElem? (i := 467) (by decide +kernel)) rfl
-- 468: codeWith
theorem kt_468 : (Jvm.Cond.codeWith ({ cls := "HarvestPlansLaw", name := "weather", desc := "(LHarvestPlans;IIZ[J)I" } : Jvm.MethodName) method_8_code (6 : Nat) (Option.some Jvm.ClassFile.FieldType.int) [((0 : Nat), (19 : Nat), (22 : Nat), (13 : Nat))]) ∈ tables_1 := List.mem_of_getElem? (i := 468) (by decide +kernel)
theorem kw_469 : (Jvm.Cond.methodLink "HarvestPlansLaw" (31 : Nat) ({ cls := "HarvestPlans", name := "weather", desc := "(IIZ)Z" } : Jvm.MethodName)) ∈ nw_T := nw_T_in (List.mem_of_getElem? (i := 469) (by decide +kernel)) rfl
theorem kw_470 : (Jvm.Cond.instanceMethod ({ cls := "HarvestPlans", name := "weather", desc := "(IIZ)Z" } : Jvm.MethodName)) ∈ nw_T := nw_T_in (List.mem_of_getElem? (i := 470) (by decide +kernel)) rfl
theorem kw_471 : (Jvm.Cond.selects "HarvestPlans" ({ cls := "HarvestPlans", name := "weather", desc := "(IIZ)Z" } : Jvm.MethodName) ({ cls := "HarvestPlans", name := "weather", desc := "(IIZ)Z" } : Jvm.MethodName)) ∈ nw_T := nw_T_in (List.mem_of_getElem? (i := 471) (by decide +kernel)) rfl
theorem kw_472 : (Jvm.Cond.code ({ cls := "HarvestPlans", name := "weather", desc := "(IIZ)Z" } : Jvm.MethodName) prog_1_method_7_code (6 : Nat) (Option.some Jvm.ClassFile.FieldType.boolean)) ∈ nw_T := nw_T_in (List.mem_of_getElem? (i := 472) (by decide +kernel)) rfl
theorem kw_473 : (Jvm.Cond.methodLink "HarvestPlansLaw" (102 : Nat) ({ cls := "HarvestPlansLaw", name := "plant", desc := "(LHarvestPlans;II[J)I" } : Jvm.MethodName)) ∈ nw_T := nw_T_in (List.mem_of_getElem? (i := 473) (by decide +kernel)) rfl
theorem kw_474 : (Jvm.Cond.static ({ cls := "HarvestPlansLaw", name := "plant", desc := "(LHarvestPlans;II[J)I" } : Jvm.MethodName)) ∈ nw_T := nw_T_in (List.mem_of_getElem? (i := 474) (by decide +kernel)) rfl
-- 475: codeWith
theorem kt_475 : (Jvm.Cond.codeWith ({ cls := "HarvestPlansLaw", name := "plant", desc := "(LHarvestPlans;II[J)I" } : Jvm.MethodName) method_9_code (5 : Nat) (Option.some Jvm.ClassFile.FieldType.int) [((0 : Nat), (10 : Nat), (13 : Nat), (13 : Nat))]) ∈ tables_1 := List.mem_of_getElem? (i := 475) (by decide +kernel)
theorem kw_476 : (Jvm.Cond.methodLink "HarvestPlansLaw" (34 : Nat) ({ cls := "HarvestPlans", name := "plant", desc := "(II)I" } : Jvm.MethodName)) ∈ nw_T := nw_T_in (List.mem_of_getElem? (i := 476) (by decide +kernel)) rfl
theorem kw_477 : (Jvm.Cond.instanceMethod ({ cls := "HarvestPlans", name := "plant", desc := "(II)I" } : Jvm.MethodName)) ∈ nw_T := nw_T_in (List.mem_of_getElem? (i := 477) (by decide +kernel)) rfl
theorem kw_478 : (Jvm.Cond.selects "HarvestPlans" ({ cls := "HarvestPlans", name := "plant", desc := "(II)I" } : Jvm.MethodName) ({ cls := "HarvestPlans", name := "plant", desc := "(II)I" } : Jvm.MethodName)) ∈ nw_T := nw_T_in (List.mem_of_getElem? (i := 478) (by decide +kernel)) rfl
theorem kw_479 : (Jvm.Cond.code ({ cls := "HarvestPlans", name := "plant", desc := "(II)I" } : Jvm.MethodName) prog_1_method_8_code (4 : Nat) (Option.some Jvm.ClassFile.FieldType.int)) ∈ nw_T := nw_T_in (List.mem_of_getElem? (i := 479) (by decide +kernel)) rfl
theorem kw_480 : (Jvm.Cond.methodLink "HarvestPlansLaw" (106 : Nat) ({ cls := "HarvestPlansLaw", name := "order", desc := "(LHarvestPlans;IIIII[J)I" } : Jvm.MethodName)) ∈ nw_T := nw_T_in (List.mem_of_getElem? (i := 480) (by decide +kernel)) rfl
theorem kw_481 : (Jvm.Cond.static ({ cls := "HarvestPlansLaw", name := "order", desc := "(LHarvestPlans;IIIII[J)I" } : Jvm.MethodName)) ∈ nw_T := nw_T_in (List.mem_of_getElem? (i := 481) (by decide +kernel)) rfl
-- 482: codeWith
theorem kt_482 : (Jvm.Cond.codeWith ({ cls := "HarvestPlansLaw", name := "order", desc := "(LHarvestPlans;IIIII[J)I" } : Jvm.MethodName) method_10_code (8 : Nat) (Option.some Jvm.ClassFile.FieldType.int) [((0 : Nat), (16 : Nat), (19 : Nat), (13 : Nat)), ((0 : Nat), (16 : Nat), (23 : Nat), (15 : Nat))]) ∈ tables_1 := List.mem_of_getElem? (i := 482) (by decide +kernel)
theorem kw_483 : (Jvm.Cond.methodLink "HarvestPlansLaw" (38 : Nat) ({ cls := "HarvestPlans", name := "order", desc := "(IIIII)I" } : Jvm.MethodName)) ∈ nw_T := nw_T_in (List.mem_of_getElem? (i := 483) (by decide +kernel)) rfl
theorem kw_484 : (Jvm.Cond.instanceMethod ({ cls := "HarvestPlans", name := "order", desc := "(IIIII)I" } : Jvm.MethodName)) ∈ nw_T := nw_T_in (List.mem_of_getElem? (i := 484) (by decide +kernel)) rfl
theorem kw_485 : (Jvm.Cond.selects "HarvestPlans" ({ cls := "HarvestPlans", name := "order", desc := "(IIIII)I" } : Jvm.MethodName) ({ cls := "HarvestPlans", name := "order", desc := "(IIIII)I" } : Jvm.MethodName)) ∈ nw_T := nw_T_in (List.mem_of_getElem? (i := 485) (by decide +kernel)) rfl
theorem kw_486 : (Jvm.Cond.code ({ cls := "HarvestPlans", name := "order", desc := "(IIIII)I" } : Jvm.MethodName) prog_1_method_9_code (6 : Nat) (Option.some Jvm.ClassFile.FieldType.int)) ∈ nw_T := nw_T_in (List.mem_of_getElem? (i := 486) (by decide +kernel)) rfl
theorem kw_487 : (Jvm.Cond.classLink "HarvestPlans" (151 : Nat) "HarvestPlans$Order") ∈ nw_T := nw_T_in (List.mem_of_getElem? (i := 487) (by decide +kernel)) rfl
theorem kn_488 : (Jvm.Cond.methodLinkNest "HarvestPlans" (153 : Nat) ({ cls := "HarvestPlans$Order", name := "<init>", desc := "(IIIII)V" } : Jvm.MethodName) "HarvestPlans") ∈ lw_tbl := List.mem_append_right _ (List.mem_of_getElem? (i := 488) (by decide +kernel))
theorem kw_489 : (Jvm.Cond.instanceMethod ({ cls := "HarvestPlans$Order", name := "<init>", desc := "(IIIII)V" } : Jvm.MethodName)) ∈ nw_T := nw_T_in (List.mem_of_getElem? (i := 489) (by decide +kernel)) rfl
theorem kw_490 : (Jvm.Cond.code ({ cls := "HarvestPlans$Order", name := "<init>", desc := "(IIIII)V" } : Jvm.MethodName) prog_5_method_1_code (6 : Nat) (Option.none : Option Jvm.ClassFile.FieldType)) ∈ nw_T := nw_T_in (List.mem_of_getElem? (i := 490) (by decide +kernel)) rfl
theorem kw_491 : (Jvm.Cond.methodLink "HarvestPlans$Order" (1 : Nat) ({ cls := "java/lang/Object", name := "<init>", desc := "()V" } : Jvm.MethodName)) ∈ nw_T := nw_T_in (List.mem_of_getElem? (i := 491) (by decide +kernel)) rfl
theorem kw_492 : (Jvm.Cond.fieldLink "HarvestPlans$Order" (7 : Nat) "HarvestPlans$Order" "week" "I") ∈ nw_T := nw_T_in (List.mem_of_getElem? (i := 492) (by decide +kernel)) rfl
theorem kw_493 : (Jvm.Cond.fieldLink "HarvestPlans$Order" (13 : Nat) "HarvestPlans$Order" "least" "I") ∈ nw_T := nw_T_in (List.mem_of_getElem? (i := 493) (by decide +kernel)) rfl
theorem kw_494 : (Jvm.Cond.fieldLink "HarvestPlans$Order" (16 : Nat) "HarvestPlans$Order" "most" "I") ∈ nw_T := nw_T_in (List.mem_of_getElem? (i := 494) (by decide +kernel)) rfl
theorem kw_495 : (Jvm.Cond.fieldLink "HarvestPlans$Order" (19 : Nat) "HarvestPlans$Order" "kilos" "I") ∈ nw_T := nw_T_in (List.mem_of_getElem? (i := 495) (by decide +kernel)) rfl
theorem kn_496 : (Jvm.Cond.fieldLinkNest "HarvestPlans$Sales" (64 : Nat) "HarvestPlans$Order" "kilos" "I" "HarvestPlans") ∈ lw_tbl := List.mem_append_right _ (List.mem_of_getElem? (i := 496) (by decide +kernel))
theorem kw_497 : (Jvm.Cond.fieldLink "HarvestPlans$Order" (22 : Nat) "HarvestPlans$Order" "cents" "I") ∈ nw_T := nw_T_in (List.mem_of_getElem? (i := 497) (by decide +kernel)) rfl
theorem kn_498 : (Jvm.Cond.fieldLinkNest "HarvestPlans$Sales" (51 : Nat) "HarvestPlans$Order" "cents" "I" "HarvestPlans") ∈ lw_tbl := List.mem_append_right _ (List.mem_of_getElem? (i := 498) (by decide +kernel))
theorem kn_499 : (Jvm.Cond.fieldLinkNest "HarvestPlans$Farm" (58 : Nat) "HarvestPlans$Order" "cents" "I" "HarvestPlans") ∈ lw_tbl := List.mem_append_right _ (List.mem_of_getElem? (i := 499) (by decide +kernel))
theorem kw_500 : (Jvm.Cond.laysFinal "HarvestPlans$Order" "HarvestPlans$Order" "week" "I") ∈ nw_T := nw_T_in (List.mem_of_getElem? (i := 500) (by decide +kernel)) rfl
theorem kw_502 : (Jvm.Cond.laysFinal "HarvestPlans$Order" "HarvestPlans$Order" "least" "I") ∈ nw_T := nw_T_in (List.mem_of_getElem? (i := 502) (by decide +kernel)) rfl
theorem kw_504 : (Jvm.Cond.laysFinal "HarvestPlans$Order" "HarvestPlans$Order" "most" "I") ∈ nw_T := nw_T_in (List.mem_of_getElem? (i := 504) (by decide +kernel)) rfl
theorem kw_506 : (Jvm.Cond.laysFinal "HarvestPlans$Order" "HarvestPlans$Order" "kilos" "I") ∈ nw_T := nw_T_in (List.mem_of_getElem? (i := 506) (by decide +kernel)) rfl
theorem kw_508 : (Jvm.Cond.laysFinal "HarvestPlans$Order" "HarvestPlans$Order" "cents" "I") ∈ nw_T := nw_T_in (List.mem_of_getElem? (i := 508) (by decide +kernel)) rfl
theorem kw_510 : (Jvm.Cond.superclass "HarvestPlans$Order" "java/lang/Object") ∈ nw_T := nw_T_in (List.mem_of_getElem? (i := 510) (by decide +kernel)) rfl
theorem kn_511 : (Jvm.Cond.methodLinkNest "HarvestPlans" (156 : Nat) ({ cls := "HarvestPlans$Farm", name := "addOrder", desc := "(LHarvestPlans$Order;)I" } : Jvm.MethodName) "HarvestPlans") ∈ lw_tbl := List.mem_append_right _ (List.mem_of_getElem? (i := 511) (by decide +kernel))
theorem kw_513 : (Jvm.Cond.instanceMethod ({ cls := "HarvestPlans$Farm", name := "addOrder", desc := "(LHarvestPlans$Order;)I" } : Jvm.MethodName)) ∈ nw_T := nw_T_in (List.mem_of_getElem? (i := 513) (by decide +kernel)) rfl
theorem kw_514 : (Jvm.Cond.code ({ cls := "HarvestPlans$Farm", name := "addOrder", desc := "(LHarvestPlans$Order;)I" } : Jvm.MethodName) prog_4_method_5_code (3 : Nat) (Option.some Jvm.ClassFile.FieldType.int)) ∈ nw_T := nw_T_in (List.mem_of_getElem? (i := 514) (by decide +kernel)) rfl
theorem kw_515 : (Jvm.Cond.methodLink "HarvestPlansLaw" (110 : Nat) ({ cls := "HarvestPlansLaw", name := "prices", desc := "(LHarvestPlans;II)I" } : Jvm.MethodName)) ∈ nw_T := nw_T_in (List.mem_of_getElem? (i := 515) (by decide +kernel)) rfl
theorem kw_516 : (Jvm.Cond.static ({ cls := "HarvestPlansLaw", name := "prices", desc := "(LHarvestPlans;II)I" } : Jvm.MethodName)) ∈ nw_T := nw_T_in (List.mem_of_getElem? (i := 516) (by decide +kernel)) rfl
-- 517: codeWith
theorem kt_517 : (Jvm.Cond.codeWith ({ cls := "HarvestPlansLaw", name := "prices", desc := "(LHarvestPlans;II)I" } : Jvm.MethodName) method_11_code (4 : Nat) (Option.some Jvm.ClassFile.FieldType.int) [((0 : Nat), (6 : Nat), (9 : Nat), (13 : Nat))]) ∈ tables_1 := List.mem_of_getElem? (i := 517) (by decide +kernel)
theorem kw_518 : (Jvm.Cond.methodLink "HarvestPlansLaw" (42 : Nat) ({ cls := "HarvestPlans", name := "prices", desc := "(II)V" } : Jvm.MethodName)) ∈ nw_T := nw_T_in (List.mem_of_getElem? (i := 518) (by decide +kernel)) rfl
theorem kw_519 : (Jvm.Cond.instanceMethod ({ cls := "HarvestPlans", name := "prices", desc := "(II)V" } : Jvm.MethodName)) ∈ nw_T := nw_T_in (List.mem_of_getElem? (i := 519) (by decide +kernel)) rfl
theorem kw_520 : (Jvm.Cond.selects "HarvestPlans" ({ cls := "HarvestPlans", name := "prices", desc := "(II)V" } : Jvm.MethodName) ({ cls := "HarvestPlans", name := "prices", desc := "(II)V" } : Jvm.MethodName)) ∈ nw_T := nw_T_in (List.mem_of_getElem? (i := 520) (by decide +kernel)) rfl
theorem kw_521 : (Jvm.Cond.code ({ cls := "HarvestPlans", name := "prices", desc := "(II)V" } : Jvm.MethodName) prog_1_method_10_code (3 : Nat) (Option.none : Option Jvm.ClassFile.FieldType)) ∈ nw_T := nw_T_in (List.mem_of_getElem? (i := 521) (by decide +kernel)) rfl
theorem kw_522 : (Jvm.Cond.methodLink "HarvestPlansLaw" (114 : Nat) ({ cls := "HarvestPlansLaw", name := "run", desc := "(LHarvestPlans;I[J)I" } : Jvm.MethodName)) ∈ nw_T := nw_T_in (List.mem_of_getElem? (i := 522) (by decide +kernel)) rfl
theorem kw_523 : (Jvm.Cond.static ({ cls := "HarvestPlansLaw", name := "run", desc := "(LHarvestPlans;I[J)I" } : Jvm.MethodName)) ∈ nw_T := nw_T_in (List.mem_of_getElem? (i := 523) (by decide +kernel)) rfl
-- 524: codeWith
theorem kt_524 : (Jvm.Cond.codeWith ({ cls := "HarvestPlansLaw", name := "run", desc := "(LHarvestPlans;I[J)I" } : Jvm.MethodName) method_12_code (4 : Nat) (Option.some Jvm.ClassFile.FieldType.int) [((0 : Nat), (9 : Nat), (12 : Nat), (13 : Nat))]) ∈ tables_1 := List.mem_of_getElem? (i := 524) (by decide +kernel)
theorem kw_525 : (Jvm.Cond.methodLink "HarvestPlansLaw" (46 : Nat) ({ cls := "HarvestPlans", name := "run", desc := "(I)I" } : Jvm.MethodName)) ∈ nw_T := nw_T_in (List.mem_of_getElem? (i := 525) (by decide +kernel)) rfl
theorem kw_526 : (Jvm.Cond.instanceMethod ({ cls := "HarvestPlans", name := "run", desc := "(I)I" } : Jvm.MethodName)) ∈ nw_T := nw_T_in (List.mem_of_getElem? (i := 526) (by decide +kernel)) rfl
theorem kw_527 : (Jvm.Cond.selects "HarvestPlans" ({ cls := "HarvestPlans", name := "run", desc := "(I)I" } : Jvm.MethodName) ({ cls := "HarvestPlans", name := "run", desc := "(I)I" } : Jvm.MethodName)) ∈ nw_T := nw_T_in (List.mem_of_getElem? (i := 527) (by decide +kernel)) rfl
theorem kw_528 : (Jvm.Cond.code ({ cls := "HarvestPlans", name := "run", desc := "(I)I" } : Jvm.MethodName) prog_1_method_11_code (2 : Nat) (Option.some Jvm.ClassFile.FieldType.int)) ∈ nw_T := nw_T_in (List.mem_of_getElem? (i := 528) (by decide +kernel)) rfl
theorem kn_529 : (Jvm.Cond.methodLinkNest "HarvestPlans" (166 : Nat) ({ cls := "HarvestPlans$Search", name := "start", desc := "(I)V" } : Jvm.MethodName) "HarvestPlans") ∈ lw_tbl := List.mem_append_right _ (List.mem_of_getElem? (i := 529) (by decide +kernel))
theorem kw_531 : (Jvm.Cond.instanceMethod ({ cls := "HarvestPlans$Search", name := "start", desc := "(I)V" } : Jvm.MethodName)) ∈ nw_T := nw_T_in (List.mem_of_getElem? (i := 531) (by decide +kernel)) rfl
theorem kw_532 : (Jvm.Cond.code ({ cls := "HarvestPlans$Search", name := "start", desc := "(I)V" } : Jvm.MethodName) prog_9_method_2_code (2 : Nat) (Option.none : Option Jvm.ClassFile.FieldType)) ∈ nw_T := nw_T_in (List.mem_of_getElem? (i := 532) (by decide +kernel)) rfl
theorem kw_533 : (Jvm.Cond.methodLink "HarvestPlans$Search" (51 : Nat) ({ cls := "java/util/Arrays", name := "fill", desc := "([II)V" } : Jvm.MethodName)) ∈ nw_T := nw_T_in (List.mem_of_getElem? (i := 533) (by decide +kernel)) rfl
theorem kw_534 : (Jvm.Cond.methodLink "HarvestPlans$Search" (60 : Nat) ({ cls := "HarvestPlans$Search", name := "branch", desc := "(IJ)V" } : Jvm.MethodName)) ∈ nw_T := nw_T_in (List.mem_of_getElem? (i := 534) (by decide +kernel)) rfl
theorem kw_536 : (Jvm.Cond.instanceMethod ({ cls := "HarvestPlans$Search", name := "branch", desc := "(IJ)V" } : Jvm.MethodName)) ∈ nw_T := nw_T_in (List.mem_of_getElem? (i := 536) (by decide +kernel)) rfl
theorem kw_537 : (Jvm.Cond.code ({ cls := "HarvestPlans$Search", name := "branch", desc := "(IJ)V" } : Jvm.MethodName) prog_9_method_6_code (5 : Nat) (Option.none : Option Jvm.ClassFile.FieldType)) ∈ nw_T := nw_T_in (List.mem_of_getElem? (i := 537) (by decide +kernel)) rfl
theorem kw_538 : (Jvm.Cond.methodLink "HarvestPlans$Search" (73 : Nat) ({ cls := "HarvestPlans$Search", name := "meet", desc := "()V" } : Jvm.MethodName)) ∈ nw_T := nw_T_in (List.mem_of_getElem? (i := 538) (by decide +kernel)) rfl
theorem kw_540 : (Jvm.Cond.instanceMethod ({ cls := "HarvestPlans$Search", name := "meet", desc := "()V" } : Jvm.MethodName)) ∈ nw_T := nw_T_in (List.mem_of_getElem? (i := 540) (by decide +kernel)) rfl
theorem kw_541 : (Jvm.Cond.code ({ cls := "HarvestPlans$Search", name := "meet", desc := "()V" } : Jvm.MethodName) prog_9_method_8_code (3 : Nat) (Option.none : Option Jvm.ClassFile.FieldType)) ∈ nw_T := nw_T_in (List.mem_of_getElem? (i := 541) (by decide +kernel)) rfl
theorem kn_542 : (Jvm.Cond.methodLinkNest "HarvestPlans$Search" (92 : Nat) ({ cls := "HarvestPlans$Rules", name := "keepsAllHeld", desc := "([I)Z" } : Jvm.MethodName) "HarvestPlans") ∈ lw_tbl := List.mem_append_right _ (List.mem_of_getElem? (i := 542) (by decide +kernel))
theorem kw_544 : (Jvm.Cond.instanceMethod ({ cls := "HarvestPlans$Rules", name := "keepsAllHeld", desc := "([I)Z" } : Jvm.MethodName)) ∈ nw_T := nw_T_in (List.mem_of_getElem? (i := 544) (by decide +kernel)) rfl
theorem kw_545 : (Jvm.Cond.code ({ cls := "HarvestPlans$Rules", name := "keepsAllHeld", desc := "([I)Z" } : Jvm.MethodName) prog_7_method_7_code (3 : Nat) (Option.some Jvm.ClassFile.FieldType.boolean)) ∈ nw_T := nw_T_in (List.mem_of_getElem? (i := 545) (by decide +kernel)) rfl
theorem kw_546 : (Jvm.Cond.methodLink "HarvestPlans$Rules" (38 : Nat) ({ cls := "HarvestPlans$Rules", name := "keepsHeld", desc := "([II)Z" } : Jvm.MethodName)) ∈ nw_T := nw_T_in (List.mem_of_getElem? (i := 546) (by decide +kernel)) rfl
theorem kw_548 : (Jvm.Cond.instanceMethod ({ cls := "HarvestPlans$Rules", name := "keepsHeld", desc := "([II)Z" } : Jvm.MethodName)) ∈ nw_T := nw_T_in (List.mem_of_getElem? (i := 548) (by decide +kernel)) rfl
theorem kw_549 : (Jvm.Cond.code ({ cls := "HarvestPlans$Rules", name := "keepsHeld", desc := "([II)Z" } : Jvm.MethodName) prog_7_method_6_code (4 : Nat) (Option.some Jvm.ClassFile.FieldType.boolean)) ∈ nw_T := nw_T_in (List.mem_of_getElem? (i := 549) (by decide +kernel)) rfl
theorem kw_550 : (Jvm.Cond.methodLink "HarvestPlans$Rules" (72 : Nat) ({ cls := "java/util/Arrays", name := "fill", desc := "([II)V" } : Jvm.MethodName)) ∈ nw_T := nw_T_in (List.mem_of_getElem? (i := 550) (by decide +kernel)) rfl
theorem kn_551 : (Jvm.Cond.methodLinkNest "HarvestPlans$Search" (96 : Nat) ({ cls := "HarvestPlans$Sales", name := "sellAll", desc := "([I)J" } : Jvm.MethodName) "HarvestPlans") ∈ lw_tbl := List.mem_append_right _ (List.mem_of_getElem? (i := 551) (by decide +kernel))
theorem kw_553 : (Jvm.Cond.instanceMethod ({ cls := "HarvestPlans$Sales", name := "sellAll", desc := "([I)J" } : Jvm.MethodName)) ∈ nw_T := nw_T_in (List.mem_of_getElem? (i := 553) (by decide +kernel)) rfl
theorem kw_554 : (Jvm.Cond.code ({ cls := "HarvestPlans$Sales", name := "sellAll", desc := "([I)J" } : Jvm.MethodName) prog_8_method_2_code (6 : Nat) (Option.some Jvm.ClassFile.FieldType.long)) ∈ nw_T := nw_T_in (List.mem_of_getElem? (i := 554) (by decide +kernel)) rfl
theorem kw_555 : (Jvm.Cond.methodLink "HarvestPlans$Sales" (47 : Nat) ({ cls := "HarvestPlans$Sales", name := "serve", desc := "(LHarvestPlans$Order;[I)I" } : Jvm.MethodName)) ∈ nw_T := nw_T_in (List.mem_of_getElem? (i := 555) (by decide +kernel)) rfl
theorem kw_557 : (Jvm.Cond.instanceMethod ({ cls := "HarvestPlans$Sales", name := "serve", desc := "(LHarvestPlans$Order;[I)I" } : Jvm.MethodName)) ∈ nw_T := nw_T_in (List.mem_of_getElem? (i := 557) (by decide +kernel)) rfl
theorem kw_558 : (Jvm.Cond.code ({ cls := "HarvestPlans$Sales", name := "serve", desc := "(LHarvestPlans$Order;[I)I" } : Jvm.MethodName) prog_8_method_3_code (6 : Nat) (Option.some Jvm.ClassFile.FieldType.int)) ∈ nw_T := nw_T_in (List.mem_of_getElem? (i := 558) (by decide +kernel)) rfl
theorem kn_559 : (Jvm.Cond.methodLinkNest "HarvestPlans$Sales" (60 : Nat) ({ cls := "HarvestPlans$Order", name := "wants", desc := "(LHarvestPlans$Cage;I)Z" } : Jvm.MethodName) "HarvestPlans") ∈ lw_tbl := List.mem_append_right _ (List.mem_of_getElem? (i := 559) (by decide +kernel))
theorem kw_560 : (Jvm.Cond.methodLink "HarvestPlans$Sales" (66 : Nat) ({ cls := "java/lang/Math", name := "min", desc := "(II)I" } : Jvm.MethodName)) ∈ nw_T := nw_T_in (List.mem_of_getElem? (i := 560) (by decide +kernel)) rfl
theorem kw_561 : (Jvm.Cond.methodLink "HarvestPlans$Sales" (56 : Nat) ({ cls := "HarvestPlans$Sales", name := "priceOfRest", desc := "([I)J" } : Jvm.MethodName)) ∈ nw_T := nw_T_in (List.mem_of_getElem? (i := 561) (by decide +kernel)) rfl
theorem kw_563 : (Jvm.Cond.instanceMethod ({ cls := "HarvestPlans$Sales", name := "priceOfRest", desc := "([I)J" } : Jvm.MethodName)) ∈ nw_T := nw_T_in (List.mem_of_getElem? (i := 563) (by decide +kernel)) rfl
theorem kw_564 : (Jvm.Cond.code ({ cls := "HarvestPlans$Sales", name := "priceOfRest", desc := "([I)J" } : Jvm.MethodName) prog_8_method_4_code (5 : Nat) (Option.some Jvm.ClassFile.FieldType.long)) ∈ nw_T := nw_T_in (List.mem_of_getElem? (i := 564) (by decide +kernel)) rfl
theorem kn_565 : (Jvm.Cond.methodLinkNest "HarvestPlans$Sales" (72 : Nat) ({ cls := "HarvestPlans$Farm", name := "centsKept", desc := "(I)J" } : Jvm.MethodName) "HarvestPlans") ∈ lw_tbl := List.mem_append_right _ (List.mem_of_getElem? (i := 565) (by decide +kernel))
theorem kw_566 : (Jvm.Cond.methodLink "HarvestPlans$Search" (102 : Nat) ({ cls := "java/lang/System", name := "arraycopy", desc := "(Ljava/lang/Object;ILjava/lang/Object;II)V" } : Jvm.MethodName)) ∈ nw_T := nw_T_in (List.mem_of_getElem? (i := 566) (by decide +kernel)) rfl
theorem kw_567 : (Jvm.Cond.static ({ cls := "java/lang/System", name := "arraycopy", desc := "(Ljava/lang/Object;ILjava/lang/Object;II)V" } : Jvm.MethodName)) ∈ nw_T := nw_T_in (List.mem_of_getElem? (i := 567) (by decide +kernel)) rfl
-- 568: native
theorem kt_568 : (Jvm.Cond.native ({ cls := "java/lang/System", name := "arraycopy", desc := "(Ljava/lang/Object;ILjava/lang/Object;II)V" } : Jvm.MethodName)) ∈ tables_1 := List.mem_of_getElem? (i := 568) (by decide +kernel)
theorem kn_569 : (Jvm.Cond.methodLinkNest "HarvestPlans$Search" (79 : Nat) ({ cls := "HarvestPlans$Rules", name := "allowsTaking", desc := "([II)Z" } : Jvm.MethodName) "HarvestPlans") ∈ lw_tbl := List.mem_append_right _ (List.mem_of_getElem? (i := 569) (by decide +kernel))
theorem kw_571 : (Jvm.Cond.instanceMethod ({ cls := "HarvestPlans$Rules", name := "allowsTaking", desc := "([II)Z" } : Jvm.MethodName)) ∈ nw_T := nw_T_in (List.mem_of_getElem? (i := 571) (by decide +kernel)) rfl
theorem kw_572 : (Jvm.Cond.code ({ cls := "HarvestPlans$Rules", name := "allowsTaking", desc := "([II)Z" } : Jvm.MethodName) prog_7_method_3_code (3 : Nat) (Option.some Jvm.ClassFile.FieldType.boolean)) ∈ nw_T := nw_T_in (List.mem_of_getElem? (i := 572) (by decide +kernel)) rfl
theorem kw_573 : (Jvm.Cond.methodLink "HarvestPlans$Rules" (35 : Nat) ({ cls := "HarvestPlans$Rules", name := "keepsClosed", desc := "([II)Z" } : Jvm.MethodName)) ∈ nw_T := nw_T_in (List.mem_of_getElem? (i := 573) (by decide +kernel)) rfl
theorem kw_575 : (Jvm.Cond.instanceMethod ({ cls := "HarvestPlans$Rules", name := "keepsClosed", desc := "([II)Z" } : Jvm.MethodName)) ∈ nw_T := nw_T_in (List.mem_of_getElem? (i := 575) (by decide +kernel)) rfl
theorem kw_576 : (Jvm.Cond.code ({ cls := "HarvestPlans$Rules", name := "keepsClosed", desc := "([II)Z" } : Jvm.MethodName) prog_7_method_5_code (4 : Nat) (Option.some Jvm.ClassFile.FieldType.boolean)) ∈ nw_T := nw_T_in (List.mem_of_getElem? (i := 576) (by decide +kernel)) rfl
theorem kw_577 : (Jvm.Cond.methodLink "HarvestPlans$Rules" (28 : Nat) ({ cls := "HarvestPlans$Rules", name := "keepsPlant", desc := "([II)Z" } : Jvm.MethodName)) ∈ nw_T := nw_T_in (List.mem_of_getElem? (i := 577) (by decide +kernel)) rfl
theorem kw_579 : (Jvm.Cond.instanceMethod ({ cls := "HarvestPlans$Rules", name := "keepsPlant", desc := "([II)Z" } : Jvm.MethodName)) ∈ nw_T := nw_T_in (List.mem_of_getElem? (i := 579) (by decide +kernel)) rfl
theorem kw_580 : (Jvm.Cond.code ({ cls := "HarvestPlans$Rules", name := "keepsPlant", desc := "([II)Z" } : Jvm.MethodName) prog_7_method_4_code (5 : Nat) (Option.some Jvm.ClassFile.FieldType.boolean)) ∈ nw_T := nw_T_in (List.mem_of_getElem? (i := 580) (by decide +kernel)) rfl
theorem kw_581 : (Jvm.Cond.methodLink "HarvestPlans$Rules" (32 : Nat) ({ cls := "HarvestPlans$Rules", name := "keepsBoats", desc := "([II)Z" } : Jvm.MethodName)) ∈ nw_T := nw_T_in (List.mem_of_getElem? (i := 581) (by decide +kernel)) rfl
theorem kw_583 : (Jvm.Cond.instanceMethod ({ cls := "HarvestPlans$Rules", name := "keepsBoats", desc := "([II)Z" } : Jvm.MethodName)) ∈ nw_T := nw_T_in (List.mem_of_getElem? (i := 583) (by decide +kernel)) rfl
theorem kw_584 : (Jvm.Cond.code ({ cls := "HarvestPlans$Rules", name := "keepsBoats", desc := "([II)Z" } : Jvm.MethodName) prog_7_method_8_code (7 : Nat) (Option.some Jvm.ClassFile.FieldType.boolean)) ∈ nw_T := nw_T_in (List.mem_of_getElem? (i := 584) (by decide +kernel)) rfl
theorem kw_585 : (Jvm.Cond.methodLink "HarvestPlans$Rules" (87 : Nat) ({ cls := "HarvestPlans$Rules", name := "gatherNeeds", desc := "([II)I" } : Jvm.MethodName)) ∈ nw_T := nw_T_in (List.mem_of_getElem? (i := 585) (by decide +kernel)) rfl
theorem kw_587 : (Jvm.Cond.instanceMethod ({ cls := "HarvestPlans$Rules", name := "gatherNeeds", desc := "([II)I" } : Jvm.MethodName)) ∈ nw_T := nw_T_in (List.mem_of_getElem? (i := 587) (by decide +kernel)) rfl
theorem kw_588 : (Jvm.Cond.code ({ cls := "HarvestPlans$Rules", name := "gatherNeeds", desc := "([II)I" } : Jvm.MethodName) prog_7_method_9_code (5 : Nat) (Option.some Jvm.ClassFile.FieldType.int)) ∈ nw_T := nw_T_in (List.mem_of_getElem? (i := 588) (by decide +kernel)) rfl
theorem kw_589 : (Jvm.Cond.methodLink "HarvestPlans$Rules" (91 : Nat) ({ cls := "HarvestPlans$Rules", name := "gatherLoads", desc := "(I)I" } : Jvm.MethodName)) ∈ nw_T := nw_T_in (List.mem_of_getElem? (i := 589) (by decide +kernel)) rfl
theorem kw_591 : (Jvm.Cond.instanceMethod ({ cls := "HarvestPlans$Rules", name := "gatherLoads", desc := "(I)I" } : Jvm.MethodName)) ∈ nw_T := nw_T_in (List.mem_of_getElem? (i := 591) (by decide +kernel)) rfl
theorem kw_592 : (Jvm.Cond.code ({ cls := "HarvestPlans$Rules", name := "gatherLoads", desc := "(I)I" } : Jvm.MethodName) prog_7_method_10_code (4 : Nat) (Option.some Jvm.ClassFile.FieldType.int)) ∈ nw_T := nw_T_in (List.mem_of_getElem? (i := 592) (by decide +kernel)) rfl
theorem kw_593 : (Jvm.Cond.methodLink "HarvestPlans$Rules" (95 : Nat) ({ cls := "HarvestPlans$Rules", name := "carriesAll", desc := "(III)Z" } : Jvm.MethodName)) ∈ nw_T := nw_T_in (List.mem_of_getElem? (i := 593) (by decide +kernel)) rfl
theorem kw_595 : (Jvm.Cond.instanceMethod ({ cls := "HarvestPlans$Rules", name := "carriesAll", desc := "(III)Z" } : Jvm.MethodName)) ∈ nw_T := nw_T_in (List.mem_of_getElem? (i := 595) (by decide +kernel)) rfl
theorem kw_596 : (Jvm.Cond.code ({ cls := "HarvestPlans$Rules", name := "carriesAll", desc := "(III)Z" } : Jvm.MethodName) prog_7_method_11_code (6 : Nat) (Option.some Jvm.ClassFile.FieldType.boolean)) ∈ nw_T := nw_T_in (List.mem_of_getElem? (i := 596) (by decide +kernel)) rfl
theorem kw_597 : (Jvm.Cond.methodLink "HarvestPlans$Rules" (114 : Nat) ({ cls := "java/lang/System", name := "arraycopy", desc := "(Ljava/lang/Object;ILjava/lang/Object;II)V" } : Jvm.MethodName)) ∈ nw_T := nw_T_in (List.mem_of_getElem? (i := 597) (by decide +kernel)) rfl
theorem kw_598 : (Jvm.Cond.methodLink "HarvestPlans$Search" (85 : Nat) ({ cls := "HarvestPlans$Search", name := "makeNode", desc := "(IJ)V" } : Jvm.MethodName)) ∈ nw_T := nw_T_in (List.mem_of_getElem? (i := 598) (by decide +kernel)) rfl
theorem kw_600 : (Jvm.Cond.instanceMethod ({ cls := "HarvestPlans$Search", name := "makeNode", desc := "(IJ)V" } : Jvm.MethodName)) ∈ nw_T := nw_T_in (List.mem_of_getElem? (i := 600) (by decide +kernel)) rfl
theorem kw_601 : (Jvm.Cond.code ({ cls := "HarvestPlans$Search", name := "makeNode", desc := "(IJ)V" } : Jvm.MethodName) prog_9_method_7_code (6 : Nat) (Option.none : Option Jvm.ClassFile.FieldType)) ∈ nw_T := nw_T_in (List.mem_of_getElem? (i := 601) (by decide +kernel)) rfl
theorem kn_602 : (Jvm.Cond.methodLinkNest "HarvestPlans$Search" (88 : Nat) ({ cls := "HarvestPlans$Farm", name := "top", desc := "(II)J" } : Jvm.MethodName) "HarvestPlans") ∈ lw_tbl := List.mem_append_right _ (List.mem_of_getElem? (i := 602) (by decide +kernel))
theorem kn_603 : (Jvm.Cond.methodLinkNest "HarvestPlans" (169 : Nat) ({ cls := "HarvestPlans$Search", name := "hasMet", desc := "()Z" } : Jvm.MethodName) "HarvestPlans") ∈ lw_tbl := List.mem_append_right _ (List.mem_of_getElem? (i := 603) (by decide +kernel))
theorem kw_605 : (Jvm.Cond.instanceMethod ({ cls := "HarvestPlans$Search", name := "hasMet", desc := "()Z" } : Jvm.MethodName)) ∈ nw_T := nw_T_in (List.mem_of_getElem? (i := 605) (by decide +kernel)) rfl
theorem kw_606 : (Jvm.Cond.code ({ cls := "HarvestPlans$Search", name := "hasMet", desc := "()Z" } : Jvm.MethodName) prog_9_method_3_code (1 : Nat) (Option.some Jvm.ClassFile.FieldType.boolean)) ∈ nw_T := nw_T_in (List.mem_of_getElem? (i := 606) (by decide +kernel)) rfl
theorem kw_607 : (Jvm.Cond.methodLink "HarvestPlans" (179 : Nat) ({ cls := "java/lang/System", name := "arraycopy", desc := "(Ljava/lang/Object;ILjava/lang/Object;II)V" } : Jvm.MethodName)) ∈ nw_T := nw_T_in (List.mem_of_getElem? (i := 607) (by decide +kernel)) rfl
theorem kw_608 : (Jvm.Cond.methodLink "HarvestPlansLaw" (125 : Nat) ({ cls := "HarvestPlansLaw", name := "move", desc := "(LHarvestPlans;II[J)I" } : Jvm.MethodName)) ∈ nw_T := nw_T_in (List.mem_of_getElem? (i := 608) (by decide +kernel)) rfl
theorem kw_609 : (Jvm.Cond.static ({ cls := "HarvestPlansLaw", name := "move", desc := "(LHarvestPlans;II[J)I" } : Jvm.MethodName)) ∈ nw_T := nw_T_in (List.mem_of_getElem? (i := 609) (by decide +kernel)) rfl
-- 610: codeWith
theorem kt_610 : (Jvm.Cond.codeWith ({ cls := "HarvestPlansLaw", name := "move", desc := "(LHarvestPlans;II[J)I" } : Jvm.MethodName) method_13_code (5 : Nat) (Option.some Jvm.ClassFile.FieldType.int) [((0 : Nat), (10 : Nat), (13 : Nat), (13 : Nat))]) ∈ tables_1 := List.mem_of_getElem? (i := 610) (by decide +kernel)
theorem kw_611 : (Jvm.Cond.methodLink "HarvestPlansLaw" (49 : Nat) ({ cls := "HarvestPlans", name := "move", desc := "(II)I" } : Jvm.MethodName)) ∈ nw_T := nw_T_in (List.mem_of_getElem? (i := 611) (by decide +kernel)) rfl
theorem kw_612 : (Jvm.Cond.instanceMethod ({ cls := "HarvestPlans", name := "move", desc := "(II)I" } : Jvm.MethodName)) ∈ nw_T := nw_T_in (List.mem_of_getElem? (i := 612) (by decide +kernel)) rfl
theorem kw_613 : (Jvm.Cond.selects "HarvestPlans" ({ cls := "HarvestPlans", name := "move", desc := "(II)I" } : Jvm.MethodName) ({ cls := "HarvestPlans", name := "move", desc := "(II)I" } : Jvm.MethodName)) ∈ nw_T := nw_T_in (List.mem_of_getElem? (i := 613) (by decide +kernel)) rfl
theorem kw_614 : (Jvm.Cond.code ({ cls := "HarvestPlans", name := "move", desc := "(II)I" } : Jvm.MethodName) prog_1_method_14_code (4 : Nat) (Option.some Jvm.ClassFile.FieldType.int)) ∈ nw_T := nw_T_in (List.mem_of_getElem? (i := 614) (by decide +kernel)) rfl
theorem kw_615 : (Jvm.Cond.methodLink "HarvestPlansLaw" (128 : Nat) ({ cls := "HarvestPlansLaw", name := "taken", desc := "(LHarvestPlans;I[J)I" } : Jvm.MethodName)) ∈ nw_T := nw_T_in (List.mem_of_getElem? (i := 615) (by decide +kernel)) rfl
theorem kw_616 : (Jvm.Cond.static ({ cls := "HarvestPlansLaw", name := "taken", desc := "(LHarvestPlans;I[J)I" } : Jvm.MethodName)) ∈ nw_T := nw_T_in (List.mem_of_getElem? (i := 616) (by decide +kernel)) rfl
-- 617: codeWith
theorem kt_617 : (Jvm.Cond.codeWith ({ cls := "HarvestPlansLaw", name := "taken", desc := "(LHarvestPlans;I[J)I" } : Jvm.MethodName) method_14_code (4 : Nat) (Option.some Jvm.ClassFile.FieldType.int) [((0 : Nat), (9 : Nat), (12 : Nat), (13 : Nat))]) ∈ tables_1 := List.mem_of_getElem? (i := 617) (by decide +kernel)
theorem kw_618 : (Jvm.Cond.methodLink "HarvestPlansLaw" (52 : Nat) ({ cls := "HarvestPlans", name := "taken", desc := "(I)I" } : Jvm.MethodName)) ∈ nw_T := nw_T_in (List.mem_of_getElem? (i := 618) (by decide +kernel)) rfl
theorem kw_619 : (Jvm.Cond.instanceMethod ({ cls := "HarvestPlans", name := "taken", desc := "(I)I" } : Jvm.MethodName)) ∈ nw_T := nw_T_in (List.mem_of_getElem? (i := 619) (by decide +kernel)) rfl
theorem kw_620 : (Jvm.Cond.selects "HarvestPlans" ({ cls := "HarvestPlans", name := "taken", desc := "(I)I" } : Jvm.MethodName) ({ cls := "HarvestPlans", name := "taken", desc := "(I)I" } : Jvm.MethodName)) ∈ nw_T := nw_T_in (List.mem_of_getElem? (i := 620) (by decide +kernel)) rfl
theorem kw_621 : (Jvm.Cond.code ({ cls := "HarvestPlans", name := "taken", desc := "(I)I" } : Jvm.MethodName) prog_1_method_15_code (2 : Nat) (Option.some Jvm.ClassFile.FieldType.int)) ∈ nw_T := nw_T_in (List.mem_of_getElem? (i := 621) (by decide +kernel)) rfl
theorem kw_622 : (Jvm.Cond.methodLink "HarvestPlansLaw" (131 : Nat) ({ cls := "HarvestPlansLaw", name := "check", desc := "(LHarvestPlans;[J)I" } : Jvm.MethodName)) ∈ nw_T := nw_T_in (List.mem_of_getElem? (i := 622) (by decide +kernel)) rfl
theorem kw_623 : (Jvm.Cond.static ({ cls := "HarvestPlansLaw", name := "check", desc := "(LHarvestPlans;[J)I" } : Jvm.MethodName)) ∈ nw_T := nw_T_in (List.mem_of_getElem? (i := 623) (by decide +kernel)) rfl
-- 624: codeWith
theorem kt_624 : (Jvm.Cond.codeWith ({ cls := "HarvestPlansLaw", name := "check", desc := "(LHarvestPlans;[J)I" } : Jvm.MethodName) method_15_code (3 : Nat) (Option.some Jvm.ClassFile.FieldType.int) [((0 : Nat), (8 : Nat), (11 : Nat), (15 : Nat))]) ∈ tables_1 := List.mem_of_getElem? (i := 624) (by decide +kernel)
theorem kw_625 : (Jvm.Cond.methodLink "HarvestPlansLaw" (55 : Nat) ({ cls := "HarvestPlans", name := "check", desc := "()I" } : Jvm.MethodName)) ∈ nw_T := nw_T_in (List.mem_of_getElem? (i := 625) (by decide +kernel)) rfl
theorem kw_626 : (Jvm.Cond.instanceMethod ({ cls := "HarvestPlans", name := "check", desc := "()I" } : Jvm.MethodName)) ∈ nw_T := nw_T_in (List.mem_of_getElem? (i := 626) (by decide +kernel)) rfl
theorem kw_627 : (Jvm.Cond.selects "HarvestPlans" ({ cls := "HarvestPlans", name := "check", desc := "()I" } : Jvm.MethodName) ({ cls := "HarvestPlans", name := "check", desc := "()I" } : Jvm.MethodName)) ∈ nw_T := nw_T_in (List.mem_of_getElem? (i := 627) (by decide +kernel)) rfl
theorem kw_628 : (Jvm.Cond.code ({ cls := "HarvestPlans", name := "check", desc := "()I" } : Jvm.MethodName) prog_1_method_16_code (3 : Nat) (Option.some Jvm.ClassFile.FieldType.int)) ∈ nw_T := nw_T_in (List.mem_of_getElem? (i := 628) (by decide +kernel)) rfl
theorem kw_629 : (Jvm.Cond.methodLink "HarvestPlans" (192 : Nat) ({ cls := "HarvestPlans", name := "requirePlan", desc := "()V" } : Jvm.MethodName)) ∈ nw_T := nw_T_in (List.mem_of_getElem? (i := 629) (by decide +kernel)) rfl
theorem kw_631 : (Jvm.Cond.instanceMethod ({ cls := "HarvestPlans", name := "requirePlan", desc := "()V" } : Jvm.MethodName)) ∈ nw_T := nw_T_in (List.mem_of_getElem? (i := 631) (by decide +kernel)) rfl
theorem kw_632 : (Jvm.Cond.code ({ cls := "HarvestPlans", name := "requirePlan", desc := "()V" } : Jvm.MethodName) prog_1_method_20_code (1 : Nat) (Option.none : Option Jvm.ClassFile.FieldType)) ∈ nw_T := nw_T_in (List.mem_of_getElem? (i := 632) (by decide +kernel)) rfl
-- 633: stringRef
theorem kt_633 : (Jvm.Cond.stringRef "HarvestPlans" (208 : Nat) "there is no plan at hand") ∈ tables_1 := List.mem_of_getElem? (i := 633) (by decide +kernel)
theorem kn_634 : (Jvm.Cond.methodLinkNest "HarvestPlans" (195 : Nat) ({ cls := "HarvestPlans$Rules", name := "leastBroken", desc := "([II)I" } : Jvm.MethodName) "HarvestPlans") ∈ lw_tbl := List.mem_append_right _ (List.mem_of_getElem? (i := 634) (by decide +kernel))
theorem kw_636 : (Jvm.Cond.instanceMethod ({ cls := "HarvestPlans$Rules", name := "leastBroken", desc := "([II)I" } : Jvm.MethodName)) ∈ nw_T := nw_T_in (List.mem_of_getElem? (i := 636) (by decide +kernel)) rfl
theorem kw_637 : (Jvm.Cond.code ({ cls := "HarvestPlans$Rules", name := "leastBroken", desc := "([II)I" } : Jvm.MethodName) prog_7_method_2_code (3 : Nat) (Option.some Jvm.ClassFile.FieldType.int)) ∈ nw_T := nw_T_in (List.mem_of_getElem? (i := 637) (by decide +kernel)) rfl
theorem kw_638 : (Jvm.Cond.methodLink "HarvestPlansLaw" (135 : Nat) ({ cls := "HarvestPlansLaw", name := "worth", desc := "(LHarvestPlans;[J)I" } : Jvm.MethodName)) ∈ nw_T := nw_T_in (List.mem_of_getElem? (i := 638) (by decide +kernel)) rfl
theorem kw_639 : (Jvm.Cond.static ({ cls := "HarvestPlansLaw", name := "worth", desc := "(LHarvestPlans;[J)I" } : Jvm.MethodName)) ∈ nw_T := nw_T_in (List.mem_of_getElem? (i := 639) (by decide +kernel)) rfl
-- 640: codeWith
theorem kt_640 : (Jvm.Cond.codeWith ({ cls := "HarvestPlansLaw", name := "worth", desc := "(LHarvestPlans;[J)I" } : Jvm.MethodName) method_16_code (3 : Nat) (Option.some Jvm.ClassFile.FieldType.int) [((0 : Nat), (7 : Nat), (10 : Nat), (15 : Nat))]) ∈ tables_1 := List.mem_of_getElem? (i := 640) (by decide +kernel)
theorem kw_641 : (Jvm.Cond.methodLink "HarvestPlansLaw" (59 : Nat) ({ cls := "HarvestPlans", name := "worth", desc := "()J" } : Jvm.MethodName)) ∈ nw_T := nw_T_in (List.mem_of_getElem? (i := 641) (by decide +kernel)) rfl
theorem kw_642 : (Jvm.Cond.instanceMethod ({ cls := "HarvestPlans", name := "worth", desc := "()J" } : Jvm.MethodName)) ∈ nw_T := nw_T_in (List.mem_of_getElem? (i := 642) (by decide +kernel)) rfl
theorem kw_643 : (Jvm.Cond.selects "HarvestPlans" ({ cls := "HarvestPlans", name := "worth", desc := "()J" } : Jvm.MethodName) ({ cls := "HarvestPlans", name := "worth", desc := "()J" } : Jvm.MethodName)) ∈ nw_T := nw_T_in (List.mem_of_getElem? (i := 643) (by decide +kernel)) rfl
theorem kw_644 : (Jvm.Cond.code ({ cls := "HarvestPlans", name := "worth", desc := "()J" } : Jvm.MethodName) prog_1_method_17_code (1 : Nat) (Option.some Jvm.ClassFile.FieldType.long)) ∈ nw_T := nw_T_in (List.mem_of_getElem? (i := 644) (by decide +kernel)) rfl
theorem kn_645 : (Jvm.Cond.methodLinkNest "HarvestPlans" (199 : Nat) ({ cls := "HarvestPlans$Sales", name := "sellAll", desc := "([I)J" } : Jvm.MethodName) "HarvestPlans") ∈ lw_tbl := List.mem_append_right _ (List.mem_of_getElem? (i := 645) (by decide +kernel))
theorem kw_646 : (Jvm.Cond.methodLink "HarvestPlansLaw" (138 : Nat) ({ cls := "HarvestPlansLaw", name := "sold", desc := "(LHarvestPlans;I[J)I" } : Jvm.MethodName)) ∈ nw_T := nw_T_in (List.mem_of_getElem? (i := 646) (by decide +kernel)) rfl
theorem kw_647 : (Jvm.Cond.static ({ cls := "HarvestPlansLaw", name := "sold", desc := "(LHarvestPlans;I[J)I" } : Jvm.MethodName)) ∈ nw_T := nw_T_in (List.mem_of_getElem? (i := 647) (by decide +kernel)) rfl
-- 648: codeWith
theorem kt_648 : (Jvm.Cond.codeWith ({ cls := "HarvestPlansLaw", name := "sold", desc := "(LHarvestPlans;I[J)I" } : Jvm.MethodName) method_17_code (4 : Nat) (Option.some Jvm.ClassFile.FieldType.int) [((0 : Nat), (9 : Nat), (12 : Nat), (13 : Nat)), ((0 : Nat), (9 : Nat), (15 : Nat), (15 : Nat))]) ∈ tables_1 := List.mem_of_getElem? (i := 648) (by decide +kernel)
theorem kw_649 : (Jvm.Cond.methodLink "HarvestPlansLaw" (63 : Nat) ({ cls := "HarvestPlans", name := "sold", desc := "(I)I" } : Jvm.MethodName)) ∈ nw_T := nw_T_in (List.mem_of_getElem? (i := 649) (by decide +kernel)) rfl
theorem kw_650 : (Jvm.Cond.instanceMethod ({ cls := "HarvestPlans", name := "sold", desc := "(I)I" } : Jvm.MethodName)) ∈ nw_T := nw_T_in (List.mem_of_getElem? (i := 650) (by decide +kernel)) rfl
theorem kw_651 : (Jvm.Cond.selects "HarvestPlans" ({ cls := "HarvestPlans", name := "sold", desc := "(I)I" } : Jvm.MethodName) ({ cls := "HarvestPlans", name := "sold", desc := "(I)I" } : Jvm.MethodName)) ∈ nw_T := nw_T_in (List.mem_of_getElem? (i := 651) (by decide +kernel)) rfl
theorem kw_652 : (Jvm.Cond.code ({ cls := "HarvestPlans", name := "sold", desc := "(I)I" } : Jvm.MethodName) prog_1_method_18_code (2 : Nat) (Option.some Jvm.ClassFile.FieldType.int)) ∈ nw_T := nw_T_in (List.mem_of_getElem? (i := 652) (by decide +kernel)) rfl
theorem kw_653 : (Jvm.Cond.classLink "HarvestPlansLaw" (75 : Nat) "HarvestPlansModel") ∈ nw_T := nw_T_in (List.mem_of_getElem? (i := 653) (by decide +kernel)) rfl
theorem kw_654 : (Jvm.Cond.instantiable "HarvestPlansModel" (33 : Nat)) ∈ nw_T := nw_T_in (List.mem_of_getElem? (i := 654) (by decide +kernel)) rfl
theorem kw_655 : (Jvm.Cond.methodLink "HarvestPlansLaw" (77 : Nat) ({ cls := "HarvestPlansModel", name := "<init>", desc := "(I)V" } : Jvm.MethodName)) ∈ nw_T := nw_T_in (List.mem_of_getElem? (i := 655) (by decide +kernel)) rfl
theorem kw_656 : (Jvm.Cond.instanceMethod ({ cls := "HarvestPlansModel", name := "<init>", desc := "(I)V" } : Jvm.MethodName)) ∈ nw_T := nw_T_in (List.mem_of_getElem? (i := 656) (by decide +kernel)) rfl
theorem kw_657 : (Jvm.Cond.code ({ cls := "HarvestPlansModel", name := "<init>", desc := "(I)V" } : Jvm.MethodName) prog_11_method_1_code (2 : Nat) (Option.none : Option Jvm.ClassFile.FieldType)) ∈ nw_T := nw_T_in (List.mem_of_getElem? (i := 657) (by decide +kernel)) rfl
theorem kw_658 : (Jvm.Cond.methodLink "HarvestPlansModel" (1 : Nat) ({ cls := "java/lang/Object", name := "<init>", desc := "()V" } : Jvm.MethodName)) ∈ nw_T := nw_T_in (List.mem_of_getElem? (i := 658) (by decide +kernel)) rfl
theorem kw_659 : (Jvm.Cond.fieldLink "HarvestPlansModel" (75 : Nat) "HarvestPlansModel" "weeks" "I") ∈ nw_T := nw_T_in (List.mem_of_getElem? (i := 659) (by decide +kernel)) rfl
theorem kw_660 : (Jvm.Cond.fieldLink "HarvestPlansModel" (79 : Nat) "HarvestPlansModel" "thrown" "I") ∈ nw_T := nw_T_in (List.mem_of_getElem? (i := 660) (by decide +kernel)) rfl
theorem kw_661 : (Jvm.Cond.fieldLink "HarvestPlansModel" (90 : Nat) "HarvestPlansModel" "places" "I") ∈ nw_T := nw_T_in (List.mem_of_getElem? (i := 661) (by decide +kernel)) rfl
theorem kw_662 : (Jvm.Cond.fieldLink "HarvestPlansModel" (7 : Nat) "HarvestPlansModel" "mosts" "[I") ∈ nw_T := nw_T_in (List.mem_of_getElem? (i := 662) (by decide +kernel)) rfl
theorem kw_663 : (Jvm.Cond.fieldLink "HarvestPlansModel" (13 : Nat) "HarvestPlansModel" "closed" "[Z") ∈ nw_T := nw_T_in (List.mem_of_getElem? (i := 663) (by decide +kernel)) rfl
theorem kw_664 : (Jvm.Cond.fieldLink "HarvestPlansModel" (101 : Nat) "HarvestPlansModel" "cages" "I") ∈ nw_T := nw_T_in (List.mem_of_getElem? (i := 664) (by decide +kernel)) rfl
theorem kw_665 : (Jvm.Cond.fieldLink "HarvestPlansModel" (17 : Nat) "HarvestPlansModel" "placeOf" "[I") ∈ nw_T := nw_T_in (List.mem_of_getElem? (i := 665) (by decide +kernel)) rfl
theorem kw_666 : (Jvm.Cond.fieldLink "HarvestPlansModel" (20 : Nat) "HarvestPlansModel" "grams" "[I") ∈ nw_T := nw_T_in (List.mem_of_getElem? (i := 666) (by decide +kernel)) rfl
theorem kw_667 : (Jvm.Cond.fieldLink "HarvestPlansModel" (23 : Nat) "HarvestPlansModel" "fish" "[I") ∈ nw_T := nw_T_in (List.mem_of_getElem? (i := 667) (by decide +kernel)) rfl
theorem kw_668 : (Jvm.Cond.fieldLink "HarvestPlansModel" (112 : Nat) "HarvestPlansModel" "boats" "I") ∈ nw_T := nw_T_in (List.mem_of_getElem? (i := 668) (by decide +kernel)) rfl
theorem kw_669 : (Jvm.Cond.fieldLink "HarvestPlansModel" (26 : Nat) "HarvestPlansModel" "loads" "[I") ∈ nw_T := nw_T_in (List.mem_of_getElem? (i := 669) (by decide +kernel)) rfl
theorem kw_670 : (Jvm.Cond.fieldLink "HarvestPlansModel" (29 : Nat) "HarvestPlansModel" "barred" "[Z") ∈ nw_T := nw_T_in (List.mem_of_getElem? (i := 670) (by decide +kernel)) rfl
theorem kw_671 : (Jvm.Cond.fieldLink "HarvestPlansModel" (32 : Nat) "HarvestPlansModel" "plants" "[I") ∈ nw_T := nw_T_in (List.mem_of_getElem? (i := 671) (by decide +kernel)) rfl
theorem kw_672 : (Jvm.Cond.fieldLink "HarvestPlansModel" (117 : Nat) "HarvestPlansModel" "orders" "I") ∈ nw_T := nw_T_in (List.mem_of_getElem? (i := 672) (by decide +kernel)) rfl
theorem kw_673 : (Jvm.Cond.fieldLink "HarvestPlansModel" (35 : Nat) "HarvestPlansModel" "orderWeek" "[I") ∈ nw_T := nw_T_in (List.mem_of_getElem? (i := 673) (by decide +kernel)) rfl
theorem kw_674 : (Jvm.Cond.fieldLink "HarvestPlansModel" (38 : Nat) "HarvestPlansModel" "orderLeast" "[I") ∈ nw_T := nw_T_in (List.mem_of_getElem? (i := 674) (by decide +kernel)) rfl
theorem kw_675 : (Jvm.Cond.fieldLink "HarvestPlansModel" (41 : Nat) "HarvestPlansModel" "orderMost" "[I") ∈ nw_T := nw_T_in (List.mem_of_getElem? (i := 675) (by decide +kernel)) rfl
theorem kw_676 : (Jvm.Cond.fieldLink "HarvestPlansModel" (44 : Nat) "HarvestPlansModel" "orderKilos" "[I") ∈ nw_T := nw_T_in (List.mem_of_getElem? (i := 676) (by decide +kernel)) rfl
theorem kw_677 : (Jvm.Cond.fieldLink "HarvestPlansModel" (47 : Nat) "HarvestPlansModel" "orderCents" "[I") ∈ nw_T := nw_T_in (List.mem_of_getElem? (i := 677) (by decide +kernel)) rfl
theorem kw_678 : (Jvm.Cond.fieldLink "HarvestPlansModel" (120 : Nat) "HarvestPlansModel" "spot" "I") ∈ nw_T := nw_T_in (List.mem_of_getElem? (i := 678) (by decide +kernel)) rfl
theorem kw_679 : (Jvm.Cond.fieldLink "HarvestPlansModel" (123 : Nat) "HarvestPlansModel" "keep" "I") ∈ nw_T := nw_T_in (List.mem_of_getElem? (i := 679) (by decide +kernel)) rfl
theorem kw_680 : (Jvm.Cond.fieldLink "HarvestPlansModel" (97 : Nat) "HarvestPlansModel" "hasPlan" "Z") ∈ nw_T := nw_T_in (List.mem_of_getElem? (i := 680) (by decide +kernel)) rfl
theorem kw_681 : (Jvm.Cond.fieldLink "HarvestPlansModel" (50 : Nat) "HarvestPlansModel" "plan" "[I") ∈ nw_T := nw_T_in (List.mem_of_getElem? (i := 681) (by decide +kernel)) rfl
theorem kw_682 : (Jvm.Cond.fieldLink "HarvestPlansModel" (177 : Nat) "HarvestPlansModel" "nodes" "I") ∈ nw_T := nw_T_in (List.mem_of_getElem? (i := 682) (by decide +kernel)) rfl
theorem kw_683 : (Jvm.Cond.fieldLink "HarvestPlansModel" (53 : Nat) "HarvestPlansModel" "tried" "[I") ∈ nw_T := nw_T_in (List.mem_of_getElem? (i := 683) (by decide +kernel)) rfl
theorem kw_684 : (Jvm.Cond.fieldLink "HarvestPlansModel" (56 : Nat) "HarvestPlansModel" "best" "[I") ∈ nw_T := nw_T_in (List.mem_of_getElem? (i := 684) (by decide +kernel)) rfl
theorem kw_685 : (Jvm.Cond.fieldLink "HarvestPlansModel" (170 : Nat) "HarvestPlansModel" "hasBest" "Z") ∈ nw_T := nw_T_in (List.mem_of_getElem? (i := 685) (by decide +kernel)) rfl
theorem kw_686 : (Jvm.Cond.fieldLink "HarvestPlansModel" (173 : Nat) "HarvestPlansModel" "bestWorth" "J") ∈ nw_T := nw_T_in (List.mem_of_getElem? (i := 686) (by decide +kernel)) rfl
theorem kw_687 : (Jvm.Cond.fieldLink "HarvestPlansModel" (59 : Nat) "HarvestPlansModel" "left" "[J") ∈ nw_T := nw_T_in (List.mem_of_getElem? (i := 687) (by decide +kernel)) rfl
theorem kw_688 : (Jvm.Cond.fieldLink "HarvestPlansModel" (63 : Nat) "HarvestPlansModel" "sold" "[J") ∈ nw_T := nw_T_in (List.mem_of_getElem? (i := 688) (by decide +kernel)) rfl
theorem kw_689 : (Jvm.Cond.fieldLink "HarvestPlansModel" (66 : Nat) "HarvestPlansModel" "served" "[Z") ∈ nw_T := nw_T_in (List.mem_of_getElem? (i := 689) (by decide +kernel)) rfl
theorem kw_690 : (Jvm.Cond.fieldLink "HarvestPlansModel" (69 : Nat) "HarvestPlansModel" "needs" "[J") ∈ nw_T := nw_T_in (List.mem_of_getElem? (i := 690) (by decide +kernel)) rfl
theorem kw_691 : (Jvm.Cond.fieldLink "HarvestPlansModel" (72 : Nat) "HarvestPlansModel" "carried" "[J") ∈ nw_T := nw_T_in (List.mem_of_getElem? (i := 691) (by decide +kernel)) rfl
theorem kw_692 : (Jvm.Cond.laysFinal "HarvestPlansModel" "HarvestPlansModel" "weeks" "I") ∈ nw_T := nw_T_in (List.mem_of_getElem? (i := 692) (by decide +kernel)) rfl
theorem kw_694 : (Jvm.Cond.lays "HarvestPlansModel" "HarvestPlansModel" "thrown" "I") ∈ nw_T := nw_T_in (List.mem_of_getElem? (i := 694) (by decide +kernel)) rfl
theorem kw_696 : (Jvm.Cond.lays "HarvestPlansModel" "HarvestPlansModel" "places" "I") ∈ nw_T := nw_T_in (List.mem_of_getElem? (i := 696) (by decide +kernel)) rfl
theorem kw_698 : (Jvm.Cond.laysFinal "HarvestPlansModel" "HarvestPlansModel" "mosts" "[I") ∈ nw_T := nw_T_in (List.mem_of_getElem? (i := 698) (by decide +kernel)) rfl
theorem kw_700 : (Jvm.Cond.laysFinal "HarvestPlansModel" "HarvestPlansModel" "closed" "[Z") ∈ nw_T := nw_T_in (List.mem_of_getElem? (i := 700) (by decide +kernel)) rfl
theorem kw_702 : (Jvm.Cond.lays "HarvestPlansModel" "HarvestPlansModel" "cages" "I") ∈ nw_T := nw_T_in (List.mem_of_getElem? (i := 702) (by decide +kernel)) rfl
theorem kw_704 : (Jvm.Cond.laysFinal "HarvestPlansModel" "HarvestPlansModel" "placeOf" "[I") ∈ nw_T := nw_T_in (List.mem_of_getElem? (i := 704) (by decide +kernel)) rfl
theorem kw_706 : (Jvm.Cond.laysFinal "HarvestPlansModel" "HarvestPlansModel" "grams" "[I") ∈ nw_T := nw_T_in (List.mem_of_getElem? (i := 706) (by decide +kernel)) rfl
theorem kw_708 : (Jvm.Cond.laysFinal "HarvestPlansModel" "HarvestPlansModel" "fish" "[I") ∈ nw_T := nw_T_in (List.mem_of_getElem? (i := 708) (by decide +kernel)) rfl
theorem kw_710 : (Jvm.Cond.lays "HarvestPlansModel" "HarvestPlansModel" "boats" "I") ∈ nw_T := nw_T_in (List.mem_of_getElem? (i := 710) (by decide +kernel)) rfl
theorem kw_712 : (Jvm.Cond.laysFinal "HarvestPlansModel" "HarvestPlansModel" "loads" "[I") ∈ nw_T := nw_T_in (List.mem_of_getElem? (i := 712) (by decide +kernel)) rfl
theorem kw_714 : (Jvm.Cond.laysFinal "HarvestPlansModel" "HarvestPlansModel" "barred" "[Z") ∈ nw_T := nw_T_in (List.mem_of_getElem? (i := 714) (by decide +kernel)) rfl
theorem kw_716 : (Jvm.Cond.laysFinal "HarvestPlansModel" "HarvestPlansModel" "plants" "[I") ∈ nw_T := nw_T_in (List.mem_of_getElem? (i := 716) (by decide +kernel)) rfl
theorem kw_718 : (Jvm.Cond.lays "HarvestPlansModel" "HarvestPlansModel" "orders" "I") ∈ nw_T := nw_T_in (List.mem_of_getElem? (i := 718) (by decide +kernel)) rfl
theorem kw_720 : (Jvm.Cond.laysFinal "HarvestPlansModel" "HarvestPlansModel" "orderWeek" "[I") ∈ nw_T := nw_T_in (List.mem_of_getElem? (i := 720) (by decide +kernel)) rfl
theorem kw_722 : (Jvm.Cond.laysFinal "HarvestPlansModel" "HarvestPlansModel" "orderLeast" "[I") ∈ nw_T := nw_T_in (List.mem_of_getElem? (i := 722) (by decide +kernel)) rfl
theorem kw_724 : (Jvm.Cond.laysFinal "HarvestPlansModel" "HarvestPlansModel" "orderMost" "[I") ∈ nw_T := nw_T_in (List.mem_of_getElem? (i := 724) (by decide +kernel)) rfl
theorem kw_726 : (Jvm.Cond.laysFinal "HarvestPlansModel" "HarvestPlansModel" "orderKilos" "[I") ∈ nw_T := nw_T_in (List.mem_of_getElem? (i := 726) (by decide +kernel)) rfl
theorem kw_728 : (Jvm.Cond.laysFinal "HarvestPlansModel" "HarvestPlansModel" "orderCents" "[I") ∈ nw_T := nw_T_in (List.mem_of_getElem? (i := 728) (by decide +kernel)) rfl
theorem kw_730 : (Jvm.Cond.lays "HarvestPlansModel" "HarvestPlansModel" "spot" "I") ∈ nw_T := nw_T_in (List.mem_of_getElem? (i := 730) (by decide +kernel)) rfl
theorem kw_732 : (Jvm.Cond.lays "HarvestPlansModel" "HarvestPlansModel" "keep" "I") ∈ nw_T := nw_T_in (List.mem_of_getElem? (i := 732) (by decide +kernel)) rfl
theorem kw_734 : (Jvm.Cond.lays "HarvestPlansModel" "HarvestPlansModel" "hasPlan" "Z") ∈ nw_T := nw_T_in (List.mem_of_getElem? (i := 734) (by decide +kernel)) rfl
theorem kw_736 : (Jvm.Cond.laysFinal "HarvestPlansModel" "HarvestPlansModel" "plan" "[I") ∈ nw_T := nw_T_in (List.mem_of_getElem? (i := 736) (by decide +kernel)) rfl
theorem kw_738 : (Jvm.Cond.lays "HarvestPlansModel" "HarvestPlansModel" "nodes" "I") ∈ nw_T := nw_T_in (List.mem_of_getElem? (i := 738) (by decide +kernel)) rfl
theorem kw_740 : (Jvm.Cond.laysFinal "HarvestPlansModel" "HarvestPlansModel" "tried" "[I") ∈ nw_T := nw_T_in (List.mem_of_getElem? (i := 740) (by decide +kernel)) rfl
theorem kw_742 : (Jvm.Cond.laysFinal "HarvestPlansModel" "HarvestPlansModel" "best" "[I") ∈ nw_T := nw_T_in (List.mem_of_getElem? (i := 742) (by decide +kernel)) rfl
theorem kw_744 : (Jvm.Cond.lays "HarvestPlansModel" "HarvestPlansModel" "hasBest" "Z") ∈ nw_T := nw_T_in (List.mem_of_getElem? (i := 744) (by decide +kernel)) rfl
theorem kw_746 : (Jvm.Cond.lays "HarvestPlansModel" "HarvestPlansModel" "bestWorth" "J") ∈ nw_T := nw_T_in (List.mem_of_getElem? (i := 746) (by decide +kernel)) rfl
theorem kw_748 : (Jvm.Cond.laysFinal "HarvestPlansModel" "HarvestPlansModel" "left" "[J") ∈ nw_T := nw_T_in (List.mem_of_getElem? (i := 748) (by decide +kernel)) rfl
theorem kw_750 : (Jvm.Cond.laysFinal "HarvestPlansModel" "HarvestPlansModel" "sold" "[J") ∈ nw_T := nw_T_in (List.mem_of_getElem? (i := 750) (by decide +kernel)) rfl
theorem kw_752 : (Jvm.Cond.laysFinal "HarvestPlansModel" "HarvestPlansModel" "served" "[Z") ∈ nw_T := nw_T_in (List.mem_of_getElem? (i := 752) (by decide +kernel)) rfl
theorem kw_754 : (Jvm.Cond.laysFinal "HarvestPlansModel" "HarvestPlansModel" "needs" "[J") ∈ nw_T := nw_T_in (List.mem_of_getElem? (i := 754) (by decide +kernel)) rfl
theorem kw_756 : (Jvm.Cond.laysFinal "HarvestPlansModel" "HarvestPlansModel" "carried" "[J") ∈ nw_T := nw_T_in (List.mem_of_getElem? (i := 756) (by decide +kernel)) rfl
theorem kw_758 : (Jvm.Cond.superclass "HarvestPlansModel" "java/lang/Object") ∈ nw_T := nw_T_in (List.mem_of_getElem? (i := 758) (by decide +kernel)) rfl
theorem kw_759 : (Jvm.Cond.methodLink "HarvestPlansLaw" (82 : Nat) ({ cls := "HarvestPlansModel", name := "thrown", desc := "()I" } : Jvm.MethodName)) ∈ nw_T := nw_T_in (List.mem_of_getElem? (i := 759) (by decide +kernel)) rfl
theorem kw_760 : (Jvm.Cond.instanceMethod ({ cls := "HarvestPlansModel", name := "thrown", desc := "()I" } : Jvm.MethodName)) ∈ nw_T := nw_T_in (List.mem_of_getElem? (i := 760) (by decide +kernel)) rfl
theorem kw_761 : (Jvm.Cond.selects "HarvestPlansModel" ({ cls := "HarvestPlansModel", name := "thrown", desc := "()I" } : Jvm.MethodName) ({ cls := "HarvestPlansModel", name := "thrown", desc := "()I" } : Jvm.MethodName)) ∈ nw_T := nw_T_in (List.mem_of_getElem? (i := 761) (by decide +kernel)) rfl
theorem kw_762 : (Jvm.Cond.code ({ cls := "HarvestPlansModel", name := "thrown", desc := "()I" } : Jvm.MethodName) prog_11_method_2_code (1 : Nat) (Option.some Jvm.ClassFile.FieldType.int)) ∈ nw_T := nw_T_in (List.mem_of_getElem? (i := 762) (by decide +kernel)) rfl
theorem kw_763 : (Jvm.Cond.methodLink "HarvestPlansLaw" (81 : Nat) ({ cls := "HarvestPlansModel", name := "place", desc := "(I)I" } : Jvm.MethodName)) ∈ nw_T := nw_T_in (List.mem_of_getElem? (i := 763) (by decide +kernel)) rfl
theorem kw_764 : (Jvm.Cond.instanceMethod ({ cls := "HarvestPlansModel", name := "place", desc := "(I)I" } : Jvm.MethodName)) ∈ nw_T := nw_T_in (List.mem_of_getElem? (i := 764) (by decide +kernel)) rfl
theorem kw_765 : (Jvm.Cond.selects "HarvestPlansModel" ({ cls := "HarvestPlansModel", name := "place", desc := "(I)I" } : Jvm.MethodName) ({ cls := "HarvestPlansModel", name := "place", desc := "(I)I" } : Jvm.MethodName)) ∈ nw_T := nw_T_in (List.mem_of_getElem? (i := 765) (by decide +kernel)) rfl
theorem kw_766 : (Jvm.Cond.code ({ cls := "HarvestPlansModel", name := "place", desc := "(I)I" } : Jvm.MethodName) prog_11_method_6_code (2 : Nat) (Option.some Jvm.ClassFile.FieldType.int)) ∈ nw_T := nw_T_in (List.mem_of_getElem? (i := 766) (by decide +kernel)) rfl
theorem kw_767 : (Jvm.Cond.constantLong "HarvestPlansModel" (84 : Nat) (100000000 : Int64)) ∈ nw_T := nw_T_in (List.mem_of_getElem? (i := 767) (by decide +kernel)) rfl
theorem kw_768 : (Jvm.Cond.methodLink "HarvestPlansModel" (86 : Nat) ({ cls := "HarvestPlansModel", name := "in", desc := "(JJJ)Z" } : Jvm.MethodName)) ∈ nw_T := nw_T_in (List.mem_of_getElem? (i := 768) (by decide +kernel)) rfl
theorem kw_769 : (Jvm.Cond.static ({ cls := "HarvestPlansModel", name := "in", desc := "(JJJ)Z" } : Jvm.MethodName)) ∈ nw_T := nw_T_in (List.mem_of_getElem? (i := 769) (by decide +kernel)) rfl
theorem kw_770 : (Jvm.Cond.code ({ cls := "HarvestPlansModel", name := "in", desc := "(JJJ)Z" } : Jvm.MethodName) prog_11_method_3_code (6 : Nat) (Option.some Jvm.ClassFile.FieldType.boolean)) ∈ nw_T := nw_T_in (List.mem_of_getElem? (i := 770) (by decide +kernel)) rfl
theorem kw_771 : (Jvm.Cond.methodLink "HarvestPlansModel" (93 : Nat) ({ cls := "HarvestPlansModel", name := "refuses", desc := "(ZZ)Z" } : Jvm.MethodName)) ∈ nw_T := nw_T_in (List.mem_of_getElem? (i := 771) (by decide +kernel)) rfl
theorem kw_773 : (Jvm.Cond.instanceMethod ({ cls := "HarvestPlansModel", name := "refuses", desc := "(ZZ)Z" } : Jvm.MethodName)) ∈ nw_T := nw_T_in (List.mem_of_getElem? (i := 773) (by decide +kernel)) rfl
theorem kw_774 : (Jvm.Cond.code ({ cls := "HarvestPlansModel", name := "refuses", desc := "(ZZ)Z" } : Jvm.MethodName) prog_11_method_4_code (3 : Nat) (Option.some Jvm.ClassFile.FieldType.boolean)) ∈ nw_T := nw_T_in (List.mem_of_getElem? (i := 774) (by decide +kernel)) rfl
theorem kw_775 : (Jvm.Cond.methodLink "HarvestPlansLaw" (88 : Nat) ({ cls := "HarvestPlansModel", name := "closed", desc := "(IIZ)Z" } : Jvm.MethodName)) ∈ nw_T := nw_T_in (List.mem_of_getElem? (i := 775) (by decide +kernel)) rfl
theorem kw_776 : (Jvm.Cond.instanceMethod ({ cls := "HarvestPlansModel", name := "closed", desc := "(IIZ)Z" } : Jvm.MethodName)) ∈ nw_T := nw_T_in (List.mem_of_getElem? (i := 776) (by decide +kernel)) rfl
theorem kw_777 : (Jvm.Cond.selects "HarvestPlansModel" ({ cls := "HarvestPlansModel", name := "closed", desc := "(IIZ)Z" } : Jvm.MethodName) ({ cls := "HarvestPlansModel", name := "closed", desc := "(IIZ)Z" } : Jvm.MethodName)) ∈ nw_T := nw_T_in (List.mem_of_getElem? (i := 777) (by decide +kernel)) rfl
theorem kw_778 : (Jvm.Cond.code ({ cls := "HarvestPlansModel", name := "closed", desc := "(IIZ)Z" } : Jvm.MethodName) prog_11_method_7_code (5 : Nat) (Option.some Jvm.ClassFile.FieldType.boolean)) ∈ nw_T := nw_T_in (List.mem_of_getElem? (i := 778) (by decide +kernel)) rfl
theorem kw_779 : (Jvm.Cond.methodLink "HarvestPlansLaw" (91 : Nat) ({ cls := "HarvestPlansModel", name := "cage", desc := "(I)I" } : Jvm.MethodName)) ∈ nw_T := nw_T_in (List.mem_of_getElem? (i := 779) (by decide +kernel)) rfl
theorem kw_780 : (Jvm.Cond.instanceMethod ({ cls := "HarvestPlansModel", name := "cage", desc := "(I)I" } : Jvm.MethodName)) ∈ nw_T := nw_T_in (List.mem_of_getElem? (i := 780) (by decide +kernel)) rfl
theorem kw_781 : (Jvm.Cond.selects "HarvestPlansModel" ({ cls := "HarvestPlansModel", name := "cage", desc := "(I)I" } : Jvm.MethodName) ({ cls := "HarvestPlansModel", name := "cage", desc := "(I)I" } : Jvm.MethodName)) ∈ nw_T := nw_T_in (List.mem_of_getElem? (i := 781) (by decide +kernel)) rfl
theorem kw_782 : (Jvm.Cond.code ({ cls := "HarvestPlansModel", name := "cage", desc := "(I)I" } : Jvm.MethodName) prog_11_method_8_code (2 : Nat) (Option.some Jvm.ClassFile.FieldType.int)) ∈ nw_T := nw_T_in (List.mem_of_getElem? (i := 782) (by decide +kernel)) rfl
theorem kw_783 : (Jvm.Cond.methodLink "HarvestPlansLaw" (95 : Nat) ({ cls := "HarvestPlansModel", name := "size", desc := "(IIII)I" } : Jvm.MethodName)) ∈ nw_T := nw_T_in (List.mem_of_getElem? (i := 783) (by decide +kernel)) rfl
theorem kw_784 : (Jvm.Cond.instanceMethod ({ cls := "HarvestPlansModel", name := "size", desc := "(IIII)I" } : Jvm.MethodName)) ∈ nw_T := nw_T_in (List.mem_of_getElem? (i := 784) (by decide +kernel)) rfl
theorem kw_785 : (Jvm.Cond.selects "HarvestPlansModel" ({ cls := "HarvestPlansModel", name := "size", desc := "(IIII)I" } : Jvm.MethodName) ({ cls := "HarvestPlansModel", name := "size", desc := "(IIII)I" } : Jvm.MethodName)) ∈ nw_T := nw_T_in (List.mem_of_getElem? (i := 785) (by decide +kernel)) rfl
theorem kw_786 : (Jvm.Cond.code ({ cls := "HarvestPlansModel", name := "size", desc := "(IIII)I" } : Jvm.MethodName) prog_11_method_9_code (5 : Nat) (Option.some Jvm.ClassFile.FieldType.int)) ∈ nw_T := nw_T_in (List.mem_of_getElem? (i := 786) (by decide +kernel)) rfl
theorem kw_787 : (Jvm.Cond.constantLong "HarvestPlansModel" (104 : Nat) (20000 : Int64)) ∈ nw_T := nw_T_in (List.mem_of_getElem? (i := 787) (by decide +kernel)) rfl
theorem kw_788 : (Jvm.Cond.constantLong "HarvestPlansModel" (106 : Nat) (100000 : Int64)) ∈ nw_T := nw_T_in (List.mem_of_getElem? (i := 788) (by decide +kernel)) rfl
theorem kw_789 : (Jvm.Cond.methodLink "HarvestPlansModel" (108 : Nat) ({ cls := "HarvestPlansModel", name := "kilos", desc := "(II)J" } : Jvm.MethodName)) ∈ nw_T := nw_T_in (List.mem_of_getElem? (i := 789) (by decide +kernel)) rfl
theorem kw_791 : (Jvm.Cond.instanceMethod ({ cls := "HarvestPlansModel", name := "kilos", desc := "(II)J" } : Jvm.MethodName)) ∈ nw_T := nw_T_in (List.mem_of_getElem? (i := 791) (by decide +kernel)) rfl
theorem kw_792 : (Jvm.Cond.code ({ cls := "HarvestPlansModel", name := "kilos", desc := "(II)J" } : Jvm.MethodName) prog_11_method_5_code (3 : Nat) (Option.some Jvm.ClassFile.FieldType.long)) ∈ nw_T := nw_T_in (List.mem_of_getElem? (i := 792) (by decide +kernel)) rfl
theorem kw_793 : (Jvm.Cond.constantLong "HarvestPlansModel" (82 : Nat) (1000 : Int64)) ∈ nw_T := nw_T_in (List.mem_of_getElem? (i := 793) (by decide +kernel)) rfl
theorem kw_794 : (Jvm.Cond.methodLink "HarvestPlansLaw" (98 : Nat) ({ cls := "HarvestPlansModel", name := "boat", desc := "(I)I" } : Jvm.MethodName)) ∈ nw_T := nw_T_in (List.mem_of_getElem? (i := 794) (by decide +kernel)) rfl
theorem kw_795 : (Jvm.Cond.instanceMethod ({ cls := "HarvestPlansModel", name := "boat", desc := "(I)I" } : Jvm.MethodName)) ∈ nw_T := nw_T_in (List.mem_of_getElem? (i := 795) (by decide +kernel)) rfl
theorem kw_796 : (Jvm.Cond.selects "HarvestPlansModel" ({ cls := "HarvestPlansModel", name := "boat", desc := "(I)I" } : Jvm.MethodName) ({ cls := "HarvestPlansModel", name := "boat", desc := "(I)I" } : Jvm.MethodName)) ∈ nw_T := nw_T_in (List.mem_of_getElem? (i := 796) (by decide +kernel)) rfl
theorem kw_797 : (Jvm.Cond.code ({ cls := "HarvestPlansModel", name := "boat", desc := "(I)I" } : Jvm.MethodName) prog_11_method_10_code (2 : Nat) (Option.some Jvm.ClassFile.FieldType.int)) ∈ nw_T := nw_T_in (List.mem_of_getElem? (i := 797) (by decide +kernel)) rfl
theorem kw_798 : (Jvm.Cond.methodLink "HarvestPlansLaw" (101 : Nat) ({ cls := "HarvestPlansModel", name := "weather", desc := "(IIZ)Z" } : Jvm.MethodName)) ∈ nw_T := nw_T_in (List.mem_of_getElem? (i := 798) (by decide +kernel)) rfl
theorem kw_799 : (Jvm.Cond.instanceMethod ({ cls := "HarvestPlansModel", name := "weather", desc := "(IIZ)Z" } : Jvm.MethodName)) ∈ nw_T := nw_T_in (List.mem_of_getElem? (i := 799) (by decide +kernel)) rfl
theorem kw_800 : (Jvm.Cond.selects "HarvestPlansModel" ({ cls := "HarvestPlansModel", name := "weather", desc := "(IIZ)Z" } : Jvm.MethodName) ({ cls := "HarvestPlansModel", name := "weather", desc := "(IIZ)Z" } : Jvm.MethodName)) ∈ nw_T := nw_T_in (List.mem_of_getElem? (i := 800) (by decide +kernel)) rfl
theorem kw_801 : (Jvm.Cond.code ({ cls := "HarvestPlansModel", name := "weather", desc := "(IIZ)Z" } : Jvm.MethodName) prog_11_method_11_code (5 : Nat) (Option.some Jvm.ClassFile.FieldType.boolean)) ∈ nw_T := nw_T_in (List.mem_of_getElem? (i := 801) (by decide +kernel)) rfl
theorem kw_802 : (Jvm.Cond.methodLink "HarvestPlansLaw" (105 : Nat) ({ cls := "HarvestPlansModel", name := "plant", desc := "(II)I" } : Jvm.MethodName)) ∈ nw_T := nw_T_in (List.mem_of_getElem? (i := 802) (by decide +kernel)) rfl
theorem kw_803 : (Jvm.Cond.instanceMethod ({ cls := "HarvestPlansModel", name := "plant", desc := "(II)I" } : Jvm.MethodName)) ∈ nw_T := nw_T_in (List.mem_of_getElem? (i := 803) (by decide +kernel)) rfl
theorem kw_804 : (Jvm.Cond.selects "HarvestPlansModel" ({ cls := "HarvestPlansModel", name := "plant", desc := "(II)I" } : Jvm.MethodName) ({ cls := "HarvestPlansModel", name := "plant", desc := "(II)I" } : Jvm.MethodName)) ∈ nw_T := nw_T_in (List.mem_of_getElem? (i := 804) (by decide +kernel)) rfl
theorem kw_805 : (Jvm.Cond.code ({ cls := "HarvestPlansModel", name := "plant", desc := "(II)I" } : Jvm.MethodName) prog_11_method_12_code (4 : Nat) (Option.some Jvm.ClassFile.FieldType.int)) ∈ nw_T := nw_T_in (List.mem_of_getElem? (i := 805) (by decide +kernel)) rfl
theorem kw_806 : (Jvm.Cond.methodLink "HarvestPlansLaw" (109 : Nat) ({ cls := "HarvestPlansModel", name := "order", desc := "(IIIII)I" } : Jvm.MethodName)) ∈ nw_T := nw_T_in (List.mem_of_getElem? (i := 806) (by decide +kernel)) rfl
theorem kw_807 : (Jvm.Cond.instanceMethod ({ cls := "HarvestPlansModel", name := "order", desc := "(IIIII)I" } : Jvm.MethodName)) ∈ nw_T := nw_T_in (List.mem_of_getElem? (i := 807) (by decide +kernel)) rfl
theorem kw_808 : (Jvm.Cond.selects "HarvestPlansModel" ({ cls := "HarvestPlansModel", name := "order", desc := "(IIIII)I" } : Jvm.MethodName) ({ cls := "HarvestPlansModel", name := "order", desc := "(IIIII)I" } : Jvm.MethodName)) ∈ nw_T := nw_T_in (List.mem_of_getElem? (i := 808) (by decide +kernel)) rfl
theorem kw_809 : (Jvm.Cond.code ({ cls := "HarvestPlansModel", name := "order", desc := "(IIIII)I" } : Jvm.MethodName) prog_11_method_13_code (7 : Nat) (Option.some Jvm.ClassFile.FieldType.int)) ∈ nw_T := nw_T_in (List.mem_of_getElem? (i := 809) (by decide +kernel)) rfl
theorem kw_810 : (Jvm.Cond.constantLong "HarvestPlansModel" (115 : Nat) (10000 : Int64)) ∈ nw_T := nw_T_in (List.mem_of_getElem? (i := 810) (by decide +kernel)) rfl
theorem kw_811 : (Jvm.Cond.methodLink "HarvestPlansLaw" (113 : Nat) ({ cls := "HarvestPlansModel", name := "prices", desc := "(II)V" } : Jvm.MethodName)) ∈ nw_T := nw_T_in (List.mem_of_getElem? (i := 811) (by decide +kernel)) rfl
theorem kw_812 : (Jvm.Cond.instanceMethod ({ cls := "HarvestPlansModel", name := "prices", desc := "(II)V" } : Jvm.MethodName)) ∈ nw_T := nw_T_in (List.mem_of_getElem? (i := 812) (by decide +kernel)) rfl
theorem kw_813 : (Jvm.Cond.selects "HarvestPlansModel" ({ cls := "HarvestPlansModel", name := "prices", desc := "(II)V" } : Jvm.MethodName) ({ cls := "HarvestPlansModel", name := "prices", desc := "(II)V" } : Jvm.MethodName)) ∈ nw_T := nw_T_in (List.mem_of_getElem? (i := 813) (by decide +kernel)) rfl
theorem kw_814 : (Jvm.Cond.code ({ cls := "HarvestPlansModel", name := "prices", desc := "(II)V" } : Jvm.MethodName) prog_11_method_14_code (3 : Nat) (Option.none : Option Jvm.ClassFile.FieldType)) ∈ nw_T := nw_T_in (List.mem_of_getElem? (i := 814) (by decide +kernel)) rfl
theorem kw_815 : (Jvm.Cond.methodLink "HarvestPlansLaw" (116 : Nat) ({ cls := "HarvestPlansModel", name := "run", desc := "(I)I" } : Jvm.MethodName)) ∈ nw_T := nw_T_in (List.mem_of_getElem? (i := 815) (by decide +kernel)) rfl
theorem kw_816 : (Jvm.Cond.instanceMethod ({ cls := "HarvestPlansModel", name := "run", desc := "(I)I" } : Jvm.MethodName)) ∈ nw_T := nw_T_in (List.mem_of_getElem? (i := 816) (by decide +kernel)) rfl
theorem kw_817 : (Jvm.Cond.selects "HarvestPlansModel" ({ cls := "HarvestPlansModel", name := "run", desc := "(I)I" } : Jvm.MethodName) ({ cls := "HarvestPlansModel", name := "run", desc := "(I)I" } : Jvm.MethodName)) ∈ nw_T := nw_T_in (List.mem_of_getElem? (i := 817) (by decide +kernel)) rfl
theorem kw_818 : (Jvm.Cond.code ({ cls := "HarvestPlansModel", name := "run", desc := "(I)I" } : Jvm.MethodName) prog_11_method_30_code (4 : Nat) (Option.some Jvm.ClassFile.FieldType.int)) ∈ nw_T := nw_T_in (List.mem_of_getElem? (i := 818) (by decide +kernel)) rfl
theorem kw_819 : (Jvm.Cond.constantLong "HarvestPlansModel" (186 : Nat) (5000 : Int64)) ∈ nw_T := nw_T_in (List.mem_of_getElem? (i := 819) (by decide +kernel)) rfl
theorem kw_820 : (Jvm.Cond.methodLink "HarvestPlansModel" (180 : Nat) ({ cls := "HarvestPlansModel", name := "meet", desc := "()V" } : Jvm.MethodName)) ∈ nw_T := nw_T_in (List.mem_of_getElem? (i := 820) (by decide +kernel)) rfl
theorem kw_822 : (Jvm.Cond.instanceMethod ({ cls := "HarvestPlansModel", name := "meet", desc := "()V" } : Jvm.MethodName)) ∈ nw_T := nw_T_in (List.mem_of_getElem? (i := 822) (by decide +kernel)) rfl
theorem kw_823 : (Jvm.Cond.code ({ cls := "HarvestPlansModel", name := "meet", desc := "()V" } : Jvm.MethodName) prog_11_method_28_code (4 : Nat) (Option.none : Option Jvm.ClassFile.FieldType)) ∈ nw_T := nw_T_in (List.mem_of_getElem? (i := 823) (by decide +kernel)) rfl
theorem kw_824 : (Jvm.Cond.methodLink "HarvestPlansModel" (162 : Nat) ({ cls := "HarvestPlansModel", name := "keepsAll", desc := "(IZ)Z" } : Jvm.MethodName)) ∈ nw_T := nw_T_in (List.mem_of_getElem? (i := 824) (by decide +kernel)) rfl
theorem kw_826 : (Jvm.Cond.instanceMethod ({ cls := "HarvestPlansModel", name := "keepsAll", desc := "(IZ)Z" } : Jvm.MethodName)) ∈ nw_T := nw_T_in (List.mem_of_getElem? (i := 826) (by decide +kernel)) rfl
theorem kw_827 : (Jvm.Cond.code ({ cls := "HarvestPlansModel", name := "keepsAll", desc := "(IZ)Z" } : Jvm.MethodName) prog_11_method_21_code (5 : Nat) (Option.some Jvm.ClassFile.FieldType.boolean)) ∈ nw_T := nw_T_in (List.mem_of_getElem? (i := 827) (by decide +kernel)) rfl
theorem kw_828 : (Jvm.Cond.methodLink "HarvestPlansModel" (144 : Nat) ({ cls := "HarvestPlansModel", name := "broken", desc := "(IIZ)I" } : Jvm.MethodName)) ∈ nw_T := nw_T_in (List.mem_of_getElem? (i := 828) (by decide +kernel)) rfl
theorem kw_830 : (Jvm.Cond.instanceMethod ({ cls := "HarvestPlansModel", name := "broken", desc := "(IIZ)I" } : Jvm.MethodName)) ∈ nw_T := nw_T_in (List.mem_of_getElem? (i := 830) (by decide +kernel)) rfl
theorem kw_831 : (Jvm.Cond.code ({ cls := "HarvestPlansModel", name := "broken", desc := "(IIZ)I" } : Jvm.MethodName) prog_11_method_20_code (4 : Nat) (Option.some Jvm.ClassFile.FieldType.int)) ∈ nw_T := nw_T_in (List.mem_of_getElem? (i := 831) (by decide +kernel)) rfl
theorem kw_832 : (Jvm.Cond.methodLink "HarvestPlansModel" (130 : Nat) ({ cls := "HarvestPlansModel", name := "keepsPlant", desc := "(II)Z" } : Jvm.MethodName)) ∈ nw_T := nw_T_in (List.mem_of_getElem? (i := 832) (by decide +kernel)) rfl
theorem kw_834 : (Jvm.Cond.instanceMethod ({ cls := "HarvestPlansModel", name := "keepsPlant", desc := "(II)Z" } : Jvm.MethodName)) ∈ nw_T := nw_T_in (List.mem_of_getElem? (i := 834) (by decide +kernel)) rfl
theorem kw_835 : (Jvm.Cond.code ({ cls := "HarvestPlansModel", name := "keepsPlant", desc := "(II)Z" } : Jvm.MethodName) prog_11_method_16_code (6 : Nat) (Option.some Jvm.ClassFile.FieldType.boolean)) ∈ nw_T := nw_T_in (List.mem_of_getElem? (i := 835) (by decide +kernel)) rfl
theorem kw_836 : (Jvm.Cond.methodLink "HarvestPlansModel" (126 : Nat) ({ cls := "HarvestPlansModel", name := "takes", desc := "(III)Z" } : Jvm.MethodName)) ∈ nw_T := nw_T_in (List.mem_of_getElem? (i := 836) (by decide +kernel)) rfl
theorem kw_838 : (Jvm.Cond.instanceMethod ({ cls := "HarvestPlansModel", name := "takes", desc := "(III)Z" } : Jvm.MethodName)) ∈ nw_T := nw_T_in (List.mem_of_getElem? (i := 838) (by decide +kernel)) rfl
theorem kw_839 : (Jvm.Cond.code ({ cls := "HarvestPlansModel", name := "takes", desc := "(III)Z" } : Jvm.MethodName) prog_11_method_15_code (4 : Nat) (Option.some Jvm.ClassFile.FieldType.boolean)) ∈ nw_T := nw_T_in (List.mem_of_getElem? (i := 839) (by decide +kernel)) rfl
theorem kw_840 : (Jvm.Cond.methodLink "HarvestPlansModel" (134 : Nat) ({ cls := "HarvestPlansModel", name := "keepsBoats", desc := "(II)Z" } : Jvm.MethodName)) ∈ nw_T := nw_T_in (List.mem_of_getElem? (i := 840) (by decide +kernel)) rfl
theorem kw_842 : (Jvm.Cond.instanceMethod ({ cls := "HarvestPlansModel", name := "keepsBoats", desc := "(II)Z" } : Jvm.MethodName)) ∈ nw_T := nw_T_in (List.mem_of_getElem? (i := 842) (by decide +kernel)) rfl
theorem kw_843 : (Jvm.Cond.code ({ cls := "HarvestPlansModel", name := "keepsBoats", desc := "(II)Z" } : Jvm.MethodName) prog_11_method_17_code (9 : Nat) (Option.some Jvm.ClassFile.FieldType.boolean)) ∈ nw_T := nw_T_in (List.mem_of_getElem? (i := 843) (by decide +kernel)) rfl
theorem kw_844 : (Jvm.Cond.methodLink "HarvestPlansModel" (137 : Nat) ({ cls := "HarvestPlansModel", name := "keepsOpen", desc := "(II)Z" } : Jvm.MethodName)) ∈ nw_T := nw_T_in (List.mem_of_getElem? (i := 844) (by decide +kernel)) rfl
theorem kw_846 : (Jvm.Cond.instanceMethod ({ cls := "HarvestPlansModel", name := "keepsOpen", desc := "(II)Z" } : Jvm.MethodName)) ∈ nw_T := nw_T_in (List.mem_of_getElem? (i := 846) (by decide +kernel)) rfl
theorem kw_847 : (Jvm.Cond.code ({ cls := "HarvestPlansModel", name := "keepsOpen", desc := "(II)Z" } : Jvm.MethodName) prog_11_method_18_code (5 : Nat) (Option.some Jvm.ClassFile.FieldType.boolean)) ∈ nw_T := nw_T_in (List.mem_of_getElem? (i := 847) (by decide +kernel)) rfl
theorem kw_848 : (Jvm.Cond.methodLink "HarvestPlansModel" (140 : Nat) ({ cls := "HarvestPlansModel", name := "keepsHeld", desc := "(I)Z" } : Jvm.MethodName)) ∈ nw_T := nw_T_in (List.mem_of_getElem? (i := 848) (by decide +kernel)) rfl
theorem kw_850 : (Jvm.Cond.instanceMethod ({ cls := "HarvestPlansModel", name := "keepsHeld", desc := "(I)Z" } : Jvm.MethodName)) ∈ nw_T := nw_T_in (List.mem_of_getElem? (i := 850) (by decide +kernel)) rfl
theorem kw_851 : (Jvm.Cond.code ({ cls := "HarvestPlansModel", name := "keepsHeld", desc := "(I)Z" } : Jvm.MethodName) prog_11_method_19_code (7 : Nat) (Option.some Jvm.ClassFile.FieldType.boolean)) ∈ nw_T := nw_T_in (List.mem_of_getElem? (i := 851) (by decide +kernel)) rfl
theorem kw_852 : (Jvm.Cond.methodLink "HarvestPlansModel" (166 : Nat) ({ cls := "HarvestPlansModel", name := "value", desc := "()J" } : Jvm.MethodName)) ∈ nw_T := nw_T_in (List.mem_of_getElem? (i := 852) (by decide +kernel)) rfl
theorem kw_854 : (Jvm.Cond.instanceMethod ({ cls := "HarvestPlansModel", name := "value", desc := "()J" } : Jvm.MethodName)) ∈ nw_T := nw_T_in (List.mem_of_getElem? (i := 854) (by decide +kernel)) rfl
theorem kw_855 : (Jvm.Cond.code ({ cls := "HarvestPlansModel", name := "value", desc := "()J" } : Jvm.MethodName) prog_11_method_24_code (6 : Nat) (Option.some Jvm.ClassFile.FieldType.long)) ∈ nw_T := nw_T_in (List.mem_of_getElem? (i := 855) (by decide +kernel)) rfl
theorem kw_856 : (Jvm.Cond.methodLink "HarvestPlansModel" (148 : Nat) ({ cls := "HarvestPlansModel", name := "nextOrder", desc := "(I)I" } : Jvm.MethodName)) ∈ nw_T := nw_T_in (List.mem_of_getElem? (i := 856) (by decide +kernel)) rfl
theorem kw_858 : (Jvm.Cond.instanceMethod ({ cls := "HarvestPlansModel", name := "nextOrder", desc := "(I)I" } : Jvm.MethodName)) ∈ nw_T := nw_T_in (List.mem_of_getElem? (i := 858) (by decide +kernel)) rfl
theorem kw_859 : (Jvm.Cond.code ({ cls := "HarvestPlansModel", name := "nextOrder", desc := "(I)I" } : Jvm.MethodName) prog_11_method_22_code (5 : Nat) (Option.some Jvm.ClassFile.FieldType.int)) ∈ nw_T := nw_T_in (List.mem_of_getElem? (i := 859) (by decide +kernel)) rfl
theorem kw_860 : (Jvm.Cond.methodLink "HarvestPlansModel" (152 : Nat) ({ cls := "HarvestPlansModel", name := "serve", desc := "(II)J" } : Jvm.MethodName)) ∈ nw_T := nw_T_in (List.mem_of_getElem? (i := 860) (by decide +kernel)) rfl
theorem kw_862 : (Jvm.Cond.instanceMethod ({ cls := "HarvestPlansModel", name := "serve", desc := "(II)J" } : Jvm.MethodName)) ∈ nw_T := nw_T_in (List.mem_of_getElem? (i := 862) (by decide +kernel)) rfl
theorem kw_863 : (Jvm.Cond.code ({ cls := "HarvestPlansModel", name := "serve", desc := "(II)J" } : Jvm.MethodName) prog_11_method_23_code (8 : Nat) (Option.some Jvm.ClassFile.FieldType.long)) ∈ nw_T := nw_T_in (List.mem_of_getElem? (i := 863) (by decide +kernel)) rfl
theorem kw_864 : (Jvm.Cond.methodLink "HarvestPlansModel" (188 : Nat) ({ cls := "HarvestPlansModel", name := "search", desc := "(I)Z" } : Jvm.MethodName)) ∈ nw_T := nw_T_in (List.mem_of_getElem? (i := 864) (by decide +kernel)) rfl
theorem kw_866 : (Jvm.Cond.instanceMethod ({ cls := "HarvestPlansModel", name := "search", desc := "(I)Z" } : Jvm.MethodName)) ∈ nw_T := nw_T_in (List.mem_of_getElem? (i := 866) (by decide +kernel)) rfl
theorem kw_867 : (Jvm.Cond.code ({ cls := "HarvestPlansModel", name := "search", desc := "(I)Z" } : Jvm.MethodName) prog_11_method_29_code (3 : Nat) (Option.some Jvm.ClassFile.FieldType.boolean)) ∈ nw_T := nw_T_in (List.mem_of_getElem? (i := 867) (by decide +kernel)) rfl
theorem kw_868 : (Jvm.Cond.methodLink "HarvestPlansModel" (183 : Nat) ({ cls := "HarvestPlansModel", name := "hopeOf", desc := "(I)J" } : Jvm.MethodName)) ∈ nw_T := nw_T_in (List.mem_of_getElem? (i := 868) (by decide +kernel)) rfl
theorem kw_870 : (Jvm.Cond.instanceMethod ({ cls := "HarvestPlansModel", name := "hopeOf", desc := "(I)J" } : Jvm.MethodName)) ∈ nw_T := nw_T_in (List.mem_of_getElem? (i := 870) (by decide +kernel)) rfl
theorem kw_871 : (Jvm.Cond.code ({ cls := "HarvestPlansModel", name := "hopeOf", desc := "(I)J" } : Jvm.MethodName) prog_11_method_27_code (5 : Nat) (Option.some Jvm.ClassFile.FieldType.long)) ∈ nw_T := nw_T_in (List.mem_of_getElem? (i := 871) (by decide +kernel)) rfl
theorem kw_872 : (Jvm.Cond.methodLink "HarvestPlansModel" (155 : Nat) ({ cls := "HarvestPlansModel", name := "top", desc := "(II)J" } : Jvm.MethodName)) ∈ nw_T := nw_T_in (List.mem_of_getElem? (i := 872) (by decide +kernel)) rfl
theorem kw_874 : (Jvm.Cond.instanceMethod ({ cls := "HarvestPlansModel", name := "top", desc := "(II)J" } : Jvm.MethodName)) ∈ nw_T := nw_T_in (List.mem_of_getElem? (i := 874) (by decide +kernel)) rfl
theorem kw_875 : (Jvm.Cond.code ({ cls := "HarvestPlansModel", name := "top", desc := "(II)J" } : Jvm.MethodName) prog_11_method_25_code (7 : Nat) (Option.some Jvm.ClassFile.FieldType.long)) ∈ nw_T := nw_T_in (List.mem_of_getElem? (i := 875) (by decide +kernel)) rfl
theorem kw_876 : (Jvm.Cond.methodLink "HarvestPlansModel" (158 : Nat) ({ cls := "HarvestPlansModel", name := "greatestTop", desc := "(I)J" } : Jvm.MethodName)) ∈ nw_T := nw_T_in (List.mem_of_getElem? (i := 876) (by decide +kernel)) rfl
theorem kw_878 : (Jvm.Cond.instanceMethod ({ cls := "HarvestPlansModel", name := "greatestTop", desc := "(I)J" } : Jvm.MethodName)) ∈ nw_T := nw_T_in (List.mem_of_getElem? (i := 878) (by decide +kernel)) rfl
theorem kw_879 : (Jvm.Cond.code ({ cls := "HarvestPlansModel", name := "greatestTop", desc := "(I)J" } : Jvm.MethodName) prog_11_method_26_code (5 : Nat) (Option.some Jvm.ClassFile.FieldType.long)) ∈ nw_T := nw_T_in (List.mem_of_getElem? (i := 879) (by decide +kernel)) rfl
theorem kw_880 : (Jvm.Cond.methodLink "HarvestPlansLaw" (120 : Nat) ({ cls := "HarvestPlansModel", name := "nodes", desc := "()I" } : Jvm.MethodName)) ∈ nw_T := nw_T_in (List.mem_of_getElem? (i := 880) (by decide +kernel)) rfl
theorem kw_881 : (Jvm.Cond.instanceMethod ({ cls := "HarvestPlansModel", name := "nodes", desc := "()I" } : Jvm.MethodName)) ∈ nw_T := nw_T_in (List.mem_of_getElem? (i := 881) (by decide +kernel)) rfl
theorem kw_882 : (Jvm.Cond.selects "HarvestPlansModel" ({ cls := "HarvestPlansModel", name := "nodes", desc := "()I" } : Jvm.MethodName) ({ cls := "HarvestPlansModel", name := "nodes", desc := "()I" } : Jvm.MethodName)) ∈ nw_T := nw_T_in (List.mem_of_getElem? (i := 882) (by decide +kernel)) rfl
theorem kw_883 : (Jvm.Cond.code ({ cls := "HarvestPlansModel", name := "nodes", desc := "()I" } : Jvm.MethodName) prog_11_method_31_code (1 : Nat) (Option.some Jvm.ClassFile.FieldType.int)) ∈ nw_T := nw_T_in (List.mem_of_getElem? (i := 883) (by decide +kernel)) rfl
theorem kw_884 : (Jvm.Cond.methodLink "HarvestPlansLaw" (124 : Nat) ({ cls := "HarvestPlansModel", name := "hope", desc := "()J" } : Jvm.MethodName)) ∈ nw_T := nw_T_in (List.mem_of_getElem? (i := 884) (by decide +kernel)) rfl
theorem kw_885 : (Jvm.Cond.instanceMethod ({ cls := "HarvestPlansModel", name := "hope", desc := "()J" } : Jvm.MethodName)) ∈ nw_T := nw_T_in (List.mem_of_getElem? (i := 885) (by decide +kernel)) rfl
theorem kw_886 : (Jvm.Cond.selects "HarvestPlansModel" ({ cls := "HarvestPlansModel", name := "hope", desc := "()J" } : Jvm.MethodName) ({ cls := "HarvestPlansModel", name := "hope", desc := "()J" } : Jvm.MethodName)) ∈ nw_T := nw_T_in (List.mem_of_getElem? (i := 886) (by decide +kernel)) rfl
theorem kw_887 : (Jvm.Cond.code ({ cls := "HarvestPlansModel", name := "hope", desc := "()J" } : Jvm.MethodName) prog_11_method_32_code (1 : Nat) (Option.some Jvm.ClassFile.FieldType.long)) ∈ nw_T := nw_T_in (List.mem_of_getElem? (i := 887) (by decide +kernel)) rfl
theorem kw_888 : (Jvm.Cond.methodLink "HarvestPlansLaw" (127 : Nat) ({ cls := "HarvestPlansModel", name := "move", desc := "(II)I" } : Jvm.MethodName)) ∈ nw_T := nw_T_in (List.mem_of_getElem? (i := 888) (by decide +kernel)) rfl
theorem kw_889 : (Jvm.Cond.instanceMethod ({ cls := "HarvestPlansModel", name := "move", desc := "(II)I" } : Jvm.MethodName)) ∈ nw_T := nw_T_in (List.mem_of_getElem? (i := 889) (by decide +kernel)) rfl
theorem kw_890 : (Jvm.Cond.selects "HarvestPlansModel" ({ cls := "HarvestPlansModel", name := "move", desc := "(II)I" } : Jvm.MethodName) ({ cls := "HarvestPlansModel", name := "move", desc := "(II)I" } : Jvm.MethodName)) ∈ nw_T := nw_T_in (List.mem_of_getElem? (i := 890) (by decide +kernel)) rfl
theorem kw_891 : (Jvm.Cond.code ({ cls := "HarvestPlansModel", name := "move", desc := "(II)I" } : Jvm.MethodName) prog_11_method_33_code (4 : Nat) (Option.some Jvm.ClassFile.FieldType.int)) ∈ nw_T := nw_T_in (List.mem_of_getElem? (i := 891) (by decide +kernel)) rfl
theorem kw_892 : (Jvm.Cond.constantLong "HarvestPlansModel" (191 : Nat) (-1 : Int64)) ∈ nw_T := nw_T_in (List.mem_of_getElem? (i := 892) (by decide +kernel)) rfl
theorem kw_893 : (Jvm.Cond.methodLink "HarvestPlansLaw" (130 : Nat) ({ cls := "HarvestPlansModel", name := "taken", desc := "(I)I" } : Jvm.MethodName)) ∈ nw_T := nw_T_in (List.mem_of_getElem? (i := 893) (by decide +kernel)) rfl
theorem kw_894 : (Jvm.Cond.instanceMethod ({ cls := "HarvestPlansModel", name := "taken", desc := "(I)I" } : Jvm.MethodName)) ∈ nw_T := nw_T_in (List.mem_of_getElem? (i := 894) (by decide +kernel)) rfl
theorem kw_895 : (Jvm.Cond.selects "HarvestPlansModel" ({ cls := "HarvestPlansModel", name := "taken", desc := "(I)I" } : Jvm.MethodName) ({ cls := "HarvestPlansModel", name := "taken", desc := "(I)I" } : Jvm.MethodName)) ∈ nw_T := nw_T_in (List.mem_of_getElem? (i := 895) (by decide +kernel)) rfl
theorem kw_896 : (Jvm.Cond.code ({ cls := "HarvestPlansModel", name := "taken", desc := "(I)I" } : Jvm.MethodName) prog_11_method_34_code (2 : Nat) (Option.some Jvm.ClassFile.FieldType.int)) ∈ nw_T := nw_T_in (List.mem_of_getElem? (i := 896) (by decide +kernel)) rfl
theorem kw_897 : (Jvm.Cond.methodLink "HarvestPlansLaw" (134 : Nat) ({ cls := "HarvestPlansModel", name := "check", desc := "()I" } : Jvm.MethodName)) ∈ nw_T := nw_T_in (List.mem_of_getElem? (i := 897) (by decide +kernel)) rfl
theorem kw_898 : (Jvm.Cond.instanceMethod ({ cls := "HarvestPlansModel", name := "check", desc := "()I" } : Jvm.MethodName)) ∈ nw_T := nw_T_in (List.mem_of_getElem? (i := 898) (by decide +kernel)) rfl
theorem kw_899 : (Jvm.Cond.selects "HarvestPlansModel" ({ cls := "HarvestPlansModel", name := "check", desc := "()I" } : Jvm.MethodName) ({ cls := "HarvestPlansModel", name := "check", desc := "()I" } : Jvm.MethodName)) ∈ nw_T := nw_T_in (List.mem_of_getElem? (i := 899) (by decide +kernel)) rfl
theorem kw_900 : (Jvm.Cond.code ({ cls := "HarvestPlansModel", name := "check", desc := "()I" } : Jvm.MethodName) prog_11_method_36_code (3 : Nat) (Option.some Jvm.ClassFile.FieldType.int)) ∈ nw_T := nw_T_in (List.mem_of_getElem? (i := 900) (by decide +kernel)) rfl
theorem kw_901 : (Jvm.Cond.methodLink "HarvestPlansModel" (193 : Nat) ({ cls := "HarvestPlansModel", name := "tryPlan", desc := "()V" } : Jvm.MethodName)) ∈ nw_T := nw_T_in (List.mem_of_getElem? (i := 901) (by decide +kernel)) rfl
theorem kw_903 : (Jvm.Cond.instanceMethod ({ cls := "HarvestPlansModel", name := "tryPlan", desc := "()V" } : Jvm.MethodName)) ∈ nw_T := nw_T_in (List.mem_of_getElem? (i := 903) (by decide +kernel)) rfl
theorem kw_904 : (Jvm.Cond.code ({ cls := "HarvestPlansModel", name := "tryPlan", desc := "()V" } : Jvm.MethodName) prog_11_method_35_code (2 : Nat) (Option.none : Option Jvm.ClassFile.FieldType)) ∈ nw_T := nw_T_in (List.mem_of_getElem? (i := 904) (by decide +kernel)) rfl
theorem kw_905 : (Jvm.Cond.methodLink "HarvestPlansLaw" (137 : Nat) ({ cls := "HarvestPlansModel", name := "worth", desc := "()J" } : Jvm.MethodName)) ∈ nw_T := nw_T_in (List.mem_of_getElem? (i := 905) (by decide +kernel)) rfl
theorem kw_906 : (Jvm.Cond.instanceMethod ({ cls := "HarvestPlansModel", name := "worth", desc := "()J" } : Jvm.MethodName)) ∈ nw_T := nw_T_in (List.mem_of_getElem? (i := 906) (by decide +kernel)) rfl
theorem kw_907 : (Jvm.Cond.selects "HarvestPlansModel" ({ cls := "HarvestPlansModel", name := "worth", desc := "()J" } : Jvm.MethodName) ({ cls := "HarvestPlansModel", name := "worth", desc := "()J" } : Jvm.MethodName)) ∈ nw_T := nw_T_in (List.mem_of_getElem? (i := 907) (by decide +kernel)) rfl
theorem kw_908 : (Jvm.Cond.code ({ cls := "HarvestPlansModel", name := "worth", desc := "()J" } : Jvm.MethodName) prog_11_method_37_code (1 : Nat) (Option.some Jvm.ClassFile.FieldType.long)) ∈ nw_T := nw_T_in (List.mem_of_getElem? (i := 908) (by decide +kernel)) rfl
theorem kw_909 : (Jvm.Cond.methodLink "HarvestPlansLaw" (140 : Nat) ({ cls := "HarvestPlansModel", name := "sold", desc := "(I)I" } : Jvm.MethodName)) ∈ nw_T := nw_T_in (List.mem_of_getElem? (i := 909) (by decide +kernel)) rfl
theorem kw_910 : (Jvm.Cond.instanceMethod ({ cls := "HarvestPlansModel", name := "sold", desc := "(I)I" } : Jvm.MethodName)) ∈ nw_T := nw_T_in (List.mem_of_getElem? (i := 910) (by decide +kernel)) rfl
theorem kw_911 : (Jvm.Cond.selects "HarvestPlansModel" ({ cls := "HarvestPlansModel", name := "sold", desc := "(I)I" } : Jvm.MethodName) ({ cls := "HarvestPlansModel", name := "sold", desc := "(I)I" } : Jvm.MethodName)) ∈ nw_T := nw_T_in (List.mem_of_getElem? (i := 911) (by decide +kernel)) rfl
theorem kw_912 : (Jvm.Cond.code ({ cls := "HarvestPlansModel", name := "sold", desc := "(I)I" } : Jvm.MethodName) prog_11_method_38_code (4 : Nat) (Option.some Jvm.ClassFile.FieldType.int)) ∈ nw_T := nw_T_in (List.mem_of_getElem? (i := 912) (by decide +kernel)) rfl
theorem kw_913 : (Jvm.Cond.sameMethod "java/lang/Throwable" "java/lang/Throwable" "fillInStackTrace" "(I)Ljava/lang/Throwable;") ∈ nw_T := nw_T_in (List.mem_of_getElem? (i := 913) (by decide +kernel)) rfl
theorem ks_Search_hopeBeforeAny : Cond.selects "HarvestPlans$Search" ⟨"HarvestPlans$Search", "hopeBeforeAny", "()J"⟩ ⟨"HarvestPlans$Search", "hopeBeforeAny", "()J"⟩ ∈ nw_T := nw_T_sel (q := (⟨"HarvestPlans$Search", "hopeBeforeAny", "()J"⟩, 10)) (by decide +kernel)
theorem ks_Search_foretell : Cond.selects "HarvestPlans$Search" ⟨"HarvestPlans$Search", "foretell", "()V"⟩ ⟨"HarvestPlans$Search", "foretell", "()V"⟩ ∈ nw_T := nw_T_sel (q := (⟨"HarvestPlans$Search", "foretell", "()V"⟩, 10)) (by decide +kernel)
theorem ks_Farm_greatestTop : Cond.selects "HarvestPlans$Farm" ⟨"HarvestPlans$Farm", "greatestTop", "(I)J"⟩ ⟨"HarvestPlans$Farm", "greatestTop", "(I)J"⟩ ∈ nw_T := nw_T_sel (q := (⟨"HarvestPlans$Farm", "greatestTop", "(I)J"⟩, 13)) (by decide +kernel)
theorem ks_Farm_centsKept : Cond.selects "HarvestPlans$Farm" ⟨"HarvestPlans$Farm", "centsKept", "(I)J"⟩ ⟨"HarvestPlans$Farm", "centsKept", "(I)J"⟩ ∈ nw_T := nw_T_sel (q := (⟨"HarvestPlans$Farm", "centsKept", "(I)J"⟩, 13)) (by decide +kernel)
theorem ks_Farm_top : Cond.selects "HarvestPlans$Farm" ⟨"HarvestPlans$Farm", "top", "(II)J"⟩ ⟨"HarvestPlans$Farm", "top", "(II)J"⟩ ∈ nw_T := nw_T_sel (q := (⟨"HarvestPlans$Farm", "top", "(II)J"⟩, 13)) (by decide +kernel)
theorem ks_Order_wants : Cond.selects "HarvestPlans$Order" ⟨"HarvestPlans$Order", "wants", "(LHarvestPlans$Cage;I)Z"⟩ ⟨"HarvestPlans$Order", "wants", "(LHarvestPlans$Cage;I)Z"⟩ ∈ nw_T := nw_T_sel (q := (⟨"HarvestPlans$Order", "wants", "(LHarvestPlans$Cage;I)Z"⟩, 5)) (by decide +kernel)
theorem ks_X_forgetPlan : Cond.selects "HarvestPlans" ⟨"HarvestPlans", "forgetPlan", "()V"⟩ ⟨"HarvestPlans", "forgetPlan", "()V"⟩ ∈ nw_T := nw_T_sel (q := (⟨"HarvestPlans", "forgetPlan", "()V"⟩, 6)) (by decide +kernel)
theorem ks_Farm_addPlace : Cond.selects "HarvestPlans$Farm" ⟨"HarvestPlans$Farm", "addPlace", "(LHarvestPlans$Place;)I"⟩ ⟨"HarvestPlans$Farm", "addPlace", "(LHarvestPlans$Place;)I"⟩ ∈ nw_T := nw_T_sel (q := (⟨"HarvestPlans$Farm", "addPlace", "(LHarvestPlans$Place;)I"⟩, 13)) (by decide +kernel)
theorem ks_X_requireWeek : Cond.selects "HarvestPlans" ⟨"HarvestPlans", "requireWeek", "(I)V"⟩ ⟨"HarvestPlans", "requireWeek", "(I)V"⟩ ∈ nw_T := nw_T_sel (q := (⟨"HarvestPlans", "requireWeek", "(I)V"⟩, 6)) (by decide +kernel)
theorem ks_Farm_addCage : Cond.selects "HarvestPlans$Farm" ⟨"HarvestPlans$Farm", "addCage", "(LHarvestPlans$Cage;)I"⟩ ⟨"HarvestPlans$Farm", "addCage", "(LHarvestPlans$Cage;)I"⟩ ∈ nw_T := nw_T_sel (q := (⟨"HarvestPlans$Farm", "addCage", "(LHarvestPlans$Cage;)I"⟩, 13)) (by decide +kernel)
theorem ks_Farm_addBoat : Cond.selects "HarvestPlans$Farm" ⟨"HarvestPlans$Farm", "addBoat", "(LHarvestPlans$Boat;)I"⟩ ⟨"HarvestPlans$Farm", "addBoat", "(LHarvestPlans$Boat;)I"⟩ ∈ nw_T := nw_T_sel (q := (⟨"HarvestPlans$Farm", "addBoat", "(LHarvestPlans$Boat;)I"⟩, 13)) (by decide +kernel)
theorem ks_Farm_addOrder : Cond.selects "HarvestPlans$Farm" ⟨"HarvestPlans$Farm", "addOrder", "(LHarvestPlans$Order;)I"⟩ ⟨"HarvestPlans$Farm", "addOrder", "(LHarvestPlans$Order;)I"⟩ ∈ nw_T := nw_T_sel (q := (⟨"HarvestPlans$Farm", "addOrder", "(LHarvestPlans$Order;)I"⟩, 13)) (by decide +kernel)
theorem ks_Search_start : Cond.selects "HarvestPlans$Search" ⟨"HarvestPlans$Search", "start", "(I)V"⟩ ⟨"HarvestPlans$Search", "start", "(I)V"⟩ ∈ nw_T := nw_T_sel (q := (⟨"HarvestPlans$Search", "start", "(I)V"⟩, 10)) (by decide +kernel)
theorem ks_Search_branch : Cond.selects "HarvestPlans$Search" ⟨"HarvestPlans$Search", "branch", "(IJ)V"⟩ ⟨"HarvestPlans$Search", "branch", "(IJ)V"⟩ ∈ nw_T := nw_T_sel (q := (⟨"HarvestPlans$Search", "branch", "(IJ)V"⟩, 10)) (by decide +kernel)
theorem ks_Search_meet : Cond.selects "HarvestPlans$Search" ⟨"HarvestPlans$Search", "meet", "()V"⟩ ⟨"HarvestPlans$Search", "meet", "()V"⟩ ∈ nw_T := nw_T_sel (q := (⟨"HarvestPlans$Search", "meet", "()V"⟩, 10)) (by decide +kernel)
theorem ks_Rules_keepsAllHeld : Cond.selects "HarvestPlans$Rules" ⟨"HarvestPlans$Rules", "keepsAllHeld", "([I)Z"⟩ ⟨"HarvestPlans$Rules", "keepsAllHeld", "([I)Z"⟩ ∈ nw_T := nw_T_sel (q := (⟨"HarvestPlans$Rules", "keepsAllHeld", "([I)Z"⟩, 5)) (by decide +kernel)
theorem ks_Rules_keepsHeld : Cond.selects "HarvestPlans$Rules" ⟨"HarvestPlans$Rules", "keepsHeld", "([II)Z"⟩ ⟨"HarvestPlans$Rules", "keepsHeld", "([II)Z"⟩ ∈ nw_T := nw_T_sel (q := (⟨"HarvestPlans$Rules", "keepsHeld", "([II)Z"⟩, 5)) (by decide +kernel)
theorem ks_Sales_sellAll : Cond.selects "HarvestPlans$Sales" ⟨"HarvestPlans$Sales", "sellAll", "([I)J"⟩ ⟨"HarvestPlans$Sales", "sellAll", "([I)J"⟩ ∈ nw_T := nw_T_sel (q := (⟨"HarvestPlans$Sales", "sellAll", "([I)J"⟩, 3)) (by decide +kernel)
theorem ks_Sales_serve : Cond.selects "HarvestPlans$Sales" ⟨"HarvestPlans$Sales", "serve", "(LHarvestPlans$Order;[I)I"⟩ ⟨"HarvestPlans$Sales", "serve", "(LHarvestPlans$Order;[I)I"⟩ ∈ nw_T := nw_T_sel (q := (⟨"HarvestPlans$Sales", "serve", "(LHarvestPlans$Order;[I)I"⟩, 3)) (by decide +kernel)
theorem ks_Sales_priceOfRest : Cond.selects "HarvestPlans$Sales" ⟨"HarvestPlans$Sales", "priceOfRest", "([I)J"⟩ ⟨"HarvestPlans$Sales", "priceOfRest", "([I)J"⟩ ∈ nw_T := nw_T_sel (q := (⟨"HarvestPlans$Sales", "priceOfRest", "([I)J"⟩, 3)) (by decide +kernel)
theorem ks_Rules_allowsTaking : Cond.selects "HarvestPlans$Rules" ⟨"HarvestPlans$Rules", "allowsTaking", "([II)Z"⟩ ⟨"HarvestPlans$Rules", "allowsTaking", "([II)Z"⟩ ∈ nw_T := nw_T_sel (q := (⟨"HarvestPlans$Rules", "allowsTaking", "([II)Z"⟩, 5)) (by decide +kernel)
theorem ks_Rules_keepsClosed : Cond.selects "HarvestPlans$Rules" ⟨"HarvestPlans$Rules", "keepsClosed", "([II)Z"⟩ ⟨"HarvestPlans$Rules", "keepsClosed", "([II)Z"⟩ ∈ nw_T := nw_T_sel (q := (⟨"HarvestPlans$Rules", "keepsClosed", "([II)Z"⟩, 5)) (by decide +kernel)
theorem ks_Rules_keepsPlant : Cond.selects "HarvestPlans$Rules" ⟨"HarvestPlans$Rules", "keepsPlant", "([II)Z"⟩ ⟨"HarvestPlans$Rules", "keepsPlant", "([II)Z"⟩ ∈ nw_T := nw_T_sel (q := (⟨"HarvestPlans$Rules", "keepsPlant", "([II)Z"⟩, 5)) (by decide +kernel)
theorem ks_Rules_keepsBoats : Cond.selects "HarvestPlans$Rules" ⟨"HarvestPlans$Rules", "keepsBoats", "([II)Z"⟩ ⟨"HarvestPlans$Rules", "keepsBoats", "([II)Z"⟩ ∈ nw_T := nw_T_sel (q := (⟨"HarvestPlans$Rules", "keepsBoats", "([II)Z"⟩, 5)) (by decide +kernel)
theorem ks_Rules_gatherNeeds : Cond.selects "HarvestPlans$Rules" ⟨"HarvestPlans$Rules", "gatherNeeds", "([II)I"⟩ ⟨"HarvestPlans$Rules", "gatherNeeds", "([II)I"⟩ ∈ nw_T := nw_T_sel (q := (⟨"HarvestPlans$Rules", "gatherNeeds", "([II)I"⟩, 5)) (by decide +kernel)
theorem ks_Rules_gatherLoads : Cond.selects "HarvestPlans$Rules" ⟨"HarvestPlans$Rules", "gatherLoads", "(I)I"⟩ ⟨"HarvestPlans$Rules", "gatherLoads", "(I)I"⟩ ∈ nw_T := nw_T_sel (q := (⟨"HarvestPlans$Rules", "gatherLoads", "(I)I"⟩, 5)) (by decide +kernel)
theorem ks_Rules_carriesAll : Cond.selects "HarvestPlans$Rules" ⟨"HarvestPlans$Rules", "carriesAll", "(III)Z"⟩ ⟨"HarvestPlans$Rules", "carriesAll", "(III)Z"⟩ ∈ nw_T := nw_T_sel (q := (⟨"HarvestPlans$Rules", "carriesAll", "(III)Z"⟩, 5)) (by decide +kernel)
theorem ks_Search_makeNode : Cond.selects "HarvestPlans$Search" ⟨"HarvestPlans$Search", "makeNode", "(IJ)V"⟩ ⟨"HarvestPlans$Search", "makeNode", "(IJ)V"⟩ ∈ nw_T := nw_T_sel (q := (⟨"HarvestPlans$Search", "makeNode", "(IJ)V"⟩, 10)) (by decide +kernel)
theorem ks_Search_hasMet : Cond.selects "HarvestPlans$Search" ⟨"HarvestPlans$Search", "hasMet", "()Z"⟩ ⟨"HarvestPlans$Search", "hasMet", "()Z"⟩ ∈ nw_T := nw_T_sel (q := (⟨"HarvestPlans$Search", "hasMet", "()Z"⟩, 10)) (by decide +kernel)
theorem ks_X_requirePlan : Cond.selects "HarvestPlans" ⟨"HarvestPlans", "requirePlan", "()V"⟩ ⟨"HarvestPlans", "requirePlan", "()V"⟩ ∈ nw_T := nw_T_sel (q := (⟨"HarvestPlans", "requirePlan", "()V"⟩, 6)) (by decide +kernel)
theorem ks_Rules_leastBroken : Cond.selects "HarvestPlans$Rules" ⟨"HarvestPlans$Rules", "leastBroken", "([II)I"⟩ ⟨"HarvestPlans$Rules", "leastBroken", "([II)I"⟩ ∈ nw_T := nw_T_sel (q := (⟨"HarvestPlans$Rules", "leastBroken", "([II)I"⟩, 5)) (by decide +kernel)
theorem ks_M_refuses : Cond.selects "HarvestPlansModel" ⟨"HarvestPlansModel", "refuses", "(ZZ)Z"⟩ ⟨"HarvestPlansModel", "refuses", "(ZZ)Z"⟩ ∈ nw_T := nw_T_sel (q := (⟨"HarvestPlansModel", "refuses", "(ZZ)Z"⟩, 33)) (by decide +kernel)
theorem ks_M_kilos : Cond.selects "HarvestPlansModel" ⟨"HarvestPlansModel", "kilos", "(II)J"⟩ ⟨"HarvestPlansModel", "kilos", "(II)J"⟩ ∈ nw_T := nw_T_sel (q := (⟨"HarvestPlansModel", "kilos", "(II)J"⟩, 33)) (by decide +kernel)
theorem ks_M_meet : Cond.selects "HarvestPlansModel" ⟨"HarvestPlansModel", "meet", "()V"⟩ ⟨"HarvestPlansModel", "meet", "()V"⟩ ∈ nw_T := nw_T_sel (q := (⟨"HarvestPlansModel", "meet", "()V"⟩, 33)) (by decide +kernel)
theorem ks_M_keepsAll : Cond.selects "HarvestPlansModel" ⟨"HarvestPlansModel", "keepsAll", "(IZ)Z"⟩ ⟨"HarvestPlansModel", "keepsAll", "(IZ)Z"⟩ ∈ nw_T := nw_T_sel (q := (⟨"HarvestPlansModel", "keepsAll", "(IZ)Z"⟩, 33)) (by decide +kernel)
theorem ks_M_broken : Cond.selects "HarvestPlansModel" ⟨"HarvestPlansModel", "broken", "(IIZ)I"⟩ ⟨"HarvestPlansModel", "broken", "(IIZ)I"⟩ ∈ nw_T := nw_T_sel (q := (⟨"HarvestPlansModel", "broken", "(IIZ)I"⟩, 33)) (by decide +kernel)
theorem ks_M_keepsPlant : Cond.selects "HarvestPlansModel" ⟨"HarvestPlansModel", "keepsPlant", "(II)Z"⟩ ⟨"HarvestPlansModel", "keepsPlant", "(II)Z"⟩ ∈ nw_T := nw_T_sel (q := (⟨"HarvestPlansModel", "keepsPlant", "(II)Z"⟩, 33)) (by decide +kernel)
theorem ks_M_takes : Cond.selects "HarvestPlansModel" ⟨"HarvestPlansModel", "takes", "(III)Z"⟩ ⟨"HarvestPlansModel", "takes", "(III)Z"⟩ ∈ nw_T := nw_T_sel (q := (⟨"HarvestPlansModel", "takes", "(III)Z"⟩, 33)) (by decide +kernel)
theorem ks_M_keepsBoats : Cond.selects "HarvestPlansModel" ⟨"HarvestPlansModel", "keepsBoats", "(II)Z"⟩ ⟨"HarvestPlansModel", "keepsBoats", "(II)Z"⟩ ∈ nw_T := nw_T_sel (q := (⟨"HarvestPlansModel", "keepsBoats", "(II)Z"⟩, 33)) (by decide +kernel)
theorem ks_M_keepsOpen : Cond.selects "HarvestPlansModel" ⟨"HarvestPlansModel", "keepsOpen", "(II)Z"⟩ ⟨"HarvestPlansModel", "keepsOpen", "(II)Z"⟩ ∈ nw_T := nw_T_sel (q := (⟨"HarvestPlansModel", "keepsOpen", "(II)Z"⟩, 33)) (by decide +kernel)
theorem ks_M_keepsHeld : Cond.selects "HarvestPlansModel" ⟨"HarvestPlansModel", "keepsHeld", "(I)Z"⟩ ⟨"HarvestPlansModel", "keepsHeld", "(I)Z"⟩ ∈ nw_T := nw_T_sel (q := (⟨"HarvestPlansModel", "keepsHeld", "(I)Z"⟩, 33)) (by decide +kernel)
theorem ks_M_value : Cond.selects "HarvestPlansModel" ⟨"HarvestPlansModel", "value", "()J"⟩ ⟨"HarvestPlansModel", "value", "()J"⟩ ∈ nw_T := nw_T_sel (q := (⟨"HarvestPlansModel", "value", "()J"⟩, 33)) (by decide +kernel)
theorem ks_M_nextOrder : Cond.selects "HarvestPlansModel" ⟨"HarvestPlansModel", "nextOrder", "(I)I"⟩ ⟨"HarvestPlansModel", "nextOrder", "(I)I"⟩ ∈ nw_T := nw_T_sel (q := (⟨"HarvestPlansModel", "nextOrder", "(I)I"⟩, 33)) (by decide +kernel)
theorem ks_M_serve : Cond.selects "HarvestPlansModel" ⟨"HarvestPlansModel", "serve", "(II)J"⟩ ⟨"HarvestPlansModel", "serve", "(II)J"⟩ ∈ nw_T := nw_T_sel (q := (⟨"HarvestPlansModel", "serve", "(II)J"⟩, 33)) (by decide +kernel)
theorem ks_M_search : Cond.selects "HarvestPlansModel" ⟨"HarvestPlansModel", "search", "(I)Z"⟩ ⟨"HarvestPlansModel", "search", "(I)Z"⟩ ∈ nw_T := nw_T_sel (q := (⟨"HarvestPlansModel", "search", "(I)Z"⟩, 33)) (by decide +kernel)
theorem ks_M_hopeOf : Cond.selects "HarvestPlansModel" ⟨"HarvestPlansModel", "hopeOf", "(I)J"⟩ ⟨"HarvestPlansModel", "hopeOf", "(I)J"⟩ ∈ nw_T := nw_T_sel (q := (⟨"HarvestPlansModel", "hopeOf", "(I)J"⟩, 33)) (by decide +kernel)
theorem ks_M_top : Cond.selects "HarvestPlansModel" ⟨"HarvestPlansModel", "top", "(II)J"⟩ ⟨"HarvestPlansModel", "top", "(II)J"⟩ ∈ nw_T := nw_T_sel (q := (⟨"HarvestPlansModel", "top", "(II)J"⟩, 33)) (by decide +kernel)
theorem ks_M_greatestTop : Cond.selects "HarvestPlansModel" ⟨"HarvestPlansModel", "greatestTop", "(I)J"⟩ ⟨"HarvestPlansModel", "greatestTop", "(I)J"⟩ ∈ nw_T := nw_T_sel (q := (⟨"HarvestPlansModel", "greatestTop", "(I)J"⟩, 33)) (by decide +kernel)
theorem ks_M_tryPlan : Cond.selects "HarvestPlansModel" ⟨"HarvestPlansModel", "tryPlan", "()V"⟩ ⟨"HarvestPlansModel", "tryPlan", "()V"⟩ ∈ nw_T := nw_T_sel (q := (⟨"HarvestPlansModel", "tryPlan", "()V"⟩, 33)) (by decide +kernel)
theorem i_X : ∀ w ∈ u_ws "HarvestPlans" F_X 6, w ∈ nw_T := List.forall_mem_cons.mpr ⟨kw_205, List.forall_mem_cons.mpr ⟨kw_207, List.forall_mem_cons.mpr ⟨kw_209, List.forall_mem_cons.mpr ⟨kw_211, List.forall_mem_cons.mpr ⟨kw_213, List.forall_mem_cons.mpr ⟨kw_215, fun _ h => absurd h List.not_mem_nil⟩⟩⟩⟩⟩⟩
theorem i_Farm : ∀ w ∈ u_ws "HarvestPlans$Farm" F_Farm 13, w ∈ nw_T := List.forall_mem_cons.mpr ⟨kw_87, List.forall_mem_cons.mpr ⟨kw_89, List.forall_mem_cons.mpr ⟨kw_91, List.forall_mem_cons.mpr ⟨kw_93, List.forall_mem_cons.mpr ⟨kw_95, List.forall_mem_cons.mpr ⟨kw_97, List.forall_mem_cons.mpr ⟨kw_99, List.forall_mem_cons.mpr ⟨kw_101, List.forall_mem_cons.mpr ⟨kw_103, List.forall_mem_cons.mpr ⟨kw_105, List.forall_mem_cons.mpr ⟨kw_107, List.forall_mem_cons.mpr ⟨kw_109, List.forall_mem_cons.mpr ⟨kw_111, fun _ h => absurd h List.not_mem_nil⟩⟩⟩⟩⟩⟩⟩⟩⟩⟩⟩⟩⟩
theorem i_Rules : ∀ w ∈ u_ws "HarvestPlans$Rules" F_Rules 5, w ∈ nw_T := List.forall_mem_cons.mpr ⟨kw_126, List.forall_mem_cons.mpr ⟨kw_128, List.forall_mem_cons.mpr ⟨kw_130, List.forall_mem_cons.mpr ⟨kw_132, List.forall_mem_cons.mpr ⟨kw_134, fun _ h => absurd h List.not_mem_nil⟩⟩⟩⟩⟩
theorem i_Sales : ∀ w ∈ u_ws "HarvestPlans$Sales" F_Sales 3, w ∈ nw_T := List.forall_mem_cons.mpr ⟨kw_147, List.forall_mem_cons.mpr ⟨kw_149, List.forall_mem_cons.mpr ⟨kw_151, fun _ h => absurd h List.not_mem_nil⟩⟩⟩
theorem i_Search : ∀ w ∈ u_ws "HarvestPlans$Search" F_Search 10, w ∈ nw_T := List.forall_mem_cons.mpr ⟨kw_174, List.forall_mem_cons.mpr ⟨kw_176, List.forall_mem_cons.mpr ⟨kw_178, List.forall_mem_cons.mpr ⟨kw_180, List.forall_mem_cons.mpr ⟨kw_182, List.forall_mem_cons.mpr ⟨kw_184, List.forall_mem_cons.mpr ⟨kw_186, List.forall_mem_cons.mpr ⟨kw_188, List.forall_mem_cons.mpr ⟨kw_190, List.forall_mem_cons.mpr ⟨kw_192, fun _ h => absurd h List.not_mem_nil⟩⟩⟩⟩⟩⟩⟩⟩⟩⟩
theorem i_Place : ∀ w ∈ u_ws "HarvestPlans$Place" F_Place 2, w ∈ nw_T := List.forall_mem_cons.mpr ⟨kw_372, List.forall_mem_cons.mpr ⟨kw_374, fun _ h => absurd h List.not_mem_nil⟩⟩
theorem i_Cage : ∀ w ∈ u_ws "HarvestPlans$Cage" F_Cage 3, w ∈ nw_T := List.forall_mem_cons.mpr ⟨kw_420, List.forall_mem_cons.mpr ⟨kw_422, List.forall_mem_cons.mpr ⟨kw_424, fun _ h => absurd h List.not_mem_nil⟩⟩⟩
theorem i_Boat : ∀ w ∈ u_ws "HarvestPlans$Boat" F_Boat 2, w ∈ nw_T := List.forall_mem_cons.mpr ⟨kw_457, List.forall_mem_cons.mpr ⟨kw_459, fun _ h => absurd h List.not_mem_nil⟩⟩
theorem i_Order : ∀ w ∈ u_ws "HarvestPlans$Order" F_Order 5, w ∈ nw_T := List.forall_mem_cons.mpr ⟨kw_500, List.forall_mem_cons.mpr ⟨kw_502, List.forall_mem_cons.mpr ⟨kw_504, List.forall_mem_cons.mpr ⟨kw_506, List.forall_mem_cons.mpr ⟨kw_508, fun _ h => absurd h List.not_mem_nil⟩⟩⟩⟩⟩
theorem i_M : ∀ w ∈ u_ws "HarvestPlansModel" F_M 33, w ∈ nw_T := List.forall_mem_cons.mpr ⟨kw_692, List.forall_mem_cons.mpr ⟨kw_694, List.forall_mem_cons.mpr ⟨kw_696, List.forall_mem_cons.mpr ⟨kw_698, List.forall_mem_cons.mpr ⟨kw_700, List.forall_mem_cons.mpr ⟨kw_702, List.forall_mem_cons.mpr ⟨kw_704, List.forall_mem_cons.mpr ⟨kw_706, List.forall_mem_cons.mpr ⟨kw_708, List.forall_mem_cons.mpr ⟨kw_710, List.forall_mem_cons.mpr ⟨kw_712, List.forall_mem_cons.mpr ⟨kw_714, List.forall_mem_cons.mpr ⟨kw_716, List.forall_mem_cons.mpr ⟨kw_718, List.forall_mem_cons.mpr ⟨kw_720, List.forall_mem_cons.mpr ⟨kw_722, List.forall_mem_cons.mpr ⟨kw_724, List.forall_mem_cons.mpr ⟨kw_726, List.forall_mem_cons.mpr ⟨kw_728, List.forall_mem_cons.mpr ⟨kw_730, List.forall_mem_cons.mpr ⟨kw_732, List.forall_mem_cons.mpr ⟨kw_734, List.forall_mem_cons.mpr ⟨kw_736, List.forall_mem_cons.mpr ⟨kw_738, List.forall_mem_cons.mpr ⟨kw_740, List.forall_mem_cons.mpr ⟨kw_742, List.forall_mem_cons.mpr ⟨kw_744, List.forall_mem_cons.mpr ⟨kw_746, List.forall_mem_cons.mpr ⟨kw_748, List.forall_mem_cons.mpr ⟨kw_750, List.forall_mem_cons.mpr ⟨kw_752, List.forall_mem_cons.mpr ⟨kw_754, List.forall_mem_cons.mpr ⟨kw_756, fun _ h => absurd h List.not_mem_nil⟩⟩⟩⟩⟩⟩⟩⟩⟩⟩⟩⟩⟩⟩⟩⟩⟩⟩⟩⟩⟩⟩⟩⟩⟩⟩⟩⟩⟩⟩⟩⟩⟩
end
section
/-! NAMED WORLDS: cells by names. wn k: what the cell of name k holds; ad k: where it lies. -/
abbrev nw_N : Type := Nat → Option va_E
def nw_W (D : va_G) (cl : List vw_C) (A : Nat → Prop) (wn : nw_N) (ad : Nat → Nat) (H : Heap) : Prop :=
  ∃ ws : va_W, va_P D cl ws H ∧ va_D A ws ∧ (∀ (k : Nat) (e : va_E), wn k = some e → ∃ i : Nat, ws[i]? = some (ad k, e)) ∧ ∀ (j k : Nat) (x y : va_E), wn j = some x → wn k = some y → ad j = ad k → j = k
theorem nw_W.mono {D : va_G} {cl : List vw_C} {A : Nat → Prop} {wn wn' : nw_N} {ad ad' : Nat → Nat} {H : Heap} (h : nw_W D cl A wn ad H) (hm : ∀ (k : Nat) (e : va_E), wn' k = some e → wn k = some e ∧ ad' k = ad k) : nw_W D cl A wn' ad' H := by
  obtain ⟨ws, hP, hD, hn, hi⟩ := h
  refine ⟨ws, hP, hD, fun k e hk => ?_, fun j k x y hj hk hjk => ?_⟩
  · obtain ⟨h1, h2⟩ := hm k e hk
    rw [h2]
    exact hn k e h1
  · obtain ⟨h1, h2⟩ := hm j x hj
    obtain ⟨h3, h4⟩ := hm k y hk
    exact hi j k x y h1 h3 (by rw [← h2, ← h4]; exact hjk)
theorem nw_W.kept {D : va_G} {cl : List vw_C} {A : Nat → Prop} {wn : nw_N} {ad : Nat → Nat} {H H1 : Heap} (h : nw_W D cl A wn ad H) (hq : ∀ q : Nat, q < H.size → H1[q]? = H[q]?) : nw_W D cl A wn ad H1 := by
  obtain ⟨ws, hP, hD, hn, hi⟩ := h
  exact ⟨ws, hP.kept (fun k q hk => hq q.1 (hP k q hk).lt), hD, hn, hi⟩
theorem nw_W.ne {D : va_G} {cl : List vw_C} {A : Nat → Prop} {wn : nw_N} {ad : Nat → Nat} {H : Heap} (h : nw_W D cl A wn ad H) {j k : Nat} {x y : va_E} (hj : wn j = some x) (hk : wn k = some y) (hjk : j ≠ k) : ad j ≠ ad k := by
  obtain ⟨ws, hP, hD, hn, hi⟩ := h
  exact fun e => hjk (hi j k x y hj hk e)
theorem nw_set {D : va_G} {cl : List vw_C} {A : Nat → Prop} {wn : nw_N} {ad : Nat → Nat} {H1 : Heap} {ws : va_W} {k i : Nat} {e0 e : va_E} (hn : ∀ (k : Nat) (e : va_E), wn k = some e → ∃ i : Nat, ws[i]? = some (ad k, e)) (hi : ∀ (j k : Nat) (x y : va_E), wn j = some x → wn k = some y → ad j = ad k → j = k) (hk : wn k = some e0) (hw : ws[i]? = some (ad k, e0)) (hP1 : va_P D cl (ws.set i (ad k, e)) H1) (hD1 : va_D A (ws.set i (ad k, e))) : nw_W D cl A (va_up wn k (some e)) ad H1 := by
  have hl := (List.getElem?_eq_some_iff.mp hw).1
  have up : ∀ (j : Nat) (x : va_E), va_up wn k (some e) j = some x → ∃ x' : va_E, wn j = some x' := fun j x hj => by
    by_cases hq : j = k
    · subst hq
      exact ⟨e0, hk⟩
    · rw [va_up_ne _ _ hq] at hj
      exact ⟨x, hj⟩
  refine ⟨_, hP1, hD1, fun k' e' h' => ?_, fun j k' x y hj hk' hjk => ?_⟩
  · by_cases hq : k' = k
    · subst hq
      rw [va_up_self] at h'
      cases h'
      exact ⟨i, by rw [List.getElem?_set_self hl]⟩
    · rw [va_up_ne _ _ hq] at h'
      obtain ⟨i', hi'⟩ := hn k' e' h'
      refine ⟨i', ?_⟩
      rw [List.getElem?_set_ne ?_]
      · exact hi'
      · intro e2
        subst e2
        rw [hw] at hi'
        exact hq (hi k' k _ _ h' hk (congrArg Prod.fst (Option.some.inj hi')).symm)
  · obtain ⟨x', hx'⟩ := up j x hj
    obtain ⟨y', hy'⟩ := up k' y hk'
    exact hi j k' x' y' hx' hy' hjk
theorem nw_push {D : va_G} {cl : List vw_C} {A : Nat → Prop} {wn : nw_N} {ad : Nat → Nat} {H1 : Heap} {ws : va_W} {k q : Nat} {e : va_E} (hn : ∀ (k : Nat) (e : va_E), wn k = some e → ∃ i : Nat, ws[i]? = some (ad k, e)) (hi : ∀ (j k : Nat) (x y : va_E), wn j = some x → wn k = some y → ad j = ad k → j = k) (hk : wn k = none) (hP1 : va_P D cl (ws ++ [(q, e)]) H1) (hD1 : va_D A (ws ++ [(q, e)])) : nw_W D cl A (va_up wn k (some e)) (va_up ad k q) H1 := by
  have hlast : (ws ++ [(q, e)])[ws.length]? = some (q, e) := by simp
  have old : ∀ (i : Nat) (x : Nat × va_E), ws[i]? = some x → (ws ++ [(q, e)])[i]? = some x := fun i x hx => by
    rw [List.getElem?_append_left (List.getElem?_eq_some_iff.mp hx).1]
    exact hx
  have far : ∀ (j : Nat) (x : va_E), wn j = some x → ad j ≠ q := fun j x hj hq => by
    obtain ⟨i, hi'⟩ := hn j x hj
    have h1 := (List.getElem?_eq_some_iff.mp hi').1
    have h2 := hD1.1 i ws.length (ad j, x) (q, e) (old i _ hi') hlast hq
    omega
  refine ⟨_, hP1, hD1, fun k' e' h' => ?_, fun j k' x y hj hk' hjk => ?_⟩
  · by_cases hq : k' = k
    · subst hq
      rw [va_up_self] at h'
      cases h'
      exact ⟨ws.length, by rw [va_up_self]; exact hlast⟩
    · rw [va_up_ne _ _ hq] at h'
      obtain ⟨i', hi'⟩ := hn k' e' h'
      exact ⟨i', by rw [va_up_ne _ _ hq]; exact old i' _ hi'⟩
  · by_cases h1 : j = k <;> by_cases h2 : k' = k
    · rw [h1, h2]
    · rw [va_up_ne _ _ h2] at hk' hjk
      rw [h1, va_up_self] at hjk
      exact absurd hjk.symm (far k' y hk')
    · rw [va_up_ne _ _ h1] at hj hjk
      rw [h2, va_up_self] at hjk
      exact absurd hjk (far j x hj)
    · rw [va_up_ne _ _ h1] at hj hjk
      rw [va_up_ne _ _ h2] at hk' hjk
      exact hi j k' x y hj hk' hjk
/-- arrays of one type have one class -/
theorem nw_ty1 {D : va_G} {cl : List vw_C} {tys : List (ClassId × FieldType)} {U : State} (h : va_K D cl tys U) {i j : Nat} {a b : ClassId} {ty : FieldType} (hi : tys[i]? = some (a, ty)) (hj : tys[j]? = some (b, ty)) : a = b := by
  have h1 := (h.2 i _ hi).2
  have h2 := (h.2 j _ hj).2
  cases ty with
  | object C =>
    obtain ⟨_, _, _, _, _, e1⟩ := h1
    obtain ⟨_, _, _, _, _, e2⟩ := h2
    exact Option.some.inj (e1.symm.trans e2)
  | _ => exact Option.some.inj (h1.symm.trans h2)
section NW
variable {p : Program} {l : Launch} {e : Env} {R : Room} {s : State} {m : MethodId} {args : Array Value} {below : List Frame} {meth : Method} {c : Code} {H : Heap} {locs : List Loc} {cells slots : Nat} {Q : State → Prop}
variable {cc : ByteArray} {pc : Nat} {ls : Array Slot} {rest : List Value} {D : va_G} {cl : List vw_C} {A : Nat → Prop} {tys : List (ClassId × FieldType)} {H0 : Heap} {wn : nw_N} {ad : Nat → Nat}
theorem nw_get (hexec : p.tables.exec = Jvm.exec) (hb : c.code = cc) {own ref C : String} {T : u_T} {N ci index : Nat} {Ts : List Cond} (hts : ∀ w ∈ Ts, w.before args s = true) (hin : ∀ w ∈ u_ws C T N, w ∈ Ts) (hown : s.vm.findClass own = some m.cls) (hK : va_K D cl tys s) (hw : nw_W D cl A wn ad H) (q : Nat) {fs : List Value} (he : wn q = some (.inr (ci, fs))) (hc : cl[ci]? = some (C, T, N)) (k : Nat) (hk : k < N) (hlink : (Cond.fieldLink own index ref (T k).2.1 (T k).2.2.1).before args s = true) (hsame : ∀ x, s.fieldFound? (T k).1 (T k).2.1 (T k).2.2.1 = some x → s.fieldFound? ref (T k).2.1 (T k).2.2.1 = some x) {v : Value} (hv : fs[k]? = some v) (hdg : decode cc pc = .ok (.getfield index, 3))
    (kk : W p l e R s m args below meth c H locs cells slots Q (F0 m (pc + 3) ls (v :: rest))) : W p l e R s m args below meth c H locs cells slots Q (F0 m pc ls (.ref (ad q) :: rest)) := by
  obtain ⟨ws, hP, hD, hn, hi⟩ := hw
  obtain ⟨i, hi'⟩ := hn q _ he
  exact va_get hexec hb hts hin hown hK hP i hi' hc k hk hlink hsame hv hdg kk
theorem nw_getN (hexec : p.tables.exec = Jvm.exec) (hb : c.code = cc) {own ref C host : String} {T : u_T} {N ci index : Nat} {Ts : List Cond} (hts : ∀ w ∈ Ts, w.before args s = true) (hin : ∀ w ∈ u_ws C T N, w ∈ Ts) (hown : s.vm.findClass own = some m.cls) (hK : va_K D cl tys s) (hw : nw_W D cl A wn ad H) (q : Nat) {fs : List Value} (he : wn q = some (.inr (ci, fs))) (hc : cl[ci]? = some (C, T, N)) (k : Nat) (hk : k < N) (hlink : (Cond.fieldLinkNest own index ref (T k).2.1 (T k).2.2.1 host).before args s = true) (hsame : ∀ x, s.fieldFound? (T k).1 (T k).2.1 (T k).2.2.1 = some x → s.fieldFound? ref (T k).2.1 (T k).2.2.1 = some x) {v : Value} (hv : fs[k]? = some v) (hdg : decode cc pc = .ok (.getfield index, 3))
    (kk : W p l e R s m args below meth c H locs cells slots Q (F0 m (pc + 3) ls (v :: rest))) : W p l e R s m args below meth c H locs cells slots Q (F0 m pc ls (.ref (ad q) :: rest)) := by
  obtain ⟨ws, hP, hD, hn, hi⟩ := hw
  obtain ⟨i, hi'⟩ := hn q _ he
  exact va_getN hexec hb hts hin hown hK hP i hi' hc k hk hlink hsame hv hdg kk
theorem nw_put (hexec : p.tables.exec = Jvm.exec) (hb : c.code = cc) {own ref C : String} {T : u_T} {N ci index : Nat} {Ts : List Cond} (hts : ∀ w ∈ Ts, w.before args s = true) (hin : ∀ w ∈ u_ws C T N, w ∈ Ts) (ty0 : Nat → FieldType) (hty : ∀ k, k < N → parseFieldDescriptor (T k).2.2.1 = some (ty0 k)) (hnm : ∀ a, a < N → ∀ b, b < N → a ≠ b → (T a).2.1 ≠ (T b).2.1) (hown : s.vm.findClass own = some m.cls) (hK : va_K D cl tys s) (hw : nw_W D cl A wn ad H) (hS0 : va_S A H0 H locs) (q : Nat) {fs : List Value} (he : wn q = some (.inr (ci, fs))) (hc : cl[ci]? = some (C, T, N)) (k : Nat) (hk : k < N) (hlink : (Cond.fieldLink own index ref (T k).2.1 (T k).2.2.1).before args s = true) (hsame : ∀ x, s.fieldFound? (T k).1 (T k).2.1 (T k).2.2.1 = some x → s.fieldFound? ref (T k).2.1 (T k).2.2.1 = some x) (hfin : (T k).2.2.2 = false) {ty : FieldType} {v : Value} (hd : parseFieldDescriptor (T k).2.2.1 = some ty) (hnr : narrow ty v = v) (hfit : fits ty v = true) (hl : k < fs.length)
    (hdg : decode cc pc = .ok (.putfield index, 3)) (kk : ∀ (H1 : Heap) (locs1 : List Loc), nw_W D cl A (va_up wn q (some (.inr (ci, fs.set k v)))) ad H1 → va_S A H0 H1 locs1 → W p l e R s m args below meth c H1 locs1 cells slots Q (F0 m (pc + 3) ls rest)) : W p l e R s m args below meth c H locs cells slots Q (F0 m pc ls (v :: .ref (ad q) :: rest)) := by
  obtain ⟨ws, hP, hD, hn, hi⟩ := hw
  obtain ⟨i, hi'⟩ := hn q _ he
  exact va_put hexec hb hts hin ty0 hty hnm hown hK hP hD hS0 i hi' hc k hk hlink hsame hfin hd hnr hfit hl hdg (fun H1 locs1 hP1 hD1 hS1 => kk H1 locs1 (nw_set hn hi he hi' hP1 hD1) hS1)
theorem nw_putN (hexec : p.tables.exec = Jvm.exec) (hb : c.code = cc) {own ref C host : String} {T : u_T} {N ci index : Nat} {Ts : List Cond} (hts : ∀ w ∈ Ts, w.before args s = true) (hin : ∀ w ∈ u_ws C T N, w ∈ Ts) (ty0 : Nat → FieldType) (hty : ∀ k, k < N → parseFieldDescriptor (T k).2.2.1 = some (ty0 k)) (hnm : ∀ a, a < N → ∀ b, b < N → a ≠ b → (T a).2.1 ≠ (T b).2.1) (hown : s.vm.findClass own = some m.cls) (hK : va_K D cl tys s) (hw : nw_W D cl A wn ad H) (hS0 : va_S A H0 H locs) (q : Nat) {fs : List Value} (he : wn q = some (.inr (ci, fs))) (hc : cl[ci]? = some (C, T, N)) (k : Nat) (hk : k < N) (hlink : (Cond.fieldLinkNest own index ref (T k).2.1 (T k).2.2.1 host).before args s = true) (hsame : ∀ x, s.fieldFound? (T k).1 (T k).2.1 (T k).2.2.1 = some x → s.fieldFound? ref (T k).2.1 (T k).2.2.1 = some x) (hfin : (T k).2.2.2 = false) {ty : FieldType} {v : Value} (hd : parseFieldDescriptor (T k).2.2.1 = some ty) (hnr : narrow ty v = v) (hfit : fits ty v = true) (hl : k < fs.length)
    (hdg : decode cc pc = .ok (.putfield index, 3)) (kk : ∀ (H1 : Heap) (locs1 : List Loc), nw_W D cl A (va_up wn q (some (.inr (ci, fs.set k v)))) ad H1 → va_S A H0 H1 locs1 → W p l e R s m args below meth c H1 locs1 cells slots Q (F0 m (pc + 3) ls rest)) : W p l e R s m args below meth c H locs cells slots Q (F0 m pc ls (v :: .ref (ad q) :: rest)) := by
  obtain ⟨ws, hP, hD, hn, hi⟩ := hw
  obtain ⟨i, hi'⟩ := hn q _ he
  exact va_putN hexec hb hts hin ty0 hty hnm hown hK hP hD hS0 i hi' hc k hk hlink hsame hfin hd hnr hfit hl hdg (fun H1 locs1 hP1 hD1 hS1 => kk H1 locs1 (nw_set hn hi he hi' hP1 hD1) hS1)
theorem nw_putF (hexec : p.tables.exec = Jvm.exec) (hb : c.code = cc) {own ref C : String} {T : u_T} {N ci index : Nat} {Ts : List Cond} (hts : ∀ w ∈ Ts, w.before args s = true) (hin : ∀ w ∈ u_ws C T N, w ∈ Ts) (ty0 : Nat → FieldType) (hty : ∀ k, k < N → parseFieldDescriptor (T k).2.2.1 = some (ty0 k)) (hnm : ∀ a, a < N → ∀ b, b < N → a ≠ b → (T a).2.1 ≠ (T b).2.1) (hown : s.vm.findClass own = some m.cls) (hK : va_K D cl tys s) (hw : nw_W D cl A wn ad H) (hS0 : va_S A H0 H locs) (q : Nat) {fs : List Value} (he : wn q = some (.inr (ci, fs))) (hc : cl[ci]? = some (C, T, N)) (k : Nat) (hk : k < N) (hlink : (Cond.fieldLink own index ref (T k).2.1 (T k).2.2.1).before args s = true) (hsame : ∀ x, s.fieldFound? (T k).1 (T k).2.1 (T k).2.2.1 = some x → s.fieldFound? ref (T k).2.1 (T k).2.2.1 = some x) (hfin : (T k).2.2.2 = true) (hin2 : meth.name = "<init>") (hdecl : (T k).1 = own) {ty : FieldType} {v : Value} (hd : parseFieldDescriptor (T k).2.2.1 = some ty) (hnr : narrow ty v = v) (hfit : fits ty v = true) (hl : k < fs.length)
    (hdg : decode cc pc = .ok (.putfield index, 3)) (kk : ∀ (H1 : Heap) (locs1 : List Loc), nw_W D cl A (va_up wn q (some (.inr (ci, fs.set k v)))) ad H1 → va_S A H0 H1 locs1 → W p l e R s m args below meth c H1 locs1 cells slots Q (F0 m (pc + 3) ls rest)) : W p l e R s m args below meth c H locs cells slots Q (F0 m pc ls (v :: .ref (ad q) :: rest)) := by
  obtain ⟨ws, hP, hD, hn, hi⟩ := hw
  obtain ⟨i, hi'⟩ := hn q _ he
  exact va_putF hexec hb hts hin ty0 hty hnm hown hK hP hD hS0 i hi' hc k hk hlink hsame hfin hin2 hdecl hd hnr hfit hl hdg (fun H1 locs1 hP1 hD1 hS1 => kk H1 locs1 (nw_set hn hi he hi' hP1 hD1) hS1)
theorem nw_in {x : Int32} {i n : Nat} (hx : x = nI i) (hi : i < n) (hn : n < 2 ^ 31) : vp_in x n ∧ x.toNatClampNeg = i := by
  subst hx
  exact ⟨vp_in_nI hi hn, nI_clamp (Nat.lt_trans hi hn)⟩
theorem nw_iald (hexec : p.tables.exec = Jvm.exec) (hb : c.code = cc) (hK : va_K D cl tys s) (hw : nw_W D cl A wn ad H) (q t0 : Nat) {cA : ClassId} {n : Nat} {f : Nat → Int32} (he : wn q = some (.inl (cA, n, .inl f))) (ht : tys[t0]? = some (cA, .int)) {x : Int32} (i : Nat) (hx : x = nI i) (hi : i < n) (hn : n < 2 ^ 31) (hdg : decode cc pc = .ok (.iaload, 1))
    (kk : W p l e R s m args below meth c H locs cells slots Q (F0 m (pc + 1) ls (.int (f i) :: rest))) : W p l e R s m args below meth c H locs cells slots Q (F0 m pc ls (.int x :: .ref (ad q) :: rest)) := by
  obtain ⟨ws, hP, hD, hn', hi'⟩ := hw
  obtain ⟨j, hj⟩ := hn' q _ he
  obtain ⟨h1, h2⟩ := nw_in hx hi hn
  exact va_iald hexec hb hK hP j t0 hj ht h1 hdg (by rw [h2]; exact kk)
theorem nw_zald (hexec : p.tables.exec = Jvm.exec) (hb : c.code = cc) (hK : va_K D cl tys s) (hw : nw_W D cl A wn ad H) (q t0 : Nat) {cA : ClassId} {n : Nat} {f : Nat → Int32} (he : wn q = some (.inl (cA, n, .inl f))) (ht : tys[t0]? = some (cA, .boolean)) {x : Int32} (i : Nat) (hx : x = nI i) (hi : i < n) (hn : n < 2 ^ 31) (hdg : decode cc pc = .ok (.baload, 1))
    (kk : W p l e R s m args below meth c H locs cells slots Q (F0 m (pc + 1) ls (.int (f i) :: rest))) : W p l e R s m args below meth c H locs cells slots Q (F0 m pc ls (.int x :: .ref (ad q) :: rest)) := by
  obtain ⟨ws, hP, hD, hn', hi'⟩ := hw
  obtain ⟨j, hj⟩ := hn' q _ he
  obtain ⟨h1, h2⟩ := nw_in hx hi hn
  exact va_zald hexec hb hK hP j t0 hj ht h1 hdg (by rw [h2]; exact kk)
theorem nw_lald (hexec : p.tables.exec = Jvm.exec) (hb : c.code = cc) (hK : va_K D cl tys s) (hw : nw_W D cl A wn ad H) (q t0 : Nat) {cA : ClassId} {n : Nat} {f : Nat → Int64} (he : wn q = some (.inl (cA, n, .inr (.inl f)))) (ht : tys[t0]? = some (cA, .long)) {x : Int32} (i : Nat) (hx : x = nI i) (hi : i < n) (hn : n < 2 ^ 31) (hdg : decode cc pc = .ok (.laload, 1))
    (kk : W p l e R s m args below meth c H locs cells slots Q (F0 m (pc + 1) ls (.long (f i) :: rest))) : W p l e R s m args below meth c H locs cells slots Q (F0 m pc ls (.int x :: .ref (ad q) :: rest)) := by
  obtain ⟨ws, hP, hD, hn', hi'⟩ := hw
  obtain ⟨j, hj⟩ := hn' q _ he
  obtain ⟨h1, h2⟩ := nw_in hx hi hn
  exact va_lald hexec hb hK hP j t0 hj ht h1 hdg (by rw [h2]; exact kk)
theorem nw_aald (hexec : p.tables.exec = Jvm.exec) (hb : c.code = cc) (hK : va_K D cl tys s) (hw : nw_W D cl A wn ad H) (q t0 : Nat) {cA : ClassId} {C : String} {n : Nat} {f : Nat → Option Nat} (he : wn q = some (.inl (cA, n, .inr (.inr (.inr (.inr f)))))) (ht : tys[t0]? = some (cA, .object C)) {x : Int32} (i : Nat) (hx : x = nI i) (hi : i < n) (hn : n < 2 ^ 31) {y : Nat} (hf : f i = some y) (hdg : decode cc pc = .ok (.aaload, 1))
    (kk : W p l e R s m args below meth c H locs cells slots Q (F0 m (pc + 1) ls (.ref y :: rest))) : W p l e R s m args below meth c H locs cells slots Q (F0 m pc ls (.int x :: .ref (ad q) :: rest)) := by
  obtain ⟨ws, hP, hD, hn', hi'⟩ := hw
  obtain ⟨j, hj⟩ := hn' q _ he
  obtain ⟨h1, h2⟩ := nw_in hx hi hn
  exact va_aldq hexec hb hK hP j t0 hj ht h1 hdg (by rw [h2, hf]; exact kk)
theorem nw_iast (hexec : p.tables.exec = Jvm.exec) (hb : c.code = cc) (hK : va_K D cl tys s) (hw : nw_W D cl A wn ad H) (hS : va_S A H0 H locs) (q t0 : Nat) {cA : ClassId} {n : Nat} {f : Nat → Int32} (he : wn q = some (.inl (cA, n, .inl f))) (ht : tys[t0]? = some (cA, .int)) {x y : Int32} (i : Nat) (hx : x = nI i) (hi : i < n) (hn : n < 2 ^ 31) (hdg : decode cc pc = .ok (.iastore, 1))
    (kk : ∀ (H1 : Heap) (locs1 : List Loc), nw_W D cl A (va_up wn q (some (.inl (cA, n, .inl (upd f i y))))) ad H1 → va_S A H0 H1 locs1 → W p l e R s m args below meth c H1 locs1 cells slots Q (F0 m (pc + 1) ls rest)) : W p l e R s m args below meth c H locs cells slots Q (F0 m pc ls (.int y :: .int x :: .ref (ad q) :: rest)) := by
  obtain ⟨ws, hP, hD, hn', hi'⟩ := hw
  obtain ⟨j, hj⟩ := hn' q _ he
  obtain ⟨h1, h2⟩ := nw_in hx hi hn
  exact va_iast hexec hb hK hP hD hS j t0 hj ht h1 hdg (fun H1 locs1 hP1 hD1 hS1 => kk H1 locs1 (nw_set hn' hi' he hj (by rw [h2] at hP1; exact hP1) (by rw [h2] at hD1; exact hD1)) hS1)
theorem nw_zast (hexec : p.tables.exec = Jvm.exec) (hb : c.code = cc) (hK : va_K D cl tys s) (hw : nw_W D cl A wn ad H) (hS : va_S A H0 H locs) (q t0 : Nat) {cA : ClassId} {n : Nat} {f : Nat → Int32} (he : wn q = some (.inl (cA, n, .inl f))) (ht : tys[t0]? = some (cA, .boolean)) {x y z : Int32} (i : Nat) (hx : x = nI i) (hi : i < n) (hn : n < 2 ^ 31) (hz : vp_nar .boolean y = z) (hdg : decode cc pc = .ok (.bastore, 1))
    (kk : ∀ (H1 : Heap) (locs1 : List Loc), nw_W D cl A (va_up wn q (some (.inl (cA, n, .inl (upd f i z))))) ad H1 → va_S A H0 H1 locs1 → W p l e R s m args below meth c H1 locs1 cells slots Q (F0 m (pc + 1) ls rest)) : W p l e R s m args below meth c H locs cells slots Q (F0 m pc ls (.int y :: .int x :: .ref (ad q) :: rest)) := by
  obtain ⟨ws, hP, hD, hn', hi'⟩ := hw
  obtain ⟨j, hj⟩ := hn' q _ he
  obtain ⟨h1, h2⟩ := nw_in hx hi hn
  subst hz
  exact va_zast hexec hb hK hP hD hS j t0 hj ht h1 hdg (fun H1 locs1 hP1 hD1 hS1 => kk H1 locs1 (nw_set hn' hi' he hj (by rw [h2] at hP1; exact hP1) (by rw [h2] at hD1; exact hD1)) hS1)
theorem nw_last (hexec : p.tables.exec = Jvm.exec) (hb : c.code = cc) (hK : va_K D cl tys s) (hw : nw_W D cl A wn ad H) (hS : va_S A H0 H locs) (q t0 : Nat) {cA : ClassId} {n : Nat} {f : Nat → Int64} (he : wn q = some (.inl (cA, n, .inr (.inl f)))) (ht : tys[t0]? = some (cA, .long)) {x : Int32} {y : Int64} (i : Nat) (hx : x = nI i) (hi : i < n) (hn : n < 2 ^ 31) (hdg : decode cc pc = .ok (.lastore, 1))
    (kk : ∀ (H1 : Heap) (locs1 : List Loc), nw_W D cl A (va_up wn q (some (.inl (cA, n, .inr (.inl (vp_updL f i y)))))) ad H1 → va_S A H0 H1 locs1 → W p l e R s m args below meth c H1 locs1 cells slots Q (F0 m (pc + 1) ls rest)) : W p l e R s m args below meth c H locs cells slots Q (F0 m pc ls (.long y :: .int x :: .ref (ad q) :: rest)) := by
  obtain ⟨ws, hP, hD, hn', hi'⟩ := hw
  obtain ⟨j, hj⟩ := hn' q _ he
  obtain ⟨h1, h2⟩ := nw_in hx hi hn
  exact va_last hexec hb hK hP hD hS j t0 hj ht h1 hdg (fun H1 locs1 hP1 hD1 hS1 => kk H1 locs1 (nw_set hn' hi' he hj (by rw [h2] at hP1; exact hP1) (by rw [h2] at hD1; exact hD1)) hS1)
theorem nw_aast (hexec : p.tables.exec = Jvm.exec) (hb : c.code = cc) (hK : va_K D cl tys s) (hw : nw_W D cl A wn ad H) (hS : va_S A H0 H locs) (q t0 qk ci : Nat) {cA : ClassId} {r : vw_C} {n : Nat} {vs : List Value} {f : Nat → Option Nat} (he : wn q = some (.inl (cA, n, .inr (.inr (.inr (.inr f)))))) (ht : tys[t0]? = some (cA, .object r.1)) (hv : wn qk = some (.inr (ci, vs))) (hc : cl[ci]? = some r) {x : Int32} (i : Nat) (hx : x = nI i) (hi : i < n) (hn : n < 2 ^ 31) (hdg : decode cc pc = .ok (.aastore, 1))
    (kk : ∀ (H1 : Heap) (locs1 : List Loc), nw_W D cl A (va_up wn q (some (.inl (cA, n, .inr (.inr (.inr (.inr (va_up f i (some (ad qk)))))))))) ad H1 → va_S A H0 H1 locs1 → W p l e R s m args below meth c H1 locs1 cells slots Q (F0 m (pc + 1) ls rest)) : W p l e R s m args below meth c H locs cells slots Q (F0 m pc ls (.ref (ad qk) :: .int x :: .ref (ad q) :: rest)) := by
  obtain ⟨ws, hP, hD, hn', hi'⟩ := hw
  obtain ⟨j, hj⟩ := hn' q _ he
  obtain ⟨jk, hjk⟩ := hn' qk _ hv
  obtain ⟨h1, h2⟩ := nw_in hx hi hn
  exact va_astq hexec hb hK hP hD hS j t0 jk ci hj ht hjk hc h1 hdg (fun H1 locs1 hP1 hD1 hS1 => kk H1 locs1 (nw_set hn' hi' he hj (by rw [h2] at hP1; exact hP1) (by rw [h2] at hD1; exact hD1)) hS1)
theorem nw_alen (hexec : p.tables.exec = Jvm.exec) (hb : c.code = cc) (hK : va_K D cl tys s) (hw : nw_W D cl A wn ad H) (q t0 : Nat) {cA : ClassId} {x : vp_A} (he : wn q = some (.inl (cA, x))) {ty : FieldType} (ht : tys[t0]? = some (cA, ty)) {v : Int32} (hv : Int32.ofNat x.1 = v) (hdg : decode cc pc = .ok (.arraylength, 1))
    (kk : W p l e R s m args below meth c H locs cells slots Q (F0 m (pc + 1) ls (.int v :: rest))) : W p l e R s m args below meth c H locs cells slots Q (F0 m pc ls (.ref (ad q) :: rest)) := by
  obtain ⟨ws, hP, hD, hn', hi'⟩ := hw
  obtain ⟨j, hj⟩ := hn' q _ he
  exact va_alen hexec hb hK hP j t0 hj ht hv hdg kk
/-- a new array gets the name q -/
theorem nw_newa (hexec : p.tables.exec = Jvm.exec) (hb : c.code = cc) {atype : ArrayType} (harr : (Cond.arrayClass (newarray.typeOf atype)).before args s = true) {ty : FieldType} (hty : newarray.typeOf atype = ty) (hK : va_K D cl tys s) (hw : nw_W D cl A wn ad H) (hS : va_S A H0 H locs) (hA : ∀ q, H0.size ≤ q → A q) (q : Nat) (hq : wn q = none) (t0 : Nat) {cA : ClassId} (ht : tys[t0]? = some (cA, ty))
    {n : Int32} {N' : Nat} {a0 : vp_A} (ha : ∀ cA : ClassId, vp_cell cA a0 = arrV cA N' (fun _ => defaultValue ty)) (hn : ¬ n < 0) (hN : n.toNatClampNeg = N') (hbytes : N' * componentBytes ty ≤ 536870912) (hcells : cells + 1 ≤ R.cells) (hslots : slots + N' ≤ R.slots) (hdg : decode cc pc = .ok (.newarray atype, 2))
    (kk : ∀ (ad1 : Nat → Nat) (H1 : Heap), (∀ j, j ≠ q → ad1 j = ad j) → nw_W D cl A (va_up wn q (some (.inl (cA, a0)))) ad1 H1 → va_S A H0 H1 locs →
      W p l e R s m args below meth c H1 locs (cells + 1) (slots + N') Q (F0 m (pc + 2) ls (.ref (ad1 q) :: rest))) : W p l e R s m args below meth c H locs cells slots Q (F0 m pc ls (.int n :: rest)) := by
  obtain ⟨ws, hP, hD, hn', hi'⟩ := hw
  refine va_newa hexec hb harr hty hK hP hD hS hA ha hn hN hbytes hcells hslots hdg (fun a cB H1 hK1 hP1 hD1 hS1 => ?_)
  have hl : t0 < tys.length := (List.getElem?_eq_some_iff.mp ht).1
  have e1 : cB = cA := nw_ty1 (ty := ty) (a := cB) (b := cA) hK1 (i := tys.length) (j := t0) (by simp) (by rw [List.getElem?_append_left hl]; exact ht)
  subst e1
  have h := kk (va_up ad q a) H1 (fun j hj => va_up_ne _ _ hj) (nw_push hn' hi' hq hP1 hD1) hS1
  rw [va_up_self] at h
  exact h
theorem nw_newq (hexec : p.tables.exec = Jvm.exec) (hb : c.code = cc) {own C : String} {index : Nat} (hown : s.vm.findClass own = some m.cls) (hclink : (Cond.classLink own index C).before args s = true) (hover : va_AO C s) (hK : va_K D cl tys s) (hw : nw_W D cl A wn ad H) (hS : va_S A H0 H locs) (hA : ∀ q, H0.size ≤ q → A q) (q : Nat) (hq : wn q = none) (t0 : Nat) {cA : ClassId} (ht : tys[t0]? = some (cA, .object C))
    {n : Int32} {N' : Nat} (hn : ¬ n < 0) (hN : n.toNatClampNeg = N') (hbytes : N' * 4 ≤ 536870912) (hcells : cells + 1 ≤ R.cells) (hslots : slots + N' ≤ R.slots) (hdg : decode cc pc = .ok (.anewarray index, 3))
    (kk : ∀ (ad1 : Nat → Nat) (H1 : Heap), (∀ j, j ≠ q → ad1 j = ad j) → nw_W D cl A (va_up wn q (some (.inl (cA, N', .inr (.inr (.inr (.inr (fun _ => none)))))))) ad1 H1 → va_S A H0 H1 locs →
      W p l e R s m args below meth c H1 locs (cells + 1) (slots + N') Q (F0 m (pc + 3) ls (.ref (ad1 q) :: rest))) : W p l e R s m args below meth c H locs cells slots Q (F0 m pc ls (.int n :: rest)) := by
  obtain ⟨ws, hP, hD, hn', hi'⟩ := hw
  refine va_newq hexec hb hown hclink hover hK hP hD hS hA hn hN hbytes hcells hslots hdg (fun a cB H1 hK1 hP1 hD1 hS1 => ?_)
  have hl : t0 < tys.length := (List.getElem?_eq_some_iff.mp ht).1
  have e1 : cB = cA := nw_ty1 (ty := .object C) (a := cB) (b := cA) hK1 (i := tys.length) (j := t0) (by simp) (by rw [List.getElem?_append_left hl]; exact ht)
  subst e1
  have h := kk (va_up ad q a) H1 (fun j hj => va_up_ne _ _ hj) (nw_push hn' hi' hq hP1 hD1) hS1
  rw [va_up_self] at h
  exact h
theorem nw_new (hexec : p.tables.exec = Jvm.exec) (hb : c.code = cc) {own C : String} {T : u_T} {N ci index : Nat} {Ts : List Cond} (hts : ∀ w ∈ Ts, w.before args s = true) (hin : ∀ w ∈ u_ws C T N, w ∈ Ts) (ty : Nat → FieldType) (hty : ∀ k, k < N → parseFieldDescriptor (T k).2.2.1 = some (ty k)) (hown : s.vm.findClass own = some m.cls) (hcl : (Cond.classLink own index C).before args s = true) (hinst : (Cond.instantiable C N).before args s = true) (hini : (Cond.initialized C).before args s = true)
    (hK : va_K D cl tys s) (hw : nw_W D cl A wn ad H) (hS : va_S A H0 H locs) (hA : ∀ q, H0.size ≤ q → A q) (q : Nat) (hq : wn q = none) (hc : cl[ci]? = some (C, T, N)) {fs : List Value} (hfs : ∀ j, j < N → defaultValue (ty j) = vp_V fs j) (hcells : cells + 1 ≤ R.cells) (hslots : slots + N ≤ R.slots) (hdg : decode cc pc = .ok (.new index, 3))
    (kk : ∀ (ad1 : Nat → Nat) (H1 : Heap), (∀ j, j ≠ q → ad1 j = ad j) → nw_W D cl A (va_up wn q (some (.inr (ci, fs)))) ad1 H1 → va_S A H0 H1 locs →
      W p l e R s m args below meth c H1 locs (cells + 1) (slots + N) Q (F0 m (pc + 3) ls (.ref (ad1 q) :: rest))) : W p l e R s m args below meth c H locs cells slots Q (F0 m pc ls rest) := by
  obtain ⟨ws, hP, hD, hn', hi'⟩ := hw
  refine va_new hexec hb hts hin ty hty hown hcl hinst hini hK hP hD hS hA hc hfs hcells hslots hdg (fun a H1 hP1 hD1 hS1 => ?_)
  have h := kk (va_up ad q a) H1 (fun j hj => va_up_ne _ _ hj) (nw_push hn' hi' hq hP1 hD1) hS1
  rw [va_up_self] at h
  exact h
theorem nw_copy (hexec : p.tables.exec = Jvm.exec) (hb : c.code = cc) (hml : c.maxLocals = ls.size) {own : String} {index : Nat} (hown : s.vm.findClass own = some m.cls) (hlink : (Cond.methodLink own index arraycopyName).before args s = true) (hnat : (Cond.native arraycopyName).before args s = true) (hstat : (Cond.static arraycopyName).before args s = true) (hini : (Cond.initialized "java/lang/System").before args s = true)
    (hK : va_K D cl tys s) (hw : nw_W D cl A wn ad H) (hS : va_S A H0 H locs) (q0 q1 t0 : Nat) {cA : ClassId} {n0 n1 : Nat} {f g : Nat → Int32} (he0 : wn q0 = some (.inl (cA, n0, .inl f))) (he1 : wn q1 = some (.inl (cA, n1, .inl g))) (ht : tys[t0]? = some (cA, .int))
    {sp dp n : Int32} (h1 : ¬ sp < 0) (h2 : ¬ dp < 0) (h3 : ¬ n < 0) (h4 : sp.toNatClampNeg + n.toNatClampNeg ≤ n0) (h5 : dp.toNatClampNeg + n.toNatClampNeg ≤ n1)
    (hframes : 1 ≤ R.frames) (hlocals : (rest.map fun v => v.category).sum + (nativeFrameWords "java/lang/System" "arraycopy" 5 + 11) ≤ R.locals) (hdg : decode cc pc = .ok (.invokestatic index, 3))
    (kk : ∀ (H1 : Heap) (locs1 : List Loc), nw_W D cl A (va_up wn q1 (some (.inl (cA, n1, .inl (va_cpy f g sp.toNatClampNeg dp.toNatClampNeg n.toNatClampNeg))))) ad H1 → va_S A H0 H1 locs1 → W p l e R s m args below meth c H1 locs1 cells slots Q (F0 m (pc + 3) ls rest)) : W p l e R s m args below meth c H locs cells slots Q (F0 m pc ls (.int n :: .int dp :: .ref (ad q1) :: .int sp :: .ref (ad q0) :: rest)) := by
  obtain ⟨ws, hP, hD, hn', hi'⟩ := hw
  obtain ⟨j0, hj0⟩ := hn' q0 _ he0
  obtain ⟨j1, hj1⟩ := hn' q1 _ he1
  exact va_copyi hexec hb hml hown hlink hnat hstat hini hK hP hD hS j0 j1 t0 t0 hj0 hj1 ht ht rfl h1 h2 h3 h4 h5 (fun i _ => rfl) hframes hlocals hdg (fun H1 locs1 hP1 hD1 hS1 => kk H1 locs1 (nw_set hn' hi' he1 hj1 hP1 hD1) hS1)
/-- the receiver of a call -/
theorem nw_recv (hK : va_K D cl tys s) (hw : nw_W D cl A wn ad H) {q ci : Nat} {r : vw_C} {fs : List Value} (he : wn q = some (.inr (ci, fs))) (hc : cl[ci]? = some r) : ∃ cell : Cell, H[ad q]? = some cell ∧ cell.vm.isStatics = false ∧ s.vm.findClass r.1 = some cell.cls := by
  obtain ⟨ws, hP, hD, hn', hi'⟩ := hw
  obtain ⟨j, hj⟩ := hn' q _ he
  exact va_recv hK hP hc hj
end NW
end
section
/-! CONTRACTS over named worlds: a method returns, and the named world is another one then -/
abbrev nw_P : Type := Option Value → nw_N → (Nat → Nat) → Prop
def nw_Q (D : va_G) (cl : List vw_C) (A : Nat → Prop) (Post : nw_P) : Array Value → State → Outcome → State → Prop := fun _ st o t =>
  (∃ (v : Option Value) (wn : nw_N) (ad : Nat → Nat), o = .returned v ∧ Post v wn ad ∧ nw_W D cl A wn ad t.heap) ∧ va_F A st t
abbrev nw_Met (l : Launch) (y : MethodName) (ws : List Cond) (rm : Room) (D : va_G) (cl : List vw_C) (A : Nat → Prop) (av : List Value) (pre : State → Prop) (Post : nw_P) (mc ms : Nat) : Prop :=
  Met l y ws rm (va_Pc av pre) (nw_Q D cl A Post) mc ms A
/-- it returns v, the world is (wn, ad) then -/
def nw_ok (v : Option Value) (wn : nw_N) (ad : Nat → Nat) : nw_P := fun o wn' ad' => o = v ∧ wn' = wn ∧ ad' = ad
theorem nw_ok_rf {v : Option Value} {wn : nw_N} {ad : Nat → Nat} : nw_ok v wn ad v wn ad := ⟨rfl, rfl, rfl⟩
section NWC
variable {p : Program} {l : Launch} {e : Env} {R : Room} {s : State} {m : MethodId} {args : Array Value} {below : List Frame} {meth : Method} {c : Code} {H : Heap} {locs : List Loc} {cells slots : Nat} {Q : State → Prop}
variable {cc : ByteArray} {pc : Nat} {ls : Array Slot} {rest st0 : List Value} {D : va_G} {cl : List vw_C} {A : Nat → Prop} {H0 : Heap} {wn : nw_N} {ad : Nat → Nat} {mc ms : Nat} {a : Array Value} {Post : nw_P}
theorem nw_keep {st₀ t T' : State} {L : List Loc} (h0 : st₀.heap = H) (e1 : T'.heap = t.heap) (hS : va_S A H0 H locs) (hL : ∀ q ∈ L, A q.base) (hF : va_F A st₀ t) : va_S A H0 T'.heap (locs ++ L) := by
  obtain ⟨hz, hk⟩ := hF
  rw [h0] at hz hk
  refine ⟨Nat.le_trans hS.1 (by rw [e1]; exact hz), fun q h1 h2 => ?_, fun q hq => ?_⟩
  · rw [e1, hk q (Nat.lt_of_lt_of_le h1 hS.1) h2]
    exact hS.2.1 q h1 h2
  · rcases List.mem_append.mp hq with h | h
    · exact hS.2.2 q h
    · exact hL q h
theorem nw_call (hr : va_Run p l e R s m args below meth c H locs cells slots mc ms (F0 m pc ls st0) rest (nw_Q D cl A Post a) A) (hS : va_S A H0 H locs)
    (kk : ∀ (v : Option Value) (wn' : nw_N) (ad' : Nat → Nat) (H1 : Heap) (locs1 : List Loc), Post v wn' ad' → nw_W D cl A wn' ad' H1 → va_S A H0 H1 locs1 → W p l e R s m args below meth c H1 locs1 (cells + mc) (slots + ms) Q (F0 m (pc + 3) ls (v.toList ++ rest))) : W p l e R s m args below meth c H locs cells slots Q (F0 m pc ls st0) := by
  intro T hT X
  obtain ⟨v, st₀, t, T', L, h0, X', hL, e1, e2, ⟨⟨v', wn', ad', hv, hp, hb⟩, hF⟩, st⟩ := hr T hT X
  cases hv
  obtain ⟨t2, a1, b1⟩ := kk v wn' ad' T'.heap (locs ++ L) hp (by rw [e1]; exact hb) (nw_keep h0 e1 hS hL hF) T' rfl X'
  exact ⟨t2, st t2 a1, b1⟩
/-- a call that returns v and leaves the world (wn1, ad1) -/
theorem nw_callD {v : Option Value} {wn1 : nw_N} {ad1 : Nat → Nat} (hr : va_Run p l e R s m args below meth c H locs cells slots mc ms (F0 m pc ls st0) rest (nw_Q D cl A (nw_ok v wn1 ad1) a) A) (hS : va_S A H0 H locs)
    (kk : ∀ (H1 : Heap) (locs1 : List Loc), nw_W D cl A wn1 ad1 H1 → va_S A H0 H1 locs1 → W p l e R s m args below meth c H1 locs1 (cells + mc) (slots + ms) Q (F0 m (pc + 3) ls (v.toList ++ rest))) : W p l e R s m args below meth c H locs cells slots Q (F0 m pc ls st0) :=
  nw_call hr hS (fun v' wn' ad' H1 locs1 hp hw hS1 => by
    obtain ⟨rfl, rfl, rfl⟩ := hp
    exact kk H1 locs1 hw hS1)
theorem nw_iret {v : Int32} (hQ : Q = MQ below (nw_Q D cl A Post) args s mc ms A) (hexec : p.tables.exec = Jvm.exec) (hb : c.code = cc) (hr : meth.sig.returnType = some .int) (hlocks : meth.locks = false) (hw : nw_W D cl A wn ad H) (hS : va_S A s.heap H locs) (hp : Post (some (.int v)) wn ad) (hc : cells ≤ mc) (hs : slots ≤ ms) (hdg : decode cc pc = .ok (.ireturn, 1)) :
    W p l e R s m args below meth c H locs cells slots Q (F0 m pc ls [.int v]) := by
  subst hQ
  exact W.widen hc hs (W.iret hexec hb hr (fun t ht _ => ⟨⟨_, wn, ad, rfl, hp, by rw [ht]; exact hw⟩, hS.F ht⟩) hS.2.2 hdg hlocks)
theorem nw_zret {v : Int32} (hQ : Q = MQ below (nw_Q D cl A Post) args s mc ms A) (hexec : p.tables.exec = Jvm.exec) (hb : c.code = cc) (hr : meth.sig.returnType = some .boolean) (hv : v = 0 ∨ v = 1) (hlocks : meth.locks = false) (hw : nw_W D cl A wn ad H) (hS : va_S A s.heap H locs) (hp : Post (some (.int v)) wn ad) (hc : cells ≤ mc) (hs : slots ≤ ms) (hdg : decode cc pc = .ok (.ireturn, 1)) :
    W p l e R s m args below meth c H locs cells slots Q (F0 m pc ls [.int v]) := by
  subst hQ
  exact W.widen hc hs (W.zret hexec hb hr (by rcases hv with rfl | rfl <;> rfl) (fun t ht _ => ⟨⟨_, wn, ad, rfl, hp, by rw [ht]; exact hw⟩, hS.F ht⟩) hS.2.2 hdg hlocks)
theorem nw_lret {v : Int64} (hQ : Q = MQ below (nw_Q D cl A Post) args s mc ms A) (hexec : p.tables.exec = Jvm.exec) (hb : c.code = cc) (hr : meth.sig.returnType = some .long) (hlocks : meth.locks = false) (hw : nw_W D cl A wn ad H) (hS : va_S A s.heap H locs) (hp : Post (some (.long v)) wn ad) (hc : cells ≤ mc) (hs : slots ≤ ms) (hdg : decode cc pc = .ok (.lreturn, 1)) :
    W p l e R s m args below meth c H locs cells slots Q (F0 m pc ls [.long v]) := by
  subst hQ
  exact W.widen hc hs (W.lret hexec hb hr (fun t ht _ => ⟨⟨_, wn, ad, rfl, hp, by rw [ht]; exact hw⟩, hS.F ht⟩) hS.2.2 hdg hlocks)
theorem nw_vret (hQ : Q = MQ below (nw_Q D cl A Post) args s mc ms A) (hexec : p.tables.exec = Jvm.exec) (hb : c.code = cc) (hr : meth.sig.returnType = none) (hlocks : meth.locks = false) (hw : nw_W D cl A wn ad H) (hS : va_S A s.heap H locs) (hp : Post none wn ad) (hc : cells ≤ mc) (hs : slots ≤ ms) (hdg : decode cc pc = .ok (.return_, 1)) :
    W p l e R s m args below meth c H locs cells slots Q (F0 m pc ls []) := by
  subst hQ
  exact W.widen hc hs (W.vret hexec hb hr (fun t ht _ => ⟨⟨_, wn, ad, rfl, hp, by rw [ht]; exact hw⟩, hS.F ht⟩) hS.2.2 hdg hlocks)
end NWC
/-- a method's body, from its entry -/
theorem nw_body {l : Launch} {y : MethodName} {ws ws' : List Cond} {rm : Room} {D : va_G} {cl : List vw_C} {A : Nat → Prop} {av : List Value} {pre : State → Prop} {Post : nw_P} {mc ms : Nat} {cc : ByteArray} {maxL : Nat} {ret : Option FieldType}
    (hy : plainName y.cls = true) (hw : ws = Cond.code y cc maxL ret :: ws') (hlen : (lg_sl av).length ≤ maxL)
    (body : ∀ (p : Program) (e : Env) (s : State) (m : MethodId) (below : List Frame) (meth : Method) (c : Code) (ls : Array Slot) (args : Array Value) (Q : State → Prop), p.tables.exec = Jvm.exec → c.code = cc → meth.sig.returnType = ret → c.maxLocals = maxL → s.vm.findClass y.cls = some m.cls → (∀ w ∈ ws, w.before args s = true) → meth.locks = false → meth.name = y.name → pre s → va_S A s.heap s.heap [] → lv_has ls maxL (lv_args 0 av) → Q = MQ below (nw_Q D cl A Post) args s mc ms A →
      W p l e rm s m args below meth c s.heap [] 0 0 Q (F0 m 0 ls [])) : nw_Met l y ws rm D cl A av pre Post mc ms := by
  refine Met.ofW (cc := cc) (maxL := maxL) (ret := ret) hy hw ?_
  intro p e s m args below meth c s₁ B hml hv
  obtain ⟨rfl, hpre⟩ := hv
  have hl := lv_entry av (n := maxL) hlen
  rw [lg_entry_eq]
  exact body p e s m below meth c _ _ _ B.exec B.bytes B.returns hml (findClass_of_methodNamed B.named) (atoms_spec (ws := ws) B.pre) B.notSynchronized (name_of_methodNamed B.named B.method).1 hpre va_S.rf hl rfl
end
section
/-! WHAT A METHOD KNOWS AT ITS ENTRY: the tables' words, in any state that is as warm -/
def nw_nest : Cond → Bool
  | .fieldLinkNest .. => true
  | .methodLinkNest .. => true
  | _ => false
theorem nw_nest_warm {w : Cond} (h : nw_nest w = true) {s U : State} (hW : s.WarmedH U.vm) (hZ : va_Nw w s) : va_Nw w U := by
  cases w with
  | fieldLinkNest => exact va_Nw.warmF hW hZ
  | methodLinkNest => exact va_Nw.warmM hW hZ
  | _ => simp [nw_nest] at h
theorem nw_T_good {ws : List Cond} (h : ∀ w ∈ ws, w ∈ nw_T) : GoodIn nw_T ws := fun w hw => ⟨h w hw, good_of_word (List.mem_filter.mp (h w hw)).2⟩
theorem nw_T1 {a : Cond} (ha : a ∈ nw_T) : ∀ w ∈ [a], w ∈ nw_T := fun w hw => by rw [List.mem_singleton.mp hw]; exact ha
theorem nw_Tc {a : Cond} {l : List Cond} (ha : a ∈ nw_T) (hl : ∀ w ∈ l, w ∈ nw_T) : ∀ w ∈ a :: l, w ∈ nw_T := List.forall_mem_cons.mpr ⟨ha, hl⟩
def nw_K (D : va_G) (cl : List vw_C) (tys : List (ClassId × FieldType)) (U : State) : Prop :=
  va_K D cl tys U ∧ (∀ w ∈ nw_T, w.before #[] U = true) ∧ (∀ w ∈ lw_tbl, nw_nest w = true → va_Nw w U)
theorem nw_K.warm {D : va_G} {cl : List vw_C} {tys : List (ClassId × FieldType)} {s U : State} (h : nw_K D cl tys s) (hW : s.WarmedH U.vm) : nw_K D cl tys U := by
  obtain ⟨h1, h2, h3⟩ := h
  exact ⟨va_K.moved hW.alike h1, fun w hw => word_at hW (good_of_word (List.mem_filter.mp hw).2) (h2 w hw), fun w hw hn => nw_nest_warm hn hW (h3 w hw hn)⟩
def nw_pre (D : va_G) (cl : List vw_C) (tys : List (ClassId × FieldType)) (A : Nat → Prop) (wn : nw_N) (ad : Nat → Nat) : State → Prop := fun U => (∀ q : Nat, U.heap.size ≤ q → A q) ∧ nw_W D cl A wn ad U.heap ∧ nw_K D cl tys U
theorem nw_blind {D : va_G} {cl : List vw_C} {tys : List (ClassId × FieldType)} {A : Nat → Prop} {wn : nw_N} {ad : Nat → Nat} {av : List Value} : FrameBlind (va_Pc av (nw_pre D cl tys A wn ad)) := by
  intro a U g mk h
  obtain ⟨h1, h2, h3, h4⟩ := h
  exact ⟨h1, h2, h3, nw_K.warm h4 (State.WarmedH.refl U)⟩
theorem nw_room {v : Option Value} {l : List Value} : v.toList ++ l = v.toList ++ l := rfl
section NWG
variable {p : Program} {l : Launch} {e : Env} {R : Room} {s : State} {m : MethodId} {args : Array Value} {below : List Frame} {meth : Method} {c : Code} {H : Heap} {locs : List Loc} {cells slots : Nat} {Q : State → Prop}
variable {cc : ByteArray} {pc : Nat} {ls : Array Slot} {rest As : List Value} {D : va_G} {cl : List vw_C} {A : Nat → Prop} {tys : List (ClassId × FieldType)} {wn : nw_N} {ad : Nat → Nat} {mc ms nL maxL index n : Nat} {Post : nw_P} {own C host : String} {y : MethodName} {bytes : ByteArray} {ret : Option FieldType} {rm : Room} {b : Addr}
theorem nw_preNow (hA : ∀ q, s.heap.size ≤ q → A q) (hKs : nw_K D cl tys s) (hw : nw_W D cl A wn ad H) (hS : va_S A s.heap H locs) {av : List Value} : ∀ U : State, U.heap = H → s.WarmedH U.vm → va_Pc av (nw_pre D cl tys A wn ad) av.toArray U := fun U hU hW =>
  ⟨rfl, fun q hq => hA q (Nat.le_trans hS.1 (by rw [← hU]; exact hq)), by rw [hU]; exact hw, hKs.warm hW⟩
theorem nw_goV (S : CallFix p m c cc nL s args nw_T own) (hA : ∀ q, s.heap.size ≤ q → A q) (hKs : nw_K D cl tys s) (hw : nw_W D cl A wn ad H) (hS : va_S A s.heap H locs) (hM : nw_Met l y [Cond.code y bytes maxL ret] rm D cl A (.ref b :: As) (nw_pre D cl tys A wn ad) Post mc ms)
    (hcode : Cond.code y bytes maxL ret ∈ nw_T) (hlink : Cond.methodLink own index y ∈ nw_T) (hinst : Cond.instanceMethod y ∈ nw_T) (hsel : Cond.selects C y y ∈ nw_T) (hini : Cond.initialized C ∈ nw_T) (hrc : rm.cells = mc) (hrs : rm.slots = ms) (hd : y.cls = C ∧ y.cls ≠ "java/lang/invoke/MethodHandle" ∧ y.cls ≠ "java/lang/invoke/VarHandle" ∧ (parseMethodDescriptor y.desc).map (fun d => d.parameters.length) = some n) (hR : rm.frames + 1 ≤ R.frames ∧ 8 + (maxL + 11) + rm.locals ≤ R.locals)
    (hrecv : ∃ cell : Cell, H[b]? = some cell ∧ cell.vm.isStatics = false ∧ s.vm.findClass C = some cell.cls) (hn : As.length = n) (hsize : ls.size = nL) (hW : (rest.map fun v => v.category).sum ≤ 8) (hdg : decode cc pc = .ok (.invokevirtual index, 3)) (hf : cells + mc ≤ R.cells ∧ slots + ms ≤ R.slots) :
    va_Run p l e R s m args below meth c H locs cells slots mc ms (F0 m pc ls (As.reverse ++ .ref b :: rest)) rest (nw_Q D cl A Post (Value.ref b :: As).toArray) A :=
  va_runV S hM (cwV n S.2.2.2.2 (nw_T_good (nw_Tc hlink (nw_Tc hinst (nw_Tc hsel (nw_Tc hini (nw_T1 hcode)))))) rfl hrc hrs hd hR) ⟨nw_blind, hrecv, nw_preNow hA hKs hw hS⟩ rfl hn hsize rfl (lv_room hW) hdg hf
theorem nw_goVN (S : CallFix p m c cc nL s args nw_T own) (hA : ∀ q, s.heap.size ≤ q → A q) (hKs : nw_K D cl tys s) (hw : nw_W D cl A wn ad H) (hS : va_S A s.heap H locs) (hM : nw_Met l y [Cond.code y bytes maxL ret] rm D cl A (.ref b :: As) (nw_pre D cl tys A wn ad) Post mc ms)
    (hcode : Cond.code y bytes maxL ret ∈ nw_T) (hlink : Cond.methodLinkNest own index y host ∈ lw_tbl) (hinst : Cond.instanceMethod y ∈ nw_T) (hsel : Cond.selects C y y ∈ nw_T) (hini : Cond.initialized y.cls ∈ nw_T) (hrc : rm.cells = mc) (hrs : rm.slots = ms) (hd : y.cls ≠ "java/lang/invoke/MethodHandle" ∧ y.cls ≠ "java/lang/invoke/VarHandle" ∧ (parseMethodDescriptor y.desc).map (fun d => d.parameters.length) = some n) (hR : rm.frames + 1 ≤ R.frames ∧ 8 + (maxL + 11) + rm.locals ≤ R.locals)
    (hrecv : ∃ cell : Cell, H[b]? = some cell ∧ cell.vm.isStatics = false ∧ s.vm.findClass C = some cell.cls) (hn : As.length = n) (hsize : ls.size = nL) (hW : (rest.map fun v => v.category).sum ≤ 8) (hdg : decode cc pc = .ok (.invokevirtual index, 3)) (hf : cells + mc ≤ R.cells ∧ slots + ms ≤ R.slots) :
    va_Run p l e R s m args below meth c H locs cells slots mc ms (F0 m pc ls (As.reverse ++ .ref b :: rest)) rest (nw_Q D cl A Post (Value.ref b :: As).toArray) A :=
  va_runVN S hM ⟨va_cnB n S.2.2.2.2 (nw_T_good (nw_T1 hcode)) rfl hrc hrs (hKs.2.2 _ hlink rfl) (S.2.2.2.2 _ hini) hd hR, S.2.2.2.2 _ hinst, S.2.2.2.2 _ hsel⟩ ⟨nw_blind, hrecv, nw_preNow hA hKs hw hS⟩ rfl hn hsize rfl (lv_room hW) hdg hf
theorem nw_goS (S : CallFix p m c cc nL s args nw_T own) (hA : ∀ q, s.heap.size ≤ q → A q) (hKs : nw_K D cl tys s) (hw : nw_W D cl A wn ad H) (hS : va_S A s.heap H locs) (hM : nw_Met l y [Cond.code y bytes maxL ret] rm D cl A As (nw_pre D cl tys A wn ad) Post mc ms)
    (hcode : Cond.code y bytes maxL ret ∈ nw_T) (hlink : Cond.methodLink own index y ∈ nw_T) (hst : Cond.static y ∈ nw_T) (hini : Cond.initialized y.cls ∈ nw_T) (hrc : rm.cells = mc) (hrs : rm.slots = ms) (hd : y.cls ≠ "java/lang/invoke/MethodHandle" ∧ y.cls ≠ "java/lang/invoke/VarHandle" ∧ (parseMethodDescriptor y.desc).map (fun d => d.parameters.length) = some n) (hR : rm.frames + 1 ≤ R.frames ∧ 8 + (maxL + 11) + rm.locals ≤ R.locals)
    (hn : As.length = n) (hsize : ls.size = nL) (hW : (rest.map fun v => v.category).sum ≤ 8) (hdg : decode cc pc = .ok (.invokestatic index, 3)) (hf : cells + mc ≤ R.cells ∧ slots + ms ≤ R.slots) :
    va_Run p l e R s m args below meth c H locs cells slots mc ms (F0 m pc ls (As.reverse ++ rest)) rest (nw_Q D cl A Post As.toArray) A :=
  va_runS S hM ⟨callB_of n S.2.2.2.2 (nw_T_good (nw_T1 hcode)) rfl hrc hrs (S.2.2.2.2 _ hini) (S.2.2.2.2 _ hlink) hd hR, S.2.2.2.2 _ hst⟩ ⟨nw_blind, nw_preNow hA hKs hw hS⟩ rfl hn hsize rfl (lv_room hW) hdg hf
theorem nw_goI (S : CallFix p m c cc nL s args nw_T own) (hA : ∀ q, s.heap.size ≤ q → A q) (hKs : nw_K D cl tys s) (hw : nw_W D cl A wn ad H) (hS : va_S A s.heap H locs) (hM : nw_Met l y [Cond.code y bytes maxL none] rm D cl A (.ref b :: As) (nw_pre D cl tys A wn ad) Post mc ms)
    (hcode : Cond.code y bytes maxL none ∈ nw_T) (hlink : Cond.methodLink own index y ∈ nw_T) (hinst : Cond.instanceMethod y ∈ nw_T) (hini : Cond.initialized y.cls ∈ nw_T) (hy1 : y.name = "<init>") (hrc : rm.cells = mc) (hrs : rm.slots = ms) (hd : y.cls ≠ "java/lang/invoke/MethodHandle" ∧ y.cls ≠ "java/lang/invoke/VarHandle" ∧ (parseMethodDescriptor y.desc).map (fun d => d.parameters.length) = some n) (hR : rm.frames + 1 ≤ R.frames ∧ 8 + (maxL + 11) + rm.locals ≤ R.locals)
    (hn : As.length = n) (hsize : ls.size = nL) (hW : (rest.map fun v => v.category).sum ≤ 8) (hdg : decode cc pc = .ok (.invokespecial index, 3)) (hf : cells + mc ≤ R.cells ∧ slots + ms ≤ R.slots) :
    va_Run p l e R s m args below meth c H locs cells slots mc ms (F0 m pc ls (As.reverse ++ .ref b :: rest)) rest (nw_Q D cl A Post (Value.ref b :: As).toArray) A :=
  va_runI S hM ⟨callB_of n S.2.2.2.2 (nw_T_good (nw_T1 hcode)) rfl hrc hrs (S.2.2.2.2 _ hini) (S.2.2.2.2 _ hlink) hd hR, hy1, S.2.2.2.2 _ hinst⟩ ⟨nw_blind, nw_preNow hA hKs hw hS⟩ rfl hn hsize rfl (lv_room hW) hdg hf
theorem nw_goIN (S : CallFix p m c cc nL s args nw_T own) (hA : ∀ q, s.heap.size ≤ q → A q) (hKs : nw_K D cl tys s) (hw : nw_W D cl A wn ad H) (hS : va_S A s.heap H locs) (hM : nw_Met l y [Cond.code y bytes maxL none] rm D cl A (.ref b :: As) (nw_pre D cl tys A wn ad) Post mc ms)
    (hcode : Cond.code y bytes maxL none ∈ nw_T) (hlink : Cond.methodLinkNest own index y host ∈ lw_tbl) (hinst : Cond.instanceMethod y ∈ nw_T) (hini : Cond.initialized y.cls ∈ nw_T) (hy1 : y.name = "<init>") (hrc : rm.cells = mc) (hrs : rm.slots = ms) (hd : y.cls ≠ "java/lang/invoke/MethodHandle" ∧ y.cls ≠ "java/lang/invoke/VarHandle" ∧ (parseMethodDescriptor y.desc).map (fun d => d.parameters.length) = some n) (hR : rm.frames + 1 ≤ R.frames ∧ 8 + (maxL + 11) + rm.locals ≤ R.locals)
    (hn : As.length = n) (hsize : ls.size = nL) (hW : (rest.map fun v => v.category).sum ≤ 8) (hdg : decode cc pc = .ok (.invokespecial index, 3)) (hf : cells + mc ≤ R.cells ∧ slots + ms ≤ R.slots) :
    va_Run p l e R s m args below meth c H locs cells slots mc ms (F0 m pc ls (As.reverse ++ .ref b :: rest)) rest (nw_Q D cl A Post (Value.ref b :: As).toArray) A :=
  va_runIN S hM ⟨va_cnB n S.2.2.2.2 (nw_T_good (nw_T1 hcode)) rfl hrc hrs (hKs.2.2 _ hlink rfl) (S.2.2.2.2 _ hini) hd hR, hy1, S.2.2.2.2 _ hinst⟩ ⟨nw_blind, nw_preNow hA hKs hw hS⟩ rfl hn hsize rfl (lv_room hW) hdg hf
theorem lv_ei {x y : Int32} (h : x = y) (k : W p l e R s m args below meth c H locs cells slots Q (F0 m pc ls (.int y :: rest))) : W p l e R s m args below meth c H locs cells slots Q (F0 m pc ls (.int x :: rest)) := by subst h; exact k
theorem lv_el {x y : Int64} (h : x = y) (k : W p l e R s m args below meth c H locs cells slots Q (F0 m pc ls (.long y :: rest))) : W p l e R s m args below meth c H locs cells slots Q (F0 m pc ls (.long x :: rest)) := by subst h; exact k
end NWG
theorem nw_K.ts {D : va_G} {cl : List vw_C} {tys : List (ClassId × FieldType)} {s : State} (h : nw_K D cl tys s) (args : Array Value) : ∀ w ∈ nw_T, w.before args s = true := fun w hw => word_at (State.WarmedH.refl s) (good_of_word (List.mem_filter.mp hw).2) (h.2.1 w hw)
/-- a method's body, from its entry, with all that it knows -/
theorem nw_bodyK {l : Launch} {y : MethodName} {rm : Room} {D : va_G} {cl : List vw_C} {tys : List (ClassId × FieldType)} {A : Nat → Prop} {av : List Value} {wn : nw_N} {ad : Nat → Nat} {Post : nw_P} {mc ms : Nat} {cc : ByteArray} {maxL : Nat} {ret : Option FieldType}
    (hy : plainName y.cls = true) (hlen : (lg_sl av).length ≤ maxL)
    (body : ∀ (p : Program) (e : Env) (s : State) (m : MethodId) (below : List Frame) (meth : Method) (c : Code) (ls : Array Slot) (args : Array Value) (Q : State → Prop), CallFix p m c cc maxL s args nw_T y.cls → meth.sig.returnType = ret → meth.locks = false → meth.name = y.name → (∀ q : Nat, s.heap.size ≤ q → A q) → nw_K D cl tys s → nw_W D cl A wn ad s.heap → va_S A s.heap s.heap [] → lv_has ls maxL (lv_args 0 av) → Q = MQ below (nw_Q D cl A Post) args s mc ms A →
      W p l e rm s m args below meth c s.heap [] 0 0 Q (F0 m 0 ls [])) : nw_Met l y [Cond.code y cc maxL ret] rm D cl A av (nw_pre D cl tys A wn ad) Post mc ms :=
  nw_body hy rfl hlen (fun p e s m below meth c ls args Q h1 h2 h3 h4 h5 h6 h7 h8 h10 h11 h12 hQ => body p e s m below meth c ls args Q ⟨h1, h2, h4, h5, h10.2.2.ts _⟩ h3 h7 h8 h10.1 h10.2.2 h10.2.1 h11 h12 hQ)
end
section
/-! THE WORLD'S FORM: names below 100 are objects and arrays of references; the row (t, j) of numbers has the name 100 + 16 t + j -/
def upR (S : Nat → Nat → Nat → Int32) (t j : Nat) (f : Nat → Int32) : Nat → Nat → Nat → Int32 := fun a b => if a = t ∧ b = j then f else S a b
theorem upR_self {S : Nat → Nat → Nat → Int32} {t j : Nat} {f : Nat → Int32} : upR S t j f t j = f := by simp [upR]
theorem upR_ne {S : Nat → Nat → Nat → Int32} {t j a b : Nat} {f : Nat → Int32} (h : ¬ (a = t ∧ b = j)) : upR S t j f a b = S a b := by simp only [upR]; rw [if_neg h]
theorem upR_upR {S : Nat → Nat → Nat → Int32} {t j : Nat} {f g : Nat → Int32} : upR (upR S t j f) t j g = upR S t j g := by
  funext a b
  by_cases h : a = t ∧ b = j
  · obtain ⟨rfl, rfl⟩ := h
    rw [upR_self, upR_self]
  · rw [upR_ne h, upR_ne h, upR_ne h]
theorem upR_same {S : Nat → Nat → Nat → Int32} {t j : Nat} : upR S t j (S t j) = S := by
  funext a b
  by_cases h : a = t ∧ b = j
  · obtain ⟨rfl, rfl⟩ := h
    rw [upR_self]
  · rw [upR_ne h]
def gw (ob : Nat → Option va_E) (ar : Nat → Nat → Option (ClassId × Nat)) (S : Nat → Nat → Nat → Int32) : nw_N := fun k =>
  if k < 100 then ob k else (ar ((k - 100) / 16) ((k - 100) % 16)).map (fun q => .inl (q.1, q.2, .inl (S ((k - 100) / 16) ((k - 100) % 16))))
theorem gw_ob {ob : Nat → Option va_E} {ar : Nat → Nat → Option (ClassId × Nat)} {S : Nat → Nat → Nat → Int32} {k : Nat} (hk : k < 100) : gw ob ar S k = ob k := by
  simp only [gw]; rw [if_pos hk]
theorem gw_arr {ob : Nat → Option va_E} {ar : Nat → Nat → Option (ClassId × Nat)} {S : Nat → Nat → Nat → Int32} {t j n : Nat} {c : ClassId} (hj : j < 16) (h : ar t j = some (c, n)) : gw ob ar S (100 + 16 * t + j) = some (.inl (c, n, .inl (S t j))) := by
  have h1 : (100 + 16 * t + j - 100) / 16 = t := by omega
  have h2 : (100 + 16 * t + j - 100) % 16 = j := by omega
  simp only [gw, h1, h2, h]
  rw [if_neg (by omega)]
  rfl
theorem gw_none {ob : Nat → Option va_E} {ar : Nat → Nat → Option (ClassId × Nat)} {S : Nat → Nat → Nat → Int32} {t j : Nat} (hj : j < 16) (h : ar t j = none) : gw ob ar S (100 + 16 * t + j) = none := by
  have h1 : (100 + 16 * t + j - 100) / 16 = t := by omega
  have h2 : (100 + 16 * t + j - 100) % 16 = j := by omega
  simp only [gw, h1, h2, h]
  rw [if_neg (by omega)]
  rfl
/-- a row of numbers is another one -/
theorem gw_row {D : va_G} {cl : List vw_C} {A : Nat → Prop} {ad : Nat → Nat} {H : Heap} {ob : Nat → Option va_E} {ar : Nat → Nat → Option (ClassId × Nat)} {S : Nat → Nat → Nat → Int32} {t j n : Nat} {c : ClassId} {f : Nat → Int32} (hj : j < 16) (h : ar t j = some (c, n)) (hw : nw_W D cl A (va_up (gw ob ar S) (100 + 16 * t + j) (some (.inl (c, n, .inl f)))) ad H) : nw_W D cl A (gw ob ar (upR S t j f)) ad H := by
  refine hw.mono (fun k e hk => ⟨?_, rfl⟩)
  by_cases hq : k = 100 + 16 * t + j
  · subst hq
    rw [gw_arr hj h, upR_self] at hk
    rw [va_up_self]
    exact hk
  · rw [va_up_ne _ _ hq]
    rw [← hk]
    simp only [gw]
    by_cases h1 : k < 100
    · rw [if_pos h1, if_pos h1]
    · rw [if_neg h1, if_neg h1, upR_ne (by omega)]
/-- an object is another one -/
theorem gw_put {D : va_G} {cl : List vw_C} {A : Nat → Prop} {ad : Nat → Nat} {H : Heap} {ob ob' : Nat → Option va_E} {ar : Nat → Nat → Option (ClassId × Nat)} {S : Nat → Nat → Nat → Int32} {q : Nat} {x : va_E} (hq : q < 100) (h1 : ob' q = some x) (h2 : ∀ k, k ≠ q → ob' k = ob k) (hw : nw_W D cl A (va_up (gw ob ar S) q (some x)) ad H) : nw_W D cl A (gw ob' ar S) ad H := by
  refine hw.mono (fun k e hk => ⟨?_, rfl⟩)
  by_cases hk0 : k = q
  · subst hk0
    rw [gw_ob hq, h1] at hk
    rw [va_up_self]
    exact hk
  · rw [va_up_ne _ _ hk0, ← hk]
    simp only [gw]
    by_cases h3 : k < 100
    · rw [if_pos h3, if_pos h3, h2 k hk0]
    · rw [if_neg h3, if_neg h3]
end
section
/-! DECODE ROWS -/
theorem d_X_init_0 : decode b_X_init 0 = .ok (.aload_n 0, 1) := by decide +kernel
theorem d_X_init_1 : decode b_X_init 1 = .ok (.invokespecial 1, 3) := by decide +kernel
theorem d_X_init_4 : decode b_X_init 4 = .ok (.new 7, 3) := by decide +kernel
theorem d_X_init_7 : decode b_X_init 7 = .ok (.dup, 1) := by decide +kernel
theorem d_X_init_8 : decode b_X_init 8 = .ok (.iconst 1, 1) := by decide +kernel
theorem d_X_init_9 : decode b_X_init 9 = .ok (.iload_n 1, 1) := by decide +kernel
theorem d_X_init_10 : decode b_X_init 10 = .ok (.bipush 8, 2) := by decide +kernel
theorem d_X_init_12 : decode b_X_init 12 = .ok (.invokestatic 11, 3) := by decide +kernel
theorem d_X_init_15 : decode b_X_init 15 = .ok (.invokestatic 17, 3) := by decide +kernel
theorem d_X_init_18 : decode b_X_init 18 = .ok (.invokespecial 20, 3) := by decide +kernel
theorem d_X_init_21 : decode b_X_init 21 = .ok (.astore_n 2, 1) := by decide +kernel
theorem d_X_init_22 : decode b_X_init 22 = .ok (.new 23, 3) := by decide +kernel
theorem d_X_init_25 : decode b_X_init 25 = .ok (.dup, 1) := by decide +kernel
theorem d_X_init_26 : decode b_X_init 26 = .ok (.aload_n 2, 1) := by decide +kernel
theorem d_X_init_27 : decode b_X_init 27 = .ok (.invokespecial 25, 3) := by decide +kernel
theorem d_X_init_30 : decode b_X_init 30 = .ok (.astore_n 3, 1) := by decide +kernel
theorem d_X_init_31 : decode b_X_init 31 = .ok (.new 28, 3) := by decide +kernel
theorem d_X_init_34 : decode b_X_init 34 = .ok (.dup, 1) := by decide +kernel
theorem d_X_init_35 : decode b_X_init 35 = .ok (.aload_n 2, 1) := by decide +kernel
theorem d_X_init_36 : decode b_X_init 36 = .ok (.invokespecial 30, 3) := by decide +kernel
theorem d_X_init_39 : decode b_X_init 39 = .ok (.astore 4, 2) := by decide +kernel
theorem d_X_init_41 : decode b_X_init 41 = .ok (.aload_n 0, 1) := by decide +kernel
theorem d_X_init_42 : decode b_X_init 42 = .ok (.aload_n 2, 1) := by decide +kernel
theorem d_X_init_43 : decode b_X_init 43 = .ok (.putfield 31, 3) := by decide +kernel
theorem d_X_init_46 : decode b_X_init 46 = .ok (.aload_n 0, 1) := by decide +kernel
theorem d_X_init_47 : decode b_X_init 47 = .ok (.aload_n 3, 1) := by decide +kernel
theorem d_X_init_48 : decode b_X_init 48 = .ok (.putfield 35, 3) := by decide +kernel
theorem d_X_init_51 : decode b_X_init 51 = .ok (.aload_n 0, 1) := by decide +kernel
theorem d_X_init_52 : decode b_X_init 52 = .ok (.aload 4, 2) := by decide +kernel
theorem d_X_init_54 : decode b_X_init 54 = .ok (.putfield 39, 3) := by decide +kernel
theorem d_X_init_57 : decode b_X_init 57 = .ok (.aload_n 0, 1) := by decide +kernel
theorem d_X_init_58 : decode b_X_init 58 = .ok (.new 43, 3) := by decide +kernel
theorem d_X_init_61 : decode b_X_init 61 = .ok (.dup, 1) := by decide +kernel
theorem d_X_init_62 : decode b_X_init 62 = .ok (.aload_n 2, 1) := by decide +kernel
theorem d_X_init_63 : decode b_X_init 63 = .ok (.aload_n 3, 1) := by decide +kernel
theorem d_X_init_64 : decode b_X_init 64 = .ok (.aload 4, 2) := by decide +kernel
theorem d_X_init_66 : decode b_X_init 66 = .ok (.invokespecial 45, 3) := by decide +kernel
theorem d_X_init_69 : decode b_X_init 69 = .ok (.putfield 48, 3) := by decide +kernel
theorem d_X_init_72 : decode b_X_init 72 = .ok (.aload_n 0, 1) := by decide +kernel
theorem d_X_init_73 : decode b_X_init 73 = .ok (.bipush 6, 2) := by decide +kernel
theorem d_X_init_75 : decode b_X_init 75 = .ok (.newarray .int, 2) := by decide +kernel
theorem d_X_init_77 : decode b_X_init 77 = .ok (.putfield 52, 3) := by decide +kernel
theorem d_X_init_80 : decode b_X_init 80 = .ok (.aload_n 0, 1) := by decide +kernel
theorem d_X_init_81 : decode b_X_init 81 = .ok (.getfield 52, 3) := by decide +kernel
theorem d_X_init_84 : decode b_X_init 84 = .ok (.iconst (-1), 1) := by decide +kernel
theorem d_X_init_85 : decode b_X_init 85 = .ok (.invokestatic 56, 3) := by decide +kernel
theorem d_X_init_88 : decode b_X_init 88 = .ok (.aload_n 0, 1) := by decide +kernel
theorem d_X_init_89 : decode b_X_init 89 = .ok (.iconst 0, 1) := by decide +kernel
theorem d_X_init_90 : decode b_X_init 90 = .ok (.putfield 62, 3) := by decide +kernel
theorem d_X_init_93 : decode b_X_init 93 = .ok (.return_, 1) := by decide +kernel
theorem d_X_place_0 : decode b_X_place 0 = .ok (.iload_n 1, 1) := by decide +kernel
theorem d_X_place_1 : decode b_X_place 1 = .ok (.iconst 0, 1) := by decide +kernel
theorem d_X_place_2 : decode b_X_place 2 = .ok (.ldc 66, 2) := by decide +kernel
theorem d_X_place_4 : decode b_X_place 4 = .ok (.invokestatic 67, 3) := by decide +kernel
theorem d_X_place_7 : decode b_X_place 7 = .ok (.aload_n 0, 1) := by decide +kernel
theorem d_X_place_8 : decode b_X_place 8 = .ok (.getfield 31, 3) := by decide +kernel
theorem d_X_place_11 : decode b_X_place 11 = .ok (.getfield 71, 3) := by decide +kernel
theorem d_X_place_14 : decode b_X_place 14 = .ok (.iconst 4, 1) := by decide +kernel
theorem d_X_place_15 : decode b_X_place 15 = .ok (.invokestatic 75, 3) := by decide +kernel
theorem d_X_place_18 : decode b_X_place 18 = .ok (.aload_n 0, 1) := by decide +kernel
theorem d_X_place_19 : decode b_X_place 19 = .ok (.invokevirtual 79, 3) := by decide +kernel
theorem d_X_place_22 : decode b_X_place 22 = .ok (.aload_n 0, 1) := by decide +kernel
theorem d_X_place_23 : decode b_X_place 23 = .ok (.getfield 31, 3) := by decide +kernel
theorem d_X_place_26 : decode b_X_place 26 = .ok (.new 82, 3) := by decide +kernel
theorem d_X_place_29 : decode b_X_place 29 = .ok (.dup, 1) := by decide +kernel
theorem d_X_place_30 : decode b_X_place 30 = .ok (.iload_n 1, 1) := by decide +kernel
theorem d_X_place_31 : decode b_X_place 31 = .ok (.aload_n 0, 1) := by decide +kernel
theorem d_X_place_32 : decode b_X_place 32 = .ok (.getfield 31, 3) := by decide +kernel
theorem d_X_place_35 : decode b_X_place 35 = .ok (.getfield 84, 3) := by decide +kernel
theorem d_X_place_38 : decode b_X_place 38 = .ok (.invokespecial 87, 3) := by decide +kernel
theorem d_X_place_41 : decode b_X_place 41 = .ok (.invokevirtual 89, 3) := by decide +kernel
theorem d_X_place_44 : decode b_X_place 44 = .ok (.ireturn, 1) := by decide +kernel
theorem d_X_closed_0 : decode b_X_closed 0 = .ok (.iload_n 1, 1) := by decide +kernel
theorem d_X_closed_1 : decode b_X_closed 1 = .ok (.aload_n 0, 1) := by decide +kernel
theorem d_X_closed_2 : decode b_X_closed 2 = .ok (.getfield 31, 3) := by decide +kernel
theorem d_X_closed_5 : decode b_X_closed 5 = .ok (.getfield 71, 3) := by decide +kernel
theorem d_X_closed_8 : decode b_X_closed 8 = .ok (.invokestatic 93, 3) := by decide +kernel
theorem d_X_closed_11 : decode b_X_closed 11 = .ok (.aload_n 0, 1) := by decide +kernel
theorem d_X_closed_12 : decode b_X_closed 12 = .ok (.iload_n 2, 1) := by decide +kernel
theorem d_X_closed_13 : decode b_X_closed 13 = .ok (.invokevirtual 96, 3) := by decide +kernel
theorem d_X_closed_16 : decode b_X_closed 16 = .ok (.aload_n 0, 1) := by decide +kernel
theorem d_X_closed_17 : decode b_X_closed 17 = .ok (.invokevirtual 79, 3) := by decide +kernel
theorem d_X_closed_20 : decode b_X_closed 20 = .ok (.aload_n 0, 1) := by decide +kernel
theorem d_X_closed_21 : decode b_X_closed 21 = .ok (.getfield 31, 3) := by decide +kernel
theorem d_X_closed_24 : decode b_X_closed 24 = .ok (.getfield 99, 3) := by decide +kernel
theorem d_X_closed_27 : decode b_X_closed 27 = .ok (.iload_n 1, 1) := by decide +kernel
theorem d_X_closed_28 : decode b_X_closed 28 = .ok (.aaload, 1) := by decide +kernel
theorem d_X_closed_29 : decode b_X_closed 29 = .ok (.getfield 103, 3) := by decide +kernel
theorem d_X_closed_32 : decode b_X_closed 32 = .ok (.astore 4, 2) := by decide +kernel
theorem d_X_closed_34 : decode b_X_closed 34 = .ok (.aload 4, 2) := by decide +kernel
theorem d_X_closed_36 : decode b_X_closed 36 = .ok (.iload_n 2, 1) := by decide +kernel
theorem d_X_closed_37 : decode b_X_closed 37 = .ok (.baload, 1) := by decide +kernel
theorem d_X_closed_38 : decode b_X_closed 38 = .ok (.istore 5, 2) := by decide +kernel
theorem d_X_closed_40 : decode b_X_closed 40 = .ok (.aload 4, 2) := by decide +kernel
theorem d_X_closed_42 : decode b_X_closed 42 = .ok (.iload_n 2, 1) := by decide +kernel
theorem d_X_closed_43 : decode b_X_closed 43 = .ok (.iload_n 3, 1) := by decide +kernel
theorem d_X_closed_44 : decode b_X_closed 44 = .ok (.bastore, 1) := by decide +kernel
theorem d_X_closed_45 : decode b_X_closed 45 = .ok (.iload 5, 2) := by decide +kernel
theorem d_X_closed_47 : decode b_X_closed 47 = .ok (.ireturn, 1) := by decide +kernel
theorem d_X_cage_0 : decode b_X_cage 0 = .ok (.iload_n 1, 1) := by decide +kernel
theorem d_X_cage_1 : decode b_X_cage 1 = .ok (.aload_n 0, 1) := by decide +kernel
theorem d_X_cage_2 : decode b_X_cage 2 = .ok (.getfield 31, 3) := by decide +kernel
theorem d_X_cage_5 : decode b_X_cage 5 = .ok (.getfield 71, 3) := by decide +kernel
theorem d_X_cage_8 : decode b_X_cage 8 = .ok (.invokestatic 93, 3) := by decide +kernel
theorem d_X_cage_11 : decode b_X_cage 11 = .ok (.aload_n 0, 1) := by decide +kernel
theorem d_X_cage_12 : decode b_X_cage 12 = .ok (.getfield 31, 3) := by decide +kernel
theorem d_X_cage_15 : decode b_X_cage 15 = .ok (.getfield 107, 3) := by decide +kernel
theorem d_X_cage_18 : decode b_X_cage 18 = .ok (.bipush 6, 2) := by decide +kernel
theorem d_X_cage_20 : decode b_X_cage 20 = .ok (.invokestatic 75, 3) := by decide +kernel
theorem d_X_cage_23 : decode b_X_cage 23 = .ok (.aload_n 0, 1) := by decide +kernel
theorem d_X_cage_24 : decode b_X_cage 24 = .ok (.invokevirtual 79, 3) := by decide +kernel
theorem d_X_cage_27 : decode b_X_cage 27 = .ok (.aload_n 0, 1) := by decide +kernel
theorem d_X_cage_28 : decode b_X_cage 28 = .ok (.getfield 31, 3) := by decide +kernel
theorem d_X_cage_31 : decode b_X_cage 31 = .ok (.new 110, 3) := by decide +kernel
theorem d_X_cage_34 : decode b_X_cage 34 = .ok (.dup, 1) := by decide +kernel
theorem d_X_cage_35 : decode b_X_cage 35 = .ok (.iload_n 1, 1) := by decide +kernel
theorem d_X_cage_36 : decode b_X_cage 36 = .ok (.aload_n 0, 1) := by decide +kernel
theorem d_X_cage_37 : decode b_X_cage 37 = .ok (.getfield 31, 3) := by decide +kernel
theorem d_X_cage_40 : decode b_X_cage 40 = .ok (.getfield 84, 3) := by decide +kernel
theorem d_X_cage_43 : decode b_X_cage 43 = .ok (.invokespecial 112, 3) := by decide +kernel
theorem d_X_cage_46 : decode b_X_cage 46 = .ok (.invokevirtual 113, 3) := by decide +kernel
theorem d_X_cage_49 : decode b_X_cage 49 = .ok (.ireturn, 1) := by decide +kernel
theorem d_X_size_0 : decode b_X_size 0 = .ok (.iload_n 1, 1) := by decide +kernel
theorem d_X_size_1 : decode b_X_size 1 = .ok (.aload_n 0, 1) := by decide +kernel
theorem d_X_size_2 : decode b_X_size 2 = .ok (.getfield 31, 3) := by decide +kernel
theorem d_X_size_5 : decode b_X_size 5 = .ok (.getfield 107, 3) := by decide +kernel
theorem d_X_size_8 : decode b_X_size 8 = .ok (.invokestatic 93, 3) := by decide +kernel
theorem d_X_size_11 : decode b_X_size 11 = .ok (.aload_n 0, 1) := by decide +kernel
theorem d_X_size_12 : decode b_X_size 12 = .ok (.iload_n 2, 1) := by decide +kernel
theorem d_X_size_13 : decode b_X_size 13 = .ok (.invokevirtual 96, 3) := by decide +kernel
theorem d_X_size_16 : decode b_X_size 16 = .ok (.iload_n 3, 1) := by decide +kernel
theorem d_X_size_17 : decode b_X_size 17 = .ok (.iconst 0, 1) := by decide +kernel
theorem d_X_size_18 : decode b_X_size 18 = .ok (.sipush 20000, 3) := by decide +kernel
theorem d_X_size_21 : decode b_X_size 21 = .ok (.invokestatic 67, 3) := by decide +kernel
theorem d_X_size_24 : decode b_X_size 24 = .ok (.iload 4, 2) := by decide +kernel
theorem d_X_size_26 : decode b_X_size 26 = .ok (.iconst 0, 1) := by decide +kernel
theorem d_X_size_27 : decode b_X_size 27 = .ok (.ldc 117, 2) := by decide +kernel
theorem d_X_size_29 : decode b_X_size 29 = .ok (.invokestatic 67, 3) := by decide +kernel
theorem d_X_size_32 : decode b_X_size 32 = .ok (.aload_n 0, 1) := by decide +kernel
theorem d_X_size_33 : decode b_X_size 33 = .ok (.invokevirtual 79, 3) := by decide +kernel
theorem d_X_size_36 : decode b_X_size 36 = .ok (.aload_n 0, 1) := by decide +kernel
theorem d_X_size_37 : decode b_X_size 37 = .ok (.getfield 31, 3) := by decide +kernel
theorem d_X_size_40 : decode b_X_size 40 = .ok (.getfield 118, 3) := by decide +kernel
theorem d_X_size_43 : decode b_X_size 43 = .ok (.iload_n 1, 1) := by decide +kernel
theorem d_X_size_44 : decode b_X_size 44 = .ok (.aaload, 1) := by decide +kernel
theorem d_X_size_45 : decode b_X_size 45 = .ok (.astore 5, 2) := by decide +kernel
theorem d_X_size_47 : decode b_X_size 47 = .ok (.aload 5, 2) := by decide +kernel
theorem d_X_size_49 : decode b_X_size 49 = .ok (.getfield 122, 3) := by decide +kernel
theorem d_X_size_52 : decode b_X_size 52 = .ok (.iload_n 2, 1) := by decide +kernel
theorem d_X_size_53 : decode b_X_size 53 = .ok (.iload_n 3, 1) := by decide +kernel
theorem d_X_size_54 : decode b_X_size 54 = .ok (.iastore, 1) := by decide +kernel
theorem d_X_size_55 : decode b_X_size 55 = .ok (.aload 5, 2) := by decide +kernel
theorem d_X_size_57 : decode b_X_size 57 = .ok (.getfield 125, 3) := by decide +kernel
theorem d_X_size_60 : decode b_X_size 60 = .ok (.iload_n 2, 1) := by decide +kernel
theorem d_X_size_61 : decode b_X_size 61 = .ok (.iload_n 3, 1) := by decide +kernel
theorem d_X_size_62 : decode b_X_size 62 = .ok (.iload 4, 2) := by decide +kernel
theorem d_X_size_64 : decode b_X_size 64 = .ok (.imul, 1) := by decide +kernel
theorem d_X_size_65 : decode b_X_size 65 = .ok (.sipush 1000, 3) := by decide +kernel
theorem d_X_size_68 : decode b_X_size 68 = .ok (.idiv, 1) := by decide +kernel
theorem d_X_size_69 : decode b_X_size 69 = .ok (.iastore, 1) := by decide +kernel
theorem d_X_size_70 : decode b_X_size 70 = .ok (.aload 5, 2) := by decide +kernel
theorem d_X_size_72 : decode b_X_size 72 = .ok (.getfield 125, 3) := by decide +kernel
theorem d_X_size_75 : decode b_X_size 75 = .ok (.iload_n 2, 1) := by decide +kernel
theorem d_X_size_76 : decode b_X_size 76 = .ok (.iaload, 1) := by decide +kernel
theorem d_X_size_77 : decode b_X_size 77 = .ok (.ireturn, 1) := by decide +kernel
theorem d_X_boat_0 : decode b_X_boat 0 = .ok (.iload_n 1, 1) := by decide +kernel
theorem d_X_boat_1 : decode b_X_boat 1 = .ok (.iconst 0, 1) := by decide +kernel
theorem d_X_boat_2 : decode b_X_boat 2 = .ok (.ldc 66, 2) := by decide +kernel
theorem d_X_boat_4 : decode b_X_boat 4 = .ok (.invokestatic 67, 3) := by decide +kernel
theorem d_X_boat_7 : decode b_X_boat 7 = .ok (.aload_n 0, 1) := by decide +kernel
theorem d_X_boat_8 : decode b_X_boat 8 = .ok (.getfield 31, 3) := by decide +kernel
theorem d_X_boat_11 : decode b_X_boat 11 = .ok (.getfield 128, 3) := by decide +kernel
theorem d_X_boat_14 : decode b_X_boat 14 = .ok (.iconst 3, 1) := by decide +kernel
theorem d_X_boat_15 : decode b_X_boat 15 = .ok (.invokestatic 75, 3) := by decide +kernel
theorem d_X_boat_18 : decode b_X_boat 18 = .ok (.aload_n 0, 1) := by decide +kernel
theorem d_X_boat_19 : decode b_X_boat 19 = .ok (.invokevirtual 79, 3) := by decide +kernel
theorem d_X_boat_22 : decode b_X_boat 22 = .ok (.aload_n 0, 1) := by decide +kernel
theorem d_X_boat_23 : decode b_X_boat 23 = .ok (.getfield 31, 3) := by decide +kernel
theorem d_X_boat_26 : decode b_X_boat 26 = .ok (.new 131, 3) := by decide +kernel
theorem d_X_boat_29 : decode b_X_boat 29 = .ok (.dup, 1) := by decide +kernel
theorem d_X_boat_30 : decode b_X_boat 30 = .ok (.iload_n 1, 1) := by decide +kernel
theorem d_X_boat_31 : decode b_X_boat 31 = .ok (.aload_n 0, 1) := by decide +kernel
theorem d_X_boat_32 : decode b_X_boat 32 = .ok (.getfield 31, 3) := by decide +kernel
theorem d_X_boat_35 : decode b_X_boat 35 = .ok (.getfield 84, 3) := by decide +kernel
theorem d_X_boat_38 : decode b_X_boat 38 = .ok (.invokespecial 133, 3) := by decide +kernel
theorem d_X_boat_41 : decode b_X_boat 41 = .ok (.invokevirtual 134, 3) := by decide +kernel
theorem d_X_boat_44 : decode b_X_boat 44 = .ok (.ireturn, 1) := by decide +kernel
theorem d_X_weather_0 : decode b_X_weather 0 = .ok (.iload_n 1, 1) := by decide +kernel
theorem d_X_weather_1 : decode b_X_weather 1 = .ok (.aload_n 0, 1) := by decide +kernel
theorem d_X_weather_2 : decode b_X_weather 2 = .ok (.getfield 31, 3) := by decide +kernel
theorem d_X_weather_5 : decode b_X_weather 5 = .ok (.getfield 128, 3) := by decide +kernel
theorem d_X_weather_8 : decode b_X_weather 8 = .ok (.invokestatic 93, 3) := by decide +kernel
theorem d_X_weather_11 : decode b_X_weather 11 = .ok (.aload_n 0, 1) := by decide +kernel
theorem d_X_weather_12 : decode b_X_weather 12 = .ok (.iload_n 2, 1) := by decide +kernel
theorem d_X_weather_13 : decode b_X_weather 13 = .ok (.invokevirtual 96, 3) := by decide +kernel
theorem d_X_weather_16 : decode b_X_weather 16 = .ok (.aload_n 0, 1) := by decide +kernel
theorem d_X_weather_17 : decode b_X_weather 17 = .ok (.invokevirtual 79, 3) := by decide +kernel
theorem d_X_weather_20 : decode b_X_weather 20 = .ok (.aload_n 0, 1) := by decide +kernel
theorem d_X_weather_21 : decode b_X_weather 21 = .ok (.getfield 31, 3) := by decide +kernel
theorem d_X_weather_24 : decode b_X_weather 24 = .ok (.getfield 138, 3) := by decide +kernel
theorem d_X_weather_27 : decode b_X_weather 27 = .ok (.iload_n 1, 1) := by decide +kernel
theorem d_X_weather_28 : decode b_X_weather 28 = .ok (.aaload, 1) := by decide +kernel
theorem d_X_weather_29 : decode b_X_weather 29 = .ok (.getfield 142, 3) := by decide +kernel
theorem d_X_weather_32 : decode b_X_weather 32 = .ok (.astore 4, 2) := by decide +kernel
theorem d_X_weather_34 : decode b_X_weather 34 = .ok (.aload 4, 2) := by decide +kernel
theorem d_X_weather_36 : decode b_X_weather 36 = .ok (.iload_n 2, 1) := by decide +kernel
theorem d_X_weather_37 : decode b_X_weather 37 = .ok (.baload, 1) := by decide +kernel
theorem d_X_weather_38 : decode b_X_weather 38 = .ok (.istore 5, 2) := by decide +kernel
theorem d_X_weather_40 : decode b_X_weather 40 = .ok (.aload 4, 2) := by decide +kernel
theorem d_X_weather_42 : decode b_X_weather 42 = .ok (.iload_n 2, 1) := by decide +kernel
theorem d_X_weather_43 : decode b_X_weather 43 = .ok (.iload_n 3, 1) := by decide +kernel
theorem d_X_weather_44 : decode b_X_weather 44 = .ok (.bastore, 1) := by decide +kernel
theorem d_X_weather_45 : decode b_X_weather 45 = .ok (.iload 5, 2) := by decide +kernel
theorem d_X_weather_47 : decode b_X_weather 47 = .ok (.ireturn, 1) := by decide +kernel
theorem d_X_plant_0 : decode b_X_plant 0 = .ok (.aload_n 0, 1) := by decide +kernel
theorem d_X_plant_1 : decode b_X_plant 1 = .ok (.iload_n 1, 1) := by decide +kernel
theorem d_X_plant_2 : decode b_X_plant 2 = .ok (.invokevirtual 96, 3) := by decide +kernel
theorem d_X_plant_5 : decode b_X_plant 5 = .ok (.iload_n 2, 1) := by decide +kernel
theorem d_X_plant_6 : decode b_X_plant 6 = .ok (.iconst 0, 1) := by decide +kernel
theorem d_X_plant_7 : decode b_X_plant 7 = .ok (.ldc 66, 2) := by decide +kernel
theorem d_X_plant_9 : decode b_X_plant 9 = .ok (.invokestatic 67, 3) := by decide +kernel
theorem d_X_plant_12 : decode b_X_plant 12 = .ok (.aload_n 0, 1) := by decide +kernel
theorem d_X_plant_13 : decode b_X_plant 13 = .ok (.invokevirtual 79, 3) := by decide +kernel
theorem d_X_plant_16 : decode b_X_plant 16 = .ok (.aload_n 0, 1) := by decide +kernel
theorem d_X_plant_17 : decode b_X_plant 17 = .ok (.getfield 31, 3) := by decide +kernel
theorem d_X_plant_20 : decode b_X_plant 20 = .ok (.getfield 145, 3) := by decide +kernel
theorem d_X_plant_23 : decode b_X_plant 23 = .ok (.iload_n 1, 1) := by decide +kernel
theorem d_X_plant_24 : decode b_X_plant 24 = .ok (.iaload, 1) := by decide +kernel
theorem d_X_plant_25 : decode b_X_plant 25 = .ok (.istore_n 3, 1) := by decide +kernel
theorem d_X_plant_26 : decode b_X_plant 26 = .ok (.aload_n 0, 1) := by decide +kernel
theorem d_X_plant_27 : decode b_X_plant 27 = .ok (.getfield 31, 3) := by decide +kernel
theorem d_X_plant_30 : decode b_X_plant 30 = .ok (.getfield 145, 3) := by decide +kernel
theorem d_X_plant_33 : decode b_X_plant 33 = .ok (.iload_n 1, 1) := by decide +kernel
theorem d_X_plant_34 : decode b_X_plant 34 = .ok (.iload_n 2, 1) := by decide +kernel
theorem d_X_plant_35 : decode b_X_plant 35 = .ok (.iastore, 1) := by decide +kernel
theorem d_X_plant_36 : decode b_X_plant 36 = .ok (.iload_n 3, 1) := by decide +kernel
theorem d_X_plant_37 : decode b_X_plant 37 = .ok (.ireturn, 1) := by decide +kernel
theorem d_X_order_0 : decode b_X_order 0 = .ok (.aload_n 0, 1) := by decide +kernel
theorem d_X_order_1 : decode b_X_order 1 = .ok (.iload_n 1, 1) := by decide +kernel
theorem d_X_order_2 : decode b_X_order 2 = .ok (.invokevirtual 96, 3) := by decide +kernel
theorem d_X_order_5 : decode b_X_order 5 = .ok (.iload_n 3, 1) := by decide +kernel
theorem d_X_order_6 : decode b_X_order 6 = .ok (.iconst 0, 1) := by decide +kernel
theorem d_X_order_7 : decode b_X_order 7 = .ok (.sipush 20000, 3) := by decide +kernel
theorem d_X_order_10 : decode b_X_order 10 = .ok (.invokestatic 67, 3) := by decide +kernel
theorem d_X_order_13 : decode b_X_order 13 = .ok (.iload_n 2, 1) := by decide +kernel
theorem d_X_order_14 : decode b_X_order 14 = .ok (.iconst 0, 1) := by decide +kernel
theorem d_X_order_15 : decode b_X_order 15 = .ok (.iload_n 3, 1) := by decide +kernel
theorem d_X_order_16 : decode b_X_order 16 = .ok (.invokestatic 67, 3) := by decide +kernel
theorem d_X_order_19 : decode b_X_order 19 = .ok (.iload 4, 2) := by decide +kernel
theorem d_X_order_21 : decode b_X_order 21 = .ok (.iconst 0, 1) := by decide +kernel
theorem d_X_order_22 : decode b_X_order 22 = .ok (.ldc 66, 2) := by decide +kernel
theorem d_X_order_24 : decode b_X_order 24 = .ok (.invokestatic 67, 3) := by decide +kernel
theorem d_X_order_27 : decode b_X_order 27 = .ok (.iload 5, 2) := by decide +kernel
theorem d_X_order_29 : decode b_X_order 29 = .ok (.iconst 0, 1) := by decide +kernel
theorem d_X_order_30 : decode b_X_order 30 = .ok (.sipush 10000, 3) := by decide +kernel
theorem d_X_order_33 : decode b_X_order 33 = .ok (.invokestatic 67, 3) := by decide +kernel
theorem d_X_order_36 : decode b_X_order 36 = .ok (.aload_n 0, 1) := by decide +kernel
theorem d_X_order_37 : decode b_X_order 37 = .ok (.getfield 31, 3) := by decide +kernel
theorem d_X_order_40 : decode b_X_order 40 = .ok (.getfield 148, 3) := by decide +kernel
theorem d_X_order_43 : decode b_X_order 43 = .ok (.bipush 6, 2) := by decide +kernel
theorem d_X_order_45 : decode b_X_order 45 = .ok (.invokestatic 75, 3) := by decide +kernel
theorem d_X_order_48 : decode b_X_order 48 = .ok (.aload_n 0, 1) := by decide +kernel
theorem d_X_order_49 : decode b_X_order 49 = .ok (.invokevirtual 79, 3) := by decide +kernel
theorem d_X_order_52 : decode b_X_order 52 = .ok (.aload_n 0, 1) := by decide +kernel
theorem d_X_order_53 : decode b_X_order 53 = .ok (.getfield 31, 3) := by decide +kernel
theorem d_X_order_56 : decode b_X_order 56 = .ok (.new 151, 3) := by decide +kernel
theorem d_X_order_59 : decode b_X_order 59 = .ok (.dup, 1) := by decide +kernel
theorem d_X_order_60 : decode b_X_order 60 = .ok (.iload_n 1, 1) := by decide +kernel
theorem d_X_order_61 : decode b_X_order 61 = .ok (.iload_n 2, 1) := by decide +kernel
theorem d_X_order_62 : decode b_X_order 62 = .ok (.iload_n 3, 1) := by decide +kernel
theorem d_X_order_63 : decode b_X_order 63 = .ok (.iload 4, 2) := by decide +kernel
theorem d_X_order_65 : decode b_X_order 65 = .ok (.iload 5, 2) := by decide +kernel
theorem d_X_order_67 : decode b_X_order 67 = .ok (.invokespecial 153, 3) := by decide +kernel
theorem d_X_order_70 : decode b_X_order 70 = .ok (.invokevirtual 156, 3) := by decide +kernel
theorem d_X_order_73 : decode b_X_order 73 = .ok (.ireturn, 1) := by decide +kernel
theorem d_X_prices_0 : decode b_X_prices 0 = .ok (.iload_n 1, 1) := by decide +kernel
theorem d_X_prices_1 : decode b_X_prices 1 = .ok (.iconst 0, 1) := by decide +kernel
theorem d_X_prices_2 : decode b_X_prices 2 = .ok (.sipush 10000, 3) := by decide +kernel
theorem d_X_prices_5 : decode b_X_prices 5 = .ok (.invokestatic 67, 3) := by decide +kernel
theorem d_X_prices_8 : decode b_X_prices 8 = .ok (.iload_n 2, 1) := by decide +kernel
theorem d_X_prices_9 : decode b_X_prices 9 = .ok (.iconst 0, 1) := by decide +kernel
theorem d_X_prices_10 : decode b_X_prices 10 = .ok (.sipush 10000, 3) := by decide +kernel
theorem d_X_prices_13 : decode b_X_prices 13 = .ok (.invokestatic 67, 3) := by decide +kernel
theorem d_X_prices_16 : decode b_X_prices 16 = .ok (.aload_n 0, 1) := by decide +kernel
theorem d_X_prices_17 : decode b_X_prices 17 = .ok (.invokevirtual 79, 3) := by decide +kernel
theorem d_X_prices_20 : decode b_X_prices 20 = .ok (.aload_n 0, 1) := by decide +kernel
theorem d_X_prices_21 : decode b_X_prices 21 = .ok (.getfield 31, 3) := by decide +kernel
theorem d_X_prices_24 : decode b_X_prices 24 = .ok (.iload_n 1, 1) := by decide +kernel
theorem d_X_prices_25 : decode b_X_prices 25 = .ok (.putfield 160, 3) := by decide +kernel
theorem d_X_prices_28 : decode b_X_prices 28 = .ok (.aload_n 0, 1) := by decide +kernel
theorem d_X_prices_29 : decode b_X_prices 29 = .ok (.getfield 31, 3) := by decide +kernel
theorem d_X_prices_32 : decode b_X_prices 32 = .ok (.iload_n 2, 1) := by decide +kernel
theorem d_X_prices_33 : decode b_X_prices 33 = .ok (.putfield 163, 3) := by decide +kernel
theorem d_X_prices_36 : decode b_X_prices 36 = .ok (.return_, 1) := by decide +kernel
theorem d_X_run_0 : decode b_X_run 0 = .ok (.iload_n 1, 1) := by decide +kernel
theorem d_X_run_1 : decode b_X_run 1 = .ok (.iconst 1, 1) := by decide +kernel
theorem d_X_run_2 : decode b_X_run 2 = .ok (.sipush 5000, 3) := by decide +kernel
theorem d_X_run_5 : decode b_X_run 5 = .ok (.invokestatic 67, 3) := by decide +kernel
theorem d_X_run_8 : decode b_X_run 8 = .ok (.aload_n 0, 1) := by decide +kernel
theorem d_X_run_9 : decode b_X_run 9 = .ok (.invokevirtual 79, 3) := by decide +kernel
theorem d_X_run_12 : decode b_X_run 12 = .ok (.aload_n 0, 1) := by decide +kernel
theorem d_X_run_13 : decode b_X_run 13 = .ok (.getfield 48, 3) := by decide +kernel
theorem d_X_run_16 : decode b_X_run 16 = .ok (.iload_n 1, 1) := by decide +kernel
theorem d_X_run_17 : decode b_X_run 17 = .ok (.invokevirtual 166, 3) := by decide +kernel
theorem d_X_run_20 : decode b_X_run 20 = .ok (.aload_n 0, 1) := by decide +kernel
theorem d_X_run_21 : decode b_X_run 21 = .ok (.getfield 48, 3) := by decide +kernel
theorem d_X_run_24 : decode b_X_run 24 = .ok (.invokevirtual 169, 3) := by decide +kernel
theorem d_X_run_27 : decode b_X_run 27 = .ok (.ifCond .ne 19, 3) := by decide +kernel
theorem d_X_run_30 : decode b_X_run 30 = .ok (.aload_n 0, 1) := by decide +kernel
theorem d_X_run_31 : decode b_X_run 31 = .ok (.getfield 48, 3) := by decide +kernel
theorem d_X_run_34 : decode b_X_run 34 = .ok (.getfield 173, 3) := by decide +kernel
theorem d_X_run_37 : decode b_X_run 37 = .ok (.ifCond .eq 7, 3) := by decide +kernel
theorem d_X_run_40 : decode b_X_run 40 = .ok (.iconst 3, 1) := by decide +kernel
theorem d_X_run_41 : decode b_X_run 41 = .ok (.goto 4, 3) := by decide +kernel
theorem d_X_run_44 : decode b_X_run 44 = .ok (.iconst 2, 1) := by decide +kernel
theorem d_X_run_45 : decode b_X_run 45 = .ok (.ireturn, 1) := by decide +kernel
theorem d_X_run_46 : decode b_X_run 46 = .ok (.aload_n 0, 1) := by decide +kernel
theorem d_X_run_47 : decode b_X_run 47 = .ok (.getfield 48, 3) := by decide +kernel
theorem d_X_run_50 : decode b_X_run 50 = .ok (.getfield 176, 3) := by decide +kernel
theorem d_X_run_53 : decode b_X_run 53 = .ok (.iconst 0, 1) := by decide +kernel
theorem d_X_run_54 : decode b_X_run 54 = .ok (.aload_n 0, 1) := by decide +kernel
theorem d_X_run_55 : decode b_X_run 55 = .ok (.getfield 52, 3) := by decide +kernel
theorem d_X_run_58 : decode b_X_run 58 = .ok (.iconst 0, 1) := by decide +kernel
theorem d_X_run_59 : decode b_X_run 59 = .ok (.bipush 6, 2) := by decide +kernel
theorem d_X_run_61 : decode b_X_run 61 = .ok (.invokestatic 179, 3) := by decide +kernel
theorem d_X_run_64 : decode b_X_run 64 = .ok (.aload_n 0, 1) := by decide +kernel
theorem d_X_run_65 : decode b_X_run 65 = .ok (.iconst 1, 1) := by decide +kernel
theorem d_X_run_66 : decode b_X_run 66 = .ok (.putfield 62, 3) := by decide +kernel
theorem d_X_run_69 : decode b_X_run 69 = .ok (.aload_n 0, 1) := by decide +kernel
theorem d_X_run_70 : decode b_X_run 70 = .ok (.getfield 48, 3) := by decide +kernel
theorem d_X_run_73 : decode b_X_run 73 = .ok (.getfield 173, 3) := by decide +kernel
theorem d_X_run_76 : decode b_X_run 76 = .ok (.ifCond .eq 7, 3) := by decide +kernel
theorem d_X_run_79 : decode b_X_run 79 = .ok (.iconst 1, 1) := by decide +kernel
theorem d_X_run_80 : decode b_X_run 80 = .ok (.goto 4, 3) := by decide +kernel
theorem d_X_run_83 : decode b_X_run 83 = .ok (.iconst 0, 1) := by decide +kernel
theorem d_X_run_84 : decode b_X_run 84 = .ok (.ireturn, 1) := by decide +kernel
theorem d_X_nodes_0 : decode b_X_nodes 0 = .ok (.aload_n 0, 1) := by decide +kernel
theorem d_X_nodes_1 : decode b_X_nodes 1 = .ok (.getfield 48, 3) := by decide +kernel
theorem d_X_nodes_4 : decode b_X_nodes 4 = .ok (.getfield 185, 3) := by decide +kernel
theorem d_X_nodes_7 : decode b_X_nodes 7 = .ok (.ireturn, 1) := by decide +kernel
theorem d_X_hope_0 : decode b_X_hope 0 = .ok (.aload_n 0, 1) := by decide +kernel
theorem d_X_hope_1 : decode b_X_hope 1 = .ok (.getfield 48, 3) := by decide +kernel
theorem d_X_hope_4 : decode b_X_hope 4 = .ok (.invokevirtual 188, 3) := by decide +kernel
theorem d_X_hope_7 : decode b_X_hope 7 = .ok (.lreturn, 1) := by decide +kernel
theorem d_X_move_0 : decode b_X_move 0 = .ok (.iload_n 1, 1) := by decide +kernel
theorem d_X_move_1 : decode b_X_move 1 = .ok (.aload_n 0, 1) := by decide +kernel
theorem d_X_move_2 : decode b_X_move 2 = .ok (.getfield 31, 3) := by decide +kernel
theorem d_X_move_5 : decode b_X_move 5 = .ok (.getfield 107, 3) := by decide +kernel
theorem d_X_move_8 : decode b_X_move 8 = .ok (.invokestatic 93, 3) := by decide +kernel
theorem d_X_move_11 : decode b_X_move 11 = .ok (.iload_n 2, 1) := by decide +kernel
theorem d_X_move_12 : decode b_X_move 12 = .ok (.iconst (-1), 1) := by decide +kernel
theorem d_X_move_13 : decode b_X_move 13 = .ok (.if_icmp .eq 8, 3) := by decide +kernel
theorem d_X_move_16 : decode b_X_move 16 = .ok (.aload_n 0, 1) := by decide +kernel
theorem d_X_move_17 : decode b_X_move 17 = .ok (.iload_n 2, 1) := by decide +kernel
theorem d_X_move_18 : decode b_X_move 18 = .ok (.invokevirtual 96, 3) := by decide +kernel
theorem d_X_move_21 : decode b_X_move 21 = .ok (.aload_n 0, 1) := by decide +kernel
theorem d_X_move_22 : decode b_X_move 22 = .ok (.getfield 52, 3) := by decide +kernel
theorem d_X_move_25 : decode b_X_move 25 = .ok (.iload_n 1, 1) := by decide +kernel
theorem d_X_move_26 : decode b_X_move 26 = .ok (.iaload, 1) := by decide +kernel
theorem d_X_move_27 : decode b_X_move 27 = .ok (.istore_n 3, 1) := by decide +kernel
theorem d_X_move_28 : decode b_X_move 28 = .ok (.aload_n 0, 1) := by decide +kernel
theorem d_X_move_29 : decode b_X_move 29 = .ok (.getfield 52, 3) := by decide +kernel
theorem d_X_move_32 : decode b_X_move 32 = .ok (.iload_n 1, 1) := by decide +kernel
theorem d_X_move_33 : decode b_X_move 33 = .ok (.iload_n 2, 1) := by decide +kernel
theorem d_X_move_34 : decode b_X_move 34 = .ok (.iastore, 1) := by decide +kernel
theorem d_X_move_35 : decode b_X_move 35 = .ok (.aload_n 0, 1) := by decide +kernel
theorem d_X_move_36 : decode b_X_move 36 = .ok (.iconst 1, 1) := by decide +kernel
theorem d_X_move_37 : decode b_X_move 37 = .ok (.putfield 62, 3) := by decide +kernel
theorem d_X_move_40 : decode b_X_move 40 = .ok (.iload_n 3, 1) := by decide +kernel
theorem d_X_move_41 : decode b_X_move 41 = .ok (.ireturn, 1) := by decide +kernel
theorem d_X_taken_0 : decode b_X_taken 0 = .ok (.iload_n 1, 1) := by decide +kernel
theorem d_X_taken_1 : decode b_X_taken 1 = .ok (.aload_n 0, 1) := by decide +kernel
theorem d_X_taken_2 : decode b_X_taken 2 = .ok (.getfield 31, 3) := by decide +kernel
theorem d_X_taken_5 : decode b_X_taken 5 = .ok (.getfield 107, 3) := by decide +kernel
theorem d_X_taken_8 : decode b_X_taken 8 = .ok (.invokestatic 93, 3) := by decide +kernel
theorem d_X_taken_11 : decode b_X_taken 11 = .ok (.aload_n 0, 1) := by decide +kernel
theorem d_X_taken_12 : decode b_X_taken 12 = .ok (.getfield 52, 3) := by decide +kernel
theorem d_X_taken_15 : decode b_X_taken 15 = .ok (.iload_n 1, 1) := by decide +kernel
theorem d_X_taken_16 : decode b_X_taken 16 = .ok (.iaload, 1) := by decide +kernel
theorem d_X_taken_17 : decode b_X_taken 17 = .ok (.ireturn, 1) := by decide +kernel
theorem d_X_check_0 : decode b_X_check 0 = .ok (.aload_n 0, 1) := by decide +kernel
theorem d_X_check_1 : decode b_X_check 1 = .ok (.invokevirtual 192, 3) := by decide +kernel
theorem d_X_check_4 : decode b_X_check 4 = .ok (.iconst 0, 1) := by decide +kernel
theorem d_X_check_5 : decode b_X_check 5 = .ok (.istore_n 1, 1) := by decide +kernel
theorem d_X_check_6 : decode b_X_check 6 = .ok (.iload_n 1, 1) := by decide +kernel
theorem d_X_check_7 : decode b_X_check 7 = .ok (.aload_n 0, 1) := by decide +kernel
theorem d_X_check_8 : decode b_X_check 8 = .ok (.getfield 31, 3) := by decide +kernel
theorem d_X_check_11 : decode b_X_check 11 = .ok (.getfield 84, 3) := by decide +kernel
theorem d_X_check_14 : decode b_X_check 14 = .ok (.if_icmp .ge 33, 3) := by decide +kernel
theorem d_X_check_17 : decode b_X_check 17 = .ok (.aload_n 0, 1) := by decide +kernel
theorem d_X_check_18 : decode b_X_check 18 = .ok (.getfield 35, 3) := by decide +kernel
theorem d_X_check_21 : decode b_X_check 21 = .ok (.aload_n 0, 1) := by decide +kernel
theorem d_X_check_22 : decode b_X_check 22 = .ok (.getfield 52, 3) := by decide +kernel
theorem d_X_check_25 : decode b_X_check 25 = .ok (.iload_n 1, 1) := by decide +kernel
theorem d_X_check_26 : decode b_X_check 26 = .ok (.invokevirtual 195, 3) := by decide +kernel
theorem d_X_check_29 : decode b_X_check 29 = .ok (.istore_n 2, 1) := by decide +kernel
theorem d_X_check_30 : decode b_X_check 30 = .ok (.iload_n 2, 1) := by decide +kernel
theorem d_X_check_31 : decode b_X_check 31 = .ok (.ifCond .eq 10, 3) := by decide +kernel
theorem d_X_check_34 : decode b_X_check 34 = .ok (.bipush 10, 2) := by decide +kernel
theorem d_X_check_36 : decode b_X_check 36 = .ok (.iload_n 1, 1) := by decide +kernel
theorem d_X_check_37 : decode b_X_check 37 = .ok (.imul, 1) := by decide +kernel
theorem d_X_check_38 : decode b_X_check 38 = .ok (.iload_n 2, 1) := by decide +kernel
theorem d_X_check_39 : decode b_X_check 39 = .ok (.iadd, 1) := by decide +kernel
theorem d_X_check_40 : decode b_X_check 40 = .ok (.ireturn, 1) := by decide +kernel
theorem d_X_check_41 : decode b_X_check 41 = .ok (.iinc 1 1, 3) := by decide +kernel
theorem d_X_check_44 : decode b_X_check 44 = .ok (.goto (-38), 3) := by decide +kernel
theorem d_X_check_47 : decode b_X_check 47 = .ok (.iconst 0, 1) := by decide +kernel
theorem d_X_check_48 : decode b_X_check 48 = .ok (.ireturn, 1) := by decide +kernel
theorem d_X_worth_0 : decode b_X_worth 0 = .ok (.aload_n 0, 1) := by decide +kernel
theorem d_X_worth_1 : decode b_X_worth 1 = .ok (.invokevirtual 192, 3) := by decide +kernel
theorem d_X_worth_4 : decode b_X_worth 4 = .ok (.aload_n 0, 1) := by decide +kernel
theorem d_X_worth_5 : decode b_X_worth 5 = .ok (.getfield 39, 3) := by decide +kernel
theorem d_X_worth_8 : decode b_X_worth 8 = .ok (.aload_n 0, 1) := by decide +kernel
theorem d_X_worth_9 : decode b_X_worth 9 = .ok (.getfield 52, 3) := by decide +kernel
theorem d_X_worth_12 : decode b_X_worth 12 = .ok (.invokevirtual 199, 3) := by decide +kernel
theorem d_X_worth_15 : decode b_X_worth 15 = .ok (.lreturn, 1) := by decide +kernel
theorem d_X_sold_0 : decode b_X_sold 0 = .ok (.iload_n 1, 1) := by decide +kernel
theorem d_X_sold_1 : decode b_X_sold 1 = .ok (.aload_n 0, 1) := by decide +kernel
theorem d_X_sold_2 : decode b_X_sold 2 = .ok (.getfield 31, 3) := by decide +kernel
theorem d_X_sold_5 : decode b_X_sold 5 = .ok (.getfield 148, 3) := by decide +kernel
theorem d_X_sold_8 : decode b_X_sold 8 = .ok (.invokestatic 93, 3) := by decide +kernel
theorem d_X_sold_11 : decode b_X_sold 11 = .ok (.aload_n 0, 1) := by decide +kernel
theorem d_X_sold_12 : decode b_X_sold 12 = .ok (.invokevirtual 192, 3) := by decide +kernel
theorem d_X_sold_15 : decode b_X_sold 15 = .ok (.aload_n 0, 1) := by decide +kernel
theorem d_X_sold_16 : decode b_X_sold 16 = .ok (.getfield 39, 3) := by decide +kernel
theorem d_X_sold_19 : decode b_X_sold 19 = .ok (.aload_n 0, 1) := by decide +kernel
theorem d_X_sold_20 : decode b_X_sold 20 = .ok (.getfield 52, 3) := by decide +kernel
theorem d_X_sold_23 : decode b_X_sold 23 = .ok (.invokevirtual 199, 3) := by decide +kernel
theorem d_X_sold_26 : decode b_X_sold 26 = .ok (.pop2, 1) := by decide +kernel
theorem d_X_sold_27 : decode b_X_sold 27 = .ok (.aload_n 0, 1) := by decide +kernel
theorem d_X_sold_28 : decode b_X_sold 28 = .ok (.getfield 39, 3) := by decide +kernel
theorem d_X_sold_31 : decode b_X_sold 31 = .ok (.getfield 203, 3) := by decide +kernel
theorem d_X_sold_34 : decode b_X_sold 34 = .ok (.iload_n 1, 1) := by decide +kernel
theorem d_X_sold_35 : decode b_X_sold 35 = .ok (.iaload, 1) := by decide +kernel
theorem d_X_sold_36 : decode b_X_sold 36 = .ok (.ireturn, 1) := by decide +kernel
theorem d_X_forgetPlan_0 : decode b_X_forgetPlan 0 = .ok (.aload_n 0, 1) := by decide +kernel
theorem d_X_forgetPlan_1 : decode b_X_forgetPlan 1 = .ok (.getfield 52, 3) := by decide +kernel
theorem d_X_forgetPlan_4 : decode b_X_forgetPlan 4 = .ok (.iconst (-1), 1) := by decide +kernel
theorem d_X_forgetPlan_5 : decode b_X_forgetPlan 5 = .ok (.invokestatic 56, 3) := by decide +kernel
theorem d_X_forgetPlan_8 : decode b_X_forgetPlan 8 = .ok (.aload_n 0, 1) := by decide +kernel
theorem d_X_forgetPlan_9 : decode b_X_forgetPlan 9 = .ok (.iconst 0, 1) := by decide +kernel
theorem d_X_forgetPlan_10 : decode b_X_forgetPlan 10 = .ok (.putfield 62, 3) := by decide +kernel
theorem d_X_forgetPlan_13 : decode b_X_forgetPlan 13 = .ok (.return_, 1) := by decide +kernel
theorem d_X_requirePlan_0 : decode b_X_requirePlan 0 = .ok (.aload_n 0, 1) := by decide +kernel
theorem d_X_requirePlan_1 : decode b_X_requirePlan 1 = .ok (.getfield 62, 3) := by decide +kernel
theorem d_X_requirePlan_4 : decode b_X_requirePlan 4 = .ok (.ifCond .ne 13, 3) := by decide +kernel
theorem d_X_requirePlan_7 : decode b_X_requirePlan 7 = .ok (.new 206, 3) := by decide +kernel
theorem d_X_requirePlan_10 : decode b_X_requirePlan 10 = .ok (.dup, 1) := by decide +kernel
theorem d_X_requirePlan_11 : decode b_X_requirePlan 11 = .ok (.ldc 208, 2) := by decide +kernel
theorem d_X_requirePlan_13 : decode b_X_requirePlan 13 = .ok (.invokespecial 210, 3) := by decide +kernel
theorem d_X_requirePlan_16 : decode b_X_requirePlan 16 = .ok (.athrow, 1) := by decide +kernel
theorem d_X_requirePlan_17 : decode b_X_requirePlan 17 = .ok (.return_, 1) := by decide +kernel
theorem d_X_requireWeek_0 : decode b_X_requireWeek 0 = .ok (.iload_n 1, 1) := by decide +kernel
theorem d_X_requireWeek_1 : decode b_X_requireWeek 1 = .ok (.aload_n 0, 1) := by decide +kernel
theorem d_X_requireWeek_2 : decode b_X_requireWeek 2 = .ok (.getfield 31, 3) := by decide +kernel
theorem d_X_requireWeek_5 : decode b_X_requireWeek 5 = .ok (.getfield 84, 3) := by decide +kernel
theorem d_X_requireWeek_8 : decode b_X_requireWeek 8 = .ok (.invokestatic 93, 3) := by decide +kernel
theorem d_X_requireWeek_11 : decode b_X_requireWeek 11 = .ok (.return_, 1) := by decide +kernel
theorem d_X_requireOneOf_0 : decode b_X_requireOneOf 0 = .ok (.iload_n 0, 1) := by decide +kernel
theorem d_X_requireOneOf_1 : decode b_X_requireOneOf 1 = .ok (.ifCond .lt 8, 3) := by decide +kernel
theorem d_X_requireOneOf_4 : decode b_X_requireOneOf 4 = .ok (.iload_n 0, 1) := by decide +kernel
theorem d_X_requireOneOf_5 : decode b_X_requireOneOf 5 = .ok (.iload_n 1, 1) := by decide +kernel
theorem d_X_requireOneOf_6 : decode b_X_requireOneOf 6 = .ok (.if_icmp .lt 13, 3) := by decide +kernel
theorem d_X_requireOneOf_9 : decode b_X_requireOneOf 9 = .ok (.new 213, 3) := by decide +kernel
theorem d_X_requireOneOf_12 : decode b_X_requireOneOf 12 = .ok (.dup, 1) := by decide +kernel
theorem d_X_requireOneOf_13 : decode b_X_requireOneOf 13 = .ok (.ldc 215, 2) := by decide +kernel
theorem d_X_requireOneOf_15 : decode b_X_requireOneOf 15 = .ok (.invokespecial 217, 3) := by decide +kernel
theorem d_X_requireOneOf_18 : decode b_X_requireOneOf 18 = .ok (.athrow, 1) := by decide +kernel
theorem d_X_requireOneOf_19 : decode b_X_requireOneOf 19 = .ok (.return_, 1) := by decide +kernel
theorem d_X_requireWithin_0 : decode b_X_requireWithin 0 = .ok (.iload_n 0, 1) := by decide +kernel
theorem d_X_requireWithin_1 : decode b_X_requireWithin 1 = .ok (.iload_n 1, 1) := by decide +kernel
theorem d_X_requireWithin_2 : decode b_X_requireWithin 2 = .ok (.if_icmp .lt 8, 3) := by decide +kernel
theorem d_X_requireWithin_5 : decode b_X_requireWithin 5 = .ok (.iload_n 0, 1) := by decide +kernel
theorem d_X_requireWithin_6 : decode b_X_requireWithin 6 = .ok (.iload_n 2, 1) := by decide +kernel
theorem d_X_requireWithin_7 : decode b_X_requireWithin 7 = .ok (.if_icmp .le 13, 3) := by decide +kernel
theorem d_X_requireWithin_10 : decode b_X_requireWithin 10 = .ok (.new 213, 3) := by decide +kernel
theorem d_X_requireWithin_13 : decode b_X_requireWithin 13 = .ok (.dup, 1) := by decide +kernel
theorem d_X_requireWithin_14 : decode b_X_requireWithin 14 = .ok (.ldc 218, 2) := by decide +kernel
theorem d_X_requireWithin_16 : decode b_X_requireWithin 16 = .ok (.invokespecial 217, 3) := by decide +kernel
theorem d_X_requireWithin_19 : decode b_X_requireWithin 19 = .ok (.athrow, 1) := by decide +kernel
theorem d_X_requireWithin_20 : decode b_X_requireWithin 20 = .ok (.return_, 1) := by decide +kernel
theorem d_X_requireRoom_0 : decode b_X_requireRoom 0 = .ok (.iload_n 0, 1) := by decide +kernel
theorem d_X_requireRoom_1 : decode b_X_requireRoom 1 = .ok (.iload_n 1, 1) := by decide +kernel
theorem d_X_requireRoom_2 : decode b_X_requireRoom 2 = .ok (.if_icmp .lt 13, 3) := by decide +kernel
theorem d_X_requireRoom_5 : decode b_X_requireRoom 5 = .ok (.new 206, 3) := by decide +kernel
theorem d_X_requireRoom_8 : decode b_X_requireRoom 8 = .ok (.dup, 1) := by decide +kernel
theorem d_X_requireRoom_9 : decode b_X_requireRoom 9 = .ok (.ldc 220, 2) := by decide +kernel
theorem d_X_requireRoom_11 : decode b_X_requireRoom 11 = .ok (.invokespecial 210, 3) := by decide +kernel
theorem d_X_requireRoom_14 : decode b_X_requireRoom 14 = .ok (.athrow, 1) := by decide +kernel
theorem d_X_requireRoom_15 : decode b_X_requireRoom 15 = .ok (.return_, 1) := by decide +kernel
theorem d_Boat_init_0 : decode b_Boat_init 0 = .ok (.aload_n 0, 1) := by decide +kernel
theorem d_Boat_init_1 : decode b_Boat_init 1 = .ok (.invokespecial 1, 3) := by decide +kernel
theorem d_Boat_init_4 : decode b_Boat_init 4 = .ok (.aload_n 0, 1) := by decide +kernel
theorem d_Boat_init_5 : decode b_Boat_init 5 = .ok (.iload_n 1, 1) := by decide +kernel
theorem d_Boat_init_6 : decode b_Boat_init 6 = .ok (.putfield 7, 3) := by decide +kernel
theorem d_Boat_init_9 : decode b_Boat_init 9 = .ok (.aload_n 0, 1) := by decide +kernel
theorem d_Boat_init_10 : decode b_Boat_init 10 = .ok (.iload_n 2, 1) := by decide +kernel
theorem d_Boat_init_11 : decode b_Boat_init 11 = .ok (.newarray .boolean, 2) := by decide +kernel
theorem d_Boat_init_13 : decode b_Boat_init 13 = .ok (.putfield 13, 3) := by decide +kernel
theorem d_Boat_init_16 : decode b_Boat_init 16 = .ok (.return_, 1) := by decide +kernel
theorem d_Cage_init_0 : decode b_Cage_init 0 = .ok (.aload_n 0, 1) := by decide +kernel
theorem d_Cage_init_1 : decode b_Cage_init 1 = .ok (.invokespecial 1, 3) := by decide +kernel
theorem d_Cage_init_4 : decode b_Cage_init 4 = .ok (.aload_n 0, 1) := by decide +kernel
theorem d_Cage_init_5 : decode b_Cage_init 5 = .ok (.iload_n 1, 1) := by decide +kernel
theorem d_Cage_init_6 : decode b_Cage_init 6 = .ok (.putfield 7, 3) := by decide +kernel
theorem d_Cage_init_9 : decode b_Cage_init 9 = .ok (.aload_n 0, 1) := by decide +kernel
theorem d_Cage_init_10 : decode b_Cage_init 10 = .ok (.iload_n 2, 1) := by decide +kernel
theorem d_Cage_init_11 : decode b_Cage_init 11 = .ok (.newarray .int, 2) := by decide +kernel
theorem d_Cage_init_13 : decode b_Cage_init 13 = .ok (.putfield 13, 3) := by decide +kernel
theorem d_Cage_init_16 : decode b_Cage_init 16 = .ok (.aload_n 0, 1) := by decide +kernel
theorem d_Cage_init_17 : decode b_Cage_init 17 = .ok (.iload_n 2, 1) := by decide +kernel
theorem d_Cage_init_18 : decode b_Cage_init 18 = .ok (.newarray .int, 2) := by decide +kernel
theorem d_Cage_init_20 : decode b_Cage_init 20 = .ok (.putfield 17, 3) := by decide +kernel
theorem d_Cage_init_23 : decode b_Cage_init 23 = .ok (.return_, 1) := by decide +kernel
theorem d_Farm_init_0 : decode b_Farm_init 0 = .ok (.aload_n 0, 1) := by decide +kernel
theorem d_Farm_init_1 : decode b_Farm_init 1 = .ok (.invokespecial 3, 3) := by decide +kernel
theorem d_Farm_init_4 : decode b_Farm_init 4 = .ok (.aload_n 0, 1) := by decide +kernel
theorem d_Farm_init_5 : decode b_Farm_init 5 = .ok (.iconst 4, 1) := by decide +kernel
theorem d_Farm_init_6 : decode b_Farm_init 6 = .ok (.anewarray 9, 3) := by decide +kernel
theorem d_Farm_init_9 : decode b_Farm_init 9 = .ok (.putfield 11, 3) := by decide +kernel
theorem d_Farm_init_12 : decode b_Farm_init 12 = .ok (.aload_n 0, 1) := by decide +kernel
theorem d_Farm_init_13 : decode b_Farm_init 13 = .ok (.bipush 6, 2) := by decide +kernel
theorem d_Farm_init_15 : decode b_Farm_init 15 = .ok (.anewarray 17, 3) := by decide +kernel
theorem d_Farm_init_18 : decode b_Farm_init 18 = .ok (.putfield 19, 3) := by decide +kernel
theorem d_Farm_init_21 : decode b_Farm_init 21 = .ok (.aload_n 0, 1) := by decide +kernel
theorem d_Farm_init_22 : decode b_Farm_init 22 = .ok (.iconst 3, 1) := by decide +kernel
theorem d_Farm_init_23 : decode b_Farm_init 23 = .ok (.anewarray 23, 3) := by decide +kernel
theorem d_Farm_init_26 : decode b_Farm_init 26 = .ok (.putfield 25, 3) := by decide +kernel
theorem d_Farm_init_29 : decode b_Farm_init 29 = .ok (.aload_n 0, 1) := by decide +kernel
theorem d_Farm_init_30 : decode b_Farm_init 30 = .ok (.bipush 6, 2) := by decide +kernel
theorem d_Farm_init_32 : decode b_Farm_init 32 = .ok (.anewarray 29, 3) := by decide +kernel
theorem d_Farm_init_35 : decode b_Farm_init 35 = .ok (.putfield 31, 3) := by decide +kernel
theorem d_Farm_init_38 : decode b_Farm_init 38 = .ok (.aload_n 0, 1) := by decide +kernel
theorem d_Farm_init_39 : decode b_Farm_init 39 = .ok (.bipush 6, 2) := by decide +kernel
theorem d_Farm_init_41 : decode b_Farm_init 41 = .ok (.newarray .int, 2) := by decide +kernel
theorem d_Farm_init_43 : decode b_Farm_init 43 = .ok (.putfield 35, 3) := by decide +kernel
theorem d_Farm_init_46 : decode b_Farm_init 46 = .ok (.aload_n 0, 1) := by decide +kernel
theorem d_Farm_init_47 : decode b_Farm_init 47 = .ok (.iload_n 1, 1) := by decide +kernel
theorem d_Farm_init_48 : decode b_Farm_init 48 = .ok (.putfield 39, 3) := by decide +kernel
theorem d_Farm_init_51 : decode b_Farm_init 51 = .ok (.aload_n 0, 1) := by decide +kernel
theorem d_Farm_init_52 : decode b_Farm_init 52 = .ok (.iload_n 1, 1) := by decide +kernel
theorem d_Farm_init_53 : decode b_Farm_init 53 = .ok (.newarray .int, 2) := by decide +kernel
theorem d_Farm_init_55 : decode b_Farm_init 55 = .ok (.putfield 43, 3) := by decide +kernel
theorem d_Farm_init_58 : decode b_Farm_init 58 = .ok (.return_, 1) := by decide +kernel
theorem d_Farm_addPlace_0 : decode b_Farm_addPlace 0 = .ok (.aload_n 0, 1) := by decide +kernel
theorem d_Farm_addPlace_1 : decode b_Farm_addPlace 1 = .ok (.getfield 11, 3) := by decide +kernel
theorem d_Farm_addPlace_4 : decode b_Farm_addPlace 4 = .ok (.aload_n 0, 1) := by decide +kernel
theorem d_Farm_addPlace_5 : decode b_Farm_addPlace 5 = .ok (.getfield 46, 3) := by decide +kernel
theorem d_Farm_addPlace_8 : decode b_Farm_addPlace 8 = .ok (.aload_n 1, 1) := by decide +kernel
theorem d_Farm_addPlace_9 : decode b_Farm_addPlace 9 = .ok (.aastore, 1) := by decide +kernel
theorem d_Farm_addPlace_10 : decode b_Farm_addPlace 10 = .ok (.aload_n 0, 1) := by decide +kernel
theorem d_Farm_addPlace_11 : decode b_Farm_addPlace 11 = .ok (.dup, 1) := by decide +kernel
theorem d_Farm_addPlace_12 : decode b_Farm_addPlace 12 = .ok (.getfield 46, 3) := by decide +kernel
theorem d_Farm_addPlace_15 : decode b_Farm_addPlace 15 = .ok (.dup_x1, 1) := by decide +kernel
theorem d_Farm_addPlace_16 : decode b_Farm_addPlace 16 = .ok (.iconst 1, 1) := by decide +kernel
theorem d_Farm_addPlace_17 : decode b_Farm_addPlace 17 = .ok (.iadd, 1) := by decide +kernel
theorem d_Farm_addPlace_18 : decode b_Farm_addPlace 18 = .ok (.putfield 46, 3) := by decide +kernel
theorem d_Farm_addPlace_21 : decode b_Farm_addPlace 21 = .ok (.ireturn, 1) := by decide +kernel
theorem d_Farm_addCage_0 : decode b_Farm_addCage 0 = .ok (.aload_n 0, 1) := by decide +kernel
theorem d_Farm_addCage_1 : decode b_Farm_addCage 1 = .ok (.getfield 19, 3) := by decide +kernel
theorem d_Farm_addCage_4 : decode b_Farm_addCage 4 = .ok (.aload_n 0, 1) := by decide +kernel
theorem d_Farm_addCage_5 : decode b_Farm_addCage 5 = .ok (.getfield 49, 3) := by decide +kernel
theorem d_Farm_addCage_8 : decode b_Farm_addCage 8 = .ok (.aload_n 1, 1) := by decide +kernel
theorem d_Farm_addCage_9 : decode b_Farm_addCage 9 = .ok (.aastore, 1) := by decide +kernel
theorem d_Farm_addCage_10 : decode b_Farm_addCage 10 = .ok (.aload_n 0, 1) := by decide +kernel
theorem d_Farm_addCage_11 : decode b_Farm_addCage 11 = .ok (.dup, 1) := by decide +kernel
theorem d_Farm_addCage_12 : decode b_Farm_addCage 12 = .ok (.getfield 49, 3) := by decide +kernel
theorem d_Farm_addCage_15 : decode b_Farm_addCage 15 = .ok (.dup_x1, 1) := by decide +kernel
theorem d_Farm_addCage_16 : decode b_Farm_addCage 16 = .ok (.iconst 1, 1) := by decide +kernel
theorem d_Farm_addCage_17 : decode b_Farm_addCage 17 = .ok (.iadd, 1) := by decide +kernel
theorem d_Farm_addCage_18 : decode b_Farm_addCage 18 = .ok (.putfield 49, 3) := by decide +kernel
theorem d_Farm_addCage_21 : decode b_Farm_addCage 21 = .ok (.ireturn, 1) := by decide +kernel
theorem d_Farm_addBoat_0 : decode b_Farm_addBoat 0 = .ok (.aload_n 0, 1) := by decide +kernel
theorem d_Farm_addBoat_1 : decode b_Farm_addBoat 1 = .ok (.getfield 25, 3) := by decide +kernel
theorem d_Farm_addBoat_4 : decode b_Farm_addBoat 4 = .ok (.aload_n 0, 1) := by decide +kernel
theorem d_Farm_addBoat_5 : decode b_Farm_addBoat 5 = .ok (.getfield 52, 3) := by decide +kernel
theorem d_Farm_addBoat_8 : decode b_Farm_addBoat 8 = .ok (.aload_n 1, 1) := by decide +kernel
theorem d_Farm_addBoat_9 : decode b_Farm_addBoat 9 = .ok (.aastore, 1) := by decide +kernel
theorem d_Farm_addBoat_10 : decode b_Farm_addBoat 10 = .ok (.aload_n 0, 1) := by decide +kernel
theorem d_Farm_addBoat_11 : decode b_Farm_addBoat 11 = .ok (.dup, 1) := by decide +kernel
theorem d_Farm_addBoat_12 : decode b_Farm_addBoat 12 = .ok (.getfield 52, 3) := by decide +kernel
theorem d_Farm_addBoat_15 : decode b_Farm_addBoat 15 = .ok (.dup_x1, 1) := by decide +kernel
theorem d_Farm_addBoat_16 : decode b_Farm_addBoat 16 = .ok (.iconst 1, 1) := by decide +kernel
theorem d_Farm_addBoat_17 : decode b_Farm_addBoat 17 = .ok (.iadd, 1) := by decide +kernel
theorem d_Farm_addBoat_18 : decode b_Farm_addBoat 18 = .ok (.putfield 52, 3) := by decide +kernel
theorem d_Farm_addBoat_21 : decode b_Farm_addBoat 21 = .ok (.ireturn, 1) := by decide +kernel
theorem d_Farm_addOrder_0 : decode b_Farm_addOrder 0 = .ok (.aload_n 0, 1) := by decide +kernel
theorem d_Farm_addOrder_1 : decode b_Farm_addOrder 1 = .ok (.getfield 55, 3) := by decide +kernel
theorem d_Farm_addOrder_4 : decode b_Farm_addOrder 4 = .ok (.istore_n 2, 1) := by decide +kernel
theorem d_Farm_addOrder_5 : decode b_Farm_addOrder 5 = .ok (.iload_n 2, 1) := by decide +kernel
theorem d_Farm_addOrder_6 : decode b_Farm_addOrder 6 = .ok (.ifCond .le 46, 3) := by decide +kernel
theorem d_Farm_addOrder_9 : decode b_Farm_addOrder 9 = .ok (.aload_n 0, 1) := by decide +kernel
theorem d_Farm_addOrder_10 : decode b_Farm_addOrder 10 = .ok (.getfield 31, 3) := by decide +kernel
theorem d_Farm_addOrder_13 : decode b_Farm_addOrder 13 = .ok (.aload_n 0, 1) := by decide +kernel
theorem d_Farm_addOrder_14 : decode b_Farm_addOrder 14 = .ok (.getfield 35, 3) := by decide +kernel
theorem d_Farm_addOrder_17 : decode b_Farm_addOrder 17 = .ok (.iload_n 2, 1) := by decide +kernel
theorem d_Farm_addOrder_18 : decode b_Farm_addOrder 18 = .ok (.iconst 1, 1) := by decide +kernel
theorem d_Farm_addOrder_19 : decode b_Farm_addOrder 19 = .ok (.isub, 1) := by decide +kernel
theorem d_Farm_addOrder_20 : decode b_Farm_addOrder 20 = .ok (.iaload, 1) := by decide +kernel
theorem d_Farm_addOrder_21 : decode b_Farm_addOrder 21 = .ok (.aaload, 1) := by decide +kernel
theorem d_Farm_addOrder_22 : decode b_Farm_addOrder 22 = .ok (.getfield 58, 3) := by decide +kernel
theorem d_Farm_addOrder_25 : decode b_Farm_addOrder 25 = .ok (.aload_n 1, 1) := by decide +kernel
theorem d_Farm_addOrder_26 : decode b_Farm_addOrder 26 = .ok (.getfield 58, 3) := by decide +kernel
theorem d_Farm_addOrder_29 : decode b_Farm_addOrder 29 = .ok (.if_icmp .ge 23, 3) := by decide +kernel
theorem d_Farm_addOrder_32 : decode b_Farm_addOrder 32 = .ok (.aload_n 0, 1) := by decide +kernel
theorem d_Farm_addOrder_33 : decode b_Farm_addOrder 33 = .ok (.getfield 35, 3) := by decide +kernel
theorem d_Farm_addOrder_36 : decode b_Farm_addOrder 36 = .ok (.iload_n 2, 1) := by decide +kernel
theorem d_Farm_addOrder_37 : decode b_Farm_addOrder 37 = .ok (.aload_n 0, 1) := by decide +kernel
theorem d_Farm_addOrder_38 : decode b_Farm_addOrder 38 = .ok (.getfield 35, 3) := by decide +kernel
theorem d_Farm_addOrder_41 : decode b_Farm_addOrder 41 = .ok (.iload_n 2, 1) := by decide +kernel
theorem d_Farm_addOrder_42 : decode b_Farm_addOrder 42 = .ok (.iconst 1, 1) := by decide +kernel
theorem d_Farm_addOrder_43 : decode b_Farm_addOrder 43 = .ok (.isub, 1) := by decide +kernel
theorem d_Farm_addOrder_44 : decode b_Farm_addOrder 44 = .ok (.iaload, 1) := by decide +kernel
theorem d_Farm_addOrder_45 : decode b_Farm_addOrder 45 = .ok (.iastore, 1) := by decide +kernel
theorem d_Farm_addOrder_46 : decode b_Farm_addOrder 46 = .ok (.iinc 2 (-1), 3) := by decide +kernel
theorem d_Farm_addOrder_49 : decode b_Farm_addOrder 49 = .ok (.goto (-44), 3) := by decide +kernel
theorem d_Farm_addOrder_52 : decode b_Farm_addOrder 52 = .ok (.aload_n 0, 1) := by decide +kernel
theorem d_Farm_addOrder_53 : decode b_Farm_addOrder 53 = .ok (.getfield 35, 3) := by decide +kernel
theorem d_Farm_addOrder_56 : decode b_Farm_addOrder 56 = .ok (.iload_n 2, 1) := by decide +kernel
theorem d_Farm_addOrder_57 : decode b_Farm_addOrder 57 = .ok (.aload_n 0, 1) := by decide +kernel
theorem d_Farm_addOrder_58 : decode b_Farm_addOrder 58 = .ok (.getfield 55, 3) := by decide +kernel
theorem d_Farm_addOrder_61 : decode b_Farm_addOrder 61 = .ok (.iastore, 1) := by decide +kernel
theorem d_Farm_addOrder_62 : decode b_Farm_addOrder 62 = .ok (.aload_n 0, 1) := by decide +kernel
theorem d_Farm_addOrder_63 : decode b_Farm_addOrder 63 = .ok (.getfield 31, 3) := by decide +kernel
theorem d_Farm_addOrder_66 : decode b_Farm_addOrder 66 = .ok (.aload_n 0, 1) := by decide +kernel
theorem d_Farm_addOrder_67 : decode b_Farm_addOrder 67 = .ok (.getfield 55, 3) := by decide +kernel
theorem d_Farm_addOrder_70 : decode b_Farm_addOrder 70 = .ok (.aload_n 1, 1) := by decide +kernel
theorem d_Farm_addOrder_71 : decode b_Farm_addOrder 71 = .ok (.aastore, 1) := by decide +kernel
theorem d_Farm_addOrder_72 : decode b_Farm_addOrder 72 = .ok (.aload_n 0, 1) := by decide +kernel
theorem d_Farm_addOrder_73 : decode b_Farm_addOrder 73 = .ok (.dup, 1) := by decide +kernel
theorem d_Farm_addOrder_74 : decode b_Farm_addOrder 74 = .ok (.getfield 55, 3) := by decide +kernel
theorem d_Farm_addOrder_77 : decode b_Farm_addOrder 77 = .ok (.dup_x1, 1) := by decide +kernel
theorem d_Farm_addOrder_78 : decode b_Farm_addOrder 78 = .ok (.iconst 1, 1) := by decide +kernel
theorem d_Farm_addOrder_79 : decode b_Farm_addOrder 79 = .ok (.iadd, 1) := by decide +kernel
theorem d_Farm_addOrder_80 : decode b_Farm_addOrder 80 = .ok (.putfield 55, 3) := by decide +kernel
theorem d_Farm_addOrder_83 : decode b_Farm_addOrder 83 = .ok (.ireturn, 1) := by decide +kernel
theorem d_Farm_centsKept_0 : decode b_Farm_centsKept 0 = .ok (.aload_n 0, 1) := by decide +kernel
theorem d_Farm_centsKept_1 : decode b_Farm_centsKept 1 = .ok (.getfield 19, 3) := by decide +kernel
theorem d_Farm_centsKept_4 : decode b_Farm_centsKept 4 = .ok (.iload_n 1, 1) := by decide +kernel
theorem d_Farm_centsKept_5 : decode b_Farm_centsKept 5 = .ok (.aaload, 1) := by decide +kernel
theorem d_Farm_centsKept_6 : decode b_Farm_centsKept 6 = .ok (.getfield 61, 3) := by decide +kernel
theorem d_Farm_centsKept_9 : decode b_Farm_centsKept 9 = .ok (.aload_n 0, 1) := by decide +kernel
theorem d_Farm_centsKept_10 : decode b_Farm_centsKept 10 = .ok (.getfield 39, 3) := by decide +kernel
theorem d_Farm_centsKept_13 : decode b_Farm_centsKept 13 = .ok (.iconst 1, 1) := by decide +kernel
theorem d_Farm_centsKept_14 : decode b_Farm_centsKept 14 = .ok (.isub, 1) := by decide +kernel
theorem d_Farm_centsKept_15 : decode b_Farm_centsKept 15 = .ok (.iaload, 1) := by decide +kernel
theorem d_Farm_centsKept_16 : decode b_Farm_centsKept 16 = .ok (.i2l, 1) := by decide +kernel
theorem d_Farm_centsKept_17 : decode b_Farm_centsKept 17 = .ok (.aload_n 0, 1) := by decide +kernel
theorem d_Farm_centsKept_18 : decode b_Farm_centsKept 18 = .ok (.getfield 64, 3) := by decide +kernel
theorem d_Farm_centsKept_21 : decode b_Farm_centsKept 21 = .ok (.i2l, 1) := by decide +kernel
theorem d_Farm_centsKept_22 : decode b_Farm_centsKept 22 = .ok (.lmul, 1) := by decide +kernel
theorem d_Farm_centsKept_23 : decode b_Farm_centsKept 23 = .ok (.lreturn, 1) := by decide +kernel
theorem d_Farm_top_0 : decode b_Farm_top 0 = .ok (.iload_n 2, 1) := by decide +kernel
theorem d_Farm_top_1 : decode b_Farm_top 1 = .ok (.iconst (-1), 1) := by decide +kernel
theorem d_Farm_top_2 : decode b_Farm_top 2 = .ok (.if_icmp .ne 9, 3) := by decide +kernel
theorem d_Farm_top_5 : decode b_Farm_top 5 = .ok (.aload_n 0, 1) := by decide +kernel
theorem d_Farm_top_6 : decode b_Farm_top 6 = .ok (.iload_n 1, 1) := by decide +kernel
theorem d_Farm_top_7 : decode b_Farm_top 7 = .ok (.invokevirtual 67, 3) := by decide +kernel
theorem d_Farm_top_10 : decode b_Farm_top 10 = .ok (.lreturn, 1) := by decide +kernel
theorem d_Farm_top_11 : decode b_Farm_top 11 = .ok (.aload_n 0, 1) := by decide +kernel
theorem d_Farm_top_12 : decode b_Farm_top 12 = .ok (.getfield 71, 3) := by decide +kernel
theorem d_Farm_top_15 : decode b_Farm_top 15 = .ok (.istore_n 3, 1) := by decide +kernel
theorem d_Farm_top_16 : decode b_Farm_top 16 = .ok (.iconst 0, 1) := by decide +kernel
theorem d_Farm_top_17 : decode b_Farm_top 17 = .ok (.istore 4, 2) := by decide +kernel
theorem d_Farm_top_19 : decode b_Farm_top 19 = .ok (.iload 4, 2) := by decide +kernel
theorem d_Farm_top_21 : decode b_Farm_top 21 = .ok (.aload_n 0, 1) := by decide +kernel
theorem d_Farm_top_22 : decode b_Farm_top 22 = .ok (.getfield 55, 3) := by decide +kernel
theorem d_Farm_top_25 : decode b_Farm_top 25 = .ok (.if_icmp .ge 44, 3) := by decide +kernel
theorem d_Farm_top_28 : decode b_Farm_top 28 = .ok (.aload_n 0, 1) := by decide +kernel
theorem d_Farm_top_29 : decode b_Farm_top 29 = .ok (.getfield 31, 3) := by decide +kernel
theorem d_Farm_top_32 : decode b_Farm_top 32 = .ok (.iload 4, 2) := by decide +kernel
theorem d_Farm_top_34 : decode b_Farm_top 34 = .ok (.aaload, 1) := by decide +kernel
theorem d_Farm_top_35 : decode b_Farm_top 35 = .ok (.aload_n 0, 1) := by decide +kernel
theorem d_Farm_top_36 : decode b_Farm_top 36 = .ok (.getfield 19, 3) := by decide +kernel
theorem d_Farm_top_39 : decode b_Farm_top 39 = .ok (.iload_n 1, 1) := by decide +kernel
theorem d_Farm_top_40 : decode b_Farm_top 40 = .ok (.aaload, 1) := by decide +kernel
theorem d_Farm_top_41 : decode b_Farm_top 41 = .ok (.iload_n 2, 1) := by decide +kernel
theorem d_Farm_top_42 : decode b_Farm_top 42 = .ok (.invokevirtual 74, 3) := by decide +kernel
theorem d_Farm_top_45 : decode b_Farm_top 45 = .ok (.ifCond .eq 18, 3) := by decide +kernel
theorem d_Farm_top_48 : decode b_Farm_top 48 = .ok (.iload_n 3, 1) := by decide +kernel
theorem d_Farm_top_49 : decode b_Farm_top 49 = .ok (.aload_n 0, 1) := by decide +kernel
theorem d_Farm_top_50 : decode b_Farm_top 50 = .ok (.getfield 31, 3) := by decide +kernel
theorem d_Farm_top_53 : decode b_Farm_top 53 = .ok (.iload 4, 2) := by decide +kernel
theorem d_Farm_top_55 : decode b_Farm_top 55 = .ok (.aaload, 1) := by decide +kernel
theorem d_Farm_top_56 : decode b_Farm_top 56 = .ok (.getfield 58, 3) := by decide +kernel
theorem d_Farm_top_59 : decode b_Farm_top 59 = .ok (.invokestatic 78, 3) := by decide +kernel
theorem d_Farm_top_62 : decode b_Farm_top 62 = .ok (.istore_n 3, 1) := by decide +kernel
theorem d_Farm_top_63 : decode b_Farm_top 63 = .ok (.iinc 4 1, 3) := by decide +kernel
theorem d_Farm_top_66 : decode b_Farm_top 66 = .ok (.goto (-47), 3) := by decide +kernel
theorem d_Farm_top_69 : decode b_Farm_top 69 = .ok (.aload_n 0, 1) := by decide +kernel
theorem d_Farm_top_70 : decode b_Farm_top 70 = .ok (.getfield 19, 3) := by decide +kernel
theorem d_Farm_top_73 : decode b_Farm_top 73 = .ok (.iload_n 1, 1) := by decide +kernel
theorem d_Farm_top_74 : decode b_Farm_top 74 = .ok (.aaload, 1) := by decide +kernel
theorem d_Farm_top_75 : decode b_Farm_top 75 = .ok (.getfield 61, 3) := by decide +kernel
theorem d_Farm_top_78 : decode b_Farm_top 78 = .ok (.iload_n 2, 1) := by decide +kernel
theorem d_Farm_top_79 : decode b_Farm_top 79 = .ok (.iaload, 1) := by decide +kernel
theorem d_Farm_top_80 : decode b_Farm_top 80 = .ok (.i2l, 1) := by decide +kernel
theorem d_Farm_top_81 : decode b_Farm_top 81 = .ok (.iload_n 3, 1) := by decide +kernel
theorem d_Farm_top_82 : decode b_Farm_top 82 = .ok (.i2l, 1) := by decide +kernel
theorem d_Farm_top_83 : decode b_Farm_top 83 = .ok (.lmul, 1) := by decide +kernel
theorem d_Farm_top_84 : decode b_Farm_top 84 = .ok (.lreturn, 1) := by decide +kernel
theorem d_Farm_greatestTop_0 : decode b_Farm_greatestTop 0 = .ok (.aload_n 0, 1) := by decide +kernel
theorem d_Farm_greatestTop_1 : decode b_Farm_greatestTop 1 = .ok (.iload_n 1, 1) := by decide +kernel
theorem d_Farm_greatestTop_2 : decode b_Farm_greatestTop 2 = .ok (.invokevirtual 67, 3) := by decide +kernel
theorem d_Farm_greatestTop_5 : decode b_Farm_greatestTop 5 = .ok (.lstore_n 2, 1) := by decide +kernel
theorem d_Farm_greatestTop_6 : decode b_Farm_greatestTop 6 = .ok (.iconst 0, 1) := by decide +kernel
theorem d_Farm_greatestTop_7 : decode b_Farm_greatestTop 7 = .ok (.istore 4, 2) := by decide +kernel
theorem d_Farm_greatestTop_9 : decode b_Farm_greatestTop 9 = .ok (.iload 4, 2) := by decide +kernel
theorem d_Farm_greatestTop_11 : decode b_Farm_greatestTop 11 = .ok (.aload_n 0, 1) := by decide +kernel
theorem d_Farm_greatestTop_12 : decode b_Farm_greatestTop 12 = .ok (.getfield 39, 3) := by decide +kernel
theorem d_Farm_greatestTop_15 : decode b_Farm_greatestTop 15 = .ok (.if_icmp .ge 21, 3) := by decide +kernel
theorem d_Farm_greatestTop_18 : decode b_Farm_greatestTop 18 = .ok (.lload_n 2, 1) := by decide +kernel
theorem d_Farm_greatestTop_19 : decode b_Farm_greatestTop 19 = .ok (.aload_n 0, 1) := by decide +kernel
theorem d_Farm_greatestTop_20 : decode b_Farm_greatestTop 20 = .ok (.iload_n 1, 1) := by decide +kernel
theorem d_Farm_greatestTop_21 : decode b_Farm_greatestTop 21 = .ok (.iload 4, 2) := by decide +kernel
theorem d_Farm_greatestTop_23 : decode b_Farm_greatestTop 23 = .ok (.invokevirtual 84, 3) := by decide +kernel
theorem d_Farm_greatestTop_26 : decode b_Farm_greatestTop 26 = .ok (.invokestatic 88, 3) := by decide +kernel
theorem d_Farm_greatestTop_29 : decode b_Farm_greatestTop 29 = .ok (.lstore_n 2, 1) := by decide +kernel
theorem d_Farm_greatestTop_30 : decode b_Farm_greatestTop 30 = .ok (.iinc 4 1, 3) := by decide +kernel
theorem d_Farm_greatestTop_33 : decode b_Farm_greatestTop 33 = .ok (.goto (-24), 3) := by decide +kernel
theorem d_Farm_greatestTop_36 : decode b_Farm_greatestTop 36 = .ok (.lload_n 2, 1) := by decide +kernel
theorem d_Farm_greatestTop_37 : decode b_Farm_greatestTop 37 = .ok (.lreturn, 1) := by decide +kernel
theorem d_Order_init_0 : decode b_Order_init 0 = .ok (.aload_n 0, 1) := by decide +kernel
theorem d_Order_init_1 : decode b_Order_init 1 = .ok (.invokespecial 1, 3) := by decide +kernel
theorem d_Order_init_4 : decode b_Order_init 4 = .ok (.aload_n 0, 1) := by decide +kernel
theorem d_Order_init_5 : decode b_Order_init 5 = .ok (.iload_n 1, 1) := by decide +kernel
theorem d_Order_init_6 : decode b_Order_init 6 = .ok (.putfield 7, 3) := by decide +kernel
theorem d_Order_init_9 : decode b_Order_init 9 = .ok (.aload_n 0, 1) := by decide +kernel
theorem d_Order_init_10 : decode b_Order_init 10 = .ok (.iload_n 2, 1) := by decide +kernel
theorem d_Order_init_11 : decode b_Order_init 11 = .ok (.putfield 13, 3) := by decide +kernel
theorem d_Order_init_14 : decode b_Order_init 14 = .ok (.aload_n 0, 1) := by decide +kernel
theorem d_Order_init_15 : decode b_Order_init 15 = .ok (.iload_n 3, 1) := by decide +kernel
theorem d_Order_init_16 : decode b_Order_init 16 = .ok (.putfield 16, 3) := by decide +kernel
theorem d_Order_init_19 : decode b_Order_init 19 = .ok (.aload_n 0, 1) := by decide +kernel
theorem d_Order_init_20 : decode b_Order_init 20 = .ok (.iload 4, 2) := by decide +kernel
theorem d_Order_init_22 : decode b_Order_init 22 = .ok (.putfield 19, 3) := by decide +kernel
theorem d_Order_init_25 : decode b_Order_init 25 = .ok (.aload_n 0, 1) := by decide +kernel
theorem d_Order_init_26 : decode b_Order_init 26 = .ok (.iload 5, 2) := by decide +kernel
theorem d_Order_init_28 : decode b_Order_init 28 = .ok (.putfield 22, 3) := by decide +kernel
theorem d_Order_init_31 : decode b_Order_init 31 = .ok (.return_, 1) := by decide +kernel
theorem d_Order_wants_0 : decode b_Order_wants 0 = .ok (.iload_n 2, 1) := by decide +kernel
theorem d_Order_wants_1 : decode b_Order_wants 1 = .ok (.aload_n 0, 1) := by decide +kernel
theorem d_Order_wants_2 : decode b_Order_wants 2 = .ok (.getfield 7, 3) := by decide +kernel
theorem d_Order_wants_5 : decode b_Order_wants 5 = .ok (.if_icmp .ne 39, 3) := by decide +kernel
theorem d_Order_wants_8 : decode b_Order_wants 8 = .ok (.aload_n 1, 1) := by decide +kernel
theorem d_Order_wants_9 : decode b_Order_wants 9 = .ok (.getfield 25, 3) := by decide +kernel
theorem d_Order_wants_12 : decode b_Order_wants 12 = .ok (.aload_n 0, 1) := by decide +kernel
theorem d_Order_wants_13 : decode b_Order_wants 13 = .ok (.getfield 7, 3) := by decide +kernel
theorem d_Order_wants_16 : decode b_Order_wants 16 = .ok (.iaload, 1) := by decide +kernel
theorem d_Order_wants_17 : decode b_Order_wants 17 = .ok (.aload_n 0, 1) := by decide +kernel
theorem d_Order_wants_18 : decode b_Order_wants 18 = .ok (.getfield 13, 3) := by decide +kernel
theorem d_Order_wants_21 : decode b_Order_wants 21 = .ok (.if_icmp .lt 23, 3) := by decide +kernel
theorem d_Order_wants_24 : decode b_Order_wants 24 = .ok (.aload_n 1, 1) := by decide +kernel
theorem d_Order_wants_25 : decode b_Order_wants 25 = .ok (.getfield 25, 3) := by decide +kernel
theorem d_Order_wants_28 : decode b_Order_wants 28 = .ok (.aload_n 0, 1) := by decide +kernel
theorem d_Order_wants_29 : decode b_Order_wants 29 = .ok (.getfield 7, 3) := by decide +kernel
theorem d_Order_wants_32 : decode b_Order_wants 32 = .ok (.iaload, 1) := by decide +kernel
theorem d_Order_wants_33 : decode b_Order_wants 33 = .ok (.aload_n 0, 1) := by decide +kernel
theorem d_Order_wants_34 : decode b_Order_wants 34 = .ok (.getfield 16, 3) := by decide +kernel
theorem d_Order_wants_37 : decode b_Order_wants 37 = .ok (.if_icmp .gt 7, 3) := by decide +kernel
theorem d_Order_wants_40 : decode b_Order_wants 40 = .ok (.iconst 1, 1) := by decide +kernel
theorem d_Order_wants_41 : decode b_Order_wants 41 = .ok (.goto 4, 3) := by decide +kernel
theorem d_Order_wants_44 : decode b_Order_wants 44 = .ok (.iconst 0, 1) := by decide +kernel
theorem d_Order_wants_45 : decode b_Order_wants 45 = .ok (.ireturn, 1) := by decide +kernel
theorem d_Place_init_0 : decode b_Place_init 0 = .ok (.aload_n 0, 1) := by decide +kernel
theorem d_Place_init_1 : decode b_Place_init 1 = .ok (.invokespecial 1, 3) := by decide +kernel
theorem d_Place_init_4 : decode b_Place_init 4 = .ok (.aload_n 0, 1) := by decide +kernel
theorem d_Place_init_5 : decode b_Place_init 5 = .ok (.iload_n 1, 1) := by decide +kernel
theorem d_Place_init_6 : decode b_Place_init 6 = .ok (.putfield 7, 3) := by decide +kernel
theorem d_Place_init_9 : decode b_Place_init 9 = .ok (.aload_n 0, 1) := by decide +kernel
theorem d_Place_init_10 : decode b_Place_init 10 = .ok (.iload_n 2, 1) := by decide +kernel
theorem d_Place_init_11 : decode b_Place_init 11 = .ok (.newarray .boolean, 2) := by decide +kernel
theorem d_Place_init_13 : decode b_Place_init 13 = .ok (.putfield 13, 3) := by decide +kernel
theorem d_Place_init_16 : decode b_Place_init 16 = .ok (.return_, 1) := by decide +kernel
theorem d_Rules_init_0 : decode b_Rules_init 0 = .ok (.aload_n 0, 1) := by decide +kernel
theorem d_Rules_init_1 : decode b_Rules_init 1 = .ok (.invokespecial 3, 3) := by decide +kernel
theorem d_Rules_init_4 : decode b_Rules_init 4 = .ok (.aload_n 0, 1) := by decide +kernel
theorem d_Rules_init_5 : decode b_Rules_init 5 = .ok (.bipush 6, 2) := by decide +kernel
theorem d_Rules_init_7 : decode b_Rules_init 7 = .ok (.newarray .int, 2) := by decide +kernel
theorem d_Rules_init_9 : decode b_Rules_init 9 = .ok (.putfield 9, 3) := by decide +kernel
theorem d_Rules_init_12 : decode b_Rules_init 12 = .ok (.aload_n 0, 1) := by decide +kernel
theorem d_Rules_init_13 : decode b_Rules_init 13 = .ok (.iconst 3, 1) := by decide +kernel
theorem d_Rules_init_14 : decode b_Rules_init 14 = .ok (.newarray .int, 2) := by decide +kernel
theorem d_Rules_init_16 : decode b_Rules_init 16 = .ok (.putfield 15, 3) := by decide +kernel
theorem d_Rules_init_19 : decode b_Rules_init 19 = .ok (.aload_n 0, 1) := by decide +kernel
theorem d_Rules_init_20 : decode b_Rules_init 20 = .ok (.bipush 6, 2) := by decide +kernel
theorem d_Rules_init_22 : decode b_Rules_init 22 = .ok (.newarray .int, 2) := by decide +kernel
theorem d_Rules_init_24 : decode b_Rules_init 24 = .ok (.putfield 18, 3) := by decide +kernel
theorem d_Rules_init_27 : decode b_Rules_init 27 = .ok (.aload_n 0, 1) := by decide +kernel
theorem d_Rules_init_28 : decode b_Rules_init 28 = .ok (.iconst 4, 1) := by decide +kernel
theorem d_Rules_init_29 : decode b_Rules_init 29 = .ok (.newarray .int, 2) := by decide +kernel
theorem d_Rules_init_31 : decode b_Rules_init 31 = .ok (.putfield 21, 3) := by decide +kernel
theorem d_Rules_init_34 : decode b_Rules_init 34 = .ok (.aload_n 0, 1) := by decide +kernel
theorem d_Rules_init_35 : decode b_Rules_init 35 = .ok (.aload_n 1, 1) := by decide +kernel
theorem d_Rules_init_36 : decode b_Rules_init 36 = .ok (.putfield 24, 3) := by decide +kernel
theorem d_Rules_init_39 : decode b_Rules_init 39 = .ok (.return_, 1) := by decide +kernel
theorem d_Rules_leastBroken_0 : decode b_Rules_leastBroken 0 = .ok (.aload_n 0, 1) := by decide +kernel
theorem d_Rules_leastBroken_1 : decode b_Rules_leastBroken 1 = .ok (.aload_n 1, 1) := by decide +kernel
theorem d_Rules_leastBroken_2 : decode b_Rules_leastBroken 2 = .ok (.iload_n 2, 1) := by decide +kernel
theorem d_Rules_leastBroken_3 : decode b_Rules_leastBroken 3 = .ok (.invokevirtual 28, 3) := by decide +kernel
theorem d_Rules_leastBroken_6 : decode b_Rules_leastBroken 6 = .ok (.ifCond .ne 5, 3) := by decide +kernel
theorem d_Rules_leastBroken_9 : decode b_Rules_leastBroken 9 = .ok (.iconst 1, 1) := by decide +kernel
theorem d_Rules_leastBroken_10 : decode b_Rules_leastBroken 10 = .ok (.ireturn, 1) := by decide +kernel
theorem d_Rules_leastBroken_11 : decode b_Rules_leastBroken 11 = .ok (.aload_n 0, 1) := by decide +kernel
theorem d_Rules_leastBroken_12 : decode b_Rules_leastBroken 12 = .ok (.aload_n 1, 1) := by decide +kernel
theorem d_Rules_leastBroken_13 : decode b_Rules_leastBroken 13 = .ok (.iload_n 2, 1) := by decide +kernel
theorem d_Rules_leastBroken_14 : decode b_Rules_leastBroken 14 = .ok (.invokevirtual 32, 3) := by decide +kernel
theorem d_Rules_leastBroken_17 : decode b_Rules_leastBroken 17 = .ok (.ifCond .ne 5, 3) := by decide +kernel
theorem d_Rules_leastBroken_20 : decode b_Rules_leastBroken 20 = .ok (.iconst 2, 1) := by decide +kernel
theorem d_Rules_leastBroken_21 : decode b_Rules_leastBroken 21 = .ok (.ireturn, 1) := by decide +kernel
theorem d_Rules_leastBroken_22 : decode b_Rules_leastBroken 22 = .ok (.aload_n 0, 1) := by decide +kernel
theorem d_Rules_leastBroken_23 : decode b_Rules_leastBroken 23 = .ok (.aload_n 1, 1) := by decide +kernel
theorem d_Rules_leastBroken_24 : decode b_Rules_leastBroken 24 = .ok (.iload_n 2, 1) := by decide +kernel
theorem d_Rules_leastBroken_25 : decode b_Rules_leastBroken 25 = .ok (.invokevirtual 35, 3) := by decide +kernel
theorem d_Rules_leastBroken_28 : decode b_Rules_leastBroken 28 = .ok (.ifCond .ne 5, 3) := by decide +kernel
theorem d_Rules_leastBroken_31 : decode b_Rules_leastBroken 31 = .ok (.iconst 3, 1) := by decide +kernel
theorem d_Rules_leastBroken_32 : decode b_Rules_leastBroken 32 = .ok (.ireturn, 1) := by decide +kernel
theorem d_Rules_leastBroken_33 : decode b_Rules_leastBroken 33 = .ok (.aload_n 0, 1) := by decide +kernel
theorem d_Rules_leastBroken_34 : decode b_Rules_leastBroken 34 = .ok (.aload_n 1, 1) := by decide +kernel
theorem d_Rules_leastBroken_35 : decode b_Rules_leastBroken 35 = .ok (.iload_n 2, 1) := by decide +kernel
theorem d_Rules_leastBroken_36 : decode b_Rules_leastBroken 36 = .ok (.invokevirtual 38, 3) := by decide +kernel
theorem d_Rules_leastBroken_39 : decode b_Rules_leastBroken 39 = .ok (.ifCond .eq 7, 3) := by decide +kernel
theorem d_Rules_leastBroken_42 : decode b_Rules_leastBroken 42 = .ok (.iconst 0, 1) := by decide +kernel
theorem d_Rules_leastBroken_43 : decode b_Rules_leastBroken 43 = .ok (.goto 4, 3) := by decide +kernel
theorem d_Rules_leastBroken_46 : decode b_Rules_leastBroken 46 = .ok (.iconst 4, 1) := by decide +kernel
theorem d_Rules_leastBroken_47 : decode b_Rules_leastBroken 47 = .ok (.ireturn, 1) := by decide +kernel
theorem d_Rules_allowsTaking_0 : decode b_Rules_allowsTaking 0 = .ok (.aload_n 0, 1) := by decide +kernel
theorem d_Rules_allowsTaking_1 : decode b_Rules_allowsTaking 1 = .ok (.aload_n 1, 1) := by decide +kernel
theorem d_Rules_allowsTaking_2 : decode b_Rules_allowsTaking 2 = .ok (.iload_n 2, 1) := by decide +kernel
theorem d_Rules_allowsTaking_3 : decode b_Rules_allowsTaking 3 = .ok (.invokevirtual 35, 3) := by decide +kernel
theorem d_Rules_allowsTaking_6 : decode b_Rules_allowsTaking 6 = .ok (.ifCond .eq 25, 3) := by decide +kernel
theorem d_Rules_allowsTaking_9 : decode b_Rules_allowsTaking 9 = .ok (.aload_n 0, 1) := by decide +kernel
theorem d_Rules_allowsTaking_10 : decode b_Rules_allowsTaking 10 = .ok (.aload_n 1, 1) := by decide +kernel
theorem d_Rules_allowsTaking_11 : decode b_Rules_allowsTaking 11 = .ok (.iload_n 2, 1) := by decide +kernel
theorem d_Rules_allowsTaking_12 : decode b_Rules_allowsTaking 12 = .ok (.invokevirtual 28, 3) := by decide +kernel
theorem d_Rules_allowsTaking_15 : decode b_Rules_allowsTaking 15 = .ok (.ifCond .eq 16, 3) := by decide +kernel
theorem d_Rules_allowsTaking_18 : decode b_Rules_allowsTaking 18 = .ok (.aload_n 0, 1) := by decide +kernel
theorem d_Rules_allowsTaking_19 : decode b_Rules_allowsTaking 19 = .ok (.aload_n 1, 1) := by decide +kernel
theorem d_Rules_allowsTaking_20 : decode b_Rules_allowsTaking 20 = .ok (.iload_n 2, 1) := by decide +kernel
theorem d_Rules_allowsTaking_21 : decode b_Rules_allowsTaking 21 = .ok (.invokevirtual 32, 3) := by decide +kernel
theorem d_Rules_allowsTaking_24 : decode b_Rules_allowsTaking 24 = .ok (.ifCond .eq 7, 3) := by decide +kernel
theorem d_Rules_allowsTaking_27 : decode b_Rules_allowsTaking 27 = .ok (.iconst 1, 1) := by decide +kernel
theorem d_Rules_allowsTaking_28 : decode b_Rules_allowsTaking 28 = .ok (.goto 4, 3) := by decide +kernel
theorem d_Rules_allowsTaking_31 : decode b_Rules_allowsTaking 31 = .ok (.iconst 0, 1) := by decide +kernel
theorem d_Rules_allowsTaking_32 : decode b_Rules_allowsTaking 32 = .ok (.ireturn, 1) := by decide +kernel
theorem d_Rules_keepsPlant_0 : decode b_Rules_keepsPlant 0 = .ok (.iconst 0, 1) := by decide +kernel
theorem d_Rules_keepsPlant_1 : decode b_Rules_keepsPlant 1 = .ok (.istore_n 3, 1) := by decide +kernel
theorem d_Rules_keepsPlant_2 : decode b_Rules_keepsPlant 2 = .ok (.iconst 0, 1) := by decide +kernel
theorem d_Rules_keepsPlant_3 : decode b_Rules_keepsPlant 3 = .ok (.istore 4, 2) := by decide +kernel
theorem d_Rules_keepsPlant_5 : decode b_Rules_keepsPlant 5 = .ok (.iload 4, 2) := by decide +kernel
theorem d_Rules_keepsPlant_7 : decode b_Rules_keepsPlant 7 = .ok (.aload_n 0, 1) := by decide +kernel
theorem d_Rules_keepsPlant_8 : decode b_Rules_keepsPlant 8 = .ok (.getfield 24, 3) := by decide +kernel
theorem d_Rules_keepsPlant_11 : decode b_Rules_keepsPlant 11 = .ok (.getfield 41, 3) := by decide +kernel
theorem d_Rules_keepsPlant_14 : decode b_Rules_keepsPlant 14 = .ok (.if_icmp .ge 35, 3) := by decide +kernel
theorem d_Rules_keepsPlant_17 : decode b_Rules_keepsPlant 17 = .ok (.aload_n 1, 1) := by decide +kernel
theorem d_Rules_keepsPlant_18 : decode b_Rules_keepsPlant 18 = .ok (.iload 4, 2) := by decide +kernel
theorem d_Rules_keepsPlant_20 : decode b_Rules_keepsPlant 20 = .ok (.iaload, 1) := by decide +kernel
theorem d_Rules_keepsPlant_21 : decode b_Rules_keepsPlant 21 = .ok (.iload_n 2, 1) := by decide +kernel
theorem d_Rules_keepsPlant_22 : decode b_Rules_keepsPlant 22 = .ok (.if_icmp .ne 21, 3) := by decide +kernel
theorem d_Rules_keepsPlant_25 : decode b_Rules_keepsPlant 25 = .ok (.iload_n 3, 1) := by decide +kernel
theorem d_Rules_keepsPlant_26 : decode b_Rules_keepsPlant 26 = .ok (.aload_n 0, 1) := by decide +kernel
theorem d_Rules_keepsPlant_27 : decode b_Rules_keepsPlant 27 = .ok (.getfield 24, 3) := by decide +kernel
theorem d_Rules_keepsPlant_30 : decode b_Rules_keepsPlant 30 = .ok (.getfield 47, 3) := by decide +kernel
theorem d_Rules_keepsPlant_33 : decode b_Rules_keepsPlant 33 = .ok (.iload 4, 2) := by decide +kernel
theorem d_Rules_keepsPlant_35 : decode b_Rules_keepsPlant 35 = .ok (.aaload, 1) := by decide +kernel
theorem d_Rules_keepsPlant_36 : decode b_Rules_keepsPlant 36 = .ok (.getfield 51, 3) := by decide +kernel
theorem d_Rules_keepsPlant_39 : decode b_Rules_keepsPlant 39 = .ok (.iload_n 2, 1) := by decide +kernel
theorem d_Rules_keepsPlant_40 : decode b_Rules_keepsPlant 40 = .ok (.iaload, 1) := by decide +kernel
theorem d_Rules_keepsPlant_41 : decode b_Rules_keepsPlant 41 = .ok (.iadd, 1) := by decide +kernel
theorem d_Rules_keepsPlant_42 : decode b_Rules_keepsPlant 42 = .ok (.istore_n 3, 1) := by decide +kernel
theorem d_Rules_keepsPlant_43 : decode b_Rules_keepsPlant 43 = .ok (.iinc 4 1, 3) := by decide +kernel
theorem d_Rules_keepsPlant_46 : decode b_Rules_keepsPlant 46 = .ok (.goto (-41), 3) := by decide +kernel
theorem d_Rules_keepsPlant_49 : decode b_Rules_keepsPlant 49 = .ok (.iload_n 3, 1) := by decide +kernel
theorem d_Rules_keepsPlant_50 : decode b_Rules_keepsPlant 50 = .ok (.aload_n 0, 1) := by decide +kernel
theorem d_Rules_keepsPlant_51 : decode b_Rules_keepsPlant 51 = .ok (.getfield 24, 3) := by decide +kernel
theorem d_Rules_keepsPlant_54 : decode b_Rules_keepsPlant 54 = .ok (.getfield 56, 3) := by decide +kernel
theorem d_Rules_keepsPlant_57 : decode b_Rules_keepsPlant 57 = .ok (.iload_n 2, 1) := by decide +kernel
theorem d_Rules_keepsPlant_58 : decode b_Rules_keepsPlant 58 = .ok (.iaload, 1) := by decide +kernel
theorem d_Rules_keepsPlant_59 : decode b_Rules_keepsPlant 59 = .ok (.if_icmp .gt 7, 3) := by decide +kernel
theorem d_Rules_keepsPlant_62 : decode b_Rules_keepsPlant 62 = .ok (.iconst 1, 1) := by decide +kernel
theorem d_Rules_keepsPlant_63 : decode b_Rules_keepsPlant 63 = .ok (.goto 4, 3) := by decide +kernel
theorem d_Rules_keepsPlant_66 : decode b_Rules_keepsPlant 66 = .ok (.iconst 0, 1) := by decide +kernel
theorem d_Rules_keepsPlant_67 : decode b_Rules_keepsPlant 67 = .ok (.ireturn, 1) := by decide +kernel
theorem d_Rules_keepsClosed_0 : decode b_Rules_keepsClosed 0 = .ok (.iconst 0, 1) := by decide +kernel
theorem d_Rules_keepsClosed_1 : decode b_Rules_keepsClosed 1 = .ok (.istore_n 3, 1) := by decide +kernel
theorem d_Rules_keepsClosed_2 : decode b_Rules_keepsClosed 2 = .ok (.iload_n 3, 1) := by decide +kernel
theorem d_Rules_keepsClosed_3 : decode b_Rules_keepsClosed 3 = .ok (.aload_n 0, 1) := by decide +kernel
theorem d_Rules_keepsClosed_4 : decode b_Rules_keepsClosed 4 = .ok (.getfield 24, 3) := by decide +kernel
theorem d_Rules_keepsClosed_7 : decode b_Rules_keepsClosed 7 = .ok (.getfield 41, 3) := by decide +kernel
theorem d_Rules_keepsClosed_10 : decode b_Rules_keepsClosed 10 = .ok (.if_icmp .ge 46, 3) := by decide +kernel
theorem d_Rules_keepsClosed_13 : decode b_Rules_keepsClosed 13 = .ok (.aload_n 1, 1) := by decide +kernel
theorem d_Rules_keepsClosed_14 : decode b_Rules_keepsClosed 14 = .ok (.iload_n 3, 1) := by decide +kernel
theorem d_Rules_keepsClosed_15 : decode b_Rules_keepsClosed 15 = .ok (.iaload, 1) := by decide +kernel
theorem d_Rules_keepsClosed_16 : decode b_Rules_keepsClosed 16 = .ok (.iload_n 2, 1) := by decide +kernel
theorem d_Rules_keepsClosed_17 : decode b_Rules_keepsClosed 17 = .ok (.if_icmp .ne 33, 3) := by decide +kernel
theorem d_Rules_keepsClosed_20 : decode b_Rules_keepsClosed 20 = .ok (.aload_n 0, 1) := by decide +kernel
theorem d_Rules_keepsClosed_21 : decode b_Rules_keepsClosed 21 = .ok (.getfield 24, 3) := by decide +kernel
theorem d_Rules_keepsClosed_24 : decode b_Rules_keepsClosed 24 = .ok (.getfield 59, 3) := by decide +kernel
theorem d_Rules_keepsClosed_27 : decode b_Rules_keepsClosed 27 = .ok (.aload_n 0, 1) := by decide +kernel
theorem d_Rules_keepsClosed_28 : decode b_Rules_keepsClosed 28 = .ok (.getfield 24, 3) := by decide +kernel
theorem d_Rules_keepsClosed_31 : decode b_Rules_keepsClosed 31 = .ok (.getfield 47, 3) := by decide +kernel
theorem d_Rules_keepsClosed_34 : decode b_Rules_keepsClosed 34 = .ok (.iload_n 3, 1) := by decide +kernel
theorem d_Rules_keepsClosed_35 : decode b_Rules_keepsClosed 35 = .ok (.aaload, 1) := by decide +kernel
theorem d_Rules_keepsClosed_36 : decode b_Rules_keepsClosed 36 = .ok (.getfield 63, 3) := by decide +kernel
theorem d_Rules_keepsClosed_39 : decode b_Rules_keepsClosed 39 = .ok (.aaload, 1) := by decide +kernel
theorem d_Rules_keepsClosed_40 : decode b_Rules_keepsClosed 40 = .ok (.getfield 66, 3) := by decide +kernel
theorem d_Rules_keepsClosed_43 : decode b_Rules_keepsClosed 43 = .ok (.iload_n 2, 1) := by decide +kernel
theorem d_Rules_keepsClosed_44 : decode b_Rules_keepsClosed 44 = .ok (.baload, 1) := by decide +kernel
theorem d_Rules_keepsClosed_45 : decode b_Rules_keepsClosed 45 = .ok (.ifCond .eq 5, 3) := by decide +kernel
theorem d_Rules_keepsClosed_48 : decode b_Rules_keepsClosed 48 = .ok (.iconst 0, 1) := by decide +kernel
theorem d_Rules_keepsClosed_49 : decode b_Rules_keepsClosed 49 = .ok (.ireturn, 1) := by decide +kernel
theorem d_Rules_keepsClosed_50 : decode b_Rules_keepsClosed 50 = .ok (.iinc 3 1, 3) := by decide +kernel
theorem d_Rules_keepsClosed_53 : decode b_Rules_keepsClosed 53 = .ok (.goto (-51), 3) := by decide +kernel
theorem d_Rules_keepsClosed_56 : decode b_Rules_keepsClosed 56 = .ok (.iconst 1, 1) := by decide +kernel
theorem d_Rules_keepsClosed_57 : decode b_Rules_keepsClosed 57 = .ok (.ireturn, 1) := by decide +kernel
theorem d_Rules_keepsHeld_0 : decode b_Rules_keepsHeld 0 = .ok (.aload_n 0, 1) := by decide +kernel
theorem d_Rules_keepsHeld_1 : decode b_Rules_keepsHeld 1 = .ok (.getfield 21, 3) := by decide +kernel
theorem d_Rules_keepsHeld_4 : decode b_Rules_keepsHeld 4 = .ok (.iconst 0, 1) := by decide +kernel
theorem d_Rules_keepsHeld_5 : decode b_Rules_keepsHeld 5 = .ok (.invokestatic 72, 3) := by decide +kernel
theorem d_Rules_keepsHeld_8 : decode b_Rules_keepsHeld 8 = .ok (.iconst 0, 1) := by decide +kernel
theorem d_Rules_keepsHeld_9 : decode b_Rules_keepsHeld 9 = .ok (.istore_n 3, 1) := by decide +kernel
theorem d_Rules_keepsHeld_10 : decode b_Rules_keepsHeld 10 = .ok (.iload_n 3, 1) := by decide +kernel
theorem d_Rules_keepsHeld_11 : decode b_Rules_keepsHeld 11 = .ok (.aload_n 0, 1) := by decide +kernel
theorem d_Rules_keepsHeld_12 : decode b_Rules_keepsHeld 12 = .ok (.getfield 24, 3) := by decide +kernel
theorem d_Rules_keepsHeld_15 : decode b_Rules_keepsHeld 15 = .ok (.getfield 41, 3) := by decide +kernel
theorem d_Rules_keepsHeld_18 : decode b_Rules_keepsHeld 18 = .ok (.if_icmp .ge 57, 3) := by decide +kernel
theorem d_Rules_keepsHeld_21 : decode b_Rules_keepsHeld 21 = .ok (.aload_n 1, 1) := by decide +kernel
theorem d_Rules_keepsHeld_22 : decode b_Rules_keepsHeld 22 = .ok (.iload_n 3, 1) := by decide +kernel
theorem d_Rules_keepsHeld_23 : decode b_Rules_keepsHeld 23 = .ok (.iaload, 1) := by decide +kernel
theorem d_Rules_keepsHeld_24 : decode b_Rules_keepsHeld 24 = .ok (.iconst (-1), 1) := by decide +kernel
theorem d_Rules_keepsHeld_25 : decode b_Rules_keepsHeld 25 = .ok (.if_icmp .eq 10, 3) := by decide +kernel
theorem d_Rules_keepsHeld_28 : decode b_Rules_keepsHeld 28 = .ok (.aload_n 1, 1) := by decide +kernel
theorem d_Rules_keepsHeld_29 : decode b_Rules_keepsHeld 29 = .ok (.iload_n 3, 1) := by decide +kernel
theorem d_Rules_keepsHeld_30 : decode b_Rules_keepsHeld 30 = .ok (.iaload, 1) := by decide +kernel
theorem d_Rules_keepsHeld_31 : decode b_Rules_keepsHeld 31 = .ok (.iload_n 2, 1) := by decide +kernel
theorem d_Rules_keepsHeld_32 : decode b_Rules_keepsHeld 32 = .ok (.if_icmp .lt 37, 3) := by decide +kernel
theorem d_Rules_keepsHeld_35 : decode b_Rules_keepsHeld 35 = .ok (.aload_n 0, 1) := by decide +kernel
theorem d_Rules_keepsHeld_36 : decode b_Rules_keepsHeld 36 = .ok (.getfield 21, 3) := by decide +kernel
theorem d_Rules_keepsHeld_39 : decode b_Rules_keepsHeld 39 = .ok (.aload_n 0, 1) := by decide +kernel
theorem d_Rules_keepsHeld_40 : decode b_Rules_keepsHeld 40 = .ok (.getfield 24, 3) := by decide +kernel
theorem d_Rules_keepsHeld_43 : decode b_Rules_keepsHeld 43 = .ok (.getfield 47, 3) := by decide +kernel
theorem d_Rules_keepsHeld_46 : decode b_Rules_keepsHeld 46 = .ok (.iload_n 3, 1) := by decide +kernel
theorem d_Rules_keepsHeld_47 : decode b_Rules_keepsHeld 47 = .ok (.aaload, 1) := by decide +kernel
theorem d_Rules_keepsHeld_48 : decode b_Rules_keepsHeld 48 = .ok (.getfield 63, 3) := by decide +kernel
theorem d_Rules_keepsHeld_51 : decode b_Rules_keepsHeld 51 = .ok (.dup2, 1) := by decide +kernel
theorem d_Rules_keepsHeld_52 : decode b_Rules_keepsHeld 52 = .ok (.iaload, 1) := by decide +kernel
theorem d_Rules_keepsHeld_53 : decode b_Rules_keepsHeld 53 = .ok (.aload_n 0, 1) := by decide +kernel
theorem d_Rules_keepsHeld_54 : decode b_Rules_keepsHeld 54 = .ok (.getfield 24, 3) := by decide +kernel
theorem d_Rules_keepsHeld_57 : decode b_Rules_keepsHeld 57 = .ok (.getfield 47, 3) := by decide +kernel
theorem d_Rules_keepsHeld_60 : decode b_Rules_keepsHeld 60 = .ok (.iload_n 3, 1) := by decide +kernel
theorem d_Rules_keepsHeld_61 : decode b_Rules_keepsHeld 61 = .ok (.aaload, 1) := by decide +kernel
theorem d_Rules_keepsHeld_62 : decode b_Rules_keepsHeld 62 = .ok (.getfield 51, 3) := by decide +kernel
theorem d_Rules_keepsHeld_65 : decode b_Rules_keepsHeld 65 = .ok (.iload_n 2, 1) := by decide +kernel
theorem d_Rules_keepsHeld_66 : decode b_Rules_keepsHeld 66 = .ok (.iaload, 1) := by decide +kernel
theorem d_Rules_keepsHeld_67 : decode b_Rules_keepsHeld 67 = .ok (.iadd, 1) := by decide +kernel
theorem d_Rules_keepsHeld_68 : decode b_Rules_keepsHeld 68 = .ok (.iastore, 1) := by decide +kernel
theorem d_Rules_keepsHeld_69 : decode b_Rules_keepsHeld 69 = .ok (.iinc 3 1, 3) := by decide +kernel
theorem d_Rules_keepsHeld_72 : decode b_Rules_keepsHeld 72 = .ok (.goto (-62), 3) := by decide +kernel
theorem d_Rules_keepsHeld_75 : decode b_Rules_keepsHeld 75 = .ok (.iconst 0, 1) := by decide +kernel
theorem d_Rules_keepsHeld_76 : decode b_Rules_keepsHeld 76 = .ok (.istore_n 3, 1) := by decide +kernel
theorem d_Rules_keepsHeld_77 : decode b_Rules_keepsHeld 77 = .ok (.iload_n 3, 1) := by decide +kernel
theorem d_Rules_keepsHeld_78 : decode b_Rules_keepsHeld 78 = .ok (.aload_n 0, 1) := by decide +kernel
theorem d_Rules_keepsHeld_79 : decode b_Rules_keepsHeld 79 = .ok (.getfield 24, 3) := by decide +kernel
theorem d_Rules_keepsHeld_82 : decode b_Rules_keepsHeld 82 = .ok (.getfield 78, 3) := by decide +kernel
theorem d_Rules_keepsHeld_85 : decode b_Rules_keepsHeld 85 = .ok (.if_icmp .ge 32, 3) := by decide +kernel
theorem d_Rules_keepsHeld_88 : decode b_Rules_keepsHeld 88 = .ok (.aload_n 0, 1) := by decide +kernel
theorem d_Rules_keepsHeld_89 : decode b_Rules_keepsHeld 89 = .ok (.getfield 21, 3) := by decide +kernel
theorem d_Rules_keepsHeld_92 : decode b_Rules_keepsHeld 92 = .ok (.iload_n 3, 1) := by decide +kernel
theorem d_Rules_keepsHeld_93 : decode b_Rules_keepsHeld 93 = .ok (.iaload, 1) := by decide +kernel
theorem d_Rules_keepsHeld_94 : decode b_Rules_keepsHeld 94 = .ok (.aload_n 0, 1) := by decide +kernel
theorem d_Rules_keepsHeld_95 : decode b_Rules_keepsHeld 95 = .ok (.getfield 24, 3) := by decide +kernel
theorem d_Rules_keepsHeld_98 : decode b_Rules_keepsHeld 98 = .ok (.getfield 59, 3) := by decide +kernel
theorem d_Rules_keepsHeld_101 : decode b_Rules_keepsHeld 101 = .ok (.iload_n 3, 1) := by decide +kernel
theorem d_Rules_keepsHeld_102 : decode b_Rules_keepsHeld 102 = .ok (.aaload, 1) := by decide +kernel
theorem d_Rules_keepsHeld_103 : decode b_Rules_keepsHeld 103 = .ok (.getfield 81, 3) := by decide +kernel
theorem d_Rules_keepsHeld_106 : decode b_Rules_keepsHeld 106 = .ok (.if_icmp .le 5, 3) := by decide +kernel
theorem d_Rules_keepsHeld_109 : decode b_Rules_keepsHeld 109 = .ok (.iconst 0, 1) := by decide +kernel
theorem d_Rules_keepsHeld_110 : decode b_Rules_keepsHeld 110 = .ok (.ireturn, 1) := by decide +kernel
theorem d_Rules_keepsHeld_111 : decode b_Rules_keepsHeld 111 = .ok (.iinc 3 1, 3) := by decide +kernel
theorem d_Rules_keepsHeld_114 : decode b_Rules_keepsHeld 114 = .ok (.goto (-37), 3) := by decide +kernel
theorem d_Rules_keepsHeld_117 : decode b_Rules_keepsHeld 117 = .ok (.iconst 1, 1) := by decide +kernel
theorem d_Rules_keepsHeld_118 : decode b_Rules_keepsHeld 118 = .ok (.ireturn, 1) := by decide +kernel
theorem d_Rules_keepsAllHeld_0 : decode b_Rules_keepsAllHeld 0 = .ok (.iconst 0, 1) := by decide +kernel
theorem d_Rules_keepsAllHeld_1 : decode b_Rules_keepsAllHeld 1 = .ok (.istore_n 2, 1) := by decide +kernel
theorem d_Rules_keepsAllHeld_2 : decode b_Rules_keepsAllHeld 2 = .ok (.iload_n 2, 1) := by decide +kernel
theorem d_Rules_keepsAllHeld_3 : decode b_Rules_keepsAllHeld 3 = .ok (.aload_n 0, 1) := by decide +kernel
theorem d_Rules_keepsAllHeld_4 : decode b_Rules_keepsAllHeld 4 = .ok (.getfield 24, 3) := by decide +kernel
theorem d_Rules_keepsAllHeld_7 : decode b_Rules_keepsAllHeld 7 = .ok (.getfield 84, 3) := by decide +kernel
theorem d_Rules_keepsAllHeld_10 : decode b_Rules_keepsAllHeld 10 = .ok (.if_icmp .ge 20, 3) := by decide +kernel
theorem d_Rules_keepsAllHeld_13 : decode b_Rules_keepsAllHeld 13 = .ok (.aload_n 0, 1) := by decide +kernel
theorem d_Rules_keepsAllHeld_14 : decode b_Rules_keepsAllHeld 14 = .ok (.aload_n 1, 1) := by decide +kernel
theorem d_Rules_keepsAllHeld_15 : decode b_Rules_keepsAllHeld 15 = .ok (.iload_n 2, 1) := by decide +kernel
theorem d_Rules_keepsAllHeld_16 : decode b_Rules_keepsAllHeld 16 = .ok (.invokevirtual 38, 3) := by decide +kernel
theorem d_Rules_keepsAllHeld_19 : decode b_Rules_keepsAllHeld 19 = .ok (.ifCond .ne 5, 3) := by decide +kernel
theorem d_Rules_keepsAllHeld_22 : decode b_Rules_keepsAllHeld 22 = .ok (.iconst 0, 1) := by decide +kernel
theorem d_Rules_keepsAllHeld_23 : decode b_Rules_keepsAllHeld 23 = .ok (.ireturn, 1) := by decide +kernel
theorem d_Rules_keepsAllHeld_24 : decode b_Rules_keepsAllHeld 24 = .ok (.iinc 2 1, 3) := by decide +kernel
theorem d_Rules_keepsAllHeld_27 : decode b_Rules_keepsAllHeld 27 = .ok (.goto (-25), 3) := by decide +kernel
theorem d_Rules_keepsAllHeld_30 : decode b_Rules_keepsAllHeld 30 = .ok (.iconst 1, 1) := by decide +kernel
theorem d_Rules_keepsAllHeld_31 : decode b_Rules_keepsAllHeld 31 = .ok (.ireturn, 1) := by decide +kernel
theorem d_Rules_keepsBoats_0 : decode b_Rules_keepsBoats 0 = .ok (.aload_n 0, 1) := by decide +kernel
theorem d_Rules_keepsBoats_1 : decode b_Rules_keepsBoats 1 = .ok (.aload_n 1, 1) := by decide +kernel
theorem d_Rules_keepsBoats_2 : decode b_Rules_keepsBoats 2 = .ok (.iload_n 2, 1) := by decide +kernel
theorem d_Rules_keepsBoats_3 : decode b_Rules_keepsBoats 3 = .ok (.invokevirtual 87, 3) := by decide +kernel
theorem d_Rules_keepsBoats_6 : decode b_Rules_keepsBoats 6 = .ok (.istore_n 3, 1) := by decide +kernel
theorem d_Rules_keepsBoats_7 : decode b_Rules_keepsBoats 7 = .ok (.iload_n 3, 1) := by decide +kernel
theorem d_Rules_keepsBoats_8 : decode b_Rules_keepsBoats 8 = .ok (.ifCond .ne 5, 3) := by decide +kernel
theorem d_Rules_keepsBoats_11 : decode b_Rules_keepsBoats 11 = .ok (.iconst 1, 1) := by decide +kernel
theorem d_Rules_keepsBoats_12 : decode b_Rules_keepsBoats 12 = .ok (.ireturn, 1) := by decide +kernel
theorem d_Rules_keepsBoats_13 : decode b_Rules_keepsBoats 13 = .ok (.aload_n 0, 1) := by decide +kernel
theorem d_Rules_keepsBoats_14 : decode b_Rules_keepsBoats 14 = .ok (.iload_n 2, 1) := by decide +kernel
theorem d_Rules_keepsBoats_15 : decode b_Rules_keepsBoats 15 = .ok (.invokevirtual 91, 3) := by decide +kernel
theorem d_Rules_keepsBoats_18 : decode b_Rules_keepsBoats 18 = .ok (.istore 4, 2) := by decide +kernel
theorem d_Rules_keepsBoats_20 : decode b_Rules_keepsBoats 20 = .ok (.iload_n 3, 1) := by decide +kernel
theorem d_Rules_keepsBoats_21 : decode b_Rules_keepsBoats 21 = .ok (.iload 4, 2) := by decide +kernel
theorem d_Rules_keepsBoats_23 : decode b_Rules_keepsBoats 23 = .ok (.if_icmp .le 5, 3) := by decide +kernel
theorem d_Rules_keepsBoats_26 : decode b_Rules_keepsBoats 26 = .ok (.iconst 0, 1) := by decide +kernel
theorem d_Rules_keepsBoats_27 : decode b_Rules_keepsBoats 27 = .ok (.ireturn, 1) := by decide +kernel
theorem d_Rules_keepsBoats_28 : decode b_Rules_keepsBoats 28 = .ok (.iconst 1, 1) := by decide +kernel
theorem d_Rules_keepsBoats_29 : decode b_Rules_keepsBoats 29 = .ok (.istore 5, 2) := by decide +kernel
theorem d_Rules_keepsBoats_31 : decode b_Rules_keepsBoats 31 = .ok (.iconst 0, 1) := by decide +kernel
theorem d_Rules_keepsBoats_32 : decode b_Rules_keepsBoats 32 = .ok (.istore 6, 2) := by decide +kernel
theorem d_Rules_keepsBoats_34 : decode b_Rules_keepsBoats 34 = .ok (.iload 6, 2) := by decide +kernel
theorem d_Rules_keepsBoats_36 : decode b_Rules_keepsBoats 36 = .ok (.iload 4, 2) := by decide +kernel
theorem d_Rules_keepsBoats_38 : decode b_Rules_keepsBoats 38 = .ok (.if_icmp .ge 15, 3) := by decide +kernel
theorem d_Rules_keepsBoats_41 : decode b_Rules_keepsBoats 41 = .ok (.iload 5, 2) := by decide +kernel
theorem d_Rules_keepsBoats_43 : decode b_Rules_keepsBoats 43 = .ok (.iload_n 3, 1) := by decide +kernel
theorem d_Rules_keepsBoats_44 : decode b_Rules_keepsBoats 44 = .ok (.imul, 1) := by decide +kernel
theorem d_Rules_keepsBoats_45 : decode b_Rules_keepsBoats 45 = .ok (.istore 5, 2) := by decide +kernel
theorem d_Rules_keepsBoats_47 : decode b_Rules_keepsBoats 47 = .ok (.iinc 6 1, 3) := by decide +kernel
theorem d_Rules_keepsBoats_50 : decode b_Rules_keepsBoats 50 = .ok (.goto (-16), 3) := by decide +kernel
theorem d_Rules_keepsBoats_53 : decode b_Rules_keepsBoats 53 = .ok (.iconst 0, 1) := by decide +kernel
theorem d_Rules_keepsBoats_54 : decode b_Rules_keepsBoats 54 = .ok (.istore 6, 2) := by decide +kernel
theorem d_Rules_keepsBoats_56 : decode b_Rules_keepsBoats 56 = .ok (.iload 6, 2) := by decide +kernel
theorem d_Rules_keepsBoats_58 : decode b_Rules_keepsBoats 58 = .ok (.iload 5, 2) := by decide +kernel
theorem d_Rules_keepsBoats_60 : decode b_Rules_keepsBoats 60 = .ok (.if_icmp .ge 23, 3) := by decide +kernel
theorem d_Rules_keepsBoats_63 : decode b_Rules_keepsBoats 63 = .ok (.aload_n 0, 1) := by decide +kernel
theorem d_Rules_keepsBoats_64 : decode b_Rules_keepsBoats 64 = .ok (.iload 6, 2) := by decide +kernel
theorem d_Rules_keepsBoats_66 : decode b_Rules_keepsBoats 66 = .ok (.iload_n 3, 1) := by decide +kernel
theorem d_Rules_keepsBoats_67 : decode b_Rules_keepsBoats 67 = .ok (.iload 4, 2) := by decide +kernel
theorem d_Rules_keepsBoats_69 : decode b_Rules_keepsBoats 69 = .ok (.invokevirtual 95, 3) := by decide +kernel
theorem d_Rules_keepsBoats_72 : decode b_Rules_keepsBoats 72 = .ok (.ifCond .eq 5, 3) := by decide +kernel
theorem d_Rules_keepsBoats_75 : decode b_Rules_keepsBoats 75 = .ok (.iconst 1, 1) := by decide +kernel
theorem d_Rules_keepsBoats_76 : decode b_Rules_keepsBoats 76 = .ok (.ireturn, 1) := by decide +kernel
theorem d_Rules_keepsBoats_77 : decode b_Rules_keepsBoats 77 = .ok (.iinc 6 1, 3) := by decide +kernel
theorem d_Rules_keepsBoats_80 : decode b_Rules_keepsBoats 80 = .ok (.goto (-24), 3) := by decide +kernel
theorem d_Rules_keepsBoats_83 : decode b_Rules_keepsBoats 83 = .ok (.iconst 0, 1) := by decide +kernel
theorem d_Rules_keepsBoats_84 : decode b_Rules_keepsBoats 84 = .ok (.ireturn, 1) := by decide +kernel
theorem d_Rules_gatherNeeds_0 : decode b_Rules_gatherNeeds 0 = .ok (.iconst 0, 1) := by decide +kernel
theorem d_Rules_gatherNeeds_1 : decode b_Rules_gatherNeeds 1 = .ok (.istore_n 3, 1) := by decide +kernel
theorem d_Rules_gatherNeeds_2 : decode b_Rules_gatherNeeds 2 = .ok (.iconst 0, 1) := by decide +kernel
theorem d_Rules_gatherNeeds_3 : decode b_Rules_gatherNeeds 3 = .ok (.istore 4, 2) := by decide +kernel
theorem d_Rules_gatherNeeds_5 : decode b_Rules_gatherNeeds 5 = .ok (.iload 4, 2) := by decide +kernel
theorem d_Rules_gatherNeeds_7 : decode b_Rules_gatherNeeds 7 = .ok (.aload_n 0, 1) := by decide +kernel
theorem d_Rules_gatherNeeds_8 : decode b_Rules_gatherNeeds 8 = .ok (.getfield 24, 3) := by decide +kernel
theorem d_Rules_gatherNeeds_11 : decode b_Rules_gatherNeeds 11 = .ok (.getfield 41, 3) := by decide +kernel
theorem d_Rules_gatherNeeds_14 : decode b_Rules_gatherNeeds 14 = .ok (.if_icmp .ge 59, 3) := by decide +kernel
theorem d_Rules_gatherNeeds_17 : decode b_Rules_gatherNeeds 17 = .ok (.aload_n 1, 1) := by decide +kernel
theorem d_Rules_gatherNeeds_18 : decode b_Rules_gatherNeeds 18 = .ok (.iload 4, 2) := by decide +kernel
theorem d_Rules_gatherNeeds_20 : decode b_Rules_gatherNeeds 20 = .ok (.iaload, 1) := by decide +kernel
theorem d_Rules_gatherNeeds_21 : decode b_Rules_gatherNeeds 21 = .ok (.iload_n 2, 1) := by decide +kernel
theorem d_Rules_gatherNeeds_22 : decode b_Rules_gatherNeeds 22 = .ok (.if_icmp .ne 45, 3) := by decide +kernel
theorem d_Rules_gatherNeeds_25 : decode b_Rules_gatherNeeds 25 = .ok (.aload_n 0, 1) := by decide +kernel
theorem d_Rules_gatherNeeds_26 : decode b_Rules_gatherNeeds 26 = .ok (.getfield 24, 3) := by decide +kernel
theorem d_Rules_gatherNeeds_29 : decode b_Rules_gatherNeeds 29 = .ok (.getfield 47, 3) := by decide +kernel
theorem d_Rules_gatherNeeds_32 : decode b_Rules_gatherNeeds 32 = .ok (.iload 4, 2) := by decide +kernel
theorem d_Rules_gatherNeeds_34 : decode b_Rules_gatherNeeds 34 = .ok (.aaload, 1) := by decide +kernel
theorem d_Rules_gatherNeeds_35 : decode b_Rules_gatherNeeds 35 = .ok (.getfield 51, 3) := by decide +kernel
theorem d_Rules_gatherNeeds_38 : decode b_Rules_gatherNeeds 38 = .ok (.iload_n 2, 1) := by decide +kernel
theorem d_Rules_gatherNeeds_39 : decode b_Rules_gatherNeeds 39 = .ok (.iaload, 1) := by decide +kernel
theorem d_Rules_gatherNeeds_40 : decode b_Rules_gatherNeeds 40 = .ok (.ifCond .le 27, 3) := by decide +kernel
theorem d_Rules_gatherNeeds_43 : decode b_Rules_gatherNeeds 43 = .ok (.aload_n 0, 1) := by decide +kernel
theorem d_Rules_gatherNeeds_44 : decode b_Rules_gatherNeeds 44 = .ok (.getfield 9, 3) := by decide +kernel
theorem d_Rules_gatherNeeds_47 : decode b_Rules_gatherNeeds 47 = .ok (.iload_n 3, 1) := by decide +kernel
theorem d_Rules_gatherNeeds_48 : decode b_Rules_gatherNeeds 48 = .ok (.aload_n 0, 1) := by decide +kernel
theorem d_Rules_gatherNeeds_49 : decode b_Rules_gatherNeeds 49 = .ok (.getfield 24, 3) := by decide +kernel
theorem d_Rules_gatherNeeds_52 : decode b_Rules_gatherNeeds 52 = .ok (.getfield 47, 3) := by decide +kernel
theorem d_Rules_gatherNeeds_55 : decode b_Rules_gatherNeeds 55 = .ok (.iload 4, 2) := by decide +kernel
theorem d_Rules_gatherNeeds_57 : decode b_Rules_gatherNeeds 57 = .ok (.aaload, 1) := by decide +kernel
theorem d_Rules_gatherNeeds_58 : decode b_Rules_gatherNeeds 58 = .ok (.getfield 51, 3) := by decide +kernel
theorem d_Rules_gatherNeeds_61 : decode b_Rules_gatherNeeds 61 = .ok (.iload_n 2, 1) := by decide +kernel
theorem d_Rules_gatherNeeds_62 : decode b_Rules_gatherNeeds 62 = .ok (.iaload, 1) := by decide +kernel
theorem d_Rules_gatherNeeds_63 : decode b_Rules_gatherNeeds 63 = .ok (.iastore, 1) := by decide +kernel
theorem d_Rules_gatherNeeds_64 : decode b_Rules_gatherNeeds 64 = .ok (.iinc 3 1, 3) := by decide +kernel
theorem d_Rules_gatherNeeds_67 : decode b_Rules_gatherNeeds 67 = .ok (.iinc 4 1, 3) := by decide +kernel
theorem d_Rules_gatherNeeds_70 : decode b_Rules_gatherNeeds 70 = .ok (.goto (-65), 3) := by decide +kernel
theorem d_Rules_gatherNeeds_73 : decode b_Rules_gatherNeeds 73 = .ok (.iload_n 3, 1) := by decide +kernel
theorem d_Rules_gatherNeeds_74 : decode b_Rules_gatherNeeds 74 = .ok (.ireturn, 1) := by decide +kernel
theorem d_Rules_gatherLoads_0 : decode b_Rules_gatherLoads 0 = .ok (.iconst 0, 1) := by decide +kernel
theorem d_Rules_gatherLoads_1 : decode b_Rules_gatherLoads 1 = .ok (.istore_n 2, 1) := by decide +kernel
theorem d_Rules_gatherLoads_2 : decode b_Rules_gatherLoads 2 = .ok (.iconst 0, 1) := by decide +kernel
theorem d_Rules_gatherLoads_3 : decode b_Rules_gatherLoads 3 = .ok (.istore_n 3, 1) := by decide +kernel
theorem d_Rules_gatherLoads_4 : decode b_Rules_gatherLoads 4 = .ok (.iload_n 3, 1) := by decide +kernel
theorem d_Rules_gatherLoads_5 : decode b_Rules_gatherLoads 5 = .ok (.aload_n 0, 1) := by decide +kernel
theorem d_Rules_gatherLoads_6 : decode b_Rules_gatherLoads 6 = .ok (.getfield 24, 3) := by decide +kernel
theorem d_Rules_gatherLoads_9 : decode b_Rules_gatherLoads 9 = .ok (.getfield 99, 3) := by decide +kernel
theorem d_Rules_gatherLoads_12 : decode b_Rules_gatherLoads 12 = .ok (.if_icmp .ge 47, 3) := by decide +kernel
theorem d_Rules_gatherLoads_15 : decode b_Rules_gatherLoads 15 = .ok (.aload_n 0, 1) := by decide +kernel
theorem d_Rules_gatherLoads_16 : decode b_Rules_gatherLoads 16 = .ok (.getfield 24, 3) := by decide +kernel
theorem d_Rules_gatherLoads_19 : decode b_Rules_gatherLoads 19 = .ok (.getfield 102, 3) := by decide +kernel
theorem d_Rules_gatherLoads_22 : decode b_Rules_gatherLoads 22 = .ok (.iload_n 3, 1) := by decide +kernel
theorem d_Rules_gatherLoads_23 : decode b_Rules_gatherLoads 23 = .ok (.aaload, 1) := by decide +kernel
theorem d_Rules_gatherLoads_24 : decode b_Rules_gatherLoads 24 = .ok (.getfield 106, 3) := by decide +kernel
theorem d_Rules_gatherLoads_27 : decode b_Rules_gatherLoads 27 = .ok (.iload_n 1, 1) := by decide +kernel
theorem d_Rules_gatherLoads_28 : decode b_Rules_gatherLoads 28 = .ok (.baload, 1) := by decide +kernel
theorem d_Rules_gatherLoads_29 : decode b_Rules_gatherLoads 29 = .ok (.ifCond .ne 24, 3) := by decide +kernel
theorem d_Rules_gatherLoads_32 : decode b_Rules_gatherLoads 32 = .ok (.aload_n 0, 1) := by decide +kernel
theorem d_Rules_gatherLoads_33 : decode b_Rules_gatherLoads 33 = .ok (.getfield 15, 3) := by decide +kernel
theorem d_Rules_gatherLoads_36 : decode b_Rules_gatherLoads 36 = .ok (.iload_n 2, 1) := by decide +kernel
theorem d_Rules_gatherLoads_37 : decode b_Rules_gatherLoads 37 = .ok (.aload_n 0, 1) := by decide +kernel
theorem d_Rules_gatherLoads_38 : decode b_Rules_gatherLoads 38 = .ok (.getfield 24, 3) := by decide +kernel
theorem d_Rules_gatherLoads_41 : decode b_Rules_gatherLoads 41 = .ok (.getfield 102, 3) := by decide +kernel
theorem d_Rules_gatherLoads_44 : decode b_Rules_gatherLoads 44 = .ok (.iload_n 3, 1) := by decide +kernel
theorem d_Rules_gatherLoads_45 : decode b_Rules_gatherLoads 45 = .ok (.aaload, 1) := by decide +kernel
theorem d_Rules_gatherLoads_46 : decode b_Rules_gatherLoads 46 = .ok (.getfield 111, 3) := by decide +kernel
theorem d_Rules_gatherLoads_49 : decode b_Rules_gatherLoads 49 = .ok (.iastore, 1) := by decide +kernel
theorem d_Rules_gatherLoads_50 : decode b_Rules_gatherLoads 50 = .ok (.iinc 2 1, 3) := by decide +kernel
theorem d_Rules_gatherLoads_53 : decode b_Rules_gatherLoads 53 = .ok (.iinc 3 1, 3) := by decide +kernel
theorem d_Rules_gatherLoads_56 : decode b_Rules_gatherLoads 56 = .ok (.goto (-52), 3) := by decide +kernel
theorem d_Rules_gatherLoads_59 : decode b_Rules_gatherLoads 59 = .ok (.iload_n 2, 1) := by decide +kernel
theorem d_Rules_gatherLoads_60 : decode b_Rules_gatherLoads 60 = .ok (.ireturn, 1) := by decide +kernel
theorem d_Rules_carriesAll_0 : decode b_Rules_carriesAll 0 = .ok (.aload_n 0, 1) := by decide +kernel
theorem d_Rules_carriesAll_1 : decode b_Rules_carriesAll 1 = .ok (.getfield 9, 3) := by decide +kernel
theorem d_Rules_carriesAll_4 : decode b_Rules_carriesAll 4 = .ok (.iconst 0, 1) := by decide +kernel
theorem d_Rules_carriesAll_5 : decode b_Rules_carriesAll 5 = .ok (.aload_n 0, 1) := by decide +kernel
theorem d_Rules_carriesAll_6 : decode b_Rules_carriesAll 6 = .ok (.getfield 18, 3) := by decide +kernel
theorem d_Rules_carriesAll_9 : decode b_Rules_carriesAll 9 = .ok (.iconst 0, 1) := by decide +kernel
theorem d_Rules_carriesAll_10 : decode b_Rules_carriesAll 10 = .ok (.iload_n 2, 1) := by decide +kernel
theorem d_Rules_carriesAll_11 : decode b_Rules_carriesAll 11 = .ok (.invokestatic 114, 3) := by decide +kernel
theorem d_Rules_carriesAll_14 : decode b_Rules_carriesAll 14 = .ok (.iload_n 1, 1) := by decide +kernel
theorem d_Rules_carriesAll_15 : decode b_Rules_carriesAll 15 = .ok (.istore 4, 2) := by decide +kernel
theorem d_Rules_carriesAll_17 : decode b_Rules_carriesAll 17 = .ok (.iconst 0, 1) := by decide +kernel
theorem d_Rules_carriesAll_18 : decode b_Rules_carriesAll 18 = .ok (.istore 5, 2) := by decide +kernel
theorem d_Rules_carriesAll_20 : decode b_Rules_carriesAll 20 = .ok (.iload 5, 2) := by decide +kernel
theorem d_Rules_carriesAll_22 : decode b_Rules_carriesAll 22 = .ok (.iload_n 3, 1) := by decide +kernel
theorem d_Rules_carriesAll_23 : decode b_Rules_carriesAll 23 = .ok (.if_icmp .ge 34, 3) := by decide +kernel
theorem d_Rules_carriesAll_26 : decode b_Rules_carriesAll 26 = .ok (.aload_n 0, 1) := by decide +kernel
theorem d_Rules_carriesAll_27 : decode b_Rules_carriesAll 27 = .ok (.getfield 18, 3) := by decide +kernel
theorem d_Rules_carriesAll_30 : decode b_Rules_carriesAll 30 = .ok (.iload 4, 2) := by decide +kernel
theorem d_Rules_carriesAll_32 : decode b_Rules_carriesAll 32 = .ok (.iload_n 2, 1) := by decide +kernel
theorem d_Rules_carriesAll_33 : decode b_Rules_carriesAll 33 = .ok (.irem, 1) := by decide +kernel
theorem d_Rules_carriesAll_34 : decode b_Rules_carriesAll 34 = .ok (.dup2, 1) := by decide +kernel
theorem d_Rules_carriesAll_35 : decode b_Rules_carriesAll 35 = .ok (.iaload, 1) := by decide +kernel
theorem d_Rules_carriesAll_36 : decode b_Rules_carriesAll 36 = .ok (.aload_n 0, 1) := by decide +kernel
theorem d_Rules_carriesAll_37 : decode b_Rules_carriesAll 37 = .ok (.getfield 15, 3) := by decide +kernel
theorem d_Rules_carriesAll_40 : decode b_Rules_carriesAll 40 = .ok (.iload 5, 2) := by decide +kernel
theorem d_Rules_carriesAll_42 : decode b_Rules_carriesAll 42 = .ok (.iaload, 1) := by decide +kernel
theorem d_Rules_carriesAll_43 : decode b_Rules_carriesAll 43 = .ok (.isub, 1) := by decide +kernel
theorem d_Rules_carriesAll_44 : decode b_Rules_carriesAll 44 = .ok (.iastore, 1) := by decide +kernel
theorem d_Rules_carriesAll_45 : decode b_Rules_carriesAll 45 = .ok (.iload 4, 2) := by decide +kernel
theorem d_Rules_carriesAll_47 : decode b_Rules_carriesAll 47 = .ok (.iload_n 2, 1) := by decide +kernel
theorem d_Rules_carriesAll_48 : decode b_Rules_carriesAll 48 = .ok (.idiv, 1) := by decide +kernel
theorem d_Rules_carriesAll_49 : decode b_Rules_carriesAll 49 = .ok (.istore 4, 2) := by decide +kernel
theorem d_Rules_carriesAll_51 : decode b_Rules_carriesAll 51 = .ok (.iinc 5 1, 3) := by decide +kernel
theorem d_Rules_carriesAll_54 : decode b_Rules_carriesAll 54 = .ok (.goto (-34), 3) := by decide +kernel
theorem d_Rules_carriesAll_57 : decode b_Rules_carriesAll 57 = .ok (.iconst 0, 1) := by decide +kernel
theorem d_Rules_carriesAll_58 : decode b_Rules_carriesAll 58 = .ok (.istore 5, 2) := by decide +kernel
theorem d_Rules_carriesAll_60 : decode b_Rules_carriesAll 60 = .ok (.iload 5, 2) := by decide +kernel
theorem d_Rules_carriesAll_62 : decode b_Rules_carriesAll 62 = .ok (.iload_n 2, 1) := by decide +kernel
theorem d_Rules_carriesAll_63 : decode b_Rules_carriesAll 63 = .ok (.if_icmp .ge 21, 3) := by decide +kernel
theorem d_Rules_carriesAll_66 : decode b_Rules_carriesAll 66 = .ok (.aload_n 0, 1) := by decide +kernel
theorem d_Rules_carriesAll_67 : decode b_Rules_carriesAll 67 = .ok (.getfield 18, 3) := by decide +kernel
theorem d_Rules_carriesAll_70 : decode b_Rules_carriesAll 70 = .ok (.iload 5, 2) := by decide +kernel
theorem d_Rules_carriesAll_72 : decode b_Rules_carriesAll 72 = .ok (.iaload, 1) := by decide +kernel
theorem d_Rules_carriesAll_73 : decode b_Rules_carriesAll 73 = .ok (.ifCond .le 5, 3) := by decide +kernel
theorem d_Rules_carriesAll_76 : decode b_Rules_carriesAll 76 = .ok (.iconst 0, 1) := by decide +kernel
theorem d_Rules_carriesAll_77 : decode b_Rules_carriesAll 77 = .ok (.ireturn, 1) := by decide +kernel
theorem d_Rules_carriesAll_78 : decode b_Rules_carriesAll 78 = .ok (.iinc 5 1, 3) := by decide +kernel
theorem d_Rules_carriesAll_81 : decode b_Rules_carriesAll 81 = .ok (.goto (-21), 3) := by decide +kernel
theorem d_Rules_carriesAll_84 : decode b_Rules_carriesAll 84 = .ok (.iconst 1, 1) := by decide +kernel
theorem d_Rules_carriesAll_85 : decode b_Rules_carriesAll 85 = .ok (.ireturn, 1) := by decide +kernel
theorem d_Sales_init_0 : decode b_Sales_init 0 = .ok (.aload_n 0, 1) := by decide +kernel
theorem d_Sales_init_1 : decode b_Sales_init 1 = .ok (.invokespecial 3, 3) := by decide +kernel
theorem d_Sales_init_4 : decode b_Sales_init 4 = .ok (.aload_n 0, 1) := by decide +kernel
theorem d_Sales_init_5 : decode b_Sales_init 5 = .ok (.bipush 6, 2) := by decide +kernel
theorem d_Sales_init_7 : decode b_Sales_init 7 = .ok (.newarray .int, 2) := by decide +kernel
theorem d_Sales_init_9 : decode b_Sales_init 9 = .ok (.putfield 9, 3) := by decide +kernel
theorem d_Sales_init_12 : decode b_Sales_init 12 = .ok (.aload_n 0, 1) := by decide +kernel
theorem d_Sales_init_13 : decode b_Sales_init 13 = .ok (.bipush 6, 2) := by decide +kernel
theorem d_Sales_init_15 : decode b_Sales_init 15 = .ok (.newarray .int, 2) := by decide +kernel
theorem d_Sales_init_17 : decode b_Sales_init 17 = .ok (.putfield 15, 3) := by decide +kernel
theorem d_Sales_init_20 : decode b_Sales_init 20 = .ok (.aload_n 0, 1) := by decide +kernel
theorem d_Sales_init_21 : decode b_Sales_init 21 = .ok (.aload_n 1, 1) := by decide +kernel
theorem d_Sales_init_22 : decode b_Sales_init 22 = .ok (.putfield 18, 3) := by decide +kernel
theorem d_Sales_init_25 : decode b_Sales_init 25 = .ok (.return_, 1) := by decide +kernel
theorem d_Sales_sellAll_0 : decode b_Sales_sellAll 0 = .ok (.iconst 0, 1) := by decide +kernel
theorem d_Sales_sellAll_1 : decode b_Sales_sellAll 1 = .ok (.istore_n 2, 1) := by decide +kernel
theorem d_Sales_sellAll_2 : decode b_Sales_sellAll 2 = .ok (.iload_n 2, 1) := by decide +kernel
theorem d_Sales_sellAll_3 : decode b_Sales_sellAll 3 = .ok (.aload_n 0, 1) := by decide +kernel
theorem d_Sales_sellAll_4 : decode b_Sales_sellAll 4 = .ok (.getfield 18, 3) := by decide +kernel
theorem d_Sales_sellAll_7 : decode b_Sales_sellAll 7 = .ok (.getfield 22, 3) := by decide +kernel
theorem d_Sales_sellAll_10 : decode b_Sales_sellAll 10 = .ok (.if_icmp .ge 42, 3) := by decide +kernel
theorem d_Sales_sellAll_13 : decode b_Sales_sellAll 13 = .ok (.aload_n 0, 1) := by decide +kernel
theorem d_Sales_sellAll_14 : decode b_Sales_sellAll 14 = .ok (.getfield 9, 3) := by decide +kernel
theorem d_Sales_sellAll_17 : decode b_Sales_sellAll 17 = .ok (.iload_n 2, 1) := by decide +kernel
theorem d_Sales_sellAll_18 : decode b_Sales_sellAll 18 = .ok (.aload_n 1, 1) := by decide +kernel
theorem d_Sales_sellAll_19 : decode b_Sales_sellAll 19 = .ok (.iload_n 2, 1) := by decide +kernel
theorem d_Sales_sellAll_20 : decode b_Sales_sellAll 20 = .ok (.iaload, 1) := by decide +kernel
theorem d_Sales_sellAll_21 : decode b_Sales_sellAll 21 = .ok (.iconst (-1), 1) := by decide +kernel
theorem d_Sales_sellAll_22 : decode b_Sales_sellAll 22 = .ok (.if_icmp .ne 7, 3) := by decide +kernel
theorem d_Sales_sellAll_25 : decode b_Sales_sellAll 25 = .ok (.iconst 0, 1) := by decide +kernel
theorem d_Sales_sellAll_26 : decode b_Sales_sellAll 26 = .ok (.goto 19, 3) := by decide +kernel
theorem d_Sales_sellAll_29 : decode b_Sales_sellAll 29 = .ok (.aload_n 0, 1) := by decide +kernel
theorem d_Sales_sellAll_30 : decode b_Sales_sellAll 30 = .ok (.getfield 18, 3) := by decide +kernel
theorem d_Sales_sellAll_33 : decode b_Sales_sellAll 33 = .ok (.getfield 28, 3) := by decide +kernel
theorem d_Sales_sellAll_36 : decode b_Sales_sellAll 36 = .ok (.iload_n 2, 1) := by decide +kernel
theorem d_Sales_sellAll_37 : decode b_Sales_sellAll 37 = .ok (.aaload, 1) := by decide +kernel
theorem d_Sales_sellAll_38 : decode b_Sales_sellAll 38 = .ok (.getfield 32, 3) := by decide +kernel
theorem d_Sales_sellAll_41 : decode b_Sales_sellAll 41 = .ok (.aload_n 1, 1) := by decide +kernel
theorem d_Sales_sellAll_42 : decode b_Sales_sellAll 42 = .ok (.iload_n 2, 1) := by decide +kernel
theorem d_Sales_sellAll_43 : decode b_Sales_sellAll 43 = .ok (.iaload, 1) := by decide +kernel
theorem d_Sales_sellAll_44 : decode b_Sales_sellAll 44 = .ok (.iaload, 1) := by decide +kernel
theorem d_Sales_sellAll_45 : decode b_Sales_sellAll 45 = .ok (.iastore, 1) := by decide +kernel
theorem d_Sales_sellAll_46 : decode b_Sales_sellAll 46 = .ok (.iinc 2 1, 3) := by decide +kernel
theorem d_Sales_sellAll_49 : decode b_Sales_sellAll 49 = .ok (.goto (-47), 3) := by decide +kernel
theorem d_Sales_sellAll_52 : decode b_Sales_sellAll 52 = .ok (.lconst 0, 1) := by decide +kernel
theorem d_Sales_sellAll_53 : decode b_Sales_sellAll 53 = .ok (.lstore_n 2, 1) := by decide +kernel
theorem d_Sales_sellAll_54 : decode b_Sales_sellAll 54 = .ok (.iconst 0, 1) := by decide +kernel
theorem d_Sales_sellAll_55 : decode b_Sales_sellAll 55 = .ok (.istore 4, 2) := by decide +kernel
theorem d_Sales_sellAll_57 : decode b_Sales_sellAll 57 = .ok (.iload 4, 2) := by decide +kernel
theorem d_Sales_sellAll_59 : decode b_Sales_sellAll 59 = .ok (.aload_n 0, 1) := by decide +kernel
theorem d_Sales_sellAll_60 : decode b_Sales_sellAll 60 = .ok (.getfield 18, 3) := by decide +kernel
theorem d_Sales_sellAll_63 : decode b_Sales_sellAll 63 = .ok (.getfield 37, 3) := by decide +kernel
theorem d_Sales_sellAll_66 : decode b_Sales_sellAll 66 = .ok (.if_icmp .ge 69, 3) := by decide +kernel
theorem d_Sales_sellAll_69 : decode b_Sales_sellAll 69 = .ok (.aload_n 0, 1) := by decide +kernel
theorem d_Sales_sellAll_70 : decode b_Sales_sellAll 70 = .ok (.getfield 18, 3) := by decide +kernel
theorem d_Sales_sellAll_73 : decode b_Sales_sellAll 73 = .ok (.getfield 40, 3) := by decide +kernel
theorem d_Sales_sellAll_76 : decode b_Sales_sellAll 76 = .ok (.iload 4, 2) := by decide +kernel
theorem d_Sales_sellAll_78 : decode b_Sales_sellAll 78 = .ok (.iaload, 1) := by decide +kernel
theorem d_Sales_sellAll_79 : decode b_Sales_sellAll 79 = .ok (.istore 5, 2) := by decide +kernel
theorem d_Sales_sellAll_81 : decode b_Sales_sellAll 81 = .ok (.aload_n 0, 1) := by decide +kernel
theorem d_Sales_sellAll_82 : decode b_Sales_sellAll 82 = .ok (.getfield 15, 3) := by decide +kernel
theorem d_Sales_sellAll_85 : decode b_Sales_sellAll 85 = .ok (.iload 5, 2) := by decide +kernel
theorem d_Sales_sellAll_87 : decode b_Sales_sellAll 87 = .ok (.aload_n 0, 1) := by decide +kernel
theorem d_Sales_sellAll_88 : decode b_Sales_sellAll 88 = .ok (.aload_n 0, 1) := by decide +kernel
theorem d_Sales_sellAll_89 : decode b_Sales_sellAll 89 = .ok (.getfield 18, 3) := by decide +kernel
theorem d_Sales_sellAll_92 : decode b_Sales_sellAll 92 = .ok (.getfield 43, 3) := by decide +kernel
theorem d_Sales_sellAll_95 : decode b_Sales_sellAll 95 = .ok (.iload 5, 2) := by decide +kernel
theorem d_Sales_sellAll_97 : decode b_Sales_sellAll 97 = .ok (.aaload, 1) := by decide +kernel
theorem d_Sales_sellAll_98 : decode b_Sales_sellAll 98 = .ok (.aload_n 1, 1) := by decide +kernel
theorem d_Sales_sellAll_99 : decode b_Sales_sellAll 99 = .ok (.invokevirtual 47, 3) := by decide +kernel
theorem d_Sales_sellAll_102 : decode b_Sales_sellAll 102 = .ok (.iastore, 1) := by decide +kernel
theorem d_Sales_sellAll_103 : decode b_Sales_sellAll 103 = .ok (.lload_n 2, 1) := by decide +kernel
theorem d_Sales_sellAll_104 : decode b_Sales_sellAll 104 = .ok (.aload_n 0, 1) := by decide +kernel
theorem d_Sales_sellAll_105 : decode b_Sales_sellAll 105 = .ok (.getfield 15, 3) := by decide +kernel
theorem d_Sales_sellAll_108 : decode b_Sales_sellAll 108 = .ok (.iload 5, 2) := by decide +kernel
theorem d_Sales_sellAll_110 : decode b_Sales_sellAll 110 = .ok (.iaload, 1) := by decide +kernel
theorem d_Sales_sellAll_111 : decode b_Sales_sellAll 111 = .ok (.i2l, 1) := by decide +kernel
theorem d_Sales_sellAll_112 : decode b_Sales_sellAll 112 = .ok (.aload_n 0, 1) := by decide +kernel
theorem d_Sales_sellAll_113 : decode b_Sales_sellAll 113 = .ok (.getfield 18, 3) := by decide +kernel
theorem d_Sales_sellAll_116 : decode b_Sales_sellAll 116 = .ok (.getfield 43, 3) := by decide +kernel
theorem d_Sales_sellAll_119 : decode b_Sales_sellAll 119 = .ok (.iload 5, 2) := by decide +kernel
theorem d_Sales_sellAll_121 : decode b_Sales_sellAll 121 = .ok (.aaload, 1) := by decide +kernel
theorem d_Sales_sellAll_122 : decode b_Sales_sellAll 122 = .ok (.getfield 51, 3) := by decide +kernel
theorem d_Sales_sellAll_125 : decode b_Sales_sellAll 125 = .ok (.i2l, 1) := by decide +kernel
theorem d_Sales_sellAll_126 : decode b_Sales_sellAll 126 = .ok (.lmul, 1) := by decide +kernel
theorem d_Sales_sellAll_127 : decode b_Sales_sellAll 127 = .ok (.ladd, 1) := by decide +kernel
theorem d_Sales_sellAll_128 : decode b_Sales_sellAll 128 = .ok (.lstore_n 2, 1) := by decide +kernel
theorem d_Sales_sellAll_129 : decode b_Sales_sellAll 129 = .ok (.iinc 4 1, 3) := by decide +kernel
theorem d_Sales_sellAll_132 : decode b_Sales_sellAll 132 = .ok (.goto (-75), 3) := by decide +kernel
theorem d_Sales_sellAll_135 : decode b_Sales_sellAll 135 = .ok (.lload_n 2, 1) := by decide +kernel
theorem d_Sales_sellAll_136 : decode b_Sales_sellAll 136 = .ok (.aload_n 0, 1) := by decide +kernel
theorem d_Sales_sellAll_137 : decode b_Sales_sellAll 137 = .ok (.aload_n 1, 1) := by decide +kernel
theorem d_Sales_sellAll_138 : decode b_Sales_sellAll 138 = .ok (.invokevirtual 56, 3) := by decide +kernel
theorem d_Sales_sellAll_141 : decode b_Sales_sellAll 141 = .ok (.ladd, 1) := by decide +kernel
theorem d_Sales_sellAll_142 : decode b_Sales_sellAll 142 = .ok (.lreturn, 1) := by decide +kernel
theorem d_Sales_serve_0 : decode b_Sales_serve 0 = .ok (.iconst 0, 1) := by decide +kernel
theorem d_Sales_serve_1 : decode b_Sales_serve 1 = .ok (.istore_n 3, 1) := by decide +kernel
theorem d_Sales_serve_2 : decode b_Sales_serve 2 = .ok (.iconst 0, 1) := by decide +kernel
theorem d_Sales_serve_3 : decode b_Sales_serve 3 = .ok (.istore 4, 2) := by decide +kernel
theorem d_Sales_serve_5 : decode b_Sales_serve 5 = .ok (.iload 4, 2) := by decide +kernel
theorem d_Sales_serve_7 : decode b_Sales_serve 7 = .ok (.aload_n 0, 1) := by decide +kernel
theorem d_Sales_serve_8 : decode b_Sales_serve 8 = .ok (.getfield 18, 3) := by decide +kernel
theorem d_Sales_serve_11 : decode b_Sales_serve 11 = .ok (.getfield 22, 3) := by decide +kernel
theorem d_Sales_serve_14 : decode b_Sales_serve 14 = .ok (.if_icmp .ge 65, 3) := by decide +kernel
theorem d_Sales_serve_17 : decode b_Sales_serve 17 = .ok (.aload_n 1, 1) := by decide +kernel
theorem d_Sales_serve_18 : decode b_Sales_serve 18 = .ok (.aload_n 0, 1) := by decide +kernel
theorem d_Sales_serve_19 : decode b_Sales_serve 19 = .ok (.getfield 18, 3) := by decide +kernel
theorem d_Sales_serve_22 : decode b_Sales_serve 22 = .ok (.getfield 28, 3) := by decide +kernel
theorem d_Sales_serve_25 : decode b_Sales_serve 25 = .ok (.iload 4, 2) := by decide +kernel
theorem d_Sales_serve_27 : decode b_Sales_serve 27 = .ok (.aaload, 1) := by decide +kernel
theorem d_Sales_serve_28 : decode b_Sales_serve 28 = .ok (.aload_n 2, 1) := by decide +kernel
theorem d_Sales_serve_29 : decode b_Sales_serve 29 = .ok (.iload 4, 2) := by decide +kernel
theorem d_Sales_serve_31 : decode b_Sales_serve 31 = .ok (.iaload, 1) := by decide +kernel
theorem d_Sales_serve_32 : decode b_Sales_serve 32 = .ok (.invokevirtual 60, 3) := by decide +kernel
theorem d_Sales_serve_35 : decode b_Sales_serve 35 = .ok (.ifCond .eq 38, 3) := by decide +kernel
theorem d_Sales_serve_38 : decode b_Sales_serve 38 = .ok (.aload_n 0, 1) := by decide +kernel
theorem d_Sales_serve_39 : decode b_Sales_serve 39 = .ok (.getfield 9, 3) := by decide +kernel
theorem d_Sales_serve_42 : decode b_Sales_serve 42 = .ok (.iload 4, 2) := by decide +kernel
theorem d_Sales_serve_44 : decode b_Sales_serve 44 = .ok (.iaload, 1) := by decide +kernel
theorem d_Sales_serve_45 : decode b_Sales_serve 45 = .ok (.aload_n 1, 1) := by decide +kernel
theorem d_Sales_serve_46 : decode b_Sales_serve 46 = .ok (.getfield 64, 3) := by decide +kernel
theorem d_Sales_serve_49 : decode b_Sales_serve 49 = .ok (.iload_n 3, 1) := by decide +kernel
theorem d_Sales_serve_50 : decode b_Sales_serve 50 = .ok (.isub, 1) := by decide +kernel
theorem d_Sales_serve_51 : decode b_Sales_serve 51 = .ok (.invokestatic 66, 3) := by decide +kernel
theorem d_Sales_serve_54 : decode b_Sales_serve 54 = .ok (.istore 5, 2) := by decide +kernel
theorem d_Sales_serve_56 : decode b_Sales_serve 56 = .ok (.aload_n 0, 1) := by decide +kernel
theorem d_Sales_serve_57 : decode b_Sales_serve 57 = .ok (.getfield 9, 3) := by decide +kernel
theorem d_Sales_serve_60 : decode b_Sales_serve 60 = .ok (.iload 4, 2) := by decide +kernel
theorem d_Sales_serve_62 : decode b_Sales_serve 62 = .ok (.dup2, 1) := by decide +kernel
theorem d_Sales_serve_63 : decode b_Sales_serve 63 = .ok (.iaload, 1) := by decide +kernel
theorem d_Sales_serve_64 : decode b_Sales_serve 64 = .ok (.iload 5, 2) := by decide +kernel
theorem d_Sales_serve_66 : decode b_Sales_serve 66 = .ok (.isub, 1) := by decide +kernel
theorem d_Sales_serve_67 : decode b_Sales_serve 67 = .ok (.iastore, 1) := by decide +kernel
theorem d_Sales_serve_68 : decode b_Sales_serve 68 = .ok (.iload_n 3, 1) := by decide +kernel
theorem d_Sales_serve_69 : decode b_Sales_serve 69 = .ok (.iload 5, 2) := by decide +kernel
theorem d_Sales_serve_71 : decode b_Sales_serve 71 = .ok (.iadd, 1) := by decide +kernel
theorem d_Sales_serve_72 : decode b_Sales_serve 72 = .ok (.istore_n 3, 1) := by decide +kernel
theorem d_Sales_serve_73 : decode b_Sales_serve 73 = .ok (.iinc 4 1, 3) := by decide +kernel
theorem d_Sales_serve_76 : decode b_Sales_serve 76 = .ok (.goto (-71), 3) := by decide +kernel
theorem d_Sales_serve_79 : decode b_Sales_serve 79 = .ok (.iload_n 3, 1) := by decide +kernel
theorem d_Sales_serve_80 : decode b_Sales_serve 80 = .ok (.ireturn, 1) := by decide +kernel
theorem d_Sales_priceOfRest_0 : decode b_Sales_priceOfRest 0 = .ok (.lconst 0, 1) := by decide +kernel
theorem d_Sales_priceOfRest_1 : decode b_Sales_priceOfRest 1 = .ok (.lstore_n 2, 1) := by decide +kernel
theorem d_Sales_priceOfRest_2 : decode b_Sales_priceOfRest 2 = .ok (.iconst 0, 1) := by decide +kernel
theorem d_Sales_priceOfRest_3 : decode b_Sales_priceOfRest 3 = .ok (.istore 4, 2) := by decide +kernel
theorem d_Sales_priceOfRest_5 : decode b_Sales_priceOfRest 5 = .ok (.iload 4, 2) := by decide +kernel
theorem d_Sales_priceOfRest_7 : decode b_Sales_priceOfRest 7 = .ok (.aload_n 0, 1) := by decide +kernel
theorem d_Sales_priceOfRest_8 : decode b_Sales_priceOfRest 8 = .ok (.getfield 18, 3) := by decide +kernel
theorem d_Sales_priceOfRest_11 : decode b_Sales_priceOfRest 11 = .ok (.getfield 22, 3) := by decide +kernel
theorem d_Sales_priceOfRest_14 : decode b_Sales_priceOfRest 14 = .ok (.if_icmp .ge 49, 3) := by decide +kernel
theorem d_Sales_priceOfRest_17 : decode b_Sales_priceOfRest 17 = .ok (.lload_n 2, 1) := by decide +kernel
theorem d_Sales_priceOfRest_18 : decode b_Sales_priceOfRest 18 = .ok (.aload_n 1, 1) := by decide +kernel
theorem d_Sales_priceOfRest_19 : decode b_Sales_priceOfRest 19 = .ok (.iload 4, 2) := by decide +kernel
theorem d_Sales_priceOfRest_21 : decode b_Sales_priceOfRest 21 = .ok (.iaload, 1) := by decide +kernel
theorem d_Sales_priceOfRest_22 : decode b_Sales_priceOfRest 22 = .ok (.iconst (-1), 1) := by decide +kernel
theorem d_Sales_priceOfRest_23 : decode b_Sales_priceOfRest 23 = .ok (.if_icmp .ne 15, 3) := by decide +kernel
theorem d_Sales_priceOfRest_26 : decode b_Sales_priceOfRest 26 = .ok (.aload_n 0, 1) := by decide +kernel
theorem d_Sales_priceOfRest_27 : decode b_Sales_priceOfRest 27 = .ok (.getfield 18, 3) := by decide +kernel
theorem d_Sales_priceOfRest_30 : decode b_Sales_priceOfRest 30 = .ok (.iload 4, 2) := by decide +kernel
theorem d_Sales_priceOfRest_32 : decode b_Sales_priceOfRest 32 = .ok (.invokevirtual 72, 3) := by decide +kernel
theorem d_Sales_priceOfRest_35 : decode b_Sales_priceOfRest 35 = .ok (.goto 20, 3) := by decide +kernel
theorem d_Sales_priceOfRest_38 : decode b_Sales_priceOfRest 38 = .ok (.aload_n 0, 1) := by decide +kernel
theorem d_Sales_priceOfRest_39 : decode b_Sales_priceOfRest 39 = .ok (.getfield 9, 3) := by decide +kernel
theorem d_Sales_priceOfRest_42 : decode b_Sales_priceOfRest 42 = .ok (.iload 4, 2) := by decide +kernel
theorem d_Sales_priceOfRest_44 : decode b_Sales_priceOfRest 44 = .ok (.iaload, 1) := by decide +kernel
theorem d_Sales_priceOfRest_45 : decode b_Sales_priceOfRest 45 = .ok (.i2l, 1) := by decide +kernel
theorem d_Sales_priceOfRest_46 : decode b_Sales_priceOfRest 46 = .ok (.aload_n 0, 1) := by decide +kernel
theorem d_Sales_priceOfRest_47 : decode b_Sales_priceOfRest 47 = .ok (.getfield 18, 3) := by decide +kernel
theorem d_Sales_priceOfRest_50 : decode b_Sales_priceOfRest 50 = .ok (.getfield 76, 3) := by decide +kernel
theorem d_Sales_priceOfRest_53 : decode b_Sales_priceOfRest 53 = .ok (.i2l, 1) := by decide +kernel
theorem d_Sales_priceOfRest_54 : decode b_Sales_priceOfRest 54 = .ok (.lmul, 1) := by decide +kernel
theorem d_Sales_priceOfRest_55 : decode b_Sales_priceOfRest 55 = .ok (.ladd, 1) := by decide +kernel
theorem d_Sales_priceOfRest_56 : decode b_Sales_priceOfRest 56 = .ok (.lstore_n 2, 1) := by decide +kernel
theorem d_Sales_priceOfRest_57 : decode b_Sales_priceOfRest 57 = .ok (.iinc 4 1, 3) := by decide +kernel
theorem d_Sales_priceOfRest_60 : decode b_Sales_priceOfRest 60 = .ok (.goto (-55), 3) := by decide +kernel
theorem d_Sales_priceOfRest_63 : decode b_Sales_priceOfRest 63 = .ok (.lload_n 2, 1) := by decide +kernel
theorem d_Sales_priceOfRest_64 : decode b_Sales_priceOfRest 64 = .ok (.lreturn, 1) := by decide +kernel
theorem d_Search_init_0 : decode b_Search_init 0 = .ok (.aload_n 0, 1) := by decide +kernel
theorem d_Search_init_1 : decode b_Search_init 1 = .ok (.invokespecial 3, 3) := by decide +kernel
theorem d_Search_init_4 : decode b_Search_init 4 = .ok (.aload_n 0, 1) := by decide +kernel
theorem d_Search_init_5 : decode b_Search_init 5 = .ok (.bipush 6, 2) := by decide +kernel
theorem d_Search_init_7 : decode b_Search_init 7 = .ok (.newarray .int, 2) := by decide +kernel
theorem d_Search_init_9 : decode b_Search_init 9 = .ok (.putfield 9, 3) := by decide +kernel
theorem d_Search_init_12 : decode b_Search_init 12 = .ok (.aload_n 0, 1) := by decide +kernel
theorem d_Search_init_13 : decode b_Search_init 13 = .ok (.bipush 6, 2) := by decide +kernel
theorem d_Search_init_15 : decode b_Search_init 15 = .ok (.newarray .int, 2) := by decide +kernel
theorem d_Search_init_17 : decode b_Search_init 17 = .ok (.putfield 15, 3) := by decide +kernel
theorem d_Search_init_20 : decode b_Search_init 20 = .ok (.aload_n 0, 1) := by decide +kernel
theorem d_Search_init_21 : decode b_Search_init 21 = .ok (.bipush 7, 2) := by decide +kernel
theorem d_Search_init_23 : decode b_Search_init 23 = .ok (.newarray .long, 2) := by decide +kernel
theorem d_Search_init_25 : decode b_Search_init 25 = .ok (.putfield 18, 3) := by decide +kernel
theorem d_Search_init_28 : decode b_Search_init 28 = .ok (.aload_n 0, 1) := by decide +kernel
theorem d_Search_init_29 : decode b_Search_init 29 = .ok (.ldc2_w 22, 3) := by decide +kernel
theorem d_Search_init_32 : decode b_Search_init 32 = .ok (.putfield 24, 3) := by decide +kernel
theorem d_Search_init_35 : decode b_Search_init 35 = .ok (.aload_n 0, 1) := by decide +kernel
theorem d_Search_init_36 : decode b_Search_init 36 = .ok (.aload_n 1, 1) := by decide +kernel
theorem d_Search_init_37 : decode b_Search_init 37 = .ok (.putfield 28, 3) := by decide +kernel
theorem d_Search_init_40 : decode b_Search_init 40 = .ok (.aload_n 0, 1) := by decide +kernel
theorem d_Search_init_41 : decode b_Search_init 41 = .ok (.aload_n 2, 1) := by decide +kernel
theorem d_Search_init_42 : decode b_Search_init 42 = .ok (.putfield 32, 3) := by decide +kernel
theorem d_Search_init_45 : decode b_Search_init 45 = .ok (.aload_n 0, 1) := by decide +kernel
theorem d_Search_init_46 : decode b_Search_init 46 = .ok (.aload_n 3, 1) := by decide +kernel
theorem d_Search_init_47 : decode b_Search_init 47 = .ok (.putfield 36, 3) := by decide +kernel
theorem d_Search_init_50 : decode b_Search_init 50 = .ok (.return_, 1) := by decide +kernel
theorem d_Search_start_0 : decode b_Search_start 0 = .ok (.aload_n 0, 1) := by decide +kernel
theorem d_Search_start_1 : decode b_Search_start 1 = .ok (.iload_n 1, 1) := by decide +kernel
theorem d_Search_start_2 : decode b_Search_start 2 = .ok (.putfield 40, 3) := by decide +kernel
theorem d_Search_start_5 : decode b_Search_start 5 = .ok (.aload_n 0, 1) := by decide +kernel
theorem d_Search_start_6 : decode b_Search_start 6 = .ok (.iconst 0, 1) := by decide +kernel
theorem d_Search_start_7 : decode b_Search_start 7 = .ok (.putfield 44, 3) := by decide +kernel
theorem d_Search_start_10 : decode b_Search_start 10 = .ok (.aload_n 0, 1) := by decide +kernel
theorem d_Search_start_11 : decode b_Search_start 11 = .ok (.iconst 0, 1) := by decide +kernel
theorem d_Search_start_12 : decode b_Search_start 12 = .ok (.putfield 47, 3) := by decide +kernel
theorem d_Search_start_15 : decode b_Search_start 15 = .ok (.aload_n 0, 1) := by decide +kernel
theorem d_Search_start_16 : decode b_Search_start 16 = .ok (.ldc2_w 22, 3) := by decide +kernel
theorem d_Search_start_19 : decode b_Search_start 19 = .ok (.putfield 24, 3) := by decide +kernel
theorem d_Search_start_22 : decode b_Search_start 22 = .ok (.aload_n 0, 1) := by decide +kernel
theorem d_Search_start_23 : decode b_Search_start 23 = .ok (.getfield 9, 3) := by decide +kernel
theorem d_Search_start_26 : decode b_Search_start 26 = .ok (.iconst (-1), 1) := by decide +kernel
theorem d_Search_start_27 : decode b_Search_start 27 = .ok (.invokestatic 51, 3) := by decide +kernel
theorem d_Search_start_30 : decode b_Search_start 30 = .ok (.aload_n 0, 1) := by decide +kernel
theorem d_Search_start_31 : decode b_Search_start 31 = .ok (.invokevirtual 57, 3) := by decide +kernel
theorem d_Search_start_34 : decode b_Search_start 34 = .ok (.aload_n 0, 1) := by decide +kernel
theorem d_Search_start_35 : decode b_Search_start 35 = .ok (.iconst 0, 1) := by decide +kernel
theorem d_Search_start_36 : decode b_Search_start 36 = .ok (.lconst 0, 1) := by decide +kernel
theorem d_Search_start_37 : decode b_Search_start 37 = .ok (.invokevirtual 60, 3) := by decide +kernel
theorem d_Search_start_40 : decode b_Search_start 40 = .ok (.return_, 1) := by decide +kernel
theorem d_Search_hasMet_0 : decode b_Search_hasMet 0 = .ok (.aload_n 0, 1) := by decide +kernel
theorem d_Search_hasMet_1 : decode b_Search_hasMet 1 = .ok (.getfield 24, 3) := by decide +kernel
theorem d_Search_hasMet_4 : decode b_Search_hasMet 4 = .ok (.ldc2_w 22, 3) := by decide +kernel
theorem d_Search_hasMet_7 : decode b_Search_hasMet 7 = .ok (.lcmp, 1) := by decide +kernel
theorem d_Search_hasMet_8 : decode b_Search_hasMet 8 = .ok (.ifCond .eq 7, 3) := by decide +kernel
theorem d_Search_hasMet_11 : decode b_Search_hasMet 11 = .ok (.iconst 1, 1) := by decide +kernel
theorem d_Search_hasMet_12 : decode b_Search_hasMet 12 = .ok (.goto 4, 3) := by decide +kernel
theorem d_Search_hasMet_15 : decode b_Search_hasMet 15 = .ok (.iconst 0, 1) := by decide +kernel
theorem d_Search_hasMet_16 : decode b_Search_hasMet 16 = .ok (.ireturn, 1) := by decide +kernel
theorem d_Search_hopeBeforeAny_0 : decode b_Search_hopeBeforeAny 0 = .ok (.aload_n 0, 1) := by decide +kernel
theorem d_Search_hopeBeforeAny_1 : decode b_Search_hopeBeforeAny 1 = .ok (.invokevirtual 57, 3) := by decide +kernel
theorem d_Search_hopeBeforeAny_4 : decode b_Search_hopeBeforeAny 4 = .ok (.aload_n 0, 1) := by decide +kernel
theorem d_Search_hopeBeforeAny_5 : decode b_Search_hopeBeforeAny 5 = .ok (.getfield 18, 3) := by decide +kernel
theorem d_Search_hopeBeforeAny_8 : decode b_Search_hopeBeforeAny 8 = .ok (.iconst 0, 1) := by decide +kernel
theorem d_Search_hopeBeforeAny_9 : decode b_Search_hopeBeforeAny 9 = .ok (.laload, 1) := by decide +kernel
theorem d_Search_hopeBeforeAny_10 : decode b_Search_hopeBeforeAny 10 = .ok (.lreturn, 1) := by decide +kernel
theorem d_Search_foretell_0 : decode b_Search_foretell 0 = .ok (.aload_n 0, 1) := by decide +kernel
theorem d_Search_foretell_1 : decode b_Search_foretell 1 = .ok (.getfield 18, 3) := by decide +kernel
theorem d_Search_foretell_4 : decode b_Search_foretell 4 = .ok (.aload_n 0, 1) := by decide +kernel
theorem d_Search_foretell_5 : decode b_Search_foretell 5 = .ok (.getfield 28, 3) := by decide +kernel
theorem d_Search_foretell_8 : decode b_Search_foretell 8 = .ok (.getfield 64, 3) := by decide +kernel
theorem d_Search_foretell_11 : decode b_Search_foretell 11 = .ok (.lconst 0, 1) := by decide +kernel
theorem d_Search_foretell_12 : decode b_Search_foretell 12 = .ok (.lastore, 1) := by decide +kernel
theorem d_Search_foretell_13 : decode b_Search_foretell 13 = .ok (.aload_n 0, 1) := by decide +kernel
theorem d_Search_foretell_14 : decode b_Search_foretell 14 = .ok (.getfield 28, 3) := by decide +kernel
theorem d_Search_foretell_17 : decode b_Search_foretell 17 = .ok (.getfield 64, 3) := by decide +kernel
theorem d_Search_foretell_20 : decode b_Search_foretell 20 = .ok (.iconst 1, 1) := by decide +kernel
theorem d_Search_foretell_21 : decode b_Search_foretell 21 = .ok (.isub, 1) := by decide +kernel
theorem d_Search_foretell_22 : decode b_Search_foretell 22 = .ok (.istore_n 1, 1) := by decide +kernel
theorem d_Search_foretell_23 : decode b_Search_foretell 23 = .ok (.iload_n 1, 1) := by decide +kernel
theorem d_Search_foretell_24 : decode b_Search_foretell 24 = .ok (.ifCond .lt 32, 3) := by decide +kernel
theorem d_Search_foretell_27 : decode b_Search_foretell 27 = .ok (.aload_n 0, 1) := by decide +kernel
theorem d_Search_foretell_28 : decode b_Search_foretell 28 = .ok (.getfield 18, 3) := by decide +kernel
theorem d_Search_foretell_31 : decode b_Search_foretell 31 = .ok (.iload_n 1, 1) := by decide +kernel
theorem d_Search_foretell_32 : decode b_Search_foretell 32 = .ok (.aload_n 0, 1) := by decide +kernel
theorem d_Search_foretell_33 : decode b_Search_foretell 33 = .ok (.getfield 18, 3) := by decide +kernel
theorem d_Search_foretell_36 : decode b_Search_foretell 36 = .ok (.iload_n 1, 1) := by decide +kernel
theorem d_Search_foretell_37 : decode b_Search_foretell 37 = .ok (.iconst 1, 1) := by decide +kernel
theorem d_Search_foretell_38 : decode b_Search_foretell 38 = .ok (.iadd, 1) := by decide +kernel
theorem d_Search_foretell_39 : decode b_Search_foretell 39 = .ok (.laload, 1) := by decide +kernel
theorem d_Search_foretell_40 : decode b_Search_foretell 40 = .ok (.aload_n 0, 1) := by decide +kernel
theorem d_Search_foretell_41 : decode b_Search_foretell 41 = .ok (.getfield 28, 3) := by decide +kernel
theorem d_Search_foretell_44 : decode b_Search_foretell 44 = .ok (.iload_n 1, 1) := by decide +kernel
theorem d_Search_foretell_45 : decode b_Search_foretell 45 = .ok (.invokevirtual 69, 3) := by decide +kernel
theorem d_Search_foretell_48 : decode b_Search_foretell 48 = .ok (.ladd, 1) := by decide +kernel
theorem d_Search_foretell_49 : decode b_Search_foretell 49 = .ok (.lastore, 1) := by decide +kernel
theorem d_Search_foretell_50 : decode b_Search_foretell 50 = .ok (.iinc 1 (-1), 3) := by decide +kernel
theorem d_Search_foretell_53 : decode b_Search_foretell 53 = .ok (.goto (-30), 3) := by decide +kernel
theorem d_Search_foretell_56 : decode b_Search_foretell 56 = .ok (.return_, 1) := by decide +kernel
theorem d_Search_branch_0 : decode b_Search_branch 0 = .ok (.iload_n 1, 1) := by decide +kernel
theorem d_Search_branch_1 : decode b_Search_branch 1 = .ok (.aload_n 0, 1) := by decide +kernel
theorem d_Search_branch_2 : decode b_Search_branch 2 = .ok (.getfield 28, 3) := by decide +kernel
theorem d_Search_branch_5 : decode b_Search_branch 5 = .ok (.getfield 64, 3) := by decide +kernel
theorem d_Search_branch_8 : decode b_Search_branch 8 = .ok (.if_icmp .lt 8, 3) := by decide +kernel
theorem d_Search_branch_11 : decode b_Search_branch 11 = .ok (.aload_n 0, 1) := by decide +kernel
theorem d_Search_branch_12 : decode b_Search_branch 12 = .ok (.invokevirtual 73, 3) := by decide +kernel
theorem d_Search_branch_15 : decode b_Search_branch 15 = .ok (.return_, 1) := by decide +kernel
theorem d_Search_branch_16 : decode b_Search_branch 16 = .ok (.iconst 0, 1) := by decide +kernel
theorem d_Search_branch_17 : decode b_Search_branch 17 = .ok (.istore 4, 2) := by decide +kernel
theorem d_Search_branch_19 : decode b_Search_branch 19 = .ok (.iload 4, 2) := by decide +kernel
theorem d_Search_branch_21 : decode b_Search_branch 21 = .ok (.aload_n 0, 1) := by decide +kernel
theorem d_Search_branch_22 : decode b_Search_branch 22 = .ok (.getfield 28, 3) := by decide +kernel
theorem d_Search_branch_25 : decode b_Search_branch 25 = .ok (.getfield 76, 3) := by decide +kernel
theorem d_Search_branch_28 : decode b_Search_branch 28 = .ok (.if_icmp .ge 46, 3) := by decide +kernel
theorem d_Search_branch_31 : decode b_Search_branch 31 = .ok (.aload_n 0, 1) := by decide +kernel
theorem d_Search_branch_32 : decode b_Search_branch 32 = .ok (.getfield 47, 3) := by decide +kernel
theorem d_Search_branch_35 : decode b_Search_branch 35 = .ok (.ifCond .ne 39, 3) := by decide +kernel
theorem d_Search_branch_38 : decode b_Search_branch 38 = .ok (.aload_n 0, 1) := by decide +kernel
theorem d_Search_branch_39 : decode b_Search_branch 39 = .ok (.getfield 9, 3) := by decide +kernel
theorem d_Search_branch_42 : decode b_Search_branch 42 = .ok (.iload_n 1, 1) := by decide +kernel
theorem d_Search_branch_43 : decode b_Search_branch 43 = .ok (.iload 4, 2) := by decide +kernel
theorem d_Search_branch_45 : decode b_Search_branch 45 = .ok (.iastore, 1) := by decide +kernel
theorem d_Search_branch_46 : decode b_Search_branch 46 = .ok (.aload_n 0, 1) := by decide +kernel
theorem d_Search_branch_47 : decode b_Search_branch 47 = .ok (.getfield 32, 3) := by decide +kernel
theorem d_Search_branch_50 : decode b_Search_branch 50 = .ok (.aload_n 0, 1) := by decide +kernel
theorem d_Search_branch_51 : decode b_Search_branch 51 = .ok (.getfield 9, 3) := by decide +kernel
theorem d_Search_branch_54 : decode b_Search_branch 54 = .ok (.iload 4, 2) := by decide +kernel
theorem d_Search_branch_56 : decode b_Search_branch 56 = .ok (.invokevirtual 79, 3) := by decide +kernel
theorem d_Search_branch_59 : decode b_Search_branch 59 = .ok (.ifCond .eq 9, 3) := by decide +kernel
theorem d_Search_branch_62 : decode b_Search_branch 62 = .ok (.aload_n 0, 1) := by decide +kernel
theorem d_Search_branch_63 : decode b_Search_branch 63 = .ok (.iload_n 1, 1) := by decide +kernel
theorem d_Search_branch_64 : decode b_Search_branch 64 = .ok (.lload_n 2, 1) := by decide +kernel
theorem d_Search_branch_65 : decode b_Search_branch 65 = .ok (.invokevirtual 85, 3) := by decide +kernel
theorem d_Search_branch_68 : decode b_Search_branch 68 = .ok (.iinc 4 1, 3) := by decide +kernel
theorem d_Search_branch_71 : decode b_Search_branch 71 = .ok (.goto (-52), 3) := by decide +kernel
theorem d_Search_branch_74 : decode b_Search_branch 74 = .ok (.aload_n 0, 1) := by decide +kernel
theorem d_Search_branch_75 : decode b_Search_branch 75 = .ok (.getfield 9, 3) := by decide +kernel
theorem d_Search_branch_78 : decode b_Search_branch 78 = .ok (.iload_n 1, 1) := by decide +kernel
theorem d_Search_branch_79 : decode b_Search_branch 79 = .ok (.iconst (-1), 1) := by decide +kernel
theorem d_Search_branch_80 : decode b_Search_branch 80 = .ok (.iastore, 1) := by decide +kernel
theorem d_Search_branch_81 : decode b_Search_branch 81 = .ok (.aload_n 0, 1) := by decide +kernel
theorem d_Search_branch_82 : decode b_Search_branch 82 = .ok (.getfield 47, 3) := by decide +kernel
theorem d_Search_branch_85 : decode b_Search_branch 85 = .ok (.ifCond .ne 9, 3) := by decide +kernel
theorem d_Search_branch_88 : decode b_Search_branch 88 = .ok (.aload_n 0, 1) := by decide +kernel
theorem d_Search_branch_89 : decode b_Search_branch 89 = .ok (.iload_n 1, 1) := by decide +kernel
theorem d_Search_branch_90 : decode b_Search_branch 90 = .ok (.lload_n 2, 1) := by decide +kernel
theorem d_Search_branch_91 : decode b_Search_branch 91 = .ok (.invokevirtual 85, 3) := by decide +kernel
theorem d_Search_branch_94 : decode b_Search_branch 94 = .ok (.return_, 1) := by decide +kernel
theorem d_Search_makeNode_0 : decode b_Search_makeNode 0 = .ok (.aload_n 0, 1) := by decide +kernel
theorem d_Search_makeNode_1 : decode b_Search_makeNode 1 = .ok (.getfield 44, 3) := by decide +kernel
theorem d_Search_makeNode_4 : decode b_Search_makeNode 4 = .ok (.aload_n 0, 1) := by decide +kernel
theorem d_Search_makeNode_5 : decode b_Search_makeNode 5 = .ok (.getfield 40, 3) := by decide +kernel
theorem d_Search_makeNode_8 : decode b_Search_makeNode 8 = .ok (.if_icmp .lt 9, 3) := by decide +kernel
theorem d_Search_makeNode_11 : decode b_Search_makeNode 11 = .ok (.aload_n 0, 1) := by decide +kernel
theorem d_Search_makeNode_12 : decode b_Search_makeNode 12 = .ok (.iconst 1, 1) := by decide +kernel
theorem d_Search_makeNode_13 : decode b_Search_makeNode 13 = .ok (.putfield 47, 3) := by decide +kernel
theorem d_Search_makeNode_16 : decode b_Search_makeNode 16 = .ok (.return_, 1) := by decide +kernel
theorem d_Search_makeNode_17 : decode b_Search_makeNode 17 = .ok (.aload_n 0, 1) := by decide +kernel
theorem d_Search_makeNode_18 : decode b_Search_makeNode 18 = .ok (.dup, 1) := by decide +kernel
theorem d_Search_makeNode_19 : decode b_Search_makeNode 19 = .ok (.getfield 44, 3) := by decide +kernel
theorem d_Search_makeNode_22 : decode b_Search_makeNode 22 = .ok (.iconst 1, 1) := by decide +kernel
theorem d_Search_makeNode_23 : decode b_Search_makeNode 23 = .ok (.iadd, 1) := by decide +kernel
theorem d_Search_makeNode_24 : decode b_Search_makeNode 24 = .ok (.putfield 44, 3) := by decide +kernel
theorem d_Search_makeNode_27 : decode b_Search_makeNode 27 = .ok (.lload_n 2, 1) := by decide +kernel
theorem d_Search_makeNode_28 : decode b_Search_makeNode 28 = .ok (.aload_n 0, 1) := by decide +kernel
theorem d_Search_makeNode_29 : decode b_Search_makeNode 29 = .ok (.getfield 28, 3) := by decide +kernel
theorem d_Search_makeNode_32 : decode b_Search_makeNode 32 = .ok (.iload_n 1, 1) := by decide +kernel
theorem d_Search_makeNode_33 : decode b_Search_makeNode 33 = .ok (.aload_n 0, 1) := by decide +kernel
theorem d_Search_makeNode_34 : decode b_Search_makeNode 34 = .ok (.getfield 9, 3) := by decide +kernel
theorem d_Search_makeNode_37 : decode b_Search_makeNode 37 = .ok (.iload_n 1, 1) := by decide +kernel
theorem d_Search_makeNode_38 : decode b_Search_makeNode 38 = .ok (.iaload, 1) := by decide +kernel
theorem d_Search_makeNode_39 : decode b_Search_makeNode 39 = .ok (.invokevirtual 88, 3) := by decide +kernel
theorem d_Search_makeNode_42 : decode b_Search_makeNode 42 = .ok (.ladd, 1) := by decide +kernel
theorem d_Search_makeNode_43 : decode b_Search_makeNode 43 = .ok (.lstore 4, 2) := by decide +kernel
theorem d_Search_makeNode_45 : decode b_Search_makeNode 45 = .ok (.lload 4, 2) := by decide +kernel
theorem d_Search_makeNode_47 : decode b_Search_makeNode 47 = .ok (.aload_n 0, 1) := by decide +kernel
theorem d_Search_makeNode_48 : decode b_Search_makeNode 48 = .ok (.getfield 18, 3) := by decide +kernel
theorem d_Search_makeNode_51 : decode b_Search_makeNode 51 = .ok (.iload_n 1, 1) := by decide +kernel
theorem d_Search_makeNode_52 : decode b_Search_makeNode 52 = .ok (.iconst 1, 1) := by decide +kernel
theorem d_Search_makeNode_53 : decode b_Search_makeNode 53 = .ok (.iadd, 1) := by decide +kernel
theorem d_Search_makeNode_54 : decode b_Search_makeNode 54 = .ok (.laload, 1) := by decide +kernel
theorem d_Search_makeNode_55 : decode b_Search_makeNode 55 = .ok (.ladd, 1) := by decide +kernel
theorem d_Search_makeNode_56 : decode b_Search_makeNode 56 = .ok (.aload_n 0, 1) := by decide +kernel
theorem d_Search_makeNode_57 : decode b_Search_makeNode 57 = .ok (.getfield 24, 3) := by decide +kernel
theorem d_Search_makeNode_60 : decode b_Search_makeNode 60 = .ok (.lcmp, 1) := by decide +kernel
theorem d_Search_makeNode_61 : decode b_Search_makeNode 61 = .ok (.ifCond .le 12, 3) := by decide +kernel
theorem d_Search_makeNode_64 : decode b_Search_makeNode 64 = .ok (.aload_n 0, 1) := by decide +kernel
theorem d_Search_makeNode_65 : decode b_Search_makeNode 65 = .ok (.iload_n 1, 1) := by decide +kernel
theorem d_Search_makeNode_66 : decode b_Search_makeNode 66 = .ok (.iconst 1, 1) := by decide +kernel
theorem d_Search_makeNode_67 : decode b_Search_makeNode 67 = .ok (.iadd, 1) := by decide +kernel
theorem d_Search_makeNode_68 : decode b_Search_makeNode 68 = .ok (.lload 4, 2) := by decide +kernel
theorem d_Search_makeNode_70 : decode b_Search_makeNode 70 = .ok (.invokevirtual 60, 3) := by decide +kernel
theorem d_Search_makeNode_73 : decode b_Search_makeNode 73 = .ok (.return_, 1) := by decide +kernel
theorem d_Search_meet_0 : decode b_Search_meet 0 = .ok (.aload_n 0, 1) := by decide +kernel
theorem d_Search_meet_1 : decode b_Search_meet 1 = .ok (.getfield 32, 3) := by decide +kernel
theorem d_Search_meet_4 : decode b_Search_meet 4 = .ok (.aload_n 0, 1) := by decide +kernel
theorem d_Search_meet_5 : decode b_Search_meet 5 = .ok (.getfield 9, 3) := by decide +kernel
theorem d_Search_meet_8 : decode b_Search_meet 8 = .ok (.invokevirtual 92, 3) := by decide +kernel
theorem d_Search_meet_11 : decode b_Search_meet 11 = .ok (.ifCond .ne 4, 3) := by decide +kernel
theorem d_Search_meet_14 : decode b_Search_meet 14 = .ok (.return_, 1) := by decide +kernel
theorem d_Search_meet_15 : decode b_Search_meet 15 = .ok (.aload_n 0, 1) := by decide +kernel
theorem d_Search_meet_16 : decode b_Search_meet 16 = .ok (.getfield 36, 3) := by decide +kernel
theorem d_Search_meet_19 : decode b_Search_meet 19 = .ok (.aload_n 0, 1) := by decide +kernel
theorem d_Search_meet_20 : decode b_Search_meet 20 = .ok (.getfield 9, 3) := by decide +kernel
theorem d_Search_meet_23 : decode b_Search_meet 23 = .ok (.invokevirtual 96, 3) := by decide +kernel
theorem d_Search_meet_26 : decode b_Search_meet 26 = .ok (.lstore_n 1, 1) := by decide +kernel
theorem d_Search_meet_27 : decode b_Search_meet 27 = .ok (.lload_n 1, 1) := by decide +kernel
theorem d_Search_meet_28 : decode b_Search_meet 28 = .ok (.aload_n 0, 1) := by decide +kernel
theorem d_Search_meet_29 : decode b_Search_meet 29 = .ok (.getfield 24, 3) := by decide +kernel
theorem d_Search_meet_32 : decode b_Search_meet 32 = .ok (.lcmp, 1) := by decide +kernel
theorem d_Search_meet_33 : decode b_Search_meet 33 = .ok (.ifCond .le 23, 3) := by decide +kernel
theorem d_Search_meet_36 : decode b_Search_meet 36 = .ok (.aload_n 0, 1) := by decide +kernel
theorem d_Search_meet_37 : decode b_Search_meet 37 = .ok (.lload_n 1, 1) := by decide +kernel
theorem d_Search_meet_38 : decode b_Search_meet 38 = .ok (.putfield 24, 3) := by decide +kernel
theorem d_Search_meet_41 : decode b_Search_meet 41 = .ok (.aload_n 0, 1) := by decide +kernel
theorem d_Search_meet_42 : decode b_Search_meet 42 = .ok (.getfield 9, 3) := by decide +kernel
theorem d_Search_meet_45 : decode b_Search_meet 45 = .ok (.iconst 0, 1) := by decide +kernel
theorem d_Search_meet_46 : decode b_Search_meet 46 = .ok (.aload_n 0, 1) := by decide +kernel
theorem d_Search_meet_47 : decode b_Search_meet 47 = .ok (.getfield 15, 3) := by decide +kernel
theorem d_Search_meet_50 : decode b_Search_meet 50 = .ok (.iconst 0, 1) := by decide +kernel
theorem d_Search_meet_51 : decode b_Search_meet 51 = .ok (.bipush 6, 2) := by decide +kernel
theorem d_Search_meet_53 : decode b_Search_meet 53 = .ok (.invokestatic 102, 3) := by decide +kernel
theorem d_Search_meet_56 : decode b_Search_meet 56 = .ok (.return_, 1) := by decide +kernel
end
section
/-! THE CLASS'S WORLD. n: 0 weeks, 1 places, 2 cages, 3 boats, 4 orders. K: 0 planAtHand, 1 limit, 2 made, 3 spent; I 0: 1 spot, 2 keep; I 1 p: a place's most; I 2 c: a cage's home; I 3 b: a boat's load; I 4 .. I 8 o: an order's week, least, most, kilos, cents.
Rows (0, j): 0 plan, 1 served, 2 plantKilos, 3 needs, 4 loads, 5 missing, 6 held, 7 left, 8 gotten, 9 trial, 10 best; (1, p) closedIn, (2, c) grams, (3, c) kilos, (4, b) barredIn. -/
def hpT (tC : Nat → ClassId) : List (ClassId × FieldType) := [(tC 0, .int), (tC 1, .long), (tC 2, .boolean), (tC 3, .object "HarvestPlans$Place"), (tC 4, .object "HarvestPlans$Cage"), (tC 5, .object "HarvestPlans$Boat"), (tC 6, .object "HarvestPlans$Order")]
def up2 {α : Type} (I : Nat → Nat → α) (t j : Nat) (v : α) : Nat → Nat → α := fun a b => if a = t ∧ b = j then v else I a b
def oX (ad : Nat → Nat) (tC : Nat → ClassId) (n : Nat → Nat) (I : Nat → Nat → Int32) (K : Nat → Int32) (bw : Int64) (LA : Nat → Int64) (k : Nat) : Option va_E := match k with
  | 0 => some (.inr (0, [.ref (ad 1), .ref (ad 2), .ref (ad 3), .ref (ad 4), .ref (ad 100), .int (K 0)]))
  | 1 => some (.inr (1, [.int (nI (n 0)), .ref (ad 6), .ref (ad 7), .ref (ad 8), .ref (ad 9), .ref (ad 101), .ref (ad 102), .int (nI (n 1)), .int (nI (n 2)), .int (nI (n 3)), .int (nI (n 4)), .int (I 0 1), .int (I 0 2)]))
  | 2 => some (.inr (2, [.ref (ad 1), .ref (ad 103), .ref (ad 104), .ref (ad 105), .ref (ad 106)]))
  | 3 => some (.inr (3, [.ref (ad 1), .ref (ad 107), .ref (ad 108)]))
  | 4 => some (.inr (4, [.ref (ad 1), .ref (ad 2), .ref (ad 3), .ref (ad 109), .ref (ad 110), .ref (ad 5), .long bw, .int (K 1), .int (K 2), .int (K 3)]))
  | 5 => some (.inl (tC 1, 7, .inr (.inl LA)))
  | 6 => some (.inl (tC 3, 4, .inr (.inr (.inr (.inr (fun i => if i < n 1 then some (ad (24 + i)) else none))))))
  | 7 => some (.inl (tC 4, 6, .inr (.inr (.inr (.inr (fun i => if i < n 2 then some (ad (32 + i)) else none))))))
  | 8 => some (.inl (tC 5, 3, .inr (.inr (.inr (.inr (fun i => if i < n 3 then some (ad (40 + i)) else none))))))
  | 9 => some (.inl (tC 6, 6, .inr (.inr (.inr (.inr (fun i => if i < n 4 then some (ad (48 + i)) else none))))))
  | k => if k < 24 then none else if k < 24 + n 1 then some (.inr (5, [.int (I 1 (k - 24)), .ref (ad (116 + (k - 24)))])) else if k < 32 then none
    else if k < 32 + n 2 then some (.inr (6, [.int (I 2 (k - 32)), .ref (ad (132 + (k - 32))), .ref (ad (148 + (k - 32)))])) else if k < 40 then none
    else if k < 40 + n 3 then some (.inr (7, [.int (I 3 (k - 40)), .ref (ad (164 + (k - 40)))])) else if k < 48 then none
    else if k < 48 + n 4 then some (.inr (8, [.int (I 4 (k - 48)), .int (I 5 (k - 48)), .int (I 6 (k - 48)), .int (I 7 (k - 48)), .int (I 8 (k - 48))])) else none
def aX (tC : Nat → ClassId) (n : Nat → Nat) (t j : Nat) : Option (ClassId × Nat) := match t with
  | 0 => if j = 2 then some (tC 0, n 0) else if j = 4 then some (tC 0, 3) else if j = 6 then some (tC 0, 4) else if j < 11 then some (tC 0, 6) else none
  | 1 => if j < n 1 then some (tC 2, n 0) else none
  | 2 => if j < n 2 then some (tC 0, n 0) else none
  | 3 => if j < n 2 then some (tC 0, n 0) else none
  | 4 => if j < n 3 then some (tC 2, n 0) else none
  | _ => none
def obX (ad : Nat → Nat) (tC : Nat → ClassId) (n : Nat → Nat) (I : Nat → Nat → Int32) (K : Nat → Int32) (bw : Int64) (LA : Nat → Int64) (bM : Nat → Option va_E) (k : Nat) : Option va_E := if k < 56 then oX ad tC n I K bw LA k else bM k
def arX (tC : Nat → ClassId) (n : Nat → Nat) (aM : Nat → Nat → Option (ClassId × Nat)) (t j : Nat) : Option (ClassId × Nat) := if t < 5 then aX tC n t j else aM t j
def hW (ad : Nat → Nat) (tC : Nat → ClassId) (n : Nat → Nat) (I : Nat → Nat → Int32) (K : Nat → Int32) (bw : Int64) (LA : Nat → Int64) (bM : Nat → Option va_E) (aM : Nat → Nat → Option (ClassId × Nat)) (S : Nat → Nat → Nat → Int32) : nw_N := gw (obX ad tC n I K bw LA bM) (arX tC n aM) S
/-- how many there may be -/
def hpN (n : Nat → Nat) : Prop := 1 ≤ n 0 ∧ n 0 ≤ 8 ∧ n 1 ≤ 4 ∧ n 2 ≤ 6 ∧ n 3 ≤ 3 ∧ n 4 ≤ 6
section HW
variable {ad : Nat → Nat} {tC : Nat → ClassId} {n : Nat → Nat} {I : Nat → Nat → Int32} {K : Nat → Int32} {bw : Int64} {LA : Nat → Int64} {bM : Nat → Option va_E} {aM : Nat → Nat → Option (ClassId × Nat)} {S : Nat → Nat → Nat → Int32} {D : va_G} {A : Nat → Prop} {H : Heap}
theorem hW_0 : hW ad tC n I K bw LA bM aM S 0 = some (.inr (0, [.ref (ad 1), .ref (ad 2), .ref (ad 3), .ref (ad 4), .ref (ad 100), .int (K 0)])) := rfl
theorem hW_1 : hW ad tC n I K bw LA bM aM S 1 = some (.inr (1, [.int (nI (n 0)), .ref (ad 6), .ref (ad 7), .ref (ad 8), .ref (ad 9), .ref (ad 101), .ref (ad 102), .int (nI (n 1)), .int (nI (n 2)), .int (nI (n 3)), .int (nI (n 4)), .int (I 0 1), .int (I 0 2)])) := rfl
theorem hW_2 : hW ad tC n I K bw LA bM aM S 2 = some (.inr (2, [.ref (ad 1), .ref (ad 103), .ref (ad 104), .ref (ad 105), .ref (ad 106)])) := rfl
theorem hW_3 : hW ad tC n I K bw LA bM aM S 3 = some (.inr (3, [.ref (ad 1), .ref (ad 107), .ref (ad 108)])) := rfl
theorem hW_4 : hW ad tC n I K bw LA bM aM S 4 = some (.inr (4, [.ref (ad 1), .ref (ad 2), .ref (ad 3), .ref (ad 109), .ref (ad 110), .ref (ad 5), .long bw, .int (K 1), .int (K 2), .int (K 3)])) := rfl
theorem hW_5 : hW ad tC n I K bw LA bM aM S 5 = some (.inl (tC 1, 7, .inr (.inl LA))) := rfl
theorem hW_6 : hW ad tC n I K bw LA bM aM S 6 = some (.inl (tC 3, 4, .inr (.inr (.inr (.inr (fun i => if i < n 1 then some (ad (24 + i)) else none)))))) := rfl
theorem hW_7 : hW ad tC n I K bw LA bM aM S 7 = some (.inl (tC 4, 6, .inr (.inr (.inr (.inr (fun i => if i < n 2 then some (ad (32 + i)) else none)))))) := rfl
theorem hW_8 : hW ad tC n I K bw LA bM aM S 8 = some (.inl (tC 5, 3, .inr (.inr (.inr (.inr (fun i => if i < n 3 then some (ad (40 + i)) else none)))))) := rfl
theorem hW_9 : hW ad tC n I K bw LA bM aM S 9 = some (.inl (tC 6, 6, .inr (.inr (.inr (.inr (fun i => if i < n 4 then some (ad (48 + i)) else none)))))) := rfl
theorem oX_hi {k : Nat} (hk : 10 ≤ k) : oX ad tC n I K bw LA k = if k < 24 then none else if k < 24 + n 1 then some (.inr (5, [.int (I 1 (k - 24)), .ref (ad (116 + (k - 24)))])) else if k < 32 then none
    else if k < 32 + n 2 then some (.inr (6, [.int (I 2 (k - 32)), .ref (ad (132 + (k - 32))), .ref (ad (148 + (k - 32)))])) else if k < 40 then none
    else if k < 40 + n 3 then some (.inr (7, [.int (I 3 (k - 40)), .ref (ad (164 + (k - 40)))])) else if k < 48 then none
    else if k < 48 + n 4 then some (.inr (8, [.int (I 4 (k - 48)), .int (I 5 (k - 48)), .int (I 6 (k - 48)), .int (I 7 (k - 48)), .int (I 8 (k - 48))])) else none := by
  obtain ⟨j, rfl⟩ : ∃ j, k = j + 10 := ⟨k - 10, by omega⟩
  rfl
theorem hW_ob {k : Nat} (hk : k < 56) : hW ad tC n I K bw LA bM aM S k = oX ad tC n I K bw LA k := by
  rw [hW, gw_ob (by omega), obX, if_pos hk]
theorem hW_place (hN : hpN n) {i : Nat} (hi : i < n 1) : hW ad tC n I K bw LA bM aM S (24 + i) = some (.inr (5, [.int (I 1 i), .ref (ad (116 + i))])) := by
  obtain ⟨-, -, h1, -⟩ := hN
  rw [hW_ob (by omega), oX_hi (by omega), if_neg (by omega), if_pos (by omega), Nat.add_sub_cancel_left]
theorem hW_cage (hN : hpN n) {i : Nat} (hi : i < n 2) : hW ad tC n I K bw LA bM aM S (32 + i) = some (.inr (6, [.int (I 2 i), .ref (ad (132 + i)), .ref (ad (148 + i))])) := by
  obtain ⟨-, -, h1, h2, -⟩ := hN
  rw [hW_ob (by omega), oX_hi (by omega), if_neg (by omega), if_neg (by omega), if_neg (by omega), if_pos (by omega), Nat.add_sub_cancel_left]
theorem hW_boat (hN : hpN n) {i : Nat} (hi : i < n 3) : hW ad tC n I K bw LA bM aM S (40 + i) = some (.inr (7, [.int (I 3 i), .ref (ad (164 + i))])) := by
  obtain ⟨-, -, h1, h2, h3, -⟩ := hN
  rw [hW_ob (by omega), oX_hi (by omega), if_neg (by omega), if_neg (by omega), if_neg (by omega), if_neg (by omega), if_neg (by omega), if_pos (by omega), Nat.add_sub_cancel_left]
theorem hW_order (hN : hpN n) {i : Nat} (hi : i < n 4) : hW ad tC n I K bw LA bM aM S (48 + i) = some (.inr (8, [.int (I 4 i), .int (I 5 i), .int (I 6 i), .int (I 7 i), .int (I 8 i)])) := by
  obtain ⟨-, -, h1, h2, h3, h4⟩ := hN
  rw [hW_ob (by omega), oX_hi (by omega), if_neg (by omega), if_neg (by omega), if_neg (by omega), if_neg (by omega), if_neg (by omega), if_neg (by omega), if_neg (by omega), if_pos (by omega), Nat.add_sub_cancel_left]
theorem hW_row {t j len : Nat} {c : ClassId} (ht : t < 5) (hj : j < 16) (h : aX tC n t j = some (c, len)) : hW ad tC n I K bw LA bM aM S (100 + 16 * t + j) = some (.inl (c, len, .inl (S t j))) := by
  refine gw_arr hj ?_
  rw [arX, if_pos ht]
  exact h
theorem aX_cage {t j : Nat} (ht : t = 2 ∨ t = 3) (hj : j < n 2) : aX tC n t j = some (tC 0, n 0) := by
  rcases ht with rfl | rfl
  · exact if_pos hj
  · exact if_pos hj
theorem aX_place {j : Nat} (hj : j < n 1) : aX tC n 1 j = some (tC 2, n 0) := if_pos hj
theorem aX_boat {j : Nat} (hj : j < n 3) : aX tC n 4 j = some (tC 2, n 0) := if_pos hj
/-- a row of numbers of the class is another one -/
theorem hW_setRow {t j len : Nat} {c : ClassId} {f : Nat → Int32} (ht : t < 5) (hj : j < 16) (h : aX tC n t j = some (c, len)) (hw : nw_W D hpC A (va_up (hW ad tC n I K bw LA bM aM S) (100 + 16 * t + j) (some (.inl (c, len, .inl f)))) ad H) : nw_W D hpC A (hW ad tC n I K bw LA bM aM (upR S t j f)) ad H :=
  gw_row hj (by rw [arX, if_pos ht]; exact h) hw
theorem obX_ne {ad' : Nat → Nat} {n' : Nat → Nat} {I' : Nat → Nat → Int32} {K' : Nat → Int32} {bw' : Int64} {LA' : Nat → Int64} {q : Nat} (h : ∀ k, k ≠ q → oX ad' tC n' I' K' bw' LA' k = oX ad tC n I K bw LA k) : ∀ k, k ≠ q → obX ad' tC n' I' K' bw' LA' bM k = obX ad tC n I K bw LA bM k := fun k hk => by
  rw [obX, obX, h k hk]
theorem hW_setI0 {q j : Nat} {v : Int32} {x : va_E} (hq : q < 56) (h1 : oX ad tC n (up2 I 0 j v) K bw LA q = some x) (h2 : ∀ k, k ≠ q → oX ad tC n (up2 I 0 j v) K bw LA k = oX ad tC n I K bw LA k) (hw : nw_W D hpC A (va_up (hW ad tC n I K bw LA bM aM S) q (some x)) ad H) : nw_W D hpC A (hW ad tC n (up2 I 0 j v) K bw LA bM aM S) ad H :=
  gw_put (by omega) (by rw [obX, if_pos hq]; exact h1) (obX_ne h2) hw
theorem oX_I0 {j : Nat} {v : Int32} {k : Nat} (hk : k ≠ 1) : oX ad tC n (up2 I 0 j v) K bw LA k = oX ad tC n I K bw LA k := by
  have e1 : ∀ a b, a ≠ 0 → up2 I 0 j v a b = I a b := fun a b h => by simp only [up2]; rw [if_neg (fun q => h q.1)]
  match k with
  | 0 => rfl
  | 1 => exact absurd rfl hk
  | 2 => rfl
  | 3 => rfl
  | 4 => rfl
  | 5 => rfl
  | 6 => rfl
  | 7 => rfl
  | 8 => rfl
  | 9 => rfl
  | k + 10 => rw [oX_hi (by omega), oX_hi (by omega)]; simp only [e1 _ _ (by decide : (1 : Nat) ≠ 0), e1 _ _ (by decide : (2 : Nat) ≠ 0), e1 _ _ (by decide : (3 : Nat) ≠ 0), e1 _ _ (by decide : (4 : Nat) ≠ 0), e1 _ _ (by decide : (5 : Nat) ≠ 0), e1 _ _ (by decide : (6 : Nat) ≠ 0), e1 _ _ (by decide : (7 : Nat) ≠ 0), e1 _ _ (by decide : (8 : Nat) ≠ 0)]
theorem hW_setSpot {v : Int32} (hw : nw_W D hpC A (va_up (hW ad tC n I K bw LA bM aM S) 1 (some (.inr (1, [.int (nI (n 0)), .ref (ad 6), .ref (ad 7), .ref (ad 8), .ref (ad 9), .ref (ad 101), .ref (ad 102), .int (nI (n 1)), .int (nI (n 2)), .int (nI (n 3)), .int (nI (n 4)), .int v, .int (I 0 2)])))) ad H) : nw_W D hpC A (hW ad tC n (up2 I 0 1 v) K bw LA bM aM S) ad H :=
  hW_setI0 (q := 1) (by omega) rfl (fun k hk => oX_I0 hk) hw
theorem hW_setKeep {v : Int32} (hw : nw_W D hpC A (va_up (hW ad tC n I K bw LA bM aM S) 1 (some (.inr (1, [.int (nI (n 0)), .ref (ad 6), .ref (ad 7), .ref (ad 8), .ref (ad 9), .ref (ad 101), .ref (ad 102), .int (nI (n 1)), .int (nI (n 2)), .int (nI (n 3)), .int (nI (n 4)), .int (I 0 1), .int v])))) ad H) : nw_W D hpC A (hW ad tC n (up2 I 0 2 v) K bw LA bM aM S) ad H :=
  hW_setI0 (q := 1) (by omega) rfl (fun k hk => oX_I0 hk) hw
theorem oX_K {j : Nat} {v : Int32} {k : Nat} (h0 : j = 0 → k ≠ 0) (h4 : 1 ≤ j → k ≠ 4) : oX ad tC n I (va_up K j v) bw LA k = oX ad tC n I K bw LA k := by
  match k with
  | 0 => simp only [oX]; rw [va_up_ne _ _ (fun e => h0 e.symm rfl)]
  | 1 => rfl
  | 2 => rfl
  | 3 => rfl
  | 4 => simp only [oX]; rw [va_up_ne _ _ (fun e => h4 (by omega) rfl), va_up_ne _ _ (fun e => h4 (by omega) rfl), va_up_ne _ _ (fun e => h4 (by omega) rfl)]
  | 5 => rfl
  | 6 => rfl
  | 7 => rfl
  | 8 => rfl
  | 9 => rfl
  | k + 10 => rfl
theorem hW_setK {q j : Nat} {v : Int32} {x : va_E} (hq : q < 56) (h1 : oX ad tC n I (va_up K j v) bw LA q = some x) (h2 : ∀ k, k ≠ q → oX ad tC n I (va_up K j v) bw LA k = oX ad tC n I K bw LA k) (hw : nw_W D hpC A (va_up (hW ad tC n I K bw LA bM aM S) q (some x)) ad H) : nw_W D hpC A (hW ad tC n I (va_up K j v) bw LA bM aM S) ad H :=
  gw_put (by omega) (by rw [obX, if_pos hq]; exact h1) (obX_ne h2) hw
theorem hW_setHand {v : Int32} (hw : nw_W D hpC A (va_up (hW ad tC n I K bw LA bM aM S) 0 (some (.inr (0, [.ref (ad 1), .ref (ad 2), .ref (ad 3), .ref (ad 4), .ref (ad 100), .int v])))) ad H) : nw_W D hpC A (hW ad tC n I (va_up K 0 v) bw LA bM aM S) ad H :=
  hW_setK (q := 0) (by omega) rfl (fun k hk => oX_K (fun _ => hk) (fun h => by omega)) hw
theorem hW_setLimit {v : Int32} (hw : nw_W D hpC A (va_up (hW ad tC n I K bw LA bM aM S) 4 (some (.inr (4, [.ref (ad 1), .ref (ad 2), .ref (ad 3), .ref (ad 109), .ref (ad 110), .ref (ad 5), .long bw, .int v, .int (K 2), .int (K 3)])))) ad H) : nw_W D hpC A (hW ad tC n I (va_up K 1 v) bw LA bM aM S) ad H :=
  hW_setK (q := 4) (by omega) rfl (fun k hk => oX_K (fun h => by omega) (fun _ => hk)) hw
theorem hW_setMade {v : Int32} (hw : nw_W D hpC A (va_up (hW ad tC n I K bw LA bM aM S) 4 (some (.inr (4, [.ref (ad 1), .ref (ad 2), .ref (ad 3), .ref (ad 109), .ref (ad 110), .ref (ad 5), .long bw, .int (K 1), .int v, .int (K 3)])))) ad H) : nw_W D hpC A (hW ad tC n I (va_up K 2 v) bw LA bM aM S) ad H :=
  hW_setK (q := 4) (by omega) rfl (fun k hk => oX_K (fun h => by omega) (fun _ => hk)) hw
theorem hW_setSpent {v : Int32} (hw : nw_W D hpC A (va_up (hW ad tC n I K bw LA bM aM S) 4 (some (.inr (4, [.ref (ad 1), .ref (ad 2), .ref (ad 3), .ref (ad 109), .ref (ad 110), .ref (ad 5), .long bw, .int (K 1), .int (K 2), .int v])))) ad H) : nw_W D hpC A (hW ad tC n I (va_up K 3 v) bw LA bM aM S) ad H :=
  hW_setK (q := 4) (by omega) rfl (fun k hk => oX_K (fun h => by omega) (fun _ => hk)) hw
theorem hW_setBw {v : Int64} (hw : nw_W D hpC A (va_up (hW ad tC n I K bw LA bM aM S) 4 (some (.inr (4, [.ref (ad 1), .ref (ad 2), .ref (ad 3), .ref (ad 109), .ref (ad 110), .ref (ad 5), .long v, .int (K 1), .int (K 2), .int (K 3)])))) ad H) : nw_W D hpC A (hW ad tC n I K v LA bM aM S) ad H :=
  gw_put (q := 4) (by omega) rfl (obX_ne (fun k hk => by
    match k, hk with
    | 0, _ => rfl
    | 1, _ => rfl
    | 2, _ => rfl
    | 3, _ => rfl
    | 4, hk => exact absurd rfl hk
    | 5, _ => rfl
    | 6, _ => rfl
    | 7, _ => rfl
    | 8, _ => rfl
    | 9, _ => rfl
    | k + 10, _ => rfl)) hw
theorem hW_setLA {L' : Nat → Int64} (hw : nw_W D hpC A (va_up (hW ad tC n I K bw LA bM aM S) 5 (some (.inl (tC 1, 7, .inr (.inl L'))))) ad H) : nw_W D hpC A (hW ad tC n I K bw L' bM aM S) ad H :=
  gw_put (q := 5) (by omega) rfl (obX_ne (fun k hk => by
    match k, hk with
    | 0, _ => rfl
    | 1, _ => rfl
    | 2, _ => rfl
    | 3, _ => rfl
    | 4, _ => rfl
    | 5, hk => exact absurd rfl hk
    | 6, _ => rfl
    | 7, _ => rfl
    | 8, _ => rfl
    | 9, _ => rfl
    | k + 10, _ => rfl)) hw
end HW
end
section
/-! Arrays.fill and words that came late -/
abbrev b_Arr_fill : ByteArray := prog_20_method_103_code
abbrev y_Arr_fill : MethodName := ⟨"java/util/Arrays", "fill", "([II)V"⟩
theorem d_Arr_fill_0 : decode b_Arr_fill 0 = .ok (.iconst 0, 1) := by decide +kernel
theorem d_Arr_fill_1 : decode b_Arr_fill 1 = .ok (.istore_n 2, 1) := by decide +kernel
theorem d_Arr_fill_2 : decode b_Arr_fill 2 = .ok (.aload_n 0, 1) := by decide +kernel
theorem d_Arr_fill_3 : decode b_Arr_fill 3 = .ok (.arraylength, 1) := by decide +kernel
theorem d_Arr_fill_4 : decode b_Arr_fill 4 = .ok (.istore_n 3, 1) := by decide +kernel
theorem d_Arr_fill_5 : decode b_Arr_fill 5 = .ok (.iload_n 2, 1) := by decide +kernel
theorem d_Arr_fill_6 : decode b_Arr_fill 6 = .ok (.iload_n 3, 1) := by decide +kernel
theorem d_Arr_fill_7 : decode b_Arr_fill 7 = .ok (.if_icmp .ge 13, 3) := by decide +kernel
theorem d_Arr_fill_10 : decode b_Arr_fill 10 = .ok (.aload_n 0, 1) := by decide +kernel
theorem d_Arr_fill_11 : decode b_Arr_fill 11 = .ok (.iload_n 2, 1) := by decide +kernel
theorem d_Arr_fill_12 : decode b_Arr_fill 12 = .ok (.iload_n 1, 1) := by decide +kernel
theorem d_Arr_fill_13 : decode b_Arr_fill 13 = .ok (.iastore, 1) := by decide +kernel
theorem d_Arr_fill_14 : decode b_Arr_fill 14 = .ok (.iinc 2 1, 3) := by decide +kernel
theorem d_Arr_fill_17 : decode b_Arr_fill 17 = .ok (.goto (-12), 3) := by decide +kernel
theorem d_Arr_fill_20 : decode b_Arr_fill 20 = .ok (.return_, 1) := by decide +kernel
theorem kw_568 : (Jvm.Cond.native ({ cls := "java/lang/System", name := "arraycopy", desc := "(Ljava/lang/Object;ILjava/lang/Object;II)V" } : Jvm.MethodName)) ∈ nw_T := nw_T_in kt_568 rfl
end
section
/-! PURE WORDS of the class's methods -/
noncomputable def b2 (p : Prop) : Int32 := @ite _ p (Classical.propDecidable p) 1 0
theorem b2_t {p : Prop} (h : p) : nI 1 = b2 p := by unfold b2; rw [if_pos h]; rfl
theorem b2_f {p : Prop} (h : ¬ p) : nI 0 = b2 p := by unfold b2; rw [if_neg h]; rfl
theorem nw_W.as {D : va_G} {cl : List vw_C} {A : Nat → Prop} {wn wn' : nw_N} {ad : Nat → Nat} {H : Heap} (h : nw_W D cl A wn ad H) (e : wn' = wn) : nw_W D cl A wn' ad H := by rw [e]; exact h
theorem nw_okI {x v : Int32} {wn : nw_N} {ad : Nat → Nat} (h : x = v) : nw_ok (some (.int v)) wn ad (some (.int x)) wn ad := by subst h; exact nw_ok_rf
theorem nw_okL {x v : Int64} {wn : nw_N} {ad : Nat → Nat} (h : x = v) : nw_ok (some (.long v)) wn ad (some (.long x)) wn ad := by subst h; exact nw_ok_rf
theorem aX_pl {tC : Nat → ClassId} {n : Nat → Nat} {r : Nat} (h : r = 0 ∨ r = 9) : aX tC n 0 r = some (tC 0, 6) := by rcases h with rfl | rfl <;> rfl
/-- the kilos that a plan takes in a week, of the first cages -/
def kpS (pl : Nat → Int32) (kl : Nat → Nat → Int32) (w : Nat) : Nat → Int32
  | 0 => 0
  | c + 1 => if pl c = nI w then kpS pl kl w c + kl c w else kpS pl kl w c
theorem kpS_t {pl : Nat → Int32} {kl : Nat → Nat → Int32} {w c : Nat} (h : pl c = nI w) : kpS pl kl w (c + 1) = kpS pl kl w c + kl c w := by simp only [kpS]; rw [if_pos h]
theorem kpS_f {pl : Nat → Int32} {kl : Nat → Nat → Int32} {w c : Nat} (h : ¬ pl c = nI w) : kpS pl kl w (c + 1) = kpS pl kl w c := by simp only [kpS]; rw [if_neg h]
/-- the rows that are no scratch (scratch: 3 needs, 4 loads, 5 missing, 6 held, 7 left, 8 gotten) stay -/
def scr (S S' : Nat → Nat → Nat → Int32) : Prop := ∀ t j, (t = 0 → j < 3 ∨ 8 < j) → S' t j = S t j
theorem scr_rf {S : Nat → Nat → Nat → Int32} : scr S S := fun _ _ _ => rfl
theorem scr_up {S S' : Nat → Nat → Nat → Int32} (h : scr S S') {j : Nat} {f : Nat → Int32} (hj : 3 ≤ j ∧ j ≤ 8) : scr S (upR S' 0 j f) := fun t i hi => by
  rw [upR_ne (by omega)]
  exact h t i hi
theorem scr_tr {S S' S'' : Nat → Nat → Nat → Int32} (h : scr S S') (h' : scr S' S'') : scr S S'' := fun t j hj => (h' t j hj).trans (h t j hj)
/-- it returns v; scratch is another one -/
def nw_sc (v : Option Value) (wf : (Nat → Nat → Nat → Int32) → nw_N) (S0 : Nat → Nat → Nat → Int32) (ad : Nat → Nat) : nw_P := fun o wn' ad' => o = v ∧ ad' = ad ∧ ∃ S', scr S0 S' ∧ wn' = wf S'
theorem nw_scI {x v : Int32} {wf : (Nat → Nat → Nat → Int32) → nw_N} {S0 S' : Nat → Nat → Nat → Int32} {ad : Nat → Nat} (hs : scr S0 S') (h : x = v) : nw_sc (some (.int v)) wf S0 ad (some (.int x)) (wf S') ad := by subst h; exact ⟨rfl, rfl, S', hs, rfl⟩
theorem nw_scL {x v : Int64} {wf : (Nat → Nat → Nat → Int32) → nw_N} {S0 S' : Nat → Nat → Nat → Int32} {ad : Nat → Nat} (hs : scr S0 S') (h : x = v) : nw_sc (some (.long v)) wf S0 ad (some (.long x)) (wf S') ad := by subst h; exact ⟨rfl, rfl, S', hs, rfl⟩
theorem nw_scV {wf : (Nat → Nat → Nat → Int32) → nw_N} {S0 S' : Nat → Nat → Nat → Int32} {ad : Nat → Nat} (hs : scr S0 S') : nw_sc none wf S0 ad none (wf S') ad := ⟨rfl, rfl, S', hs, rfl⟩
/-- a row filled up to its length -/
def flR (f : Nat → Int32) (v : Int32) (m : Nat) : Nat → Int32 := fun i => if i < m then v else f i
theorem flR_0 {f : Nat → Int32} {v : Int32} : flR f v 0 = f := by funext i; simp [flR]
theorem flR_s {f : Nat → Int32} {v : Int32} {m : Nat} : upd (flR f v m) m v = flR f v (m + 1) := by
  funext i
  by_cases h : i = m
  · subst h
    simp [upd, flR]
  · simp only [upd, flR, if_neg h]
    by_cases h2 : i < m
    · rw [if_pos h2, if_pos (by omega)]
    · rw [if_neg h2, if_neg (by omega)]
/-- needy cages: how many of the first, and the row that they make -/
def ngC (pl : Nat → Int32) (kl : Nat → Nat → Int32) (w : Nat) : Nat → Nat
  | 0 => 0
  | c + 1 => if pl c = nI w ∧ 0 < kl c w then ngC pl kl w c + 1 else ngC pl kl w c
def ngA (pl : Nat → Int32) (kl : Nat → Nat → Int32) (w : Nat) (f : Nat → Int32) : Nat → Nat → Int32
  | 0 => f
  | c + 1 => if pl c = nI w ∧ 0 < kl c w then upd (ngA pl kl w f c) (ngC pl kl w c) (kl c w) else ngA pl kl w f c
theorem ngC_le {pl : Nat → Int32} {kl : Nat → Nat → Int32} {w c : Nat} : ngC pl kl w c ≤ c := by
  induction c with
  | zero => exact Nat.le_refl _
  | succ c ih =>
    simp only [ngC]
    by_cases h : pl c = nI w ∧ 0 < kl c w
    · rw [if_pos h]; omega
    · rw [if_neg h]; omega
theorem ng_t {pl : Nat → Int32} {kl : Nat → Nat → Int32} {w c : Nat} {f : Nat → Int32} (h : pl c = nI w) (h2 : 0 < kl c w) : ngC pl kl w (c + 1) = ngC pl kl w c + 1 ∧ ngA pl kl w f (c + 1) = upd (ngA pl kl w f c) (ngC pl kl w c) (kl c w) := by
  simp only [ngC, ngA]; rw [if_pos ⟨h, h2⟩, if_pos ⟨h, h2⟩]; exact ⟨rfl, rfl⟩
theorem ng_f {pl : Nat → Int32} {kl : Nat → Nat → Int32} {w c : Nat} {f : Nat → Int32} (h : ¬ (pl c = nI w ∧ 0 < kl c w)) : ngC pl kl w (c + 1) = ngC pl kl w c ∧ ngA pl kl w f (c + 1) = ngA pl kl w f c := by
  simp only [ngC, ngA]; rw [if_neg h, if_neg h]; exact ⟨rfl, rfl⟩
/-- boats that are not barred: how many of the first, and the row of their loads -/
def lgC (br : Nat → Nat → Int32) (w : Nat) : Nat → Nat
  | 0 => 0
  | b + 1 => if br b w = 0 then lgC br w b + 1 else lgC br w b
def lgA (br : Nat → Nat → Int32) (ld : Nat → Int32) (w : Nat) (f : Nat → Int32) : Nat → Nat → Int32
  | 0 => f
  | b + 1 => if br b w = 0 then upd (lgA br ld w f b) (lgC br w b) (ld b) else lgA br ld w f b
theorem lgC_le {br : Nat → Nat → Int32} {w b : Nat} : lgC br w b ≤ b := by
  induction b with
  | zero => exact Nat.le_refl _
  | succ b ih =>
    simp only [lgC]
    by_cases h : br b w = 0
    · rw [if_pos h]; omega
    · rw [if_neg h]; omega
theorem lg_t {br : Nat → Nat → Int32} {ld : Nat → Int32} {w b : Nat} {f : Nat → Int32} (h : br b w = 0) : lgC br w (b + 1) = lgC br w b + 1 ∧ lgA br ld w f (b + 1) = upd (lgA br ld w f b) (lgC br w b) (ld b) := by
  simp only [lgC, lgA]; rw [if_pos h, if_pos h]; exact ⟨rfl, rfl⟩
theorem lg_f {br : Nat → Nat → Int32} {ld : Nat → Int32} {w b : Nat} {f : Nat → Int32} (h : ¬ br b w = 0) : lgC br w (b + 1) = lgC br w b ∧ lgA br ld w f (b + 1) = lgA br ld w f b := by
  simp only [lgC, lgA]; rw [if_neg h, if_neg h]; exact ⟨rfl, rfl⟩
/-- what is held at the places, of the first cages -/
def hdA (pl : Nat → Int32) (kl : Nat → Nat → Int32) (hm : Nat → Nat) (w : Nat) (f : Nat → Int32) : Nat → Nat → Int32
  | 0 => f
  | c + 1 => if pl c = -1 ∨ nI w ≤ pl c then upd (hdA pl kl hm w f c) (hm c) (hdA pl kl hm w f c (hm c) + kl c w) else hdA pl kl hm w f c
theorem hd_t {pl : Nat → Int32} {kl : Nat → Nat → Int32} {hm : Nat → Nat} {w c : Nat} {f : Nat → Int32} (h : pl c = -1 ∨ nI w ≤ pl c) : hdA pl kl hm w f (c + 1) = upd (hdA pl kl hm w f c) (hm c) (hdA pl kl hm w f c (hm c) + kl c w) := by simp only [hdA]; rw [if_pos h]
theorem hd_f {pl : Nat → Int32} {kl : Nat → Nat → Int32} {hm : Nat → Nat} {w c : Nat} {f : Nat → Int32} (h : ¬ (pl c = -1 ∨ nI w ≤ pl c)) : hdA pl kl hm w f (c + 1) = hdA pl kl hm w f c := by simp only [hdA]; rw [if_neg h]
/-- what cages still want when the first boats go by a way's digits -/
def msA (ld : Nat → Int32) (way nd : Nat) (f : Nat → Int32) : Nat → Nat → Int32
  | 0 => f
  | b + 1 => upd (msA ld way nd f b) (way / nd ^ b % nd) (msA ld way nd f b (way / nd ^ b % nd) - ld b)
theorem ms_s {ld : Nat → Int32} {way nd b : Nat} {f : Nat → Int32} : msA ld way nd f (b + 1) = upd (msA ld way nd f b) (way / nd ^ b % nd) (msA ld way nd f b (way / nd ^ b % nd) - ld b) := rfl
/-- the kilos of that week held at a place, of the first cages -/
def hsS (pl : Nat → Int32) (kl : Nat → Nat → Int32) (hm : Nat → Nat) (w p : Nat) : Nat → Int32
  | 0 => 0
  | c + 1 => if (pl c = -1 ∨ nI w ≤ pl c) ∧ hm c = p then hsS pl kl hm w p c + kl c w else hsS pl kl hm w p c
theorem hd_hs {pl : Nat → Int32} {kl : Nat → Nat → Int32} {hm : Nat → Nat} {w p c : Nat} {f : Nat → Int32} (hf : f p = 0) : hdA pl kl hm w f c p = hsS pl kl hm w p c := by
  induction c with
  | zero => exact hf
  | succ c ih =>
    simp only [hdA, hsS]
    by_cases h : pl c = -1 ∨ nI w ≤ pl c
    · rw [if_pos h]
      by_cases h2 : hm c = p
      · rw [if_pos ⟨h, h2⟩]
        subst h2
        simp only [upd, if_true]
        rw [ih]
      · rw [if_neg (fun q => h2 q.2)]
        simp only [upd, if_neg (fun q : p = hm c => h2 q.symm)]
        exact ih
    · rw [if_neg h, if_neg (fun q => h q.1)]
      exact ih
theorem ngA_base {pl : Nat → Int32} {kl : Nat → Nat → Int32} {w c k : Nat} {f g : Nat → Int32} (hk : k < ngC pl kl w c) : ngA pl kl w f c k = ngA pl kl w g c k := by
  induction c with
  | zero => exact absurd hk (Nat.not_lt_zero k)
  | succ c ih =>
    by_cases h : pl c = nI w ∧ 0 < kl c w
    · rw [(ng_t (f := f) h.1 h.2).2, (ng_t (f := g) h.1 h.2).2]
      rw [(ng_t (f := f) h.1 h.2).1] at hk
      by_cases h2 : k = ngC pl kl w c
      · simp only [upd, if_pos h2]
      · simp only [upd, if_neg h2]
        exact ih (by omega)
    · rw [(ng_f (f := f) h).2, (ng_f (f := g) h).2]
      rw [(ng_f (f := f) h).1] at hk
      exact ih hk
theorem lgA_base {br : Nat → Nat → Int32} {ld : Nat → Int32} {w b k : Nat} {f g : Nat → Int32} (hk : k < lgC br w b) : lgA br ld w f b k = lgA br ld w g b k := by
  induction b with
  | zero => exact absurd hk (Nat.not_lt_zero k)
  | succ b ih =>
    by_cases h : br b w = 0
    · rw [(lg_t (ld := ld) (f := f) h).2, (lg_t (ld := ld) (f := g) h).2]
      rw [(lg_t (ld := ld) (f := f) h).1] at hk
      by_cases h2 : k = lgC br w b
      · simp only [upd, if_pos h2]
      · simp only [upd, if_neg h2]
        exact ih (by omega)
    · rw [(lg_f (ld := ld) (f := f) h).2, (lg_f (ld := ld) (f := g) h).2]
      rw [(lg_f (ld := ld) (f := f) h).1] at hk
      exact ih hk
theorem msA_base {ld ld' : Nat → Int32} {way nd b : Nat} {f g : Nat → Int32} (h0 : 0 < nd) (hf : ∀ k, k < nd → f k = g k) (hl : ∀ k, k < b → ld k = ld' k) : ∀ k, k < nd → msA ld way nd f b k = msA ld' way nd g b k := by
  induction b with
  | zero => exact hf
  | succ b ih =>
    intro k hk
    have ih := ih (fun j hj => hl j (by omega))
    have hm := Nat.mod_lt (way / nd ^ b) h0
    simp only [ms_s, upd]
    by_cases h : k = way / nd ^ b % nd
    · rw [if_pos h, if_pos h, ih _ hm, hl b (by omega)]
    · rw [if_neg h, if_neg h, ih k hk]
def pCarries (f3 f4 : Nat → Int32) (nd af way : Nat) : Prop := ∀ k, k < nd → msA f4 way nd f3 af k ≤ 0
theorem pCarries_base {f3 g3 f4 g4 : Nat → Int32} {nd af way : Nat} (h0 : 0 < nd) (h3 : ∀ k, k < nd → f3 k = g3 k) (h4 : ∀ k, k < af → f4 k = g4 k) : pCarries f3 f4 nd af way ↔ pCarries g3 g4 nd af way :=
  ⟨fun h k hk => by rw [← msA_base h0 h3 h4 k hk]; exact h k hk, fun h k hk => by rw [msA_base h0 h3 h4 k hk]; exact h k hk⟩
def pPlant (n : Nat → Nat) (S0 : Nat → Nat → Nat → Int32) (pl : Nat → Int32) (w : Nat) : Prop := kpS pl (S0 3) w (n 2) ≤ S0 0 2 w
def pClosed (n : Nat → Nat) (hm : Nat → Nat) (S0 : Nat → Nat → Nat → Int32) (pl : Nat → Int32) (w : Nat) : Prop := ∀ j, j < n 2 → pl j = nI w → S0 1 (hm j) w = 0
def pHeld (n : Nat → Nat) (I : Nat → Nat → Int32) (hm : Nat → Nat) (S0 : Nat → Nat → Nat → Int32) (pl : Nat → Int32) (w : Nat) : Prop := ∀ p, p < n 1 → hsS pl (S0 3) hm w p (n 2) ≤ I 1 p
def pBoats (n : Nat → Nat) (I : Nat → Nat → Int32) (S0 : Nat → Nat → Nat → Int32) (pl : Nat → Int32) (w : Nat) : Prop :=
  ngC pl (S0 3) w (n 2) = 0 ∨ (ngC pl (S0 3) w (n 2) ≤ lgC (S0 4) w (n 3) ∧ ∃ v, v < ngC pl (S0 3) w (n 2) ^ lgC (S0 4) w (n 3) ∧ pCarries (ngA pl (S0 3) w (fun _ => 0) (n 2)) (lgA (S0 4) (I 3) w (fun _ => 0) (n 3)) (ngC pl (S0 3) w (n 2)) (lgC (S0 4) w (n 3)) v)
theorem pow27 {a b : Nat} (h0 : 1 ≤ a) (ha : a ≤ 3) (hb : b ≤ 3) : a ^ b ≤ 27 :=
  Nat.le_trans (Nat.pow_le_pow_left ha b) (Nat.le_trans (Nat.pow_le_pow_right (by decide) hb) (by decide))
theorem cpy_lo {f g : Nat → Int32} {m k : Nat} (h : k < m) : va_cpy f g 0 0 m k = f k := by simp only [va_cpy]; rw [if_pos ⟨Nat.zero_le _, by omega⟩, Nat.sub_zero, Nat.zero_add]
theorem b2_0 {p : Prop} (h : b2 p = 0) : ¬ p := fun q => by rw [← b2_t q] at h; exact absurd h (by decide)
theorem b2_1 {p : Prop} (h : ¬ b2 p = 0) : p := Classical.not_not.mp (fun q => h (by rw [← b2_f q]; rfl))
theorem nw_sc_out {v rv : Option Value} {wf : (Nat → Nat → Nat → Int32) → nw_N} {S0 : Nat → Nat → Nat → Int32} {ad ad' : Nat → Nat} {wn' : nw_N} {D : va_G} {cl : List vw_C} {A : Nat → Prop} {H : Heap} (h : nw_sc v wf S0 ad rv wn' ad') (hw : nw_W D cl A wn' ad' H) : rv = v ∧ ∃ S', scr S0 S' ∧ nw_W D cl A (wf S') ad H := by
  obtain ⟨h1, h2, S', h3, h4⟩ := h
  rw [h2, h4] at hw
  exact ⟨h1, S', h3, hw⟩
/-- the least rule that is broken -/
noncomputable def lbI (a b c d : Prop) : Int32 := @ite _ a (Classical.propDecidable a) (@ite _ b (Classical.propDecidable b) (@ite _ c (Classical.propDecidable c) (@ite _ d (Classical.propDecidable d) 0 4) 3) 2) 1
theorem lbI_1 {a b c d : Prop} (h : ¬ a) : nI 1 = lbI a b c d := by unfold lbI; rw [if_neg h]; rfl
theorem lbI_2 {a b c d : Prop} (ha : a) (h : ¬ b) : nI 2 = lbI a b c d := by unfold lbI; rw [if_pos ha, if_neg h]; rfl
theorem lbI_3 {a b c d : Prop} (ha : a) (hb : b) (h : ¬ c) : nI 3 = lbI a b c d := by unfold lbI; rw [if_pos ha, if_pos hb, if_neg h]; rfl
theorem lbI_4 {a b c d : Prop} (ha : a) (hb : b) (hc : c) (h : ¬ d) : nI 4 = lbI a b c d := by unfold lbI; rw [if_pos ha, if_pos hb, if_pos hc, if_neg h]; rfl
theorem lbI_0 {a b c d : Prop} (ha : a) (hb : b) (hc : c) (h : d) : nI 0 = lbI a b c d := by unfold lbI; rw [if_pos ha, if_pos hb, if_pos hc, if_pos h]; rfl
end
section
set_option maxHeartbeats 4000000 in
set_option maxRecDepth 100000 in
/-- Arrays.fill on a row of the class -/
theorem c_Arr_fill (l : Launch) (D : va_G) (tC : Nat → ClassId) (A : Nat → Prop) (ad : Nat → Nat) (n : Nat → Nat) (I : Nat → Nat → Int32) (K : Nat → Int32) (bw : Int64) (LA : Nat → Int64) (bM : Nat → Option va_E) (aM : Nat → Nat → Option (ClassId × Nat)) (S0 S : Nat → Nat → Nat → Int32) (hsc : scr S0 S) (hN : hpN n) (j m0 : Nat) (v : Int32) (hj16 : j < 16) (hm0 : m0 < 2147483648) (hj : aX tC n 0 j = some (tC 0, m0)) : nw_Met l y_Arr_fill [Cond.code y_Arr_fill b_Arr_fill 4 none] ({ frames := 0, cells := 0, slots := 0, locals := 0 } : Room) D hpC A [.ref (ad (100 + j)), .int (v)] (nw_pre D hpC (hpT tC) A (hW ad tC n I K bw LA bM aM S) ad) (nw_ok none (hW ad tC n I K bw LA bM aM (upR S 0 j (flR (S 0 j) v m0))) ad) 0 0 := by
  refine nw_bodyK (by decide) (Nat.le_of_ble_eq_true rfl) ?_
  intro p e s m below meth cd ls args Q hSx hr hlocks hname hA hKs hw hS hl hQ
  obtain ⟨hx, hb, hml, hown, hts⟩ := id hSx
  have hK := hKs.1
  have hl : lv_has ls 4 [(0, .ref (ad (100 + j))), (1, .int (v))] := hl
  obtain ⟨hn0, hn0', hn1, hn2, hn3, hn4⟩ := id hN
  refine lv_iconst (v := nI 0) hx hb d_Arr_fill_0 (by decide) ?_
  refine lv_istore_n (lv' := [(2, .int (nI 0)), (0, .ref (ad (100 + j))), (1, .int (v))]) hx hb d_Arr_fill_1 rfl hl (by decide) rfl (fun ls hl => ?_)
  refine lv_aload_n hx hb d_Arr_fill_2 rfl (lv_at hl 1 rfl) ?_
  refine nw_alen (v := nI (m0)) hx hb hK hw (100 + j) 0 (hW_row (t := 0) (j := j) (by decide) (by omega) (hj)) rfl rfl d_Arr_fill_3 ?_
  refine lv_istore_n (lv' := [(3, .int (nI (m0))), (2, .int (nI 0)), (0, .ref (ad (100 + j))), (1, .int (v))]) hx hb d_Arr_fill_4 rfl hl (by decide) rfl (fun ls hl => ?_)
  have hw := nw_W.as (wn' := hW ad tC n I K bw LA bM aM (upR S 0 j (flR (S 0 j) v 0))) hw (by rw [flR_0, upR_same])
  have loop5 : ∀ (k i : Nat), i ≤ m0 → m0 + 1 ≤ i + k → ∀ (H : Heap) (locs : List Loc) (ls : Array Slot), nw_W D hpC A (hW ad tC n I K bw LA bM aM (upR S 0 j (flR (S 0 j) v i))) ad H → va_S A s.heap H locs → lv_has ls 4 [(0, .ref (ad (100 + j))), (1, .int (v)), (2, .int (nI i)), (3, .int (nI m0))] → W p l e ({ frames := 0, cells := 0, slots := 0, locals := 0 } : Room) s m args below meth cd H locs 0 0 Q (F0 m 5 ls []) := by
    intro k
    induction k with
    | zero => intro i h1 h2; exact absurd h2 (by omega)
    | succ k ih5 =>
      intro i hv5 hk5 H locs ls hw hS hl
      refine lv_iload_n hx hb d_Arr_fill_5 rfl (lv_at hl 2 rfl) ?_
      refine lv_iload_n hx hb d_Arr_fill_6 rfl (lv_at hl 3 rfl) ?_
      refine lv_icmp_ge (tgt := 20) hx hb d_Arr_fill_7 (by decide) (fun c_7 => ?_) (fun c_7 => ?_)
      · skip
        have hge7 : m0 ≤ i := (nI_leI (by omega) (by omega)).mp c_7
        obtain rfl : m0 = i := by omega
        exact nw_vret hQ hx hb hr hlocks hw hS (nw_ok_rf) (Nat.le_of_ble_eq_true rfl) (Nat.le_of_ble_eq_true rfl) d_Arr_fill_20
      · skip
        have hlt : i < m0 := Nat.not_le.mp (fun q => c_7 (nI_le q (by omega)))
        refine lv_aload_n hx hb d_Arr_fill_10 rfl (lv_at hl 0 rfl) ?_
        refine lv_iload_n hx hb d_Arr_fill_11 rfl (lv_at hl 2 rfl) ?_
        refine lv_iload_n hx hb d_Arr_fill_12 rfl (lv_at hl 1 rfl) ?_
        refine nw_iast hx hb hK hw hS (100 + j) 0 (hW_row (t := 0) (j := j) (by decide) (by omega) (hj)) rfl (i) (rfl) (by omega) (by omega) d_Arr_fill_13 (fun H locs hw hS => ?_)
        have hw := hW_setRow (t := 0) (j := j) (by decide) (by omega) (hj) hw
        rw [upR_upR, upR_self] at hw
        refine lv_iinc (v := nI (i + 1)) (lv' := [(2, .int (nI (i + 1))), (0, .ref (ad (100 + j))), (1, .int (v)), (3, .int (nI m0))]) hx hb d_Arr_fill_14 hl (k := 2) rfl ((nI_succ _).symm) (by decide) rfl (fun ls hl => ?_)
        refine lv_goto (tgt := 5) hx hb d_Arr_fill_17 (by decide) ?_
        have hw := nw_W.as (wn' := hW ad tC n I K bw LA bM aM (upR S 0 j (flR (S 0 j) v (i + 1)))) hw (by rw [← flR_s])
        exact ih5 (i + 1) (by omega) (by omega) _ _ ls hw hS (lv_sub hl [1, 2, 0, 3] rfl)
  exact loop5 (m0 + 1) (0) (by omega) (by omega) _ _ ls hw hS (lv_sub hl [2, 3, 1, 0] rfl)

set_option maxHeartbeats 4000000 in
set_option maxRecDepth 100000 in
/-- PLANT -/
theorem c_Rules_keepsPlant (l : Launch) (D : va_G) (tC : Nat → ClassId) (A : Nat → Prop) (ad : Nat → Nat) (n : Nat → Nat) (I : Nat → Nat → Int32) (K : Nat → Int32) (bw : Int64) (LA : Nat → Int64) (bM : Nat → Option va_E) (aM : Nat → Nat → Option (ClassId × Nat)) (S0 S : Nat → Nat → Nat → Int32) (hsc : scr S0 S) (hN : hpN n) (r : Nat) (hr0 : r = 0 ∨ r = 9) (w : Nat) (hwk : w < n 0) : nw_Met l y_Rules_keepsPlant [Cond.code y_Rules_keepsPlant b_Rules_keepsPlant 5 (some .boolean)] ({ frames := 0, cells := 0, slots := 0, locals := 0 } : Room) D hpC A [.ref (ad (2)), .ref (ad (100 + r)), .int (nI w)] (nw_pre D hpC (hpT tC) A (hW ad tC n I K bw LA bM aM S) ad) (nw_ok (some (.int (b2 (pPlant n S0 (S0 0 r) w)))) (hW ad tC n I K bw LA bM aM S) ad) 0 0 := by
  refine nw_bodyK (by decide) (Nat.le_of_ble_eq_true rfl) ?_
  intro p e s m below meth cd ls args Q hSx hr hlocks hname hA hKs hw hS hl hQ
  obtain ⟨hx, hb, hml, hown, hts⟩ := id hSx
  have hK := hKs.1
  have hl : lv_has ls 5 [(0, .ref (ad (2))), (1, .ref (ad (100 + r))), (2, .int (nI w))] := hl
  obtain ⟨hn0, hn0', hn1, hn2, hn3, hn4⟩ := id hN
  refine lv_iconst (v := nI 0) hx hb d_Rules_keepsPlant_0 (by decide) ?_
  refine lv_istore_n (lv' := [(3, .int (nI 0)), (0, .ref (ad (2))), (1, .ref (ad (100 + r))), (2, .int (nI w))]) hx hb d_Rules_keepsPlant_1 rfl hl (by decide) rfl (fun ls hl => ?_)
  refine lv_iconst (v := nI 0) hx hb d_Rules_keepsPlant_2 (by decide) ?_
  refine lv_istore (lv' := [(4, .int (nI 0)), (3, .int (nI 0)), (0, .ref (ad (2))), (1, .ref (ad (100 + r))), (2, .int (nI w))]) hx hb d_Rules_keepsPlant_3 hl (by decide) rfl (fun ls hl => ?_)
  have loop5 : ∀ (k c : Nat), c ≤ n 2 → n 2 + 1 ≤ c + k → ∀ (H : Heap) (locs : List Loc) (ls : Array Slot), nw_W D hpC A (hW ad tC n I K bw LA bM aM S) ad H → va_S A s.heap H locs → lv_has ls 5 [(0, .ref (ad (2))), (1, .ref (ad (100 + r))), (2, .int (nI w)), (3, .int (kpS (S0 0 r) (S0 3) w (c))), (4, .int (nI c))] → W p l e ({ frames := 0, cells := 0, slots := 0, locals := 0 } : Room) s m args below meth cd H locs 0 0 Q (F0 m 5 ls []) := by
    intro k
    induction k with
    | zero => intro c h1 h2; exact absurd h2 (by omega)
    | succ k ih5 =>
      intro c hv5 hk5 H locs ls hw hS hl
      refine lv_iload hx hb d_Rules_keepsPlant_5 (lv_at hl 4 rfl) ?_
      refine lv_aload_n hx hb d_Rules_keepsPlant_7 rfl (lv_at hl 0 rfl) ?_
      refine nw_get hx hb hts i_Rules hown hK hw (2) (hW_2) rfl 0 (by decide) (hts _ kw_121) (fun _ h9 => h9) rfl d_Rules_keepsPlant_8 ?_
      refine nw_getN hx hb hts i_Farm hown hK hw (1) (hW_1) rfl 8 (by decide) (va_Nw.use rfl (hKs.2.2 _ kn_73 rfl)) (fun _ h9 => h9) rfl d_Rules_keepsPlant_11 ?_
      refine lv_icmp_ge (tgt := 49) hx hb d_Rules_keepsPlant_14 (by decide) (fun c_14 => ?_) (fun c_14 => ?_)
      · skip
        have hge14 : n 2 ≤ c := (nI_leI (by omega) (by omega)).mp c_14
        obtain rfl : n 2 = c := by omega
        refine lv_iload_n hx hb d_Rules_keepsPlant_49 rfl (lv_at hl 3 rfl) ?_
        refine lv_aload_n hx hb d_Rules_keepsPlant_50 rfl (lv_at hl 0 rfl) ?_
        refine nw_get hx hb hts i_Rules hown hK hw (2) (hW_2) rfl 0 (by decide) (hts _ kw_121) (fun _ h9 => h9) rfl d_Rules_keepsPlant_51 ?_
        refine nw_getN hx hb hts i_Farm hown hK hw (1) (hW_1) rfl 6 (by decide) (va_Nw.use rfl (hKs.2.2 _ kn_66 rfl)) (fun _ h9 => h9) rfl d_Rules_keepsPlant_54 ?_
        refine lv_iload_n hx hb d_Rules_keepsPlant_57 rfl (lv_at hl 2 rfl) ?_
        refine nw_iald hx hb hK hw (102) 0 (hW_row (t := 0) (j := 2) (by decide) (by omega) (rfl)) rfl (w) (rfl) (by omega) (by omega) d_Rules_keepsPlant_58 ?_
        refine lv_ei (y := S0 0 2 w) (congrFun (hsc 0 2 (by omega)) _) ?_
        refine lv_icmp_gt (tgt := 66) hx hb d_Rules_keepsPlant_59 (by decide) (fun c_59 => ?_) (fun c_59 => ?_)
        · skip
          have hres : nI 0 = b2 (pPlant n S0 (S0 0 r) w) := b2_f (Int32.not_le.mpr c_59)
          refine lv_iconst (v := nI 0) hx hb d_Rules_keepsPlant_66 (by decide) ?_
          exact nw_zret hQ hx hb hr (by first | exact Or.inl rfl | exact Or.inr rfl) hlocks hw hS (nw_okI hres) (Nat.le_of_ble_eq_true rfl) (Nat.le_of_ble_eq_true rfl) d_Rules_keepsPlant_67
        · skip
          have hres : nI 1 = b2 (pPlant n S0 (S0 0 r) w) := b2_t (Int32.not_lt.mp c_59)
          refine lv_iconst (v := nI 1) hx hb d_Rules_keepsPlant_62 (by decide) ?_
          refine lv_goto (tgt := 67) hx hb d_Rules_keepsPlant_63 (by decide) ?_
          exact nw_zret hQ hx hb hr (by first | exact Or.inl rfl | exact Or.inr rfl) hlocks hw hS (nw_okI hres) (Nat.le_of_ble_eq_true rfl) (Nat.le_of_ble_eq_true rfl) d_Rules_keepsPlant_67
      · skip
        have hlt : c < n 2 := Nat.not_le.mp (fun q => c_14 (nI_le q (by omega)))
        refine lv_aload_n hx hb d_Rules_keepsPlant_17 rfl (lv_at hl 1 rfl) ?_
        refine lv_iload hx hb d_Rules_keepsPlant_18 (lv_at hl 4 rfl) ?_
        refine nw_iald hx hb hK hw (100 + r) 0 (hW_row (t := 0) (j := r) (by decide) (by omega) (aX_pl hr0)) rfl (c) (rfl) (by omega) (by omega) d_Rules_keepsPlant_20 ?_
        refine lv_ei (y := S0 0 r c) (congrFun (hsc 0 r (by omega)) _) ?_
        refine lv_iload_n hx hb d_Rules_keepsPlant_21 rfl (lv_at hl 2 rfl) ?_
        refine lv_icmp_ne (tgt := 43) hx hb d_Rules_keepsPlant_22 (by decide) (fun c_22 => ?_) (fun c_22 => ?_)
        · skip
          have e22 : kpS (S0 0 r) (S0 3) w (c + 1) = kpS (S0 0 r) (S0 3) w (c) := kpS_f c_22
          refine lv_iinc (v := nI (c + 1)) (lv' := [(4, .int (nI (c + 1))), (0, .ref (ad (2))), (1, .ref (ad (100 + r))), (2, .int (nI w)), (3, .int (kpS (S0 0 r) (S0 3) w (c)))]) hx hb d_Rules_keepsPlant_43 hl (k := 4) rfl ((nI_succ _).symm) (by decide) rfl (fun ls hl => ?_)
          refine lv_goto (tgt := 5) hx hb d_Rules_keepsPlant_46 (by decide) ?_
          have el3 : kpS (S0 0 r) (S0 3) w (c + 1) = kpS (S0 0 r) (S0 3) w (c) := e22
          have hl : lv_has ls 5 [(4, .int (nI (c + 1))), (0, .ref (ad (2))), (1, .ref (ad (100 + r))), (2, .int (nI w)), (3, .int (kpS (S0 0 r) (S0 3) w (c + 1)))] := by
            have h9 := hl
            revert h9; rw [show Value.int (kpS (S0 0 r) (S0 3) w (c + 1)) = Value.int (kpS (S0 0 r) (S0 3) w (c)) from congrArg _ el3]; intro h9
            exact h9
          exact ih5 (c + 1) (by omega) (by omega) _ _ ls hw hS (lv_sub hl [1, 2, 3, 4, 0] rfl)
        · skip
          have e22 : kpS (S0 0 r) (S0 3) w (c + 1) = kpS (S0 0 r) (S0 3) w (c) + S0 3 c w := kpS_t c_22
          refine lv_iload_n hx hb d_Rules_keepsPlant_25 rfl (lv_at hl 3 rfl) ?_
          refine lv_aload_n hx hb d_Rules_keepsPlant_26 rfl (lv_at hl 0 rfl) ?_
          refine nw_get hx hb hts i_Rules hown hK hw (2) (hW_2) rfl 0 (by decide) (hts _ kw_121) (fun _ h9 => h9) rfl d_Rules_keepsPlant_27 ?_
          refine nw_getN hx hb hts i_Farm hown hK hw (1) (hW_1) rfl 2 (by decide) (va_Nw.use rfl (hKs.2.2 _ kn_56 rfl)) (fun _ h9 => h9) rfl d_Rules_keepsPlant_30 ?_
          refine lv_iload hx hb d_Rules_keepsPlant_33 (lv_at hl 4 rfl) ?_
          refine nw_aald hx hb hK hw (7) 4 (hW_7) rfl (c) (rfl) (by omega) (by omega) (y := ad (32 + c)) (if_pos (by omega)) d_Rules_keepsPlant_35 ?_
          refine nw_getN hx hb hts i_Cage hown hK hw (32 + c) (hW_cage hN (by omega)) rfl 2 (by decide) (va_Nw.use rfl (hKs.2.2 _ kn_417 rfl)) (fun _ h9 => h9) rfl d_Rules_keepsPlant_36 ?_
          refine lv_iload_n hx hb d_Rules_keepsPlant_39 rfl (lv_at hl 2 rfl) ?_
          refine nw_iald hx hb hK hw (148 + c) 0 (hW_row (t := 3) (j := c) (by decide) (by omega) (aX_cage (Or.inr rfl) (by omega))) rfl (w) (rfl) (by omega) (by omega) d_Rules_keepsPlant_40 ?_
          refine lv_ei (y := S0 3 c w) (congrFun (hsc 3 c (by omega)) _) ?_
          refine lv_iadd hx hb d_Rules_keepsPlant_41 ?_
          refine lv_istore_n (lv' := [(3, .int (((kpS (S0 0 r) (S0 3) w (c)) + (S0 3 c w)))), (0, .ref (ad (2))), (1, .ref (ad (100 + r))), (2, .int (nI w)), (4, .int (nI c))]) hx hb d_Rules_keepsPlant_42 rfl hl (by decide) rfl (fun ls hl => ?_)
          refine lv_iinc (v := nI (c + 1)) (lv' := [(4, .int (nI (c + 1))), (3, .int (((kpS (S0 0 r) (S0 3) w (c)) + (S0 3 c w)))), (0, .ref (ad (2))), (1, .ref (ad (100 + r))), (2, .int (nI w))]) hx hb d_Rules_keepsPlant_43 hl (k := 4) rfl ((nI_succ _).symm) (by decide) rfl (fun ls hl => ?_)
          refine lv_goto (tgt := 5) hx hb d_Rules_keepsPlant_46 (by decide) ?_
          have el3 : kpS (S0 0 r) (S0 3) w (c + 1) = ((kpS (S0 0 r) (S0 3) w (c)) + (S0 3 c w)) := e22
          have hl : lv_has ls 5 [(4, .int (nI (c + 1))), (3, .int (kpS (S0 0 r) (S0 3) w (c + 1))), (0, .ref (ad (2))), (1, .ref (ad (100 + r))), (2, .int (nI w))] := by
            have h9 := hl
            revert h9; rw [show Value.int (kpS (S0 0 r) (S0 3) w (c + 1)) = Value.int (((kpS (S0 0 r) (S0 3) w (c)) + (S0 3 c w))) from congrArg _ el3]; intro h9
            exact h9
          exact ih5 (c + 1) (by omega) (by omega) _ _ ls hw hS (lv_sub hl [2, 3, 4, 1, 0] rfl)
  exact loop5 (n 2 + 1) (0) (by omega) (by omega) _ _ ls hw hS (lv_sub hl [2, 3, 4, 1, 0] rfl)

set_option maxHeartbeats 4000000 in
set_option maxRecDepth 100000 in
/-- CLOSED -/
theorem c_Rules_keepsClosed (l : Launch) (D : va_G) (tC : Nat → ClassId) (A : Nat → Prop) (ad : Nat → Nat) (n : Nat → Nat) (I : Nat → Nat → Int32) (K : Nat → Int32) (bw : Int64) (LA : Nat → Int64) (bM : Nat → Option va_E) (aM : Nat → Nat → Option (ClassId × Nat)) (S0 S : Nat → Nat → Nat → Int32) (hsc : scr S0 S) (hN : hpN n) (r : Nat) (hr0 : r = 0 ∨ r = 9) (w : Nat) (hwk : w < n 0) (hm : Nat → Nat) (hH : ∀ c, c < n 2 → I 2 c = nI (hm c) ∧ hm c < n 1) : nw_Met l y_Rules_keepsClosed [Cond.code y_Rules_keepsClosed b_Rules_keepsClosed 4 (some .boolean)] ({ frames := 0, cells := 0, slots := 0, locals := 0 } : Room) D hpC A [.ref (ad (2)), .ref (ad (100 + r)), .int (nI w)] (nw_pre D hpC (hpT tC) A (hW ad tC n I K bw LA bM aM S) ad) (nw_ok (some (.int (b2 (pClosed n hm S0 (S0 0 r) w)))) (hW ad tC n I K bw LA bM aM S) ad) 0 0 := by
  refine nw_bodyK (by decide) (Nat.le_of_ble_eq_true rfl) ?_
  intro p e s m below meth cd ls args Q hSx hr hlocks hname hA hKs hw hS hl hQ
  obtain ⟨hx, hb, hml, hown, hts⟩ := id hSx
  have hK := hKs.1
  have hl : lv_has ls 4 [(0, .ref (ad (2))), (1, .ref (ad (100 + r))), (2, .int (nI w))] := hl
  obtain ⟨hn0, hn0', hn1, hn2, hn3, hn4⟩ := id hN
  refine lv_iconst (v := nI 0) hx hb d_Rules_keepsClosed_0 (by decide) ?_
  refine lv_istore_n (lv' := [(3, .int (nI 0)), (0, .ref (ad (2))), (1, .ref (ad (100 + r))), (2, .int (nI w))]) hx hb d_Rules_keepsClosed_1 rfl hl (by decide) rfl (fun ls hl => ?_)
  have loop2 : ∀ (k c : Nat), c ≤ n 2 → n 2 + 1 ≤ c + k → (∀ j, j < c → S0 0 r j = nI w → S0 1 (hm j) w = 0) → ∀ (H : Heap) (locs : List Loc) (ls : Array Slot), nw_W D hpC A (hW ad tC n I K bw LA bM aM S) ad H → va_S A s.heap H locs → lv_has ls 4 [(0, .ref (ad (2))), (1, .ref (ad (100 + r))), (2, .int (nI w)), (3, .int (nI c))] → W p l e ({ frames := 0, cells := 0, slots := 0, locals := 0 } : Room) s m args below meth cd H locs 0 0 Q (F0 m 2 ls []) := by
    intro k
    induction k with
    | zero => intro c h1 h2; exact absurd h2 (by omega)
    | succ k ih2 =>
      intro c hv2 hk2 hinv H locs ls hw hS hl
      refine lv_iload_n hx hb d_Rules_keepsClosed_2 rfl (lv_at hl 3 rfl) ?_
      refine lv_aload_n hx hb d_Rules_keepsClosed_3 rfl (lv_at hl 0 rfl) ?_
      refine nw_get hx hb hts i_Rules hown hK hw (2) (hW_2) rfl 0 (by decide) (hts _ kw_121) (fun _ h9 => h9) rfl d_Rules_keepsClosed_4 ?_
      refine nw_getN hx hb hts i_Farm hown hK hw (1) (hW_1) rfl 8 (by decide) (va_Nw.use rfl (hKs.2.2 _ kn_73 rfl)) (fun _ h9 => h9) rfl d_Rules_keepsClosed_7 ?_
      refine lv_icmp_ge (tgt := 56) hx hb d_Rules_keepsClosed_10 (by decide) (fun c_10 => ?_) (fun c_10 => ?_)
      · skip
        have hge10 : n 2 ≤ c := (nI_leI (by omega) (by omega)).mp c_10
        obtain rfl : n 2 = c := by omega
        have hres : nI 1 = b2 (pClosed n hm S0 (S0 0 r) w) := b2_t hinv
        refine lv_iconst (v := nI 1) hx hb d_Rules_keepsClosed_56 (by decide) ?_
        exact nw_zret hQ hx hb hr (by first | exact Or.inl rfl | exact Or.inr rfl) hlocks hw hS (nw_okI hres) (Nat.le_of_ble_eq_true rfl) (Nat.le_of_ble_eq_true rfl) d_Rules_keepsClosed_57
      · skip
        have hlt : c < n 2 := Nat.not_le.mp (fun q => c_10 (nI_le q (by omega)))
        refine lv_aload_n hx hb d_Rules_keepsClosed_13 rfl (lv_at hl 1 rfl) ?_
        refine lv_iload_n hx hb d_Rules_keepsClosed_14 rfl (lv_at hl 3 rfl) ?_
        refine nw_iald hx hb hK hw (100 + r) 0 (hW_row (t := 0) (j := r) (by decide) (by omega) (aX_pl hr0)) rfl (c) (rfl) (by omega) (by omega) d_Rules_keepsClosed_15 ?_
        refine lv_ei (y := S0 0 r c) (congrFun (hsc 0 r (by omega)) _) ?_
        refine lv_iload_n hx hb d_Rules_keepsClosed_16 rfl (lv_at hl 2 rfl) ?_
        refine lv_icmp_ne (tgt := 50) hx hb d_Rules_keepsClosed_17 (by decide) (fun c_17 => ?_) (fun c_17 => ?_)
        · skip
          have hinv' : ∀ j, j < (c + 1) → S0 0 r j = nI w → S0 1 (hm j) w = 0 := lt_s hinv (fun h => absurd h c_17)
          refine lv_iinc (v := nI (c + 1)) (lv' := [(3, .int (nI (c + 1))), (0, .ref (ad (2))), (1, .ref (ad (100 + r))), (2, .int (nI w))]) hx hb d_Rules_keepsClosed_50 hl (k := 3) rfl ((nI_succ _).symm) (by decide) rfl (fun ls hl => ?_)
          refine lv_goto (tgt := 2) hx hb d_Rules_keepsClosed_53 (by decide) ?_
          exact ih2 (c + 1) (by omega) (by omega) (hinv') _ _ ls hw hS (lv_sub hl [1, 2, 3, 0] rfl)
        · skip
          refine lv_aload_n hx hb d_Rules_keepsClosed_20 rfl (lv_at hl 0 rfl) ?_
          refine nw_get hx hb hts i_Rules hown hK hw (2) (hW_2) rfl 0 (by decide) (hts _ kw_121) (fun _ h9 => h9) rfl d_Rules_keepsClosed_21 ?_
          refine nw_getN hx hb hts i_Farm hown hK hw (1) (hW_1) rfl 1 (by decide) (va_Nw.use rfl (hKs.2.2 _ kn_53 rfl)) (fun _ h9 => h9) rfl d_Rules_keepsClosed_24 ?_
          refine lv_aload_n hx hb d_Rules_keepsClosed_27 rfl (lv_at hl 0 rfl) ?_
          refine nw_get hx hb hts i_Rules hown hK hw (2) (hW_2) rfl 0 (by decide) (hts _ kw_121) (fun _ h9 => h9) rfl d_Rules_keepsClosed_28 ?_
          refine nw_getN hx hb hts i_Farm hown hK hw (1) (hW_1) rfl 2 (by decide) (va_Nw.use rfl (hKs.2.2 _ kn_56 rfl)) (fun _ h9 => h9) rfl d_Rules_keepsClosed_31 ?_
          refine lv_iload_n hx hb d_Rules_keepsClosed_34 rfl (lv_at hl 3 rfl) ?_
          refine nw_aald hx hb hK hw (7) 4 (hW_7) rfl (c) (rfl) (by omega) (by omega) (y := ad (32 + c)) (if_pos (by omega)) d_Rules_keepsClosed_35 ?_
          refine nw_getN hx hb hts i_Cage hown hK hw (32 + c) (hW_cage hN (by omega)) rfl 0 (by decide) (va_Nw.use rfl (hKs.2.2 _ kn_411 rfl)) (fun _ h9 => h9) rfl d_Rules_keepsClosed_36 ?_
          have hmc := (hH c (by omega)).2
          refine nw_aald hx hb hK hw (6) 3 (hW_6) rfl (hm c) ((hH c (by omega)).1) (by omega) (by omega) (y := ad (24 + (hm c))) (if_pos (by omega)) d_Rules_keepsClosed_39 ?_
          refine nw_getN hx hb hts i_Place hown hK hw (24 + (hm c)) (hW_place hN (by omega)) rfl 1 (by decide) (va_Nw.use rfl (hKs.2.2 _ kn_371 rfl)) (fun _ h9 => h9) rfl d_Rules_keepsClosed_40 ?_
          refine lv_iload_n hx hb d_Rules_keepsClosed_43 rfl (lv_at hl 2 rfl) ?_
          refine nw_zald hx hb hK hw (116 + (hm c)) 2 (hW_row (t := 1) (j := hm c) (by decide) (by omega) (aX_place (by omega))) rfl (w) (rfl) (by omega) (by omega) d_Rules_keepsClosed_44 ?_
          refine lv_ei (y := S0 1 (hm c) w) (congrFun (hsc 1 (hm c) (by omega)) _) ?_
          refine lv_if_eq (tgt := 50) hx hb d_Rules_keepsClosed_45 (by decide) (fun c_45 => ?_) (fun c_45 => ?_)
          · skip
            have hinv' : ∀ j, j < (c + 1) → S0 0 r j = nI w → S0 1 (hm j) w = 0 := lt_s hinv (fun _ => c_45)
            refine lv_iinc (v := nI (c + 1)) (lv' := [(3, .int (nI (c + 1))), (0, .ref (ad (2))), (1, .ref (ad (100 + r))), (2, .int (nI w))]) hx hb d_Rules_keepsClosed_50 hl (k := 3) rfl ((nI_succ _).symm) (by decide) rfl (fun ls hl => ?_)
            refine lv_goto (tgt := 2) hx hb d_Rules_keepsClosed_53 (by decide) ?_
            exact ih2 (c + 1) (by omega) (by omega) (hinv') _ _ ls hw hS (lv_sub hl [1, 2, 3, 0] rfl)
          · skip
            have hres : nI 0 = b2 (pClosed n hm S0 (S0 0 r) w) := b2_f (fun h => c_45 (h c (by omega) c_17))
            refine lv_iconst (v := nI 0) hx hb d_Rules_keepsClosed_48 (by decide) ?_
            exact nw_zret hQ hx hb hr (by first | exact Or.inl rfl | exact Or.inr rfl) hlocks hw hS (nw_okI hres) (Nat.le_of_ble_eq_true rfl) (Nat.le_of_ble_eq_true rfl) d_Rules_keepsClosed_49
  exact loop2 (n 2 + 1) (0) (by omega) (by omega) (fun j hj => absurd hj (Nat.not_lt_zero j)) _ _ ls hw hS (lv_sub hl [1, 2, 3, 0] rfl)

set_option maxHeartbeats 4000000 in
set_option maxRecDepth 100000 in
/-- HELD -/
theorem c_Rules_keepsHeld (l : Launch) (D : va_G) (tC : Nat → ClassId) (A : Nat → Prop) (ad : Nat → Nat) (n : Nat → Nat) (I : Nat → Nat → Int32) (K : Nat → Int32) (bw : Int64) (LA : Nat → Int64) (bM : Nat → Option va_E) (aM : Nat → Nat → Option (ClassId × Nat)) (S0 S : Nat → Nat → Nat → Int32) (hsc : scr S0 S) (hN : hpN n) (r : Nat) (hr0 : r = 0 ∨ r = 9) (w : Nat) (hwk : w < n 0) (hm : Nat → Nat) (hH : ∀ c, c < n 2 → I 2 c = nI (hm c) ∧ hm c < n 1) : nw_Met l y_Rules_keepsHeld [Cond.code y_Rules_keepsHeld b_Rules_keepsHeld 4 (some .boolean)] ({ frames := 1, cells := 0, slots := 0, locals := 23 } : Room) D hpC A [.ref (ad (2)), .ref (ad (100 + r)), .int (nI w)] (nw_pre D hpC (hpT tC) A (hW ad tC n I K bw LA bM aM S) ad) (nw_sc (some (.int (b2 (pHeld n I hm S0 (S0 0 r) w)))) (fun S' => hW ad tC n I K bw LA bM aM S') S0 ad) 0 0 := by
  refine nw_bodyK (by decide) (Nat.le_of_ble_eq_true rfl) ?_
  intro p e s m below meth cd ls args Q hSx hr hlocks hname hA hKs hw hS hl hQ
  obtain ⟨hx, hb, hml, hown, hts⟩ := id hSx
  have hK := hKs.1
  have hl : lv_has ls 4 [(0, .ref (ad (2))), (1, .ref (ad (100 + r))), (2, .int (nI w))] := hl
  obtain ⟨hn0, hn0', hn1, hn2, hn3, hn4⟩ := id hN
  refine lv_aload_n hx hb d_Rules_keepsHeld_0 rfl (lv_at hl 0 rfl) ?_
  refine nw_get hx hb hts i_Rules hown hK hw (2) (hW_2) rfl 4 (by decide) (hts _ kw_125) (fun _ h9 => h9) rfl d_Rules_keepsHeld_1 ?_
  refine lv_iconst (v := nI 0) hx hb d_Rules_keepsHeld_4 (by decide) ?_
  refine nw_callD (nw_goS (n := 2) (As := [.ref (ad (106)), .int (nI 0)]) (rest := []) hSx hA hKs hw hS (c_Arr_fill l D tC A ad n I K bw LA bM aM S0 S hsc hN 6 4 (nI 0) (by omega) (by omega) (rfl)) kw_198 kw_550 kw_197 kw_7 rfl rfl (by decide +kernel) ⟨Nat.le_of_ble_eq_true rfl, Nat.le_of_ble_eq_true rfl⟩ rfl hl.1 (Nat.le_of_ble_eq_true rfl) d_Rules_keepsHeld_5 ⟨Nat.le_of_ble_eq_true rfl, Nat.le_of_ble_eq_true rfl⟩) hS (fun H locs hw hS => ?_)
  refine lv_iconst (v := nI 0) hx hb d_Rules_keepsHeld_8 (by decide) ?_
  refine lv_istore_n (lv' := [(3, .int (nI 0)), (0, .ref (ad (2))), (1, .ref (ad (100 + r))), (2, .int (nI w))]) hx hb d_Rules_keepsHeld_9 rfl hl (by decide) rfl (fun ls hl => ?_)
  have loop10 : ∀ (k c : Nat), c ≤ n 2 → n 2 + 1 ≤ c + k → ∀ (H : Heap) (locs : List Loc) (ls : Array Slot), nw_W D hpC A (hW ad tC n I K bw LA bM aM (upR S 0 6 (hdA (S0 0 r) (S0 3) hm w (flR (S 0 6) (nI 0) 4) c))) ad H → va_S A s.heap H locs → lv_has ls 4 [(0, .ref (ad (2))), (1, .ref (ad (100 + r))), (2, .int (nI w)), (3, .int (nI c))] → W p l e ({ frames := 1, cells := 0, slots := 0, locals := 23 } : Room) s m args below meth cd H locs 0 0 Q (F0 m 10 ls []) := by
    intro k
    induction k with
    | zero => intro c h1 h2; exact absurd h2 (by omega)
    | succ k ih10 =>
      intro c hv10 hk10 H locs ls hw hS hl
      refine lv_iload_n hx hb d_Rules_keepsHeld_10 rfl (lv_at hl 3 rfl) ?_
      refine lv_aload_n hx hb d_Rules_keepsHeld_11 rfl (lv_at hl 0 rfl) ?_
      refine nw_get hx hb hts i_Rules hown hK hw (2) (hW_2) rfl 0 (by decide) (hts _ kw_121) (fun _ h9 => h9) rfl d_Rules_keepsHeld_12 ?_
      refine nw_getN hx hb hts i_Farm hown hK hw (1) (hW_1) rfl 8 (by decide) (va_Nw.use rfl (hKs.2.2 _ kn_73 rfl)) (fun _ h9 => h9) rfl d_Rules_keepsHeld_15 ?_
      refine lv_icmp_ge (tgt := 75) hx hb d_Rules_keepsHeld_18 (by decide) (fun c_18 => ?_) (fun c_18 => ?_)
      · skip
        have hge18 : n 2 ≤ c := (nI_leI (by omega) (by omega)).mp c_18
        obtain rfl : n 2 = c := by omega
        refine lv_iconst (v := nI 0) hx hb d_Rules_keepsHeld_75 (by decide) ?_
        refine lv_istore_n (lv' := [(3, .int (nI 0)), (0, .ref (ad (2))), (1, .ref (ad (100 + r))), (2, .int (nI w))]) hx hb d_Rules_keepsHeld_76 rfl hl (by decide) rfl (fun ls hl => ?_)
        have loop77 : ∀ (k pp : Nat), pp ≤ n 1 → n 1 + 1 ≤ pp + k → (∀ j, j < pp → hsS (S0 0 r) (S0 3) hm w j (n 2) ≤ I 1 j) → ∀ (H : Heap) (locs : List Loc) (ls : Array Slot), nw_W D hpC A (hW ad tC n I K bw LA bM aM (upR S 0 6 (hdA (S0 0 r) (S0 3) hm w (flR (S 0 6) (nI 0) 4) (n 2)))) ad H → va_S A s.heap H locs → lv_has ls 4 [(0, .ref (ad (2))), (1, .ref (ad (100 + r))), (2, .int (nI w)), (3, .int (nI pp))] → W p l e ({ frames := 1, cells := 0, slots := 0, locals := 23 } : Room) s m args below meth cd H locs 0 0 Q (F0 m 77 ls []) := by
          intro k
          induction k with
          | zero => intro pp h1 h2; exact absurd h2 (by omega)
          | succ k ih77 =>
            intro pp hv77 hk77 hinv H locs ls hw hS hl
            refine lv_iload_n hx hb d_Rules_keepsHeld_77 rfl (lv_at hl 3 rfl) ?_
            refine lv_aload_n hx hb d_Rules_keepsHeld_78 rfl (lv_at hl 0 rfl) ?_
            refine nw_get hx hb hts i_Rules hown hK hw (2) (hW_2) rfl 0 (by decide) (hts _ kw_121) (fun _ h9 => h9) rfl d_Rules_keepsHeld_79 ?_
            refine nw_getN hx hb hts i_Farm hown hK hw (1) (hW_1) rfl 7 (by decide) (va_Nw.use rfl (hKs.2.2 _ kn_70 rfl)) (fun _ h9 => h9) rfl d_Rules_keepsHeld_82 ?_
            refine lv_icmp_ge (tgt := 117) hx hb d_Rules_keepsHeld_85 (by decide) (fun c_85 => ?_) (fun c_85 => ?_)
            · skip
              have hge85 : n 1 ≤ pp := (nI_leI (by omega) (by omega)).mp c_85
              obtain rfl : n 1 = pp := by omega
              have hres : nI 1 = b2 (pHeld n I hm S0 (S0 0 r) w) := b2_t hinv
              refine lv_iconst (v := nI 1) hx hb d_Rules_keepsHeld_117 (by decide) ?_
              exact nw_zret hQ hx hb hr (by first | exact Or.inl rfl | exact Or.inr rfl) hlocks hw hS (nw_scI (scr_up hsc (by omega)) hres) (Nat.le_of_ble_eq_true rfl) (Nat.le_of_ble_eq_true rfl) d_Rules_keepsHeld_118
            · skip
              have hlt : pp < n 1 := Nat.not_le.mp (fun q => c_85 (nI_le q (by omega)))
              have ehs : hdA (S0 0 r) (S0 3) hm w (flR (S 0 6) (nI 0) 4) (n 2) pp = hsS (S0 0 r) (S0 3) hm w pp (n 2) := hd_hs (by simp only [flR]; rw [if_pos (by omega)]; rfl)
              refine lv_aload_n hx hb d_Rules_keepsHeld_88 rfl (lv_at hl 0 rfl) ?_
              refine nw_get hx hb hts i_Rules hown hK hw (2) (hW_2) rfl 4 (by decide) (hts _ kw_125) (fun _ h9 => h9) rfl d_Rules_keepsHeld_89 ?_
              refine lv_iload_n hx hb d_Rules_keepsHeld_92 rfl (lv_at hl 3 rfl) ?_
              refine nw_iald hx hb hK hw (106) 0 (hW_row (t := 0) (j := 6) (by decide) (by omega) (rfl)) rfl (pp) (rfl) (by omega) (by omega) d_Rules_keepsHeld_93 ?_
              refine lv_ei (y := (hdA (S0 0 r) (S0 3) hm w (flR (S 0 6) (nI 0) 4) (n 2)) pp) (congrFun upR_self _) ?_
              refine lv_ei (y := hsS (S0 0 r) (S0 3) hm w pp (n 2)) (ehs) ?_
              refine lv_aload_n hx hb d_Rules_keepsHeld_94 rfl (lv_at hl 0 rfl) ?_
              refine nw_get hx hb hts i_Rules hown hK hw (2) (hW_2) rfl 0 (by decide) (hts _ kw_121) (fun _ h9 => h9) rfl d_Rules_keepsHeld_95 ?_
              refine nw_getN hx hb hts i_Farm hown hK hw (1) (hW_1) rfl 1 (by decide) (va_Nw.use rfl (hKs.2.2 _ kn_53 rfl)) (fun _ h9 => h9) rfl d_Rules_keepsHeld_98 ?_
              refine lv_iload_n hx hb d_Rules_keepsHeld_101 rfl (lv_at hl 3 rfl) ?_
              refine nw_aald hx hb hK hw (6) 3 (hW_6) rfl (pp) (rfl) (by omega) (by omega) (y := ad (24 + pp)) (if_pos (by omega)) d_Rules_keepsHeld_102 ?_
              refine nw_getN hx hb hts i_Place hown hK hw (24 + pp) (hW_place hN (by omega)) rfl 0 (by decide) (va_Nw.use rfl (hKs.2.2 _ kn_368 rfl)) (fun _ h9 => h9) rfl d_Rules_keepsHeld_103 ?_
              refine lv_icmp_le (tgt := 111) hx hb d_Rules_keepsHeld_106 (by decide) (fun c_106 => ?_) (fun c_106 => ?_)
              · skip
                have hinv' : ∀ j, j < (pp + 1) → hsS (S0 0 r) (S0 3) hm w j (n 2) ≤ I 1 j := lt_s hinv c_106
                refine lv_iinc (v := nI (pp + 1)) (lv' := [(3, .int (nI (pp + 1))), (0, .ref (ad (2))), (1, .ref (ad (100 + r))), (2, .int (nI w))]) hx hb d_Rules_keepsHeld_111 hl (k := 3) rfl ((nI_succ _).symm) (by decide) rfl (fun ls hl => ?_)
                refine lv_goto (tgt := 77) hx hb d_Rules_keepsHeld_114 (by decide) ?_
                exact ih77 (pp + 1) (by omega) (by omega) (hinv') _ _ ls hw hS (lv_sub hl [1, 2, 3, 0] rfl)
              · skip
                have hres : nI 0 = b2 (pHeld n I hm S0 (S0 0 r) w) := b2_f (fun h => c_106 (h pp (by omega)))
                refine lv_iconst (v := nI 0) hx hb d_Rules_keepsHeld_109 (by decide) ?_
                exact nw_zret hQ hx hb hr (by first | exact Or.inl rfl | exact Or.inr rfl) hlocks hw hS (nw_scI (scr_up hsc (by omega)) hres) (Nat.le_of_ble_eq_true rfl) (Nat.le_of_ble_eq_true rfl) d_Rules_keepsHeld_110
        exact loop77 (n 1 + 1) (0) (by omega) (by omega) (fun j hj => absurd hj (Nat.not_lt_zero j)) _ _ ls hw hS (lv_sub hl [1, 2, 3, 0] rfl)
      · skip
        have hlt : c < n 2 := Nat.not_le.mp (fun q => c_18 (nI_le q (by omega)))
        refine lv_aload_n hx hb d_Rules_keepsHeld_21 rfl (lv_at hl 1 rfl) ?_
        refine lv_iload_n hx hb d_Rules_keepsHeld_22 rfl (lv_at hl 3 rfl) ?_
        refine nw_iald hx hb hK hw (100 + r) 0 (hW_row (t := 0) (j := r) (by decide) (by omega) (aX_pl hr0)) rfl (c) (rfl) (by omega) (by omega) d_Rules_keepsHeld_23 ?_
        refine lv_ei (y := S0 0 r c) (congrFun ((scr_up hsc (by omega)) 0 r (by omega)) _) ?_
        refine lv_iconst (v := (-1)) hx hb d_Rules_keepsHeld_24 (by decide) ?_
        refine lv_icmp_eq (tgt := 35) hx hb d_Rules_keepsHeld_25 (by decide) (fun c_25 => ?_) (fun c_25 => ?_)
        · skip
          have hcond : S0 0 r c = -1 ∨ nI w ≤ S0 0 r c := Or.inl c_25
          have e6 : hdA (S0 0 r) (S0 3) hm w (flR (S 0 6) (nI 0) 4) (c + 1) = upd (hdA (S0 0 r) (S0 3) hm w (flR (S 0 6) (nI 0) 4) c) (hm c) (hdA (S0 0 r) (S0 3) hm w (flR (S 0 6) (nI 0) 4) c (hm c) + S0 3 c w) := hd_t hcond
          have hmc := (hH c (by omega)).2
          refine lv_aload_n hx hb d_Rules_keepsHeld_35 rfl (lv_at hl 0 rfl) ?_
          refine nw_get hx hb hts i_Rules hown hK hw (2) (hW_2) rfl 4 (by decide) (hts _ kw_125) (fun _ h9 => h9) rfl d_Rules_keepsHeld_36 ?_
          refine lv_aload_n hx hb d_Rules_keepsHeld_39 rfl (lv_at hl 0 rfl) ?_
          refine nw_get hx hb hts i_Rules hown hK hw (2) (hW_2) rfl 0 (by decide) (hts _ kw_121) (fun _ h9 => h9) rfl d_Rules_keepsHeld_40 ?_
          refine nw_getN hx hb hts i_Farm hown hK hw (1) (hW_1) rfl 2 (by decide) (va_Nw.use rfl (hKs.2.2 _ kn_56 rfl)) (fun _ h9 => h9) rfl d_Rules_keepsHeld_43 ?_
          refine lv_iload_n hx hb d_Rules_keepsHeld_46 rfl (lv_at hl 3 rfl) ?_
          refine nw_aald hx hb hK hw (7) 4 (hW_7) rfl (c) (rfl) (by omega) (by omega) (y := ad (32 + c)) (if_pos (by omega)) d_Rules_keepsHeld_47 ?_
          refine nw_getN hx hb hts i_Cage hown hK hw (32 + c) (hW_cage hN (by omega)) rfl 0 (by decide) (va_Nw.use rfl (hKs.2.2 _ kn_411 rfl)) (fun _ h9 => h9) rfl d_Rules_keepsHeld_48 ?_
          refine lv_dup2_11 hx hb d_Rules_keepsHeld_51 rfl rfl ?_
          refine nw_iald hx hb hK hw (106) 0 (hW_row (t := 0) (j := 6) (by decide) (by omega) (rfl)) rfl (hm c) ((hH c (by omega)).1) (by omega) (by omega) d_Rules_keepsHeld_52 ?_
          refine lv_ei (y := (hdA (S0 0 r) (S0 3) hm w (flR (S 0 6) (nI 0) 4) c) (hm c)) (congrFun upR_self _) ?_
          refine lv_aload_n hx hb d_Rules_keepsHeld_53 rfl (lv_at hl 0 rfl) ?_
          refine nw_get hx hb hts i_Rules hown hK hw (2) (hW_2) rfl 0 (by decide) (hts _ kw_121) (fun _ h9 => h9) rfl d_Rules_keepsHeld_54 ?_
          refine nw_getN hx hb hts i_Farm hown hK hw (1) (hW_1) rfl 2 (by decide) (va_Nw.use rfl (hKs.2.2 _ kn_56 rfl)) (fun _ h9 => h9) rfl d_Rules_keepsHeld_57 ?_
          refine lv_iload_n hx hb d_Rules_keepsHeld_60 rfl (lv_at hl 3 rfl) ?_
          refine nw_aald hx hb hK hw (7) 4 (hW_7) rfl (c) (rfl) (by omega) (by omega) (y := ad (32 + c)) (if_pos (by omega)) d_Rules_keepsHeld_61 ?_
          refine nw_getN hx hb hts i_Cage hown hK hw (32 + c) (hW_cage hN (by omega)) rfl 2 (by decide) (va_Nw.use rfl (hKs.2.2 _ kn_417 rfl)) (fun _ h9 => h9) rfl d_Rules_keepsHeld_62 ?_
          refine lv_iload_n hx hb d_Rules_keepsHeld_65 rfl (lv_at hl 2 rfl) ?_
          refine nw_iald hx hb hK hw (148 + c) 0 (hW_row (t := 3) (j := c) (by decide) (by omega) (aX_cage (Or.inr rfl) (by omega))) rfl (w) (rfl) (by omega) (by omega) d_Rules_keepsHeld_66 ?_
          refine lv_ei (y := S0 3 c w) (congrFun ((scr_up hsc (by omega)) 3 c (by omega)) _) ?_
          refine lv_iadd hx hb d_Rules_keepsHeld_67 ?_
          refine nw_iast hx hb hK hw hS (106) 0 (hW_row (t := 0) (j := 6) (by decide) (by omega) (rfl)) rfl (hm c) ((hH c (by omega)).1) (by omega) (by omega) d_Rules_keepsHeld_68 (fun H locs hw hS => ?_)
          have hw := hW_setRow (t := 0) (j := 6) (by decide) (by omega) (rfl) hw
          rw [upR_upR, upR_self] at hw
          refine lv_iinc (v := nI (c + 1)) (lv' := [(3, .int (nI (c + 1))), (0, .ref (ad (2))), (1, .ref (ad (100 + r))), (2, .int (nI w))]) hx hb d_Rules_keepsHeld_69 hl (k := 3) rfl ((nI_succ _).symm) (by decide) rfl (fun ls hl => ?_)
          refine lv_goto (tgt := 10) hx hb d_Rules_keepsHeld_72 (by decide) ?_
          have hw := nw_W.as (wn' := hW ad tC n I K bw LA bM aM (upR S 0 6 (hdA (S0 0 r) (S0 3) hm w (flR (S 0 6) (nI 0) 4) (c + 1)))) hw (by rw [e6])
          exact ih10 (c + 1) (by omega) (by omega) _ _ ls hw hS (lv_sub hl [1, 2, 3, 0] rfl)
        · skip
          refine lv_aload_n hx hb d_Rules_keepsHeld_28 rfl (lv_at hl 1 rfl) ?_
          refine lv_iload_n hx hb d_Rules_keepsHeld_29 rfl (lv_at hl 3 rfl) ?_
          refine nw_iald hx hb hK hw (100 + r) 0 (hW_row (t := 0) (j := r) (by decide) (by omega) (aX_pl hr0)) rfl (c) (rfl) (by omega) (by omega) d_Rules_keepsHeld_30 ?_
          refine lv_ei (y := S0 0 r c) (congrFun ((scr_up hsc (by omega)) 0 r (by omega)) _) ?_
          refine lv_iload_n hx hb d_Rules_keepsHeld_31 rfl (lv_at hl 2 rfl) ?_
          refine lv_icmp_lt (tgt := 69) hx hb d_Rules_keepsHeld_32 (by decide) (fun c_32 => ?_) (fun c_32 => ?_)
          · skip
            have e6 : hdA (S0 0 r) (S0 3) hm w (flR (S 0 6) (nI 0) 4) (c + 1) = hdA (S0 0 r) (S0 3) hm w (flR (S 0 6) (nI 0) 4) c := hd_f (fun h => h.elim c_25 (fun h => Int32.not_le.mpr c_32 h))
            refine lv_iinc (v := nI (c + 1)) (lv' := [(3, .int (nI (c + 1))), (0, .ref (ad (2))), (1, .ref (ad (100 + r))), (2, .int (nI w))]) hx hb d_Rules_keepsHeld_69 hl (k := 3) rfl ((nI_succ _).symm) (by decide) rfl (fun ls hl => ?_)
            refine lv_goto (tgt := 10) hx hb d_Rules_keepsHeld_72 (by decide) ?_
            have hw := nw_W.as (wn' := hW ad tC n I K bw LA bM aM (upR S 0 6 (hdA (S0 0 r) (S0 3) hm w (flR (S 0 6) (nI 0) 4) (c + 1)))) hw (by rw [e6])
            exact ih10 (c + 1) (by omega) (by omega) _ _ ls hw hS (lv_sub hl [1, 2, 3, 0] rfl)
          · skip
            have hcond : S0 0 r c = -1 ∨ nI w ≤ S0 0 r c := Or.inr (Int32.not_lt.mp c_32)
            have e6 : hdA (S0 0 r) (S0 3) hm w (flR (S 0 6) (nI 0) 4) (c + 1) = upd (hdA (S0 0 r) (S0 3) hm w (flR (S 0 6) (nI 0) 4) c) (hm c) (hdA (S0 0 r) (S0 3) hm w (flR (S 0 6) (nI 0) 4) c (hm c) + S0 3 c w) := hd_t hcond
            have hmc := (hH c (by omega)).2
            refine lv_aload_n hx hb d_Rules_keepsHeld_35 rfl (lv_at hl 0 rfl) ?_
            refine nw_get hx hb hts i_Rules hown hK hw (2) (hW_2) rfl 4 (by decide) (hts _ kw_125) (fun _ h9 => h9) rfl d_Rules_keepsHeld_36 ?_
            refine lv_aload_n hx hb d_Rules_keepsHeld_39 rfl (lv_at hl 0 rfl) ?_
            refine nw_get hx hb hts i_Rules hown hK hw (2) (hW_2) rfl 0 (by decide) (hts _ kw_121) (fun _ h9 => h9) rfl d_Rules_keepsHeld_40 ?_
            refine nw_getN hx hb hts i_Farm hown hK hw (1) (hW_1) rfl 2 (by decide) (va_Nw.use rfl (hKs.2.2 _ kn_56 rfl)) (fun _ h9 => h9) rfl d_Rules_keepsHeld_43 ?_
            refine lv_iload_n hx hb d_Rules_keepsHeld_46 rfl (lv_at hl 3 rfl) ?_
            refine nw_aald hx hb hK hw (7) 4 (hW_7) rfl (c) (rfl) (by omega) (by omega) (y := ad (32 + c)) (if_pos (by omega)) d_Rules_keepsHeld_47 ?_
            refine nw_getN hx hb hts i_Cage hown hK hw (32 + c) (hW_cage hN (by omega)) rfl 0 (by decide) (va_Nw.use rfl (hKs.2.2 _ kn_411 rfl)) (fun _ h9 => h9) rfl d_Rules_keepsHeld_48 ?_
            refine lv_dup2_11 hx hb d_Rules_keepsHeld_51 rfl rfl ?_
            refine nw_iald hx hb hK hw (106) 0 (hW_row (t := 0) (j := 6) (by decide) (by omega) (rfl)) rfl (hm c) ((hH c (by omega)).1) (by omega) (by omega) d_Rules_keepsHeld_52 ?_
            refine lv_ei (y := (hdA (S0 0 r) (S0 3) hm w (flR (S 0 6) (nI 0) 4) c) (hm c)) (congrFun upR_self _) ?_
            refine lv_aload_n hx hb d_Rules_keepsHeld_53 rfl (lv_at hl 0 rfl) ?_
            refine nw_get hx hb hts i_Rules hown hK hw (2) (hW_2) rfl 0 (by decide) (hts _ kw_121) (fun _ h9 => h9) rfl d_Rules_keepsHeld_54 ?_
            refine nw_getN hx hb hts i_Farm hown hK hw (1) (hW_1) rfl 2 (by decide) (va_Nw.use rfl (hKs.2.2 _ kn_56 rfl)) (fun _ h9 => h9) rfl d_Rules_keepsHeld_57 ?_
            refine lv_iload_n hx hb d_Rules_keepsHeld_60 rfl (lv_at hl 3 rfl) ?_
            refine nw_aald hx hb hK hw (7) 4 (hW_7) rfl (c) (rfl) (by omega) (by omega) (y := ad (32 + c)) (if_pos (by omega)) d_Rules_keepsHeld_61 ?_
            refine nw_getN hx hb hts i_Cage hown hK hw (32 + c) (hW_cage hN (by omega)) rfl 2 (by decide) (va_Nw.use rfl (hKs.2.2 _ kn_417 rfl)) (fun _ h9 => h9) rfl d_Rules_keepsHeld_62 ?_
            refine lv_iload_n hx hb d_Rules_keepsHeld_65 rfl (lv_at hl 2 rfl) ?_
            refine nw_iald hx hb hK hw (148 + c) 0 (hW_row (t := 3) (j := c) (by decide) (by omega) (aX_cage (Or.inr rfl) (by omega))) rfl (w) (rfl) (by omega) (by omega) d_Rules_keepsHeld_66 ?_
            refine lv_ei (y := S0 3 c w) (congrFun ((scr_up hsc (by omega)) 3 c (by omega)) _) ?_
            refine lv_iadd hx hb d_Rules_keepsHeld_67 ?_
            refine nw_iast hx hb hK hw hS (106) 0 (hW_row (t := 0) (j := 6) (by decide) (by omega) (rfl)) rfl (hm c) ((hH c (by omega)).1) (by omega) (by omega) d_Rules_keepsHeld_68 (fun H locs hw hS => ?_)
            have hw := hW_setRow (t := 0) (j := 6) (by decide) (by omega) (rfl) hw
            rw [upR_upR, upR_self] at hw
            refine lv_iinc (v := nI (c + 1)) (lv' := [(3, .int (nI (c + 1))), (0, .ref (ad (2))), (1, .ref (ad (100 + r))), (2, .int (nI w))]) hx hb d_Rules_keepsHeld_69 hl (k := 3) rfl ((nI_succ _).symm) (by decide) rfl (fun ls hl => ?_)
            refine lv_goto (tgt := 10) hx hb d_Rules_keepsHeld_72 (by decide) ?_
            have hw := nw_W.as (wn' := hW ad tC n I K bw LA bM aM (upR S 0 6 (hdA (S0 0 r) (S0 3) hm w (flR (S 0 6) (nI 0) 4) (c + 1)))) hw (by rw [e6])
            exact ih10 (c + 1) (by omega) (by omega) _ _ ls hw hS (lv_sub hl [1, 2, 3, 0] rfl)
  exact loop10 (n 2 + 1) (0) (by omega) (by omega) _ _ ls hw hS (lv_sub hl [1, 2, 3, 0] rfl)

set_option maxHeartbeats 4000000 in
set_option maxRecDepth 100000 in
/-- the kilos of the needy cages -/
theorem c_Rules_gatherNeeds (l : Launch) (D : va_G) (tC : Nat → ClassId) (A : Nat → Prop) (ad : Nat → Nat) (n : Nat → Nat) (I : Nat → Nat → Int32) (K : Nat → Int32) (bw : Int64) (LA : Nat → Int64) (bM : Nat → Option va_E) (aM : Nat → Nat → Option (ClassId × Nat)) (S0 S : Nat → Nat → Nat → Int32) (hsc : scr S0 S) (hN : hpN n) (r : Nat) (hr0 : r = 0 ∨ r = 9) (w : Nat) (hwk : w < n 0) : nw_Met l y_Rules_gatherNeeds [Cond.code y_Rules_gatherNeeds b_Rules_gatherNeeds 5 (some .int)] ({ frames := 0, cells := 0, slots := 0, locals := 0 } : Room) D hpC A [.ref (ad (2)), .ref (ad (100 + r)), .int (nI w)] (nw_pre D hpC (hpT tC) A (hW ad tC n I K bw LA bM aM S) ad) (nw_ok (some (.int (nI (ngC (S0 0 r) (S0 3) w (n 2))))) (hW ad tC n I K bw LA bM aM (upR S 0 3 (ngA (S0 0 r) (S0 3) w (S 0 3) (n 2)))) ad) 0 0 := by
  refine nw_bodyK (by decide) (Nat.le_of_ble_eq_true rfl) ?_
  intro p e s m below meth cd ls args Q hSx hr hlocks hname hA hKs hw hS hl hQ
  obtain ⟨hx, hb, hml, hown, hts⟩ := id hSx
  have hK := hKs.1
  have hl : lv_has ls 5 [(0, .ref (ad (2))), (1, .ref (ad (100 + r))), (2, .int (nI w))] := hl
  obtain ⟨hn0, hn0', hn1, hn2, hn3, hn4⟩ := id hN
  refine lv_iconst (v := nI 0) hx hb d_Rules_gatherNeeds_0 (by decide) ?_
  refine lv_istore_n (lv' := [(3, .int (nI 0)), (0, .ref (ad (2))), (1, .ref (ad (100 + r))), (2, .int (nI w))]) hx hb d_Rules_gatherNeeds_1 rfl hl (by decide) rfl (fun ls hl => ?_)
  refine lv_iconst (v := nI 0) hx hb d_Rules_gatherNeeds_2 (by decide) ?_
  refine lv_istore (lv' := [(4, .int (nI 0)), (3, .int (nI 0)), (0, .ref (ad (2))), (1, .ref (ad (100 + r))), (2, .int (nI w))]) hx hb d_Rules_gatherNeeds_3 hl (by decide) rfl (fun ls hl => ?_)
  have hw := nw_W.as (wn' := hW ad tC n I K bw LA bM aM (upR S 0 3 (ngA (S0 0 r) (S0 3) w (S 0 3) 0))) hw (by rw [show ngA (S0 0 r) (S0 3) w (S 0 3) 0 = S 0 3 from rfl, upR_same])
  have loop5 : ∀ (k c : Nat), c ≤ n 2 → n 2 + 1 ≤ c + k → ∀ (H : Heap) (locs : List Loc) (ls : Array Slot), nw_W D hpC A (hW ad tC n I K bw LA bM aM (upR S 0 3 (ngA (S0 0 r) (S0 3) w (S 0 3) c))) ad H → va_S A s.heap H locs → lv_has ls 5 [(0, .ref (ad (2))), (1, .ref (ad (100 + r))), (2, .int (nI w)), (3, .int (nI (ngC (S0 0 r) (S0 3) w c))), (4, .int (nI c))] → W p l e ({ frames := 0, cells := 0, slots := 0, locals := 0 } : Room) s m args below meth cd H locs 0 0 Q (F0 m 5 ls []) := by
    intro k
    induction k with
    | zero => intro c h1 h2; exact absurd h2 (by omega)
    | succ k ih5 =>
      intro c hv5 hk5 H locs ls hw hS hl
      have hng : ngC (S0 0 r) (S0 3) w c ≤ c := ngC_le
      refine lv_iload hx hb d_Rules_gatherNeeds_5 (lv_at hl 4 rfl) ?_
      refine lv_aload_n hx hb d_Rules_gatherNeeds_7 rfl (lv_at hl 0 rfl) ?_
      refine nw_get hx hb hts i_Rules hown hK hw (2) (hW_2) rfl 0 (by decide) (hts _ kw_121) (fun _ h9 => h9) rfl d_Rules_gatherNeeds_8 ?_
      refine nw_getN hx hb hts i_Farm hown hK hw (1) (hW_1) rfl 8 (by decide) (va_Nw.use rfl (hKs.2.2 _ kn_73 rfl)) (fun _ h9 => h9) rfl d_Rules_gatherNeeds_11 ?_
      refine lv_icmp_ge (tgt := 73) hx hb d_Rules_gatherNeeds_14 (by decide) (fun c_14 => ?_) (fun c_14 => ?_)
      · skip
        have hge14 : n 2 ≤ c := (nI_leI (by omega) (by omega)).mp c_14
        obtain rfl : n 2 = c := by omega
        refine lv_iload_n hx hb d_Rules_gatherNeeds_73 rfl (lv_at hl 3 rfl) ?_
        exact nw_iret hQ hx hb hr hlocks hw hS (nw_ok_rf) (Nat.le_of_ble_eq_true rfl) (Nat.le_of_ble_eq_true rfl) d_Rules_gatherNeeds_74
      · skip
        have hlt : c < n 2 := Nat.not_le.mp (fun q => c_14 (nI_le q (by omega)))
        refine lv_aload_n hx hb d_Rules_gatherNeeds_17 rfl (lv_at hl 1 rfl) ?_
        refine lv_iload hx hb d_Rules_gatherNeeds_18 (lv_at hl 4 rfl) ?_
        refine nw_iald hx hb hK hw (100 + r) 0 (hW_row (t := 0) (j := r) (by decide) (by omega) (aX_pl hr0)) rfl (c) (rfl) (by omega) (by omega) d_Rules_gatherNeeds_20 ?_
        refine lv_ei (y := S0 0 r c) (congrFun ((scr_up hsc (by omega)) 0 r (by omega)) _) ?_
        refine lv_iload_n hx hb d_Rules_gatherNeeds_21 rfl (lv_at hl 2 rfl) ?_
        refine lv_icmp_ne (tgt := 67) hx hb d_Rules_gatherNeeds_22 (by decide) (fun c_22 => ?_) (fun c_22 => ?_)
        · skip
          have e3 : ngC (S0 0 r) (S0 3) w (c + 1) = ngC (S0 0 r) (S0 3) w c ∧ ngA (S0 0 r) (S0 3) w (S 0 3) (c + 1) = ngA (S0 0 r) (S0 3) w (S 0 3) c := ng_f (fun h => c_22 h.1)
          refine lv_iinc (v := nI (c + 1)) (lv' := [(4, .int (nI (c + 1))), (0, .ref (ad (2))), (1, .ref (ad (100 + r))), (2, .int (nI w)), (3, .int (nI (ngC (S0 0 r) (S0 3) w c)))]) hx hb d_Rules_gatherNeeds_67 hl (k := 4) rfl ((nI_succ _).symm) (by decide) rfl (fun ls hl => ?_)
          refine lv_goto (tgt := 5) hx hb d_Rules_gatherNeeds_70 (by decide) ?_
          have el3 : nI (ngC (S0 0 r) (S0 3) w (c + 1)) = nI (ngC (S0 0 r) (S0 3) w c) := by rw [e3.1]
          have hl : lv_has ls 5 [(4, .int (nI (c + 1))), (0, .ref (ad (2))), (1, .ref (ad (100 + r))), (2, .int (nI w)), (3, .int (nI (ngC (S0 0 r) (S0 3) w (c + 1))))] := by
            have h9 := hl
            revert h9; rw [show Value.int (nI (ngC (S0 0 r) (S0 3) w (c + 1))) = Value.int (nI (ngC (S0 0 r) (S0 3) w c)) from congrArg _ el3]; intro h9
            exact h9
          have hw := nw_W.as (wn' := hW ad tC n I K bw LA bM aM (upR S 0 3 (ngA (S0 0 r) (S0 3) w (S 0 3) (c + 1)))) hw (by rw [e3.2])
          exact ih5 (c + 1) (by omega) (by omega) _ _ ls hw hS (lv_sub hl [1, 2, 3, 4, 0] rfl)
        · skip
          refine lv_aload_n hx hb d_Rules_gatherNeeds_25 rfl (lv_at hl 0 rfl) ?_
          refine nw_get hx hb hts i_Rules hown hK hw (2) (hW_2) rfl 0 (by decide) (hts _ kw_121) (fun _ h9 => h9) rfl d_Rules_gatherNeeds_26 ?_
          refine nw_getN hx hb hts i_Farm hown hK hw (1) (hW_1) rfl 2 (by decide) (va_Nw.use rfl (hKs.2.2 _ kn_56 rfl)) (fun _ h9 => h9) rfl d_Rules_gatherNeeds_29 ?_
          refine lv_iload hx hb d_Rules_gatherNeeds_32 (lv_at hl 4 rfl) ?_
          refine nw_aald hx hb hK hw (7) 4 (hW_7) rfl (c) (rfl) (by omega) (by omega) (y := ad (32 + c)) (if_pos (by omega)) d_Rules_gatherNeeds_34 ?_
          refine nw_getN hx hb hts i_Cage hown hK hw (32 + c) (hW_cage hN (by omega)) rfl 2 (by decide) (va_Nw.use rfl (hKs.2.2 _ kn_417 rfl)) (fun _ h9 => h9) rfl d_Rules_gatherNeeds_35 ?_
          refine lv_iload_n hx hb d_Rules_gatherNeeds_38 rfl (lv_at hl 2 rfl) ?_
          refine nw_iald hx hb hK hw (148 + c) 0 (hW_row (t := 3) (j := c) (by decide) (by omega) (aX_cage (Or.inr rfl) (by omega))) rfl (w) (rfl) (by omega) (by omega) d_Rules_gatherNeeds_39 ?_
          refine lv_ei (y := S0 3 c w) (congrFun ((scr_up hsc (by omega)) 3 c (by omega)) _) ?_
          refine lv_if_le (tgt := 67) hx hb d_Rules_gatherNeeds_40 (by decide) (fun c_40 => ?_) (fun c_40 => ?_)
          · skip
            have e3 : ngC (S0 0 r) (S0 3) w (c + 1) = ngC (S0 0 r) (S0 3) w c ∧ ngA (S0 0 r) (S0 3) w (S 0 3) (c + 1) = ngA (S0 0 r) (S0 3) w (S 0 3) c := ng_f (fun h => Int32.not_le.mpr h.2 c_40)
            refine lv_iinc (v := nI (c + 1)) (lv' := [(4, .int (nI (c + 1))), (0, .ref (ad (2))), (1, .ref (ad (100 + r))), (2, .int (nI w)), (3, .int (nI (ngC (S0 0 r) (S0 3) w c)))]) hx hb d_Rules_gatherNeeds_67 hl (k := 4) rfl ((nI_succ _).symm) (by decide) rfl (fun ls hl => ?_)
            refine lv_goto (tgt := 5) hx hb d_Rules_gatherNeeds_70 (by decide) ?_
            have el3 : nI (ngC (S0 0 r) (S0 3) w (c + 1)) = nI (ngC (S0 0 r) (S0 3) w c) := by rw [e3.1]
            have hl : lv_has ls 5 [(4, .int (nI (c + 1))), (0, .ref (ad (2))), (1, .ref (ad (100 + r))), (2, .int (nI w)), (3, .int (nI (ngC (S0 0 r) (S0 3) w (c + 1))))] := by
              have h9 := hl
              revert h9; rw [show Value.int (nI (ngC (S0 0 r) (S0 3) w (c + 1))) = Value.int (nI (ngC (S0 0 r) (S0 3) w c)) from congrArg _ el3]; intro h9
              exact h9
            have hw := nw_W.as (wn' := hW ad tC n I K bw LA bM aM (upR S 0 3 (ngA (S0 0 r) (S0 3) w (S 0 3) (c + 1)))) hw (by rw [e3.2])
            exact ih5 (c + 1) (by omega) (by omega) _ _ ls hw hS (lv_sub hl [1, 2, 3, 4, 0] rfl)
          · skip
            have e3 : ngC (S0 0 r) (S0 3) w (c + 1) = ngC (S0 0 r) (S0 3) w c + 1 ∧ ngA (S0 0 r) (S0 3) w (S 0 3) (c + 1) = upd (ngA (S0 0 r) (S0 3) w (S 0 3) c) (ngC (S0 0 r) (S0 3) w c) (S0 3 c w) := ng_t c_22 (Int32.not_le.mp c_40)
            refine lv_aload_n hx hb d_Rules_gatherNeeds_43 rfl (lv_at hl 0 rfl) ?_
            refine nw_get hx hb hts i_Rules hown hK hw (2) (hW_2) rfl 1 (by decide) (hts _ kw_122) (fun _ h9 => h9) rfl d_Rules_gatherNeeds_44 ?_
            refine lv_iload_n hx hb d_Rules_gatherNeeds_47 rfl (lv_at hl 3 rfl) ?_
            refine lv_aload_n hx hb d_Rules_gatherNeeds_48 rfl (lv_at hl 0 rfl) ?_
            refine nw_get hx hb hts i_Rules hown hK hw (2) (hW_2) rfl 0 (by decide) (hts _ kw_121) (fun _ h9 => h9) rfl d_Rules_gatherNeeds_49 ?_
            refine nw_getN hx hb hts i_Farm hown hK hw (1) (hW_1) rfl 2 (by decide) (va_Nw.use rfl (hKs.2.2 _ kn_56 rfl)) (fun _ h9 => h9) rfl d_Rules_gatherNeeds_52 ?_
            refine lv_iload hx hb d_Rules_gatherNeeds_55 (lv_at hl 4 rfl) ?_
            refine nw_aald hx hb hK hw (7) 4 (hW_7) rfl (c) (rfl) (by omega) (by omega) (y := ad (32 + c)) (if_pos (by omega)) d_Rules_gatherNeeds_57 ?_
            refine nw_getN hx hb hts i_Cage hown hK hw (32 + c) (hW_cage hN (by omega)) rfl 2 (by decide) (va_Nw.use rfl (hKs.2.2 _ kn_417 rfl)) (fun _ h9 => h9) rfl d_Rules_gatherNeeds_58 ?_
            refine lv_iload_n hx hb d_Rules_gatherNeeds_61 rfl (lv_at hl 2 rfl) ?_
            refine nw_iald hx hb hK hw (148 + c) 0 (hW_row (t := 3) (j := c) (by decide) (by omega) (aX_cage (Or.inr rfl) (by omega))) rfl (w) (rfl) (by omega) (by omega) d_Rules_gatherNeeds_62 ?_
            refine lv_ei (y := S0 3 c w) (congrFun ((scr_up hsc (by omega)) 3 c (by omega)) _) ?_
            refine nw_iast hx hb hK hw hS (103) 0 (hW_row (t := 0) (j := 3) (by decide) (by omega) (rfl)) rfl (ngC (S0 0 r) (S0 3) w c) (rfl) (by omega) (by omega) d_Rules_gatherNeeds_63 (fun H locs hw hS => ?_)
            have hw := hW_setRow (t := 0) (j := 3) (by decide) (by omega) (rfl) hw
            rw [upR_upR, upR_self] at hw
            refine lv_iinc (v := nI (ngC (S0 0 r) (S0 3) w c + 1)) (lv' := [(3, .int (nI (ngC (S0 0 r) (S0 3) w c + 1))), (0, .ref (ad (2))), (1, .ref (ad (100 + r))), (2, .int (nI w)), (4, .int (nI c))]) hx hb d_Rules_gatherNeeds_64 hl (k := 3) rfl ((nI_succ _).symm) (by decide) rfl (fun ls hl => ?_)
            refine lv_iinc (v := nI (c + 1)) (lv' := [(4, .int (nI (c + 1))), (3, .int (nI (ngC (S0 0 r) (S0 3) w c + 1))), (0, .ref (ad (2))), (1, .ref (ad (100 + r))), (2, .int (nI w))]) hx hb d_Rules_gatherNeeds_67 hl (k := 4) rfl ((nI_succ _).symm) (by decide) rfl (fun ls hl => ?_)
            refine lv_goto (tgt := 5) hx hb d_Rules_gatherNeeds_70 (by decide) ?_
            have el3 : nI (ngC (S0 0 r) (S0 3) w (c + 1)) = nI (ngC (S0 0 r) (S0 3) w c + 1) := by rw [e3.1]
            have hl : lv_has ls 5 [(4, .int (nI (c + 1))), (3, .int (nI (ngC (S0 0 r) (S0 3) w (c + 1)))), (0, .ref (ad (2))), (1, .ref (ad (100 + r))), (2, .int (nI w))] := by
              have h9 := hl
              revert h9; rw [show Value.int (nI (ngC (S0 0 r) (S0 3) w (c + 1))) = Value.int (nI (ngC (S0 0 r) (S0 3) w c + 1)) from congrArg _ el3]; intro h9
              exact h9
            have hw := nw_W.as (wn' := hW ad tC n I K bw LA bM aM (upR S 0 3 (ngA (S0 0 r) (S0 3) w (S 0 3) (c + 1)))) hw (by rw [e3.2])
            exact ih5 (c + 1) (by omega) (by omega) _ _ ls hw hS (lv_sub hl [2, 3, 4, 1, 0] rfl)
  exact loop5 (n 2 + 1) (0) (by omega) (by omega) _ _ ls hw hS (lv_sub hl [2, 3, 4, 1, 0] rfl)

set_option maxHeartbeats 4000000 in
set_option maxRecDepth 100000 in
/-- the loads of the boats that are not barred -/
theorem c_Rules_gatherLoads (l : Launch) (D : va_G) (tC : Nat → ClassId) (A : Nat → Prop) (ad : Nat → Nat) (n : Nat → Nat) (I : Nat → Nat → Int32) (K : Nat → Int32) (bw : Int64) (LA : Nat → Int64) (bM : Nat → Option va_E) (aM : Nat → Nat → Option (ClassId × Nat)) (S0 S : Nat → Nat → Nat → Int32) (hsc : scr S0 S) (hN : hpN n) (w : Nat) (hwk : w < n 0) : nw_Met l y_Rules_gatherLoads [Cond.code y_Rules_gatherLoads b_Rules_gatherLoads 4 (some .int)] ({ frames := 0, cells := 0, slots := 0, locals := 0 } : Room) D hpC A [.ref (ad (2)), .int (nI w)] (nw_pre D hpC (hpT tC) A (hW ad tC n I K bw LA bM aM S) ad) (nw_ok (some (.int (nI (lgC (S0 4) w (n 3))))) (hW ad tC n I K bw LA bM aM (upR S 0 4 (lgA (S0 4) (I 3) w (S 0 4) (n 3)))) ad) 0 0 := by
  refine nw_bodyK (by decide) (Nat.le_of_ble_eq_true rfl) ?_
  intro p e s m below meth cd ls args Q hSx hr hlocks hname hA hKs hw hS hl hQ
  obtain ⟨hx, hb, hml, hown, hts⟩ := id hSx
  have hK := hKs.1
  have hl : lv_has ls 4 [(0, .ref (ad (2))), (1, .int (nI w))] := hl
  obtain ⟨hn0, hn0', hn1, hn2, hn3, hn4⟩ := id hN
  refine lv_iconst (v := nI 0) hx hb d_Rules_gatherLoads_0 (by decide) ?_
  refine lv_istore_n (lv' := [(2, .int (nI 0)), (0, .ref (ad (2))), (1, .int (nI w))]) hx hb d_Rules_gatherLoads_1 rfl hl (by decide) rfl (fun ls hl => ?_)
  refine lv_iconst (v := nI 0) hx hb d_Rules_gatherLoads_2 (by decide) ?_
  refine lv_istore_n (lv' := [(3, .int (nI 0)), (2, .int (nI 0)), (0, .ref (ad (2))), (1, .int (nI w))]) hx hb d_Rules_gatherLoads_3 rfl hl (by decide) rfl (fun ls hl => ?_)
  have hw := nw_W.as (wn' := hW ad tC n I K bw LA bM aM (upR S 0 4 (lgA (S0 4) (I 3) w (S 0 4) 0))) hw (by rw [show lgA (S0 4) (I 3) w (S 0 4) 0 = S 0 4 from rfl, upR_same])
  have loop4 : ∀ (k b : Nat), b ≤ n 3 → n 3 + 1 ≤ b + k → ∀ (H : Heap) (locs : List Loc) (ls : Array Slot), nw_W D hpC A (hW ad tC n I K bw LA bM aM (upR S 0 4 (lgA (S0 4) (I 3) w (S 0 4) b))) ad H → va_S A s.heap H locs → lv_has ls 4 [(0, .ref (ad (2))), (1, .int (nI w)), (2, .int (nI (lgC (S0 4) w b))), (3, .int (nI b))] → W p l e ({ frames := 0, cells := 0, slots := 0, locals := 0 } : Room) s m args below meth cd H locs 0 0 Q (F0 m 4 ls []) := by
    intro k
    induction k with
    | zero => intro b h1 h2; exact absurd h2 (by omega)
    | succ k ih4 =>
      intro b hv4 hk4 H locs ls hw hS hl
      have hlg : lgC (S0 4) w b ≤ b := lgC_le
      refine lv_iload_n hx hb d_Rules_gatherLoads_4 rfl (lv_at hl 3 rfl) ?_
      refine lv_aload_n hx hb d_Rules_gatherLoads_5 rfl (lv_at hl 0 rfl) ?_
      refine nw_get hx hb hts i_Rules hown hK hw (2) (hW_2) rfl 0 (by decide) (hts _ kw_121) (fun _ h9 => h9) rfl d_Rules_gatherLoads_6 ?_
      refine nw_getN hx hb hts i_Farm hown hK hw (1) (hW_1) rfl 9 (by decide) (va_Nw.use rfl (hKs.2.2 _ kn_78 rfl)) (fun _ h9 => h9) rfl d_Rules_gatherLoads_9 ?_
      refine lv_icmp_ge (tgt := 59) hx hb d_Rules_gatherLoads_12 (by decide) (fun c_12 => ?_) (fun c_12 => ?_)
      · skip
        have hge12 : n 3 ≤ b := (nI_leI (by omega) (by omega)).mp c_12
        obtain rfl : n 3 = b := by omega
        refine lv_iload_n hx hb d_Rules_gatherLoads_59 rfl (lv_at hl 2 rfl) ?_
        exact nw_iret hQ hx hb hr hlocks hw hS (nw_ok_rf) (Nat.le_of_ble_eq_true rfl) (Nat.le_of_ble_eq_true rfl) d_Rules_gatherLoads_60
      · skip
        have hlt : b < n 3 := Nat.not_le.mp (fun q => c_12 (nI_le q (by omega)))
        refine lv_aload_n hx hb d_Rules_gatherLoads_15 rfl (lv_at hl 0 rfl) ?_
        refine nw_get hx hb hts i_Rules hown hK hw (2) (hW_2) rfl 0 (by decide) (hts _ kw_121) (fun _ h9 => h9) rfl d_Rules_gatherLoads_16 ?_
        refine nw_getN hx hb hts i_Farm hown hK hw (1) (hW_1) rfl 3 (by decide) (va_Nw.use rfl (hKs.2.2 _ kn_60 rfl)) (fun _ h9 => h9) rfl d_Rules_gatherLoads_19 ?_
        refine lv_iload_n hx hb d_Rules_gatherLoads_22 rfl (lv_at hl 3 rfl) ?_
        refine nw_aald hx hb hK hw (8) 5 (hW_8) rfl (b) (rfl) (by omega) (by omega) (y := ad (40 + b)) (if_pos (by omega)) d_Rules_gatherLoads_23 ?_
        refine nw_getN hx hb hts i_Boat hown hK hw (40 + b) (hW_boat hN (by omega)) rfl 1 (by decide) (va_Nw.use rfl (hKs.2.2 _ kn_456 rfl)) (fun _ h9 => h9) rfl d_Rules_gatherLoads_24 ?_
        refine lv_iload_n hx hb d_Rules_gatherLoads_27 rfl (lv_at hl 1 rfl) ?_
        refine nw_zald hx hb hK hw (164 + b) 2 (hW_row (t := 4) (j := b) (by decide) (by omega) (aX_boat (by omega))) rfl (w) (rfl) (by omega) (by omega) d_Rules_gatherLoads_28 ?_
        refine lv_ei (y := S0 4 b w) (congrFun ((scr_up hsc (by omega)) 4 b (by omega)) _) ?_
        refine lv_if_ne (tgt := 53) hx hb d_Rules_gatherLoads_29 (by decide) (fun c_29 => ?_) (fun c_29 => ?_)
        · skip
          have e4 : lgC (S0 4) w (b + 1) = lgC (S0 4) w b ∧ lgA (S0 4) (I 3) w (S 0 4) (b + 1) = lgA (S0 4) (I 3) w (S 0 4) b := lg_f c_29
          refine lv_iinc (v := nI (b + 1)) (lv' := [(3, .int (nI (b + 1))), (0, .ref (ad (2))), (1, .int (nI w)), (2, .int (nI (lgC (S0 4) w b)))]) hx hb d_Rules_gatherLoads_53 hl (k := 3) rfl ((nI_succ _).symm) (by decide) rfl (fun ls hl => ?_)
          refine lv_goto (tgt := 4) hx hb d_Rules_gatherLoads_56 (by decide) ?_
          have el2 : nI (lgC (S0 4) w (b + 1)) = nI (lgC (S0 4) w b) := by rw [e4.1]
          have hl : lv_has ls 4 [(3, .int (nI (b + 1))), (0, .ref (ad (2))), (1, .int (nI w)), (2, .int (nI (lgC (S0 4) w (b + 1))))] := by
            have h9 := hl
            revert h9; rw [show Value.int (nI (lgC (S0 4) w (b + 1))) = Value.int (nI (lgC (S0 4) w b)) from congrArg _ el2]; intro h9
            exact h9
          have hw := nw_W.as (wn' := hW ad tC n I K bw LA bM aM (upR S 0 4 (lgA (S0 4) (I 3) w (S 0 4) (b + 1)))) hw (by rw [e4.2])
          exact ih4 (b + 1) (by omega) (by omega) _ _ ls hw hS (lv_sub hl [1, 2, 3, 0] rfl)
        · skip
          have e4 : lgC (S0 4) w (b + 1) = lgC (S0 4) w b + 1 ∧ lgA (S0 4) (I 3) w (S 0 4) (b + 1) = upd (lgA (S0 4) (I 3) w (S 0 4) b) (lgC (S0 4) w b) (I 3 b) := lg_t c_29
          refine lv_aload_n hx hb d_Rules_gatherLoads_32 rfl (lv_at hl 0 rfl) ?_
          refine nw_get hx hb hts i_Rules hown hK hw (2) (hW_2) rfl 2 (by decide) (hts _ kw_123) (fun _ h9 => h9) rfl d_Rules_gatherLoads_33 ?_
          refine lv_iload_n hx hb d_Rules_gatherLoads_36 rfl (lv_at hl 2 rfl) ?_
          refine lv_aload_n hx hb d_Rules_gatherLoads_37 rfl (lv_at hl 0 rfl) ?_
          refine nw_get hx hb hts i_Rules hown hK hw (2) (hW_2) rfl 0 (by decide) (hts _ kw_121) (fun _ h9 => h9) rfl d_Rules_gatherLoads_38 ?_
          refine nw_getN hx hb hts i_Farm hown hK hw (1) (hW_1) rfl 3 (by decide) (va_Nw.use rfl (hKs.2.2 _ kn_60 rfl)) (fun _ h9 => h9) rfl d_Rules_gatherLoads_41 ?_
          refine lv_iload_n hx hb d_Rules_gatherLoads_44 rfl (lv_at hl 3 rfl) ?_
          refine nw_aald hx hb hK hw (8) 5 (hW_8) rfl (b) (rfl) (by omega) (by omega) (y := ad (40 + b)) (if_pos (by omega)) d_Rules_gatherLoads_45 ?_
          refine nw_getN hx hb hts i_Boat hown hK hw (40 + b) (hW_boat hN (by omega)) rfl 0 (by decide) (va_Nw.use rfl (hKs.2.2 _ kn_453 rfl)) (fun _ h9 => h9) rfl d_Rules_gatherLoads_46 ?_
          refine nw_iast hx hb hK hw hS (104) 0 (hW_row (t := 0) (j := 4) (by decide) (by omega) (rfl)) rfl (lgC (S0 4) w b) (rfl) (by omega) (by omega) d_Rules_gatherLoads_49 (fun H locs hw hS => ?_)
          have hw := hW_setRow (t := 0) (j := 4) (by decide) (by omega) (rfl) hw
          rw [upR_upR, upR_self] at hw
          refine lv_iinc (v := nI (lgC (S0 4) w b + 1)) (lv' := [(2, .int (nI (lgC (S0 4) w b + 1))), (0, .ref (ad (2))), (1, .int (nI w)), (3, .int (nI b))]) hx hb d_Rules_gatherLoads_50 hl (k := 2) rfl ((nI_succ _).symm) (by decide) rfl (fun ls hl => ?_)
          refine lv_iinc (v := nI (b + 1)) (lv' := [(3, .int (nI (b + 1))), (2, .int (nI (lgC (S0 4) w b + 1))), (0, .ref (ad (2))), (1, .int (nI w))]) hx hb d_Rules_gatherLoads_53 hl (k := 3) rfl ((nI_succ _).symm) (by decide) rfl (fun ls hl => ?_)
          refine lv_goto (tgt := 4) hx hb d_Rules_gatherLoads_56 (by decide) ?_
          have el2 : nI (lgC (S0 4) w (b + 1)) = nI (lgC (S0 4) w b + 1) := by rw [e4.1]
          have hl : lv_has ls 4 [(3, .int (nI (b + 1))), (2, .int (nI (lgC (S0 4) w (b + 1)))), (0, .ref (ad (2))), (1, .int (nI w))] := by
            have h9 := hl
            revert h9; rw [show Value.int (nI (lgC (S0 4) w (b + 1))) = Value.int (nI (lgC (S0 4) w b + 1)) from congrArg _ el2]; intro h9
            exact h9
          have hw := nw_W.as (wn' := hW ad tC n I K bw LA bM aM (upR S 0 4 (lgA (S0 4) (I 3) w (S 0 4) (b + 1)))) hw (by rw [e4.2])
          exact ih4 (b + 1) (by omega) (by omega) _ _ ls hw hS (lv_sub hl [2, 3, 1, 0] rfl)
  exact loop4 (n 3 + 1) (0) (by omega) (by omega) _ _ ls hw hS (lv_sub hl [2, 3, 1, 0] rfl)

set_option maxHeartbeats 4000000 in
set_option maxRecDepth 100000 in
/-- whether the boats carry all by a way -/
theorem c_Rules_carriesAll (l : Launch) (D : va_G) (tC : Nat → ClassId) (A : Nat → Prop) (ad : Nat → Nat) (n : Nat → Nat) (I : Nat → Nat → Int32) (K : Nat → Int32) (bw : Int64) (LA : Nat → Int64) (bM : Nat → Option va_E) (aM : Nat → Nat → Option (ClassId × Nat)) (S0 S : Nat → Nat → Nat → Int32) (hsc : scr S0 S) (hN : hpN n) (f3 f4 : Nat → Int32) (h3 : S 0 3 = f3) (h4 : S 0 4 = f4) (way nd af : Nat) (hway : way < 2 ^ 31) (hnd : 1 ≤ nd) (hnd6 : nd ≤ 6) (haf : af ≤ 3) : nw_Met l y_Rules_carriesAll [Cond.code y_Rules_carriesAll b_Rules_carriesAll 6 (some .boolean)] ({ frames := 1, cells := 0, slots := 0, locals := 40 } : Room) D hpC A [.ref (ad (2)), .int (nI way), .int (nI nd), .int (nI af)] (nw_pre D hpC (hpT tC) A (hW ad tC n I K bw LA bM aM S) ad) (nw_ok (some (.int (b2 (pCarries f3 f4 nd af way)))) (hW ad tC n I K bw LA bM aM (upR S 0 5 (msA (S 0 4) way nd (va_cpy (S 0 3) (S 0 5) 0 0 nd) af))) ad) 0 0 := by
  refine nw_bodyK (by decide) (Nat.le_of_ble_eq_true rfl) ?_
  intro p e s m below meth cd ls args Q hSx hr hlocks hname hA hKs hw hS hl hQ
  obtain ⟨hx, hb, hml, hown, hts⟩ := id hSx
  have hK := hKs.1
  have hl : lv_has ls 6 [(0, .ref (ad (2))), (1, .int (nI way)), (2, .int (nI nd)), (3, .int (nI af))] := hl
  obtain ⟨hn0, hn0', hn1, hn2, hn3, hn4⟩ := id hN
  refine lv_aload_n hx hb d_Rules_carriesAll_0 rfl (lv_at hl 0 rfl) ?_
  refine nw_get hx hb hts i_Rules hown hK hw (2) (hW_2) rfl 1 (by decide) (hts _ kw_122) (fun _ h9 => h9) rfl d_Rules_carriesAll_1 ?_
  refine lv_iconst (v := nI 0) hx hb d_Rules_carriesAll_4 (by decide) ?_
  refine lv_aload_n hx hb d_Rules_carriesAll_5 rfl (lv_at hl 0 rfl) ?_
  refine nw_get hx hb hts i_Rules hown hK hw (2) (hW_2) rfl 3 (by decide) (hts _ kw_124) (fun _ h9 => h9) rfl d_Rules_carriesAll_6 ?_
  refine lv_iconst (v := nI 0) hx hb d_Rules_carriesAll_9 (by decide) ?_
  refine lv_iload_n hx hb d_Rules_carriesAll_10 rfl (lv_at hl 2 rfl) ?_
  refine nw_copy hx hb (hml.trans hl.1.symm) hown (hts _ kw_597) (hts _ kw_568) (hts _ kw_567) (hts _ kw_18) hK hw hS (103) (105) 0 (hW_row (t := 0) (j := 3) (by decide) (by omega) (rfl)) (hW_row (t := 0) (j := 5) (by decide) (by omega) (rfl)) rfl (nI_pos (by omega)) (nI_pos (by omega)) (nI_pos (by omega)) (by rw [nI_clamp (by omega), nI_clamp (by omega)]; omega) (by rw [nI_clamp (by omega), nI_clamp (by omega)]; omega) (Nat.le_of_ble_eq_true rfl) (Nat.le_of_ble_eq_true rfl) d_Rules_carriesAll_11 (fun H locs hw hS => ?_)
  rw [nI_clamp (n := 0) (by omega), nI_clamp (n := nd) (by omega)] at hw
  have hw := hW_setRow (t := 0) (j := 5) (by decide) (by omega) (rfl) hw
  refine lv_iload_n hx hb d_Rules_carriesAll_14 rfl (lv_at hl 1 rfl) ?_
  refine lv_istore (lv' := [(4, .int (nI way)), (0, .ref (ad (2))), (1, .int (nI way)), (2, .int (nI nd)), (3, .int (nI af))]) hx hb d_Rules_carriesAll_15 hl (by decide) rfl (fun ls hl => ?_)
  refine lv_iconst (v := nI 0) hx hb d_Rules_carriesAll_17 (by decide) ?_
  refine lv_istore (lv' := [(5, .int (nI 0)), (4, .int (nI way)), (0, .ref (ad (2))), (1, .int (nI way)), (2, .int (nI nd)), (3, .int (nI af))]) hx hb d_Rules_carriesAll_18 hl (by decide) rfl (fun ls hl => ?_)
  have el4 : nI (way / nd ^ 0) = nI way := by rw [Nat.pow_zero, Nat.div_one]
  have hl : lv_has ls 6 [(5, .int (nI 0)), (4, .int (nI (way / nd ^ 0))), (0, .ref (ad (2))), (1, .int (nI way)), (2, .int (nI nd)), (3, .int (nI af))] := by
    have h9 := hl
    revert h9; rw [show Value.int (nI (way / nd ^ 0)) = Value.int (nI way) from congrArg _ el4]; intro h9
    exact h9
  have loop20 : ∀ (k b : Nat), b ≤ af → af + 1 ≤ b + k → ∀ (H : Heap) (locs : List Loc) (ls : Array Slot), nw_W D hpC A (hW ad tC n I K bw LA bM aM (upR S 0 5 (msA (S 0 4) way nd (va_cpy (S 0 3) (S 0 5) 0 0 nd) b))) ad H → va_S A s.heap H locs → lv_has ls 6 [(0, .ref (ad (2))), (1, .int (nI way)), (2, .int (nI nd)), (3, .int (nI af)), (4, .int (nI (way / nd ^ b))), (5, .int (nI b))] → W p l e ({ frames := 1, cells := 0, slots := 0, locals := 40 } : Room) s m args below meth cd H locs 0 0 Q (F0 m 20 ls []) := by
    intro k
    induction k with
    | zero => intro b h1 h2; exact absurd h2 (by omega)
    | succ k ih20 =>
      intro b hv20 hk20 H locs ls hw hS hl
      refine lv_iload hx hb d_Rules_carriesAll_20 (lv_at hl 5 rfl) ?_
      refine lv_iload_n hx hb d_Rules_carriesAll_22 rfl (lv_at hl 3 rfl) ?_
      refine lv_icmp_ge (tgt := 57) hx hb d_Rules_carriesAll_23 (by decide) (fun c_23 => ?_) (fun c_23 => ?_)
      · skip
        have hge23 : af ≤ b := (nI_leI (by omega) (by omega)).mp c_23
        obtain rfl : af = b := by omega
        refine lv_iconst (v := nI 0) hx hb d_Rules_carriesAll_57 (by decide) ?_
        refine lv_istore (lv' := [(5, .int (nI 0)), (0, .ref (ad (2))), (1, .int (nI way)), (2, .int (nI nd)), (3, .int (nI af)), (4, .int (nI (way / nd ^ af)))]) hx hb d_Rules_carriesAll_58 hl (by decide) rfl (fun ls hl => ?_)
        have loop60 : ∀ (k i : Nat), i ≤ nd → nd + 1 ≤ i + k → (∀ k, k < i → msA f4 way nd f3 af k ≤ 0) → ∀ (H : Heap) (locs : List Loc) (ls : Array Slot), nw_W D hpC A (hW ad tC n I K bw LA bM aM (upR S 0 5 (msA (S 0 4) way nd (va_cpy (S 0 3) (S 0 5) 0 0 nd) af))) ad H → va_S A s.heap H locs → lv_has ls 6 [(0, .ref (ad (2))), (1, .int (nI way)), (2, .int (nI nd)), (3, .int (nI af)), (5, .int (nI i))] → W p l e ({ frames := 1, cells := 0, slots := 0, locals := 40 } : Room) s m args below meth cd H locs 0 0 Q (F0 m 60 ls []) := by
          intro k
          induction k with
          | zero => intro i h1 h2; exact absurd h2 (by omega)
          | succ k ih60 =>
            intro i hv60 hk60 hinv H locs ls hw hS hl
            refine lv_iload hx hb d_Rules_carriesAll_60 (lv_at hl 4 rfl) ?_
            refine lv_iload_n hx hb d_Rules_carriesAll_62 rfl (lv_at hl 2 rfl) ?_
            refine lv_icmp_ge (tgt := 84) hx hb d_Rules_carriesAll_63 (by decide) (fun c_63 => ?_) (fun c_63 => ?_)
            · skip
              have hge63 : nd ≤ i := (nI_leI (by omega) (by omega)).mp c_63
              obtain rfl : nd = i := by omega
              have hres : nI 1 = b2 (pCarries f3 f4 nd af way) := b2_t hinv
              refine lv_iconst (v := nI 1) hx hb d_Rules_carriesAll_84 (by decide) ?_
              exact nw_zret hQ hx hb hr (by first | exact Or.inl rfl | exact Or.inr rfl) hlocks hw hS (nw_okI hres) (Nat.le_of_ble_eq_true rfl) (Nat.le_of_ble_eq_true rfl) d_Rules_carriesAll_85
            · skip
              have hlt : i < nd := Nat.not_le.mp (fun q => c_63 (nI_le q (by omega)))
              have ems : msA (S 0 4) way nd (va_cpy (S 0 3) (S 0 5) 0 0 nd) af i = msA f4 way nd f3 af i := msA_base (by omega) (fun k hk => by rw [cpy_lo hk, h3]) (fun k hk => by rw [h4]) i (by omega)
              refine lv_aload_n hx hb d_Rules_carriesAll_66 rfl (lv_at hl 0 rfl) ?_
              refine nw_get hx hb hts i_Rules hown hK hw (2) (hW_2) rfl 3 (by decide) (hts _ kw_124) (fun _ h9 => h9) rfl d_Rules_carriesAll_67 ?_
              refine lv_iload hx hb d_Rules_carriesAll_70 (lv_at hl 4 rfl) ?_
              refine nw_iald hx hb hK hw (105) 0 (hW_row (t := 0) (j := 5) (by decide) (by omega) (rfl)) rfl (i) (rfl) (by omega) (by omega) d_Rules_carriesAll_72 ?_
              refine lv_ei (y := (msA (S 0 4) way nd (va_cpy (S 0 3) (S 0 5) 0 0 nd) af) i) (congrFun upR_self _) ?_
              refine lv_ei (y := msA f4 way nd f3 af i) (ems) ?_
              refine lv_if_le (tgt := 78) hx hb d_Rules_carriesAll_73 (by decide) (fun c_73 => ?_) (fun c_73 => ?_)
              · skip
                have hinv' : ∀ k, k < (i + 1) → msA f4 way nd f3 af k ≤ 0 := lt_s hinv c_73
                refine lv_iinc (v := nI (i + 1)) (lv' := [(5, .int (nI (i + 1))), (0, .ref (ad (2))), (1, .int (nI way)), (2, .int (nI nd)), (3, .int (nI af))]) hx hb d_Rules_carriesAll_78 hl (k := 4) rfl ((nI_succ _).symm) (by decide) rfl (fun ls hl => ?_)
                refine lv_goto (tgt := 60) hx hb d_Rules_carriesAll_81 (by decide) ?_
                exact ih60 (i + 1) (by omega) (by omega) (hinv') _ _ ls hw hS (lv_sub hl [1, 2, 3, 4, 0] rfl)
              · skip
                have hres : nI 0 = b2 (pCarries f3 f4 nd af way) := b2_f (fun h => c_73 (h i (by omega)))
                refine lv_iconst (v := nI 0) hx hb d_Rules_carriesAll_76 (by decide) ?_
                exact nw_zret hQ hx hb hr (by first | exact Or.inl rfl | exact Or.inr rfl) hlocks hw hS (nw_okI hres) (Nat.le_of_ble_eq_true rfl) (Nat.le_of_ble_eq_true rfl) d_Rules_carriesAll_77
        exact loop60 (nd + 1) (0) (by omega) (by omega) (fun j hj => absurd hj (Nat.not_lt_zero j)) _ _ ls hw hS (lv_sub hl [1, 2, 3, 4, 0] rfl)
      · skip
        have hlt : b < af := Nat.not_le.mp (fun q => c_23 (nI_le q (by omega)))
        refine lv_aload_n hx hb d_Rules_carriesAll_26 rfl (lv_at hl 0 rfl) ?_
        refine nw_get hx hb hts i_Rules hown hK hw (2) (hW_2) rfl 3 (by decide) (hts _ kw_124) (fun _ h9 => h9) rfl d_Rules_carriesAll_27 ?_
        refine lv_iload hx hb d_Rules_carriesAll_30 (lv_at hl 4 rfl) ?_
        refine lv_iload_n hx hb d_Rules_carriesAll_32 rfl (lv_at hl 2 rfl) ?_
        refine lv_irem hx hb d_Rules_carriesAll_33 (nI_ne0 (by omega) (by omega)) ?_
        refine lv_ei (y := nI (way / nd ^ b % nd)) (pk_rem (Nat.lt_of_le_of_lt (Nat.div_le_self _ _) hway) (by omega) (by omega)) ?_
        refine lv_dup2_11 hx hb d_Rules_carriesAll_34 rfl rfl ?_
        refine nw_iald hx hb hK hw (105) 0 (hW_row (t := 0) (j := 5) (by decide) (by omega) (rfl)) rfl (way / nd ^ b % nd) (rfl) (Nat.lt_of_lt_of_le (Nat.mod_lt _ (by omega)) (by omega)) (by omega) d_Rules_carriesAll_35 ?_
        refine lv_ei (y := (msA (S 0 4) way nd (va_cpy (S 0 3) (S 0 5) 0 0 nd) b) (way / nd ^ b % nd)) (congrFun upR_self _) ?_
        refine lv_aload_n hx hb d_Rules_carriesAll_36 rfl (lv_at hl 0 rfl) ?_
        refine nw_get hx hb hts i_Rules hown hK hw (2) (hW_2) rfl 2 (by decide) (hts _ kw_123) (fun _ h9 => h9) rfl d_Rules_carriesAll_37 ?_
        refine lv_iload hx hb d_Rules_carriesAll_40 (lv_at hl 5 rfl) ?_
        refine nw_iald hx hb hK hw (104) 0 (hW_row (t := 0) (j := 4) (by decide) (by omega) (rfl)) rfl (b) (rfl) (by omega) (by omega) d_Rules_carriesAll_42 ?_
        refine lv_ei (y := S 0 4 b) (congrFun (by simp [upR]) _) ?_
        refine lv_isub hx hb d_Rules_carriesAll_43 ?_
        refine nw_iast hx hb hK hw hS (105) 0 (hW_row (t := 0) (j := 5) (by decide) (by omega) (rfl)) rfl (way / nd ^ b % nd) (rfl) (Nat.lt_of_lt_of_le (Nat.mod_lt _ (by omega)) (by omega)) (by omega) d_Rules_carriesAll_44 (fun H locs hw hS => ?_)
        have hw := hW_setRow (t := 0) (j := 5) (by decide) (by omega) (rfl) hw
        rw [upR_upR, upR_self] at hw
        refine lv_iload hx hb d_Rules_carriesAll_45 (lv_at hl 4 rfl) ?_
        refine lv_iload_n hx hb d_Rules_carriesAll_47 rfl (lv_at hl 2 rfl) ?_
        refine lv_idiv hx hb d_Rules_carriesAll_48 (nI_ne0 (by omega) (by omega)) ?_
        refine lv_ei (y := nI (way / nd ^ b / nd)) (pk_div (Nat.lt_of_le_of_lt (Nat.div_le_self _ _) hway) (by omega) (by omega)) ?_
        refine lv_istore (lv' := [(4, .int (nI (way / nd ^ b / nd))), (0, .ref (ad (2))), (1, .int (nI way)), (2, .int (nI nd)), (3, .int (nI af)), (5, .int (nI b))]) hx hb d_Rules_carriesAll_49 hl (by decide) rfl (fun ls hl => ?_)
        refine lv_iinc (v := nI (b + 1)) (lv' := [(5, .int (nI (b + 1))), (4, .int (nI (way / nd ^ b / nd))), (0, .ref (ad (2))), (1, .int (nI way)), (2, .int (nI nd)), (3, .int (nI af))]) hx hb d_Rules_carriesAll_51 hl (k := 5) rfl ((nI_succ _).symm) (by decide) rfl (fun ls hl => ?_)
        refine lv_goto (tgt := 20) hx hb d_Rules_carriesAll_54 (by decide) ?_
        have el4 : nI (way / nd ^ (b + 1)) = nI (way / nd ^ b / nd) := by rw [Nat.pow_succ, Nat.div_div_eq_div_mul]
        have hl : lv_has ls 6 [(5, .int (nI (b + 1))), (4, .int (nI (way / nd ^ (b + 1)))), (0, .ref (ad (2))), (1, .int (nI way)), (2, .int (nI nd)), (3, .int (nI af))] := by
          have h9 := hl
          revert h9; rw [show Value.int (nI (way / nd ^ (b + 1))) = Value.int (nI (way / nd ^ b / nd)) from congrArg _ el4]; intro h9
          exact h9
        have hw := nw_W.as (wn' := hW ad tC n I K bw LA bM aM (upR S 0 5 (msA (S 0 4) way nd (va_cpy (S 0 3) (S 0 5) 0 0 nd) (b + 1)))) hw (by rw [ms_s])
        exact ih20 (b + 1) (by omega) (by omega) _ _ ls hw hS (lv_sub hl [2, 3, 4, 5, 1, 0] rfl)
  exact loop20 (af + 1) (0) (by omega) (by omega) _ _ ls hw hS (lv_sub hl [2, 3, 4, 5, 1, 0] rfl)
end
section
set_option maxHeartbeats 4000000 in
set_option maxRecDepth 100000 in
/-- BOATS -/
theorem c_Rules_keepsBoats (l : Launch) (D : va_G) (tC : Nat → ClassId) (A : Nat → Prop) (ad : Nat → Nat) (n : Nat → Nat) (I : Nat → Nat → Int32) (K : Nat → Int32) (bw : Int64) (LA : Nat → Int64) (bM : Nat → Option va_E) (aM : Nat → Nat → Option (ClassId × Nat)) (S0 S : Nat → Nat → Nat → Int32) (hsc : scr S0 S) (hN : hpN n) (r : Nat) (hr0 : r = 0 ∨ r = 9) (w : Nat) (hwk : w < n 0) : nw_Met l y_Rules_keepsBoats [Cond.code y_Rules_keepsBoats b_Rules_keepsBoats 7 (some .boolean)] ({ frames := 2, cells := 0, slots := 0, locals := 65 } : Room) D hpC A [.ref (ad (2)), .ref (ad (100 + r)), .int (nI w)] (nw_pre D hpC (hpT tC) A (hW ad tC n I K bw LA bM aM S) ad) (nw_sc (some (.int (b2 (pBoats n I S0 (S0 0 r) w)))) (fun S' => hW ad tC n I K bw LA bM aM S') S0 ad) 0 0 := by
  refine nw_bodyK (by decide) (Nat.le_of_ble_eq_true rfl) ?_
  intro p e s m below meth cd ls args Q hSx hr hlocks hname hA hKs hw hS hl hQ
  obtain ⟨hx, hb, hml, hown, hts⟩ := id hSx
  have hK := hKs.1
  have hl : lv_has ls 7 [(0, .ref (ad (2))), (1, .ref (ad (100 + r))), (2, .int (nI w))] := hl
  obtain ⟨hn0, hn0', hn1, hn2, hn3, hn4⟩ := id hN
  have hN6 : ngC (S0 0 r) (S0 3) w (n 2) ≤ n 2 := ngC_le
  have hAF3 : lgC (S0 4) w (n 3) ≤ n 3 := lgC_le
  refine lv_aload_n hx hb d_Rules_keepsBoats_0 rfl (lv_at hl 0 rfl) ?_
  refine lv_aload_n hx hb d_Rules_keepsBoats_1 rfl (lv_at hl 1 rfl) ?_
  refine lv_iload_n hx hb d_Rules_keepsBoats_2 rfl (lv_at hl 2 rfl) ?_
  refine nw_callD (nw_goV (n := 2) (As := [.ref (ad (100 + r)), .int (nI w)]) (rest := []) hSx hA hKs hw hS (c_Rules_gatherNeeds l D tC A ad n I K bw LA bM aM S0 S hsc hN r hr0 w (by omega)) kw_588 kw_585 kw_587 ks_Rules_gatherNeeds kw_4 rfl rfl (by decide +kernel) ⟨Nat.le_of_ble_eq_true rfl, Nat.le_of_ble_eq_true rfl⟩ (nw_recv hK hw (hW_2) rfl) rfl hl.1 (Nat.le_of_ble_eq_true rfl) d_Rules_keepsBoats_3 ⟨Nat.le_of_ble_eq_true rfl, Nat.le_of_ble_eq_true rfl⟩) hS (fun H locs hw hS => ?_)
  refine lv_istore_n (lv' := [(3, .int (nI (ngC (S0 0 r) (S0 3) w (n 2)))), (0, .ref (ad (2))), (1, .ref (ad (100 + r))), (2, .int (nI w))]) hx hb d_Rules_keepsBoats_6 rfl hl (by decide) rfl (fun ls hl => ?_)
  refine lv_iload_n hx hb d_Rules_keepsBoats_7 rfl (lv_at hl 0 rfl) ?_
  refine lv_if_ne (tgt := 13) hx hb d_Rules_keepsBoats_8 (by decide) (fun c_8 => ?_) (fun c_8 => ?_)
  · skip
    have hN1 : 1 ≤ ngC (S0 0 r) (S0 3) w (n 2) := Nat.pos_of_ne_zero (fun h => c_8 (by rw [h]; rfl))
    refine lv_aload_n hx hb d_Rules_keepsBoats_13 rfl (lv_at hl 1 rfl) ?_
    refine lv_iload_n hx hb d_Rules_keepsBoats_14 rfl (lv_at hl 3 rfl) ?_
    refine nw_callD (nw_goV (n := 1) (As := [.int (nI w)]) (rest := []) hSx hA hKs hw hS (c_Rules_gatherLoads l D tC A ad n I K bw LA bM aM S0 (upR S 0 3 (ngA (S0 0 r) (S0 3) w (S 0 3) (n 2))) (scr_up hsc (by omega)) hN w (by omega)) kw_592 kw_589 kw_591 ks_Rules_gatherLoads kw_4 rfl rfl (by decide +kernel) ⟨Nat.le_of_ble_eq_true rfl, Nat.le_of_ble_eq_true rfl⟩ (nw_recv hK hw (hW_2) rfl) rfl hl.1 (Nat.le_of_ble_eq_true rfl) d_Rules_keepsBoats_15 ⟨Nat.le_of_ble_eq_true rfl, Nat.le_of_ble_eq_true rfl⟩) hS (fun H locs hw hS => ?_)
    refine lv_istore (lv' := [(4, .int (nI (lgC (S0 4) w (n 3)))), (3, .int (nI (ngC (S0 0 r) (S0 3) w (n 2)))), (0, .ref (ad (2))), (1, .ref (ad (100 + r))), (2, .int (nI w))]) hx hb d_Rules_keepsBoats_18 hl (by decide) rfl (fun ls hl => ?_)
    refine lv_iload_n hx hb d_Rules_keepsBoats_20 rfl (lv_at hl 1 rfl) ?_
    refine lv_iload hx hb d_Rules_keepsBoats_21 (lv_at hl 0 rfl) ?_
    refine lv_icmp_le (tgt := 28) hx hb d_Rules_keepsBoats_23 (by decide) (fun c_23 => ?_) (fun c_23 => ?_)
    · skip
      have hle : ngC (S0 0 r) (S0 3) w (n 2) ≤ lgC (S0 4) w (n 3) := (nI_leI (by omega) (by omega)).mp c_23
      refine lv_iconst (v := nI 1) hx hb d_Rules_keepsBoats_28 (by decide) ?_
      refine lv_istore (lv' := [(5, .int (nI 1)), (4, .int (nI (lgC (S0 4) w (n 3)))), (3, .int (nI (ngC (S0 0 r) (S0 3) w (n 2)))), (0, .ref (ad (2))), (1, .ref (ad (100 + r))), (2, .int (nI w))]) hx hb d_Rules_keepsBoats_29 hl (by decide) rfl (fun ls hl => ?_)
      refine lv_iconst (v := nI 0) hx hb d_Rules_keepsBoats_31 (by decide) ?_
      refine lv_istore (lv' := [(6, .int (nI 0)), (5, .int (nI 1)), (4, .int (nI (lgC (S0 4) w (n 3)))), (3, .int (nI (ngC (S0 0 r) (S0 3) w (n 2)))), (0, .ref (ad (2))), (1, .ref (ad (100 + r))), (2, .int (nI w))]) hx hb d_Rules_keepsBoats_32 hl (by decide) rfl (fun ls hl => ?_)
      have el5 : nI ((ngC (S0 0 r) (S0 3) w (n 2)) ^ 0) = nI 1 := by rw [Nat.pow_zero]
      have hl : lv_has ls 7 [(6, .int (nI 0)), (5, .int (nI ((ngC (S0 0 r) (S0 3) w (n 2)) ^ 0))), (4, .int (nI (lgC (S0 4) w (n 3)))), (3, .int (nI (ngC (S0 0 r) (S0 3) w (n 2)))), (0, .ref (ad (2))), (1, .ref (ad (100 + r))), (2, .int (nI w))] := by
        have h9 := hl
        revert h9; rw [show Value.int (nI ((ngC (S0 0 r) (S0 3) w (n 2)) ^ 0)) = Value.int (nI 1) from congrArg _ el5]; intro h9
        exact h9
      have loop34 : ∀ (k b : Nat), b ≤ lgC (S0 4) w (n 3) → lgC (S0 4) w (n 3) + 1 ≤ b + k → ∀ (H : Heap) (locs : List Loc) (ls : Array Slot), nw_W D hpC A (hW ad tC n I K bw LA bM aM (upR (upR S 0 3 (ngA (S0 0 r) (S0 3) w (S 0 3) (n 2))) 0 4 (lgA (S0 4) (I 3) w ((upR S 0 3 (ngA (S0 0 r) (S0 3) w (S 0 3) (n 2))) 0 4) (n 3)))) ad H → va_S A s.heap H locs → lv_has ls 7 [(0, .ref (ad (2))), (1, .ref (ad (100 + r))), (2, .int (nI w)), (3, .int (nI (ngC (S0 0 r) (S0 3) w (n 2)))), (4, .int (nI (lgC (S0 4) w (n 3)))), (5, .int (nI ((ngC (S0 0 r) (S0 3) w (n 2)) ^ b))), (6, .int (nI b))] → W p l e ({ frames := 2, cells := 0, slots := 0, locals := 65 } : Room) s m args below meth cd H locs 0 0 Q (F0 m 34 ls []) := by
        intro k
        induction k with
        | zero => intro b h1 h2; exact absurd h2 (by omega)
        | succ k ih34 =>
          intro b hv34 hk34 H locs ls hw hS hl
          refine lv_iload hx hb d_Rules_keepsBoats_34 (lv_at hl 6 rfl) ?_
          refine lv_iload hx hb d_Rules_keepsBoats_36 (lv_at hl 4 rfl) ?_
          refine lv_icmp_ge (tgt := 53) hx hb d_Rules_keepsBoats_38 (by decide) (fun c_38 => ?_) (fun c_38 => ?_)
          · skip
            have hge38 : lgC (S0 4) w (n 3) ≤ b := (nI_leI (by omega) (by omega)).mp c_38
            obtain rfl : lgC (S0 4) w (n 3) = b := by omega
            refine lv_iconst (v := nI 0) hx hb d_Rules_keepsBoats_53 (by decide) ?_
            refine lv_istore (lv' := [(6, .int (nI 0)), (0, .ref (ad (2))), (1, .ref (ad (100 + r))), (2, .int (nI w)), (3, .int (nI (ngC (S0 0 r) (S0 3) w (n 2)))), (4, .int (nI (lgC (S0 4) w (n 3)))), (5, .int (nI ((ngC (S0 0 r) (S0 3) w (n 2)) ^ (lgC (S0 4) w (n 3)))))]) hx hb d_Rules_keepsBoats_54 hl (by decide) rfl (fun ls hl => ?_)
            obtain ⟨M, hM⟩ : ∃ M : Nat, M = (ngC (S0 0 r) (S0 3) w (n 2)) ^ (lgC (S0 4) w (n 3)) := ⟨_, rfl⟩
            have hM27 : M ≤ 27 := by rw [hM]; exact pow27 hN1 (by omega) (by omega)
            have hcb : ∀ v, pCarries (ngA (S0 0 r) (S0 3) w (S 0 3) (n 2)) (lgA (S0 4) (I 3) w ((upR S 0 3 (ngA (S0 0 r) (S0 3) w (S 0 3) (n 2))) 0 4) (n 3)) (ngC (S0 0 r) (S0 3) w (n 2)) (lgC (S0 4) w (n 3)) v ↔ pCarries (ngA (S0 0 r) (S0 3) w (fun _ => 0) (n 2)) (lgA (S0 4) (I 3) w (fun _ => 0) (n 3)) (ngC (S0 0 r) (S0 3) w (n 2)) (lgC (S0 4) w (n 3)) v := fun v => pCarries_base (by omega) (fun k hk => ngA_base hk) (fun k hk => lgA_base hk)
            have hw := nw_W.as (wn' := hW ad tC n I K bw LA bM aM (upR (upR (upR S 0 3 (ngA (S0 0 r) (S0 3) w (S 0 3) (n 2))) 0 4 (lgA (S0 4) (I 3) w ((upR S 0 3 (ngA (S0 0 r) (S0 3) w (S 0 3) (n 2))) 0 4) (n 3))) 0 5 ((upR (upR S 0 3 (ngA (S0 0 r) (S0 3) w (S 0 3) (n 2))) 0 4 (lgA (S0 4) (I 3) w ((upR S 0 3 (ngA (S0 0 r) (S0 3) w (S 0 3) (n 2))) 0 4) (n 3))) 0 5))) hw (by rw [upR_same])
            have el5 : nI M = nI ((ngC (S0 0 r) (S0 3) w (n 2)) ^ (lgC (S0 4) w (n 3))) := by rw [hM]
            have hl : lv_has ls 7 [(6, .int (nI 0)), (0, .ref (ad (2))), (1, .ref (ad (100 + r))), (2, .int (nI w)), (3, .int (nI (ngC (S0 0 r) (S0 3) w (n 2)))), (4, .int (nI (lgC (S0 4) w (n 3)))), (5, .int (nI M))] := by
              have h9 := hl
              revert h9; rw [show Value.int (nI M) = Value.int (nI ((ngC (S0 0 r) (S0 3) w (n 2)) ^ (lgC (S0 4) w (n 3)))) from congrArg _ el5]; intro h9
              exact h9
            have loop56 : ∀ (k way : Nat) (Z : Nat → Int32), way ≤ M → M + 1 ≤ way + k → (∀ v, v < way → ¬ pCarries (ngA (S0 0 r) (S0 3) w (fun _ => 0) (n 2)) (lgA (S0 4) (I 3) w (fun _ => 0) (n 3)) (ngC (S0 0 r) (S0 3) w (n 2)) (lgC (S0 4) w (n 3)) v) → ∀ (H : Heap) (locs : List Loc) (ls : Array Slot), nw_W D hpC A (hW ad tC n I K bw LA bM aM (upR (upR (upR S 0 3 (ngA (S0 0 r) (S0 3) w (S 0 3) (n 2))) 0 4 (lgA (S0 4) (I 3) w ((upR S 0 3 (ngA (S0 0 r) (S0 3) w (S 0 3) (n 2))) 0 4) (n 3))) 0 5 Z)) ad H → va_S A s.heap H locs → lv_has ls 7 [(0, .ref (ad (2))), (1, .ref (ad (100 + r))), (2, .int (nI w)), (3, .int (nI (ngC (S0 0 r) (S0 3) w (n 2)))), (4, .int (nI (lgC (S0 4) w (n 3)))), (5, .int (nI M)), (6, .int (nI way))] → W p l e ({ frames := 2, cells := 0, slots := 0, locals := 65 } : Room) s m args below meth cd H locs 0 0 Q (F0 m 56 ls []) := by
              intro k
              induction k with
              | zero => intro way Z h1 h2; exact absurd h2 (by omega)
              | succ k ih56 =>
                intro way Z hv56 hk56 hno H locs ls hw hS hl
                refine lv_iload hx hb d_Rules_keepsBoats_56 (lv_at hl 6 rfl) ?_
                refine lv_iload hx hb d_Rules_keepsBoats_58 (lv_at hl 5 rfl) ?_
                refine lv_icmp_ge (tgt := 83) hx hb d_Rules_keepsBoats_60 (by decide) (fun c_60 => ?_) (fun c_60 => ?_)
                · skip
                  have hge60 : M ≤ way := (nI_leI (by omega) (by omega)).mp c_60
                  obtain rfl : M = way := by omega
                  have hres : nI 0 = b2 (pBoats n I S0 (S0 0 r) w) := b2_f (fun h => h.elim (fun h0 => by omega) (fun ⟨_, v, hv, hc⟩ => hno v (by rw [hM]; exact hv) hc))
                  refine lv_iconst (v := nI 0) hx hb d_Rules_keepsBoats_83 (by decide) ?_
                  exact nw_zret hQ hx hb hr (by first | exact Or.inl rfl | exact Or.inr rfl) hlocks hw hS (nw_scI (scr_up (scr_up (scr_up hsc (by omega)) (by omega)) (by omega)) hres) (Nat.le_of_ble_eq_true rfl) (Nat.le_of_ble_eq_true rfl) d_Rules_keepsBoats_84
                · skip
                  have hlt : way < M := Nat.not_le.mp (fun q => c_60 (nI_le q (by omega)))
                  refine lv_aload_n hx hb d_Rules_keepsBoats_63 rfl (lv_at hl 0 rfl) ?_
                  refine lv_iload hx hb d_Rules_keepsBoats_64 (lv_at hl 6 rfl) ?_
                  refine lv_iload_n hx hb d_Rules_keepsBoats_66 rfl (lv_at hl 3 rfl) ?_
                  refine lv_iload hx hb d_Rules_keepsBoats_67 (lv_at hl 4 rfl) ?_
                  refine nw_callD (nw_goV (n := 3) (As := [.int (nI way), .int (nI (ngC (S0 0 r) (S0 3) w (n 2))), .int (nI (lgC (S0 4) w (n 3)))]) (rest := []) hSx hA hKs hw hS (c_Rules_carriesAll l D tC A ad n I K bw LA bM aM S0 (upR (upR (upR S 0 3 (ngA (S0 0 r) (S0 3) w (S 0 3) (n 2))) 0 4 (lgA (S0 4) (I 3) w ((upR S 0 3 (ngA (S0 0 r) (S0 3) w (S 0 3) (n 2))) 0 4) (n 3))) 0 5 Z) (scr_up (scr_up (scr_up hsc (by omega)) (by omega)) (by omega)) hN (ngA (S0 0 r) (S0 3) w (S 0 3) (n 2)) (lgA (S0 4) (I 3) w ((upR S 0 3 (ngA (S0 0 r) (S0 3) w (S 0 3) (n 2))) 0 4) (n 3)) (by rw [upR_ne (by omega), upR_ne (by omega), upR_self]) (by rw [upR_ne (by omega), upR_self]) way (ngC (S0 0 r) (S0 3) w (n 2)) (lgC (S0 4) w (n 3)) (by omega) (by omega) (by omega) (by omega)) kw_596 kw_593 kw_595 ks_Rules_carriesAll kw_4 rfl rfl (by decide +kernel) ⟨Nat.le_of_ble_eq_true rfl, Nat.le_of_ble_eq_true rfl⟩ (nw_recv hK hw (hW_2) rfl) rfl hl.1 (Nat.le_of_ble_eq_true rfl) d_Rules_keepsBoats_69 ⟨Nat.le_of_ble_eq_true rfl, Nat.le_of_ble_eq_true rfl⟩) hS (fun H locs hw hS => ?_)
                  rw [upR_upR] at hw
                  refine lv_if_eq (tgt := 77) hx hb d_Rules_keepsBoats_72 (by decide) (fun c_72 => ?_) (fun c_72 => ?_)
                  · skip
                    have hno' : ∀ v, v < way + 1 → ¬ pCarries (ngA (S0 0 r) (S0 3) w (fun _ => 0) (n 2)) (lgA (S0 4) (I 3) w (fun _ => 0) (n 3)) (ngC (S0 0 r) (S0 3) w (n 2)) (lgC (S0 4) w (n 3)) v := lt_s hno (fun h => b2_0 c_72 ((hcb way).mpr h))
                    refine lv_iinc (v := nI (way + 1)) (lv' := [(6, .int (nI (way + 1))), (0, .ref (ad (2))), (1, .ref (ad (100 + r))), (2, .int (nI w)), (3, .int (nI (ngC (S0 0 r) (S0 3) w (n 2)))), (4, .int (nI (lgC (S0 4) w (n 3)))), (5, .int (nI M))]) hx hb d_Rules_keepsBoats_77 hl (k := 6) rfl ((nI_succ _).symm) (by decide) rfl (fun ls hl => ?_)
                    refine lv_goto (tgt := 56) hx hb d_Rules_keepsBoats_80 (by decide) ?_
                    exact ih56 (way + 1) (_) (by omega) (by omega) (hno') _ _ ls hw hS (lv_sub hl [1, 2, 3, 4, 5, 6, 0] rfl)
                  · skip
                    have hres : nI 1 = b2 (pBoats n I S0 (S0 0 r) w) := b2_t (Or.inr ⟨hle, way, by rw [← hM]; omega, (hcb way).mp (b2_1 c_72)⟩)
                    refine lv_iconst (v := nI 1) hx hb d_Rules_keepsBoats_75 (by decide) ?_
                    exact nw_zret hQ hx hb hr (by first | exact Or.inl rfl | exact Or.inr rfl) hlocks hw hS (nw_scI (scr_up (scr_up (scr_up hsc (by omega)) (by omega)) (by omega)) hres) (Nat.le_of_ble_eq_true rfl) (Nat.le_of_ble_eq_true rfl) d_Rules_keepsBoats_76
            exact loop56 (M + 1) (0) (_) (by omega) (by omega) (fun j hj => absurd hj (Nat.not_lt_zero j)) _ _ ls hw hS (lv_sub hl [1, 2, 3, 4, 5, 6, 0] rfl)
          · skip
            have hlt : b < lgC (S0 4) w (n 3) := Nat.not_le.mp (fun q => c_38 (nI_le q (by omega)))
            refine lv_iload hx hb d_Rules_keepsBoats_41 (lv_at hl 5 rfl) ?_
            refine lv_iload_n hx hb d_Rules_keepsBoats_43 rfl (lv_at hl 3 rfl) ?_
            refine lv_imul hx hb d_Rules_keepsBoats_44 ?_
            refine lv_ei (y := nI ((ngC (S0 0 r) (S0 3) w (n 2)) ^ b * (ngC (S0 0 r) (S0 3) w (n 2)))) (pk_mul _ _) ?_
            refine lv_istore (lv' := [(5, .int (nI ((ngC (S0 0 r) (S0 3) w (n 2)) ^ b * (ngC (S0 0 r) (S0 3) w (n 2))))), (0, .ref (ad (2))), (1, .ref (ad (100 + r))), (2, .int (nI w)), (3, .int (nI (ngC (S0 0 r) (S0 3) w (n 2)))), (4, .int (nI (lgC (S0 4) w (n 3)))), (6, .int (nI b))]) hx hb d_Rules_keepsBoats_45 hl (by decide) rfl (fun ls hl => ?_)
            refine lv_iinc (v := nI (b + 1)) (lv' := [(6, .int (nI (b + 1))), (5, .int (nI ((ngC (S0 0 r) (S0 3) w (n 2)) ^ b * (ngC (S0 0 r) (S0 3) w (n 2))))), (0, .ref (ad (2))), (1, .ref (ad (100 + r))), (2, .int (nI w)), (3, .int (nI (ngC (S0 0 r) (S0 3) w (n 2)))), (4, .int (nI (lgC (S0 4) w (n 3))))]) hx hb d_Rules_keepsBoats_47 hl (k := 6) rfl ((nI_succ _).symm) (by decide) rfl (fun ls hl => ?_)
            refine lv_goto (tgt := 34) hx hb d_Rules_keepsBoats_50 (by decide) ?_
            have el5 : nI ((ngC (S0 0 r) (S0 3) w (n 2)) ^ (b + 1)) = nI ((ngC (S0 0 r) (S0 3) w (n 2)) ^ b * (ngC (S0 0 r) (S0 3) w (n 2))) := by rw [Nat.pow_succ]
            have hl : lv_has ls 7 [(6, .int (nI (b + 1))), (5, .int (nI ((ngC (S0 0 r) (S0 3) w (n 2)) ^ (b + 1)))), (0, .ref (ad (2))), (1, .ref (ad (100 + r))), (2, .int (nI w)), (3, .int (nI (ngC (S0 0 r) (S0 3) w (n 2)))), (4, .int (nI (lgC (S0 4) w (n 3))))] := by
              have h9 := hl
              revert h9; rw [show Value.int (nI ((ngC (S0 0 r) (S0 3) w (n 2)) ^ (b + 1))) = Value.int (nI ((ngC (S0 0 r) (S0 3) w (n 2)) ^ b * (ngC (S0 0 r) (S0 3) w (n 2)))) from congrArg _ el5]; intro h9
              exact h9
            exact ih34 (b + 1) (by omega) (by omega) _ _ ls hw hS (lv_sub hl [2, 3, 4, 5, 6, 1, 0] rfl)
      exact loop34 (lgC (S0 4) w (n 3) + 1) (0) (by omega) (by omega) _ _ ls hw hS (lv_sub hl [4, 5, 6, 3, 2, 1, 0] rfl)
    · skip
      have hres : nI 0 = b2 (pBoats n I S0 (S0 0 r) w) := b2_f (fun h => h.elim (fun h0 => by omega) (fun h0 => c_23 (nI_le h0.1 (by omega))))
      refine lv_iconst (v := nI 0) hx hb d_Rules_keepsBoats_26 (by decide) ?_
      exact nw_zret hQ hx hb hr (by first | exact Or.inl rfl | exact Or.inr rfl) hlocks hw hS (nw_scI (scr_up (scr_up hsc (by omega)) (by omega)) hres) (Nat.le_of_ble_eq_true rfl) (Nat.le_of_ble_eq_true rfl) d_Rules_keepsBoats_27
  · skip
    have hres : nI 1 = b2 (pBoats n I S0 (S0 0 r) w) := b2_t (Or.inl ((nI_eq (a := ngC (S0 0 r) (S0 3) w (n 2)) (b := 0) (by omega) (by omega)).mp c_8))
    refine lv_iconst (v := nI 1) hx hb d_Rules_keepsBoats_11 (by decide) ?_
    exact nw_zret hQ hx hb hr (by first | exact Or.inl rfl | exact Or.inr rfl) hlocks hw hS (nw_scI (scr_up hsc (by omega)) hres) (Nat.le_of_ble_eq_true rfl) (Nat.le_of_ble_eq_true rfl) d_Rules_keepsBoats_12

set_option maxHeartbeats 4000000 in
set_option maxRecDepth 100000 in
/-- rules 1, 2, 3 -/
theorem c_Rules_allowsTaking (l : Launch) (D : va_G) (tC : Nat → ClassId) (A : Nat → Prop) (ad : Nat → Nat) (n : Nat → Nat) (I : Nat → Nat → Int32) (K : Nat → Int32) (bw : Int64) (LA : Nat → Int64) (bM : Nat → Option va_E) (aM : Nat → Nat → Option (ClassId × Nat)) (S0 S : Nat → Nat → Nat → Int32) (hsc : scr S0 S) (hN : hpN n) (r : Nat) (hr0 : r = 0 ∨ r = 9) (w : Nat) (hwk : w < n 0) (hm : Nat → Nat) (hH : ∀ c, c < n 2 → I 2 c = nI (hm c) ∧ hm c < n 1) : nw_Met l y_Rules_allowsTaking [Cond.code y_Rules_allowsTaking b_Rules_allowsTaking 3 (some .boolean)] ({ frames := 3, cells := 0, slots := 0, locals := 91 } : Room) D hpC A [.ref (ad (2)), .ref (ad (100 + r)), .int (nI w)] (nw_pre D hpC (hpT tC) A (hW ad tC n I K bw LA bM aM S) ad) (nw_sc (some (.int (b2 (pClosed n hm S0 (S0 0 r) w ∧ pPlant n S0 (S0 0 r) w ∧ pBoats n I S0 (S0 0 r) w)))) (fun S' => hW ad tC n I K bw LA bM aM S') S0 ad) 0 0 := by
  refine nw_bodyK (by decide) (Nat.le_of_ble_eq_true rfl) ?_
  intro p e s m below meth cd ls args Q hSx hr hlocks hname hA hKs hw hS hl hQ
  obtain ⟨hx, hb, hml, hown, hts⟩ := id hSx
  have hK := hKs.1
  have hl : lv_has ls 3 [(0, .ref (ad (2))), (1, .ref (ad (100 + r))), (2, .int (nI w))] := hl
  obtain ⟨hn0, hn0', hn1, hn2, hn3, hn4⟩ := id hN
  refine lv_aload_n hx hb d_Rules_allowsTaking_0 rfl (lv_at hl 0 rfl) ?_
  refine lv_aload_n hx hb d_Rules_allowsTaking_1 rfl (lv_at hl 1 rfl) ?_
  refine lv_iload_n hx hb d_Rules_allowsTaking_2 rfl (lv_at hl 2 rfl) ?_
  refine nw_callD (nw_goV (n := 2) (As := [.ref (ad (100 + r)), .int (nI w)]) (rest := []) hSx hA hKs hw hS (c_Rules_keepsClosed l D tC A ad n I K bw LA bM aM S0 S hsc hN r hr0 w (by omega) hm hH) kw_576 kw_573 kw_575 ks_Rules_keepsClosed kw_4 rfl rfl (by decide +kernel) ⟨Nat.le_of_ble_eq_true rfl, Nat.le_of_ble_eq_true rfl⟩ (nw_recv hK hw (hW_2) rfl) rfl hl.1 (Nat.le_of_ble_eq_true rfl) d_Rules_allowsTaking_3 ⟨Nat.le_of_ble_eq_true rfl, Nat.le_of_ble_eq_true rfl⟩) hS (fun H locs hw hS => ?_)
  refine lv_if_eq (tgt := 31) hx hb d_Rules_allowsTaking_6 (by decide) (fun c_6 => ?_) (fun c_6 => ?_)
  · skip
    have hres : nI 0 = b2 (pClosed n hm S0 (S0 0 r) w ∧ pPlant n S0 (S0 0 r) w ∧ pBoats n I S0 (S0 0 r) w) := b2_f (fun h => b2_0 c_6 h.1)
    refine lv_iconst (v := nI 0) hx hb d_Rules_allowsTaking_31 (by decide) ?_
    exact nw_zret hQ hx hb hr (by first | exact Or.inl rfl | exact Or.inr rfl) hlocks hw hS (nw_scI hsc hres) (Nat.le_of_ble_eq_true rfl) (Nat.le_of_ble_eq_true rfl) d_Rules_allowsTaking_32
  · skip
    refine lv_aload_n hx hb d_Rules_allowsTaking_9 rfl (lv_at hl 0 rfl) ?_
    refine lv_aload_n hx hb d_Rules_allowsTaking_10 rfl (lv_at hl 1 rfl) ?_
    refine lv_iload_n hx hb d_Rules_allowsTaking_11 rfl (lv_at hl 2 rfl) ?_
    refine nw_callD (nw_goV (n := 2) (As := [.ref (ad (100 + r)), .int (nI w)]) (rest := []) hSx hA hKs hw hS (c_Rules_keepsPlant l D tC A ad n I K bw LA bM aM S0 S hsc hN r hr0 w (by omega)) kw_580 kw_577 kw_579 ks_Rules_keepsPlant kw_4 rfl rfl (by decide +kernel) ⟨Nat.le_of_ble_eq_true rfl, Nat.le_of_ble_eq_true rfl⟩ (nw_recv hK hw (hW_2) rfl) rfl hl.1 (Nat.le_of_ble_eq_true rfl) d_Rules_allowsTaking_12 ⟨Nat.le_of_ble_eq_true rfl, Nat.le_of_ble_eq_true rfl⟩) hS (fun H locs hw hS => ?_)
    refine lv_if_eq (tgt := 31) hx hb d_Rules_allowsTaking_15 (by decide) (fun c_15 => ?_) (fun c_15 => ?_)
    · skip
      have hres : nI 0 = b2 (pClosed n hm S0 (S0 0 r) w ∧ pPlant n S0 (S0 0 r) w ∧ pBoats n I S0 (S0 0 r) w) := b2_f (fun h => b2_0 c_15 h.2.1)
      refine lv_iconst (v := nI 0) hx hb d_Rules_allowsTaking_31 (by decide) ?_
      exact nw_zret hQ hx hb hr (by first | exact Or.inl rfl | exact Or.inr rfl) hlocks hw hS (nw_scI hsc hres) (Nat.le_of_ble_eq_true rfl) (Nat.le_of_ble_eq_true rfl) d_Rules_allowsTaking_32
    · skip
      refine lv_aload_n hx hb d_Rules_allowsTaking_18 rfl (lv_at hl 0 rfl) ?_
      refine lv_aload_n hx hb d_Rules_allowsTaking_19 rfl (lv_at hl 1 rfl) ?_
      refine lv_iload_n hx hb d_Rules_allowsTaking_20 rfl (lv_at hl 2 rfl) ?_
      refine nw_call (nw_goV (n := 2) (As := [.ref (ad (100 + r)), .int (nI w)]) (rest := []) hSx hA hKs hw hS (c_Rules_keepsBoats l D tC A ad n I K bw LA bM aM S0 S hsc hN r hr0 w (by omega)) kw_584 kw_581 kw_583 ks_Rules_keepsBoats kw_4 rfl rfl (by decide +kernel) ⟨Nat.le_of_ble_eq_true rfl, Nat.le_of_ble_eq_true rfl⟩ (nw_recv hK hw (hW_2) rfl) rfl hl.1 (Nat.le_of_ble_eq_true rfl) d_Rules_allowsTaking_21 ⟨Nat.le_of_ble_eq_true rfl, Nat.le_of_ble_eq_true rfl⟩) hS (fun rv wn' ad' H locs hpost hw hS => ?_)
      obtain ⟨hrv1, S1z, hsc1z, hw⟩ := nw_sc_out hpost hw
      subst hrv1
      refine lv_if_eq (tgt := 31) hx hb d_Rules_allowsTaking_24 (by decide) (fun c_24 => ?_) (fun c_24 => ?_)
      · skip
        have hres : nI 0 = b2 (pClosed n hm S0 (S0 0 r) w ∧ pPlant n S0 (S0 0 r) w ∧ pBoats n I S0 (S0 0 r) w) := b2_f (fun h => b2_0 c_24 h.2.2)
        refine lv_iconst (v := nI 0) hx hb d_Rules_allowsTaking_31 (by decide) ?_
        exact nw_zret hQ hx hb hr (by first | exact Or.inl rfl | exact Or.inr rfl) hlocks hw hS (nw_scI hsc1z hres) (Nat.le_of_ble_eq_true rfl) (Nat.le_of_ble_eq_true rfl) d_Rules_allowsTaking_32
      · skip
        have hres : nI 1 = b2 (pClosed n hm S0 (S0 0 r) w ∧ pPlant n S0 (S0 0 r) w ∧ pBoats n I S0 (S0 0 r) w) := b2_t ⟨b2_1 c_6, b2_1 c_15, b2_1 c_24⟩
        refine lv_iconst (v := nI 1) hx hb d_Rules_allowsTaking_27 (by decide) ?_
        refine lv_goto (tgt := 32) hx hb d_Rules_allowsTaking_28 (by decide) ?_
        exact nw_zret hQ hx hb hr (by first | exact Or.inl rfl | exact Or.inr rfl) hlocks hw hS (nw_scI hsc1z hres) (Nat.le_of_ble_eq_true rfl) (Nat.le_of_ble_eq_true rfl) d_Rules_allowsTaking_32

set_option maxHeartbeats 4000000 in
set_option maxRecDepth 100000 in
/-- the least rule that is broken -/
theorem c_Rules_leastBroken (l : Launch) (D : va_G) (tC : Nat → ClassId) (A : Nat → Prop) (ad : Nat → Nat) (n : Nat → Nat) (I : Nat → Nat → Int32) (K : Nat → Int32) (bw : Int64) (LA : Nat → Int64) (bM : Nat → Option va_E) (aM : Nat → Nat → Option (ClassId × Nat)) (S0 S : Nat → Nat → Nat → Int32) (hsc : scr S0 S) (hN : hpN n) (r : Nat) (hr0 : r = 0 ∨ r = 9) (w : Nat) (hwk : w < n 0) (hm : Nat → Nat) (hH : ∀ c, c < n 2 → I 2 c = nI (hm c) ∧ hm c < n 1) : nw_Met l y_Rules_leastBroken [Cond.code y_Rules_leastBroken b_Rules_leastBroken 3 (some .int)] ({ frames := 3, cells := 0, slots := 0, locals := 91 } : Room) D hpC A [.ref (ad (2)), .ref (ad (100 + r)), .int (nI w)] (nw_pre D hpC (hpT tC) A (hW ad tC n I K bw LA bM aM S) ad) (nw_sc (some (.int (lbI (pPlant n S0 (S0 0 r) w) (pBoats n I S0 (S0 0 r) w) (pClosed n hm S0 (S0 0 r) w) (pHeld n I hm S0 (S0 0 r) w)))) (fun S' => hW ad tC n I K bw LA bM aM S') S0 ad) 0 0 := by
  refine nw_bodyK (by decide) (Nat.le_of_ble_eq_true rfl) ?_
  intro p e s m below meth cd ls args Q hSx hr hlocks hname hA hKs hw hS hl hQ
  obtain ⟨hx, hb, hml, hown, hts⟩ := id hSx
  have hK := hKs.1
  have hl : lv_has ls 3 [(0, .ref (ad (2))), (1, .ref (ad (100 + r))), (2, .int (nI w))] := hl
  obtain ⟨hn0, hn0', hn1, hn2, hn3, hn4⟩ := id hN
  refine lv_aload_n hx hb d_Rules_leastBroken_0 rfl (lv_at hl 0 rfl) ?_
  refine lv_aload_n hx hb d_Rules_leastBroken_1 rfl (lv_at hl 1 rfl) ?_
  refine lv_iload_n hx hb d_Rules_leastBroken_2 rfl (lv_at hl 2 rfl) ?_
  refine nw_callD (nw_goV (n := 2) (As := [.ref (ad (100 + r)), .int (nI w)]) (rest := []) hSx hA hKs hw hS (c_Rules_keepsPlant l D tC A ad n I K bw LA bM aM S0 S hsc hN r hr0 w (by omega)) kw_580 kw_577 kw_579 ks_Rules_keepsPlant kw_4 rfl rfl (by decide +kernel) ⟨Nat.le_of_ble_eq_true rfl, Nat.le_of_ble_eq_true rfl⟩ (nw_recv hK hw (hW_2) rfl) rfl hl.1 (Nat.le_of_ble_eq_true rfl) d_Rules_leastBroken_3 ⟨Nat.le_of_ble_eq_true rfl, Nat.le_of_ble_eq_true rfl⟩) hS (fun H locs hw hS => ?_)
  refine lv_if_ne (tgt := 11) hx hb d_Rules_leastBroken_6 (by decide) (fun c_6 => ?_) (fun c_6 => ?_)
  · skip
    refine lv_aload_n hx hb d_Rules_leastBroken_11 rfl (lv_at hl 0 rfl) ?_
    refine lv_aload_n hx hb d_Rules_leastBroken_12 rfl (lv_at hl 1 rfl) ?_
    refine lv_iload_n hx hb d_Rules_leastBroken_13 rfl (lv_at hl 2 rfl) ?_
    refine nw_call (nw_goV (n := 2) (As := [.ref (ad (100 + r)), .int (nI w)]) (rest := []) hSx hA hKs hw hS (c_Rules_keepsBoats l D tC A ad n I K bw LA bM aM S0 S hsc hN r hr0 w (by omega)) kw_584 kw_581 kw_583 ks_Rules_keepsBoats kw_4 rfl rfl (by decide +kernel) ⟨Nat.le_of_ble_eq_true rfl, Nat.le_of_ble_eq_true rfl⟩ (nw_recv hK hw (hW_2) rfl) rfl hl.1 (Nat.le_of_ble_eq_true rfl) d_Rules_leastBroken_14 ⟨Nat.le_of_ble_eq_true rfl, Nat.le_of_ble_eq_true rfl⟩) hS (fun rv wn' ad' H locs hpost hw hS => ?_)
    obtain ⟨hrv1, S1z, hsc1z, hw⟩ := nw_sc_out hpost hw
    subst hrv1
    refine lv_if_ne (tgt := 22) hx hb d_Rules_leastBroken_17 (by decide) (fun c_17 => ?_) (fun c_17 => ?_)
    · skip
      refine lv_aload_n hx hb d_Rules_leastBroken_22 rfl (lv_at hl 0 rfl) ?_
      refine lv_aload_n hx hb d_Rules_leastBroken_23 rfl (lv_at hl 1 rfl) ?_
      refine lv_iload_n hx hb d_Rules_leastBroken_24 rfl (lv_at hl 2 rfl) ?_
      refine nw_callD (nw_goV (n := 2) (As := [.ref (ad (100 + r)), .int (nI w)]) (rest := []) hSx hA hKs hw hS (c_Rules_keepsClosed l D tC A ad n I K bw LA bM aM S0 S1z hsc1z hN r hr0 w (by omega) hm hH) kw_576 kw_573 kw_575 ks_Rules_keepsClosed kw_4 rfl rfl (by decide +kernel) ⟨Nat.le_of_ble_eq_true rfl, Nat.le_of_ble_eq_true rfl⟩ (nw_recv hK hw (hW_2) rfl) rfl hl.1 (Nat.le_of_ble_eq_true rfl) d_Rules_leastBroken_25 ⟨Nat.le_of_ble_eq_true rfl, Nat.le_of_ble_eq_true rfl⟩) hS (fun H locs hw hS => ?_)
      refine lv_if_ne (tgt := 33) hx hb d_Rules_leastBroken_28 (by decide) (fun c_28 => ?_) (fun c_28 => ?_)
      · skip
        refine lv_aload_n hx hb d_Rules_leastBroken_33 rfl (lv_at hl 0 rfl) ?_
        refine lv_aload_n hx hb d_Rules_leastBroken_34 rfl (lv_at hl 1 rfl) ?_
        refine lv_iload_n hx hb d_Rules_leastBroken_35 rfl (lv_at hl 2 rfl) ?_
        refine nw_call (nw_goV (n := 2) (As := [.ref (ad (100 + r)), .int (nI w)]) (rest := []) hSx hA hKs hw hS (c_Rules_keepsHeld l D tC A ad n I K bw LA bM aM S0 S1z hsc1z hN r hr0 w (by omega) hm hH) kw_549 kw_546 kw_548 ks_Rules_keepsHeld kw_4 rfl rfl (by decide +kernel) ⟨Nat.le_of_ble_eq_true rfl, Nat.le_of_ble_eq_true rfl⟩ (nw_recv hK hw (hW_2) rfl) rfl hl.1 (Nat.le_of_ble_eq_true rfl) d_Rules_leastBroken_36 ⟨Nat.le_of_ble_eq_true rfl, Nat.le_of_ble_eq_true rfl⟩) hS (fun rv wn' ad' H locs hpost hw hS => ?_)
        obtain ⟨hrv2, S2z, hsc2z, hw⟩ := nw_sc_out hpost hw
        subst hrv2
        refine lv_if_eq (tgt := 46) hx hb d_Rules_leastBroken_39 (by decide) (fun c_39 => ?_) (fun c_39 => ?_)
        · skip
          have hres : nI 4 = lbI (pPlant n S0 (S0 0 r) w) (pBoats n I S0 (S0 0 r) w) (pClosed n hm S0 (S0 0 r) w) (pHeld n I hm S0 (S0 0 r) w) := lbI_4 (b2_1 c_6) (b2_1 c_17) (b2_1 c_28) (b2_0 c_39)
          refine lv_iconst (v := nI 4) hx hb d_Rules_leastBroken_46 (by decide) ?_
          exact nw_iret hQ hx hb hr hlocks hw hS (nw_scI hsc2z hres) (Nat.le_of_ble_eq_true rfl) (Nat.le_of_ble_eq_true rfl) d_Rules_leastBroken_47
        · skip
          have hres : nI 0 = lbI (pPlant n S0 (S0 0 r) w) (pBoats n I S0 (S0 0 r) w) (pClosed n hm S0 (S0 0 r) w) (pHeld n I hm S0 (S0 0 r) w) := lbI_0 (b2_1 c_6) (b2_1 c_17) (b2_1 c_28) (b2_1 c_39)
          refine lv_iconst (v := nI 0) hx hb d_Rules_leastBroken_42 (by decide) ?_
          refine lv_goto (tgt := 47) hx hb d_Rules_leastBroken_43 (by decide) ?_
          exact nw_iret hQ hx hb hr hlocks hw hS (nw_scI hsc2z hres) (Nat.le_of_ble_eq_true rfl) (Nat.le_of_ble_eq_true rfl) d_Rules_leastBroken_47
      · skip
        have hres : nI 3 = lbI (pPlant n S0 (S0 0 r) w) (pBoats n I S0 (S0 0 r) w) (pClosed n hm S0 (S0 0 r) w) (pHeld n I hm S0 (S0 0 r) w) := lbI_3 (b2_1 c_6) (b2_1 c_17) (b2_0 c_28)
        refine lv_iconst (v := nI 3) hx hb d_Rules_leastBroken_31 (by decide) ?_
        exact nw_iret hQ hx hb hr hlocks hw hS (nw_scI hsc1z hres) (Nat.le_of_ble_eq_true rfl) (Nat.le_of_ble_eq_true rfl) d_Rules_leastBroken_32
    · skip
      have hres : nI 2 = lbI (pPlant n S0 (S0 0 r) w) (pBoats n I S0 (S0 0 r) w) (pClosed n hm S0 (S0 0 r) w) (pHeld n I hm S0 (S0 0 r) w) := lbI_2 (b2_1 c_6) (b2_0 c_17)
      refine lv_iconst (v := nI 2) hx hb d_Rules_leastBroken_20 (by decide) ?_
      exact nw_iret hQ hx hb hr hlocks hw hS (nw_scI hsc1z hres) (Nat.le_of_ble_eq_true rfl) (Nat.le_of_ble_eq_true rfl) d_Rules_leastBroken_21
  · skip
    have hres : nI 1 = lbI (pPlant n S0 (S0 0 r) w) (pBoats n I S0 (S0 0 r) w) (pClosed n hm S0 (S0 0 r) w) (pHeld n I hm S0 (S0 0 r) w) := lbI_1  (b2_0 c_6)
    refine lv_iconst (v := nI 1) hx hb d_Rules_leastBroken_9 (by decide) ?_
    exact nw_iret hQ hx hb hr hlocks hw hS (nw_scI hsc hres) (Nat.le_of_ble_eq_true rfl) (Nat.le_of_ble_eq_true rfl) d_Rules_leastBroken_10

set_option maxHeartbeats 4000000 in
set_option maxRecDepth 100000 in
/-- HELD in each week -/
theorem c_Rules_keepsAllHeld (l : Launch) (D : va_G) (tC : Nat → ClassId) (A : Nat → Prop) (ad : Nat → Nat) (n : Nat → Nat) (I : Nat → Nat → Int32) (K : Nat → Int32) (bw : Int64) (LA : Nat → Int64) (bM : Nat → Option va_E) (aM : Nat → Nat → Option (ClassId × Nat)) (S0 S : Nat → Nat → Nat → Int32) (hsc : scr S0 S) (hN : hpN n) (r : Nat) (hr0 : r = 0 ∨ r = 9) (hm : Nat → Nat) (hH : ∀ c, c < n 2 → I 2 c = nI (hm c) ∧ hm c < n 1) : nw_Met l y_Rules_keepsAllHeld [Cond.code y_Rules_keepsAllHeld b_Rules_keepsAllHeld 3 (some .boolean)] ({ frames := 2, cells := 0, slots := 0, locals := 46 } : Room) D hpC A [.ref (ad (2)), .ref (ad (100 + r))] (nw_pre D hpC (hpT tC) A (hW ad tC n I K bw LA bM aM S) ad) (nw_sc (some (.int (b2 (∀ j, j < n 0 → pHeld n I hm S0 (S0 0 r) j)))) (fun S' => hW ad tC n I K bw LA bM aM S') S0 ad) 0 0 := by
  refine nw_bodyK (by decide) (Nat.le_of_ble_eq_true rfl) ?_
  intro p e s m below meth cd ls args Q hSx hr hlocks hname hA hKs hw hS hl hQ
  obtain ⟨hx, hb, hml, hown, hts⟩ := id hSx
  have hK := hKs.1
  have hl : lv_has ls 3 [(0, .ref (ad (2))), (1, .ref (ad (100 + r)))] := hl
  obtain ⟨hn0, hn0', hn1, hn2, hn3, hn4⟩ := id hN
  refine lv_iconst (v := nI 0) hx hb d_Rules_keepsAllHeld_0 (by decide) ?_
  refine lv_istore_n (lv' := [(2, .int (nI 0)), (0, .ref (ad (2))), (1, .ref (ad (100 + r)))]) hx hb d_Rules_keepsAllHeld_1 rfl hl (by decide) rfl (fun ls hl => ?_)
  have loop2 : ∀ (k w : Nat) (Sv : Nat → Nat → Nat → Int32), w ≤ n 0 → n 0 + 1 ≤ w + k → (scr S0 Sv) → (∀ j, j < w → pHeld n I hm S0 (S0 0 r) j) → ∀ (H : Heap) (locs : List Loc) (ls : Array Slot), nw_W D hpC A (hW ad tC n I K bw LA bM aM Sv) ad H → va_S A s.heap H locs → lv_has ls 3 [(0, .ref (ad (2))), (1, .ref (ad (100 + r))), (2, .int (nI w))] → W p l e ({ frames := 2, cells := 0, slots := 0, locals := 46 } : Room) s m args below meth cd H locs 0 0 Q (F0 m 2 ls []) := by
    intro k
    induction k with
    | zero => intro w Sv h1 h2; exact absurd h2 (by omega)
    | succ k ih2 =>
      intro w Sv hv2 hk2 hsv hinv H locs ls hw hS hl
      refine lv_iload_n hx hb d_Rules_keepsAllHeld_2 rfl (lv_at hl 2 rfl) ?_
      refine lv_aload_n hx hb d_Rules_keepsAllHeld_3 rfl (lv_at hl 0 rfl) ?_
      refine nw_get hx hb hts i_Rules hown hK hw (2) (hW_2) rfl 0 (by decide) (hts _ kw_121) (fun _ h9 => h9) rfl d_Rules_keepsAllHeld_4 ?_
      refine nw_getN hx hb hts i_Farm hown hK hw (1) (hW_1) rfl 0 (by decide) (va_Nw.use rfl (hKs.2.2 _ kn_50 rfl)) (fun _ h9 => h9) rfl d_Rules_keepsAllHeld_7 ?_
      refine lv_icmp_ge (tgt := 30) hx hb d_Rules_keepsAllHeld_10 (by decide) (fun c_10 => ?_) (fun c_10 => ?_)
      · skip
        have hge10 : n 0 ≤ w := (nI_leI (by omega) (by omega)).mp c_10
        obtain rfl : n 0 = w := by omega
        have hres : nI 1 = b2 (∀ j, j < n 0 → pHeld n I hm S0 (S0 0 r) j) := b2_t hinv
        refine lv_iconst (v := nI 1) hx hb d_Rules_keepsAllHeld_30 (by decide) ?_
        exact nw_zret hQ hx hb hr (by first | exact Or.inl rfl | exact Or.inr rfl) hlocks hw hS (nw_scI hsv hres) (Nat.le_of_ble_eq_true rfl) (Nat.le_of_ble_eq_true rfl) d_Rules_keepsAllHeld_31
      · skip
        have hlt : w < n 0 := Nat.not_le.mp (fun q => c_10 (nI_le q (by omega)))
        refine lv_aload_n hx hb d_Rules_keepsAllHeld_13 rfl (lv_at hl 0 rfl) ?_
        refine lv_aload_n hx hb d_Rules_keepsAllHeld_14 rfl (lv_at hl 1 rfl) ?_
        refine lv_iload_n hx hb d_Rules_keepsAllHeld_15 rfl (lv_at hl 2 rfl) ?_
        refine nw_call (nw_goV (n := 2) (As := [.ref (ad (100 + r)), .int (nI w)]) (rest := []) hSx hA hKs hw hS (c_Rules_keepsHeld l D tC A ad n I K bw LA bM aM S0 Sv hsv hN r hr0 w (by omega) hm hH) kw_549 kw_546 kw_548 ks_Rules_keepsHeld kw_4 rfl rfl (by decide +kernel) ⟨Nat.le_of_ble_eq_true rfl, Nat.le_of_ble_eq_true rfl⟩ (nw_recv hK hw (hW_2) rfl) rfl hl.1 (Nat.le_of_ble_eq_true rfl) d_Rules_keepsAllHeld_16 ⟨Nat.le_of_ble_eq_true rfl, Nat.le_of_ble_eq_true rfl⟩) hS (fun rv wn' ad' H locs hpost hw hS => ?_)
        obtain ⟨hrv1, S1z, hsc1z, hw⟩ := nw_sc_out hpost hw
        subst hrv1
        refine lv_if_ne (tgt := 24) hx hb d_Rules_keepsAllHeld_19 (by decide) (fun c_19 => ?_) (fun c_19 => ?_)
        · skip
          have hinv' : ∀ j, j < (w + 1) → pHeld n I hm S0 (S0 0 r) j := lt_s hinv (b2_1 c_19)
          refine lv_iinc (v := nI (w + 1)) (lv' := [(2, .int (nI (w + 1))), (0, .ref (ad (2))), (1, .ref (ad (100 + r)))]) hx hb d_Rules_keepsAllHeld_24 hl (k := 2) rfl ((nI_succ _).symm) (by decide) rfl (fun ls hl => ?_)
          refine lv_goto (tgt := 2) hx hb d_Rules_keepsAllHeld_27 (by decide) ?_
          exact ih2 (w + 1) (_) (by omega) (by omega) (hsc1z) (hinv') _ _ ls hw hS (lv_sub hl [1, 2, 0] rfl)
        · skip
          have hres : nI 0 = b2 (∀ j, j < n 0 → pHeld n I hm S0 (S0 0 r) j) := b2_f (fun h => b2_0 c_19 (h w (by omega)))
          refine lv_iconst (v := nI 0) hx hb d_Rules_keepsAllHeld_22 (by decide) ?_
          exact nw_zret hQ hx hb hr (by first | exact Or.inl rfl | exact Or.inr rfl) hlocks hw hS (nw_scI hsc1z hres) (Nat.le_of_ble_eq_true rfl) (Nat.le_of_ble_eq_true rfl) d_Rules_keepsAllHeld_23
  exact loop2 (n 0 + 1) (0) (_) (by omega) (by omega) (hsc) (fun j hj => absurd hj (Nat.not_lt_zero j)) _ _ ls hw hS (lv_sub hl [1, 2, 0] rfl)
end
section
/-! PURE WORDS of Order, Farm and Sales -/
def oI : Option Nat → Int32
  | none => -1
  | some w => nI w
theorem oI_some {tk : Option Nat} (h : ¬ oI tk = -1) : ∃ w, tk = some w := by
  cases tk with
  | none => exact absurd rfl h
  | some w => exact ⟨w, rfl⟩
theorem nI_ne_m1 {w : Nat} (h : w < 2 ^ 31) : ¬ nI w = -1 := fun e => by
  have h1 := nI_toInt h
  rw [e] at h1
  have h2 : (-1 : Int32).toInt = -1 := by decide
  omega
theorem oI_none {tk : Option Nat} (hb : ∀ w, tk = some w → w < 2 ^ 31) (h : oI tk = -1) : tk = none := by
  cases tk with
  | none => rfl
  | some w => exact absurd h (nI_ne_m1 (hb w rfl))
def pWants (I : Nat → Nat → Int32) (ow : Nat → Nat) (S0 : Nat → Nat → Nat → Int32) (o c : Nat) (tk : Int32) : Prop := tk = I 4 o ∧ I 5 o ≤ S0 2 c (ow o) ∧ S0 2 c (ow o) ≤ I 6 o
noncomputable def pif {α : Type} (p : Prop) (a b : α) : α := @ite α p (Classical.propDecidable p) a b
theorem pif_t {α : Type} {p : Prop} {a b : α} (h : p) : pif p a b = a := by unfold pif; rw [if_pos h]
theorem pif_f {α : Type} {p : Prop} {a b : α} (h : ¬ p) : pif p a b = b := by unfold pif; rw [if_neg h]
/-- what a cage that is not taken counts -/
def ckL (n : Nat → Nat) (I : Nat → Nat → Int32) (S0 : Nat → Nat → Nat → Int32) (c : Nat) : Int64 := (S0 3 c (n 0 - 1)).toInt64 * (I 0 2).toInt64
def mxI (x y : Int32) : Int32 := if x < y then y else x
def mnI (x y : Int32) : Int32 := if y < x then y else x
def mxL (x y : Int64) : Int64 := if y < x then x else y
/-- the greatest cents for a cage taken in w, of the first orders -/
noncomputable def tcS (I : Nat → Nat → Int32) (ow : Nat → Nat) (S0 : Nat → Nat → Nat → Int32) (c : Nat) (tk : Int32) : Nat → Int32
  | 0 => I 0 1
  | o + 1 => pif (pWants I ow S0 o c tk) (mxI (tcS I ow S0 c tk o) (I 8 o)) (tcS I ow S0 c tk o)
theorem tcS_t {I : Nat → Nat → Int32} {ow : Nat → Nat} {S0 : Nat → Nat → Nat → Int32} {c o : Nat} {tk : Int32} (h : pWants I ow S0 o c tk) : tcS I ow S0 c tk (o + 1) = mxI (tcS I ow S0 c tk o) (I 8 o) := by simp only [tcS]; rw [pif_t h]
theorem tcS_f {I : Nat → Nat → Int32} {ow : Nat → Nat} {S0 : Nat → Nat → Nat → Int32} {c o : Nat} {tk : Int32} (h : ¬ pWants I ow S0 o c tk) : tcS I ow S0 c tk (o + 1) = tcS I ow S0 c tk o := by simp only [tcS]; rw [pif_f h]
noncomputable def topL (n : Nat → Nat) (I : Nat → Nat → Int32) (ow : Nat → Nat) (S0 : Nat → Nat → Nat → Int32) (c : Nat) : Option Nat → Int64
  | none => ckL n I S0 c
  | some w => (S0 3 c w).toInt64 * (tcS I ow S0 c (nI w) (n 4)).toInt64
/-- the greatest top, of none and the first weeks -/
noncomputable def gtS (n : Nat → Nat) (I : Nat → Nat → Int32) (ow : Nat → Nat) (S0 : Nat → Nat → Nat → Int32) (c : Nat) : Nat → Int64
  | 0 => ckL n I S0 c
  | w + 1 => mxL (gtS n I ow S0 c w) (topL n I ow S0 c (some w))
/-- an order is served: what the cages have left, what it got, behind the first cages -/
noncomputable def svS (I : Nat → Nat → Int32) (ow : Nat → Nat) (S0 : Nat → Nat → Nat → Int32) (o : Nat) (pl lf : Nat → Int32) : Nat → (Nat → Int32) × Int32
  | 0 => (lf, 0)
  | c + 1 => pif (pWants I ow S0 o c (pl c)) (upd (svS I ow S0 o pl lf c).1 c ((svS I ow S0 o pl lf c).1 c - mnI ((svS I ow S0 o pl lf c).1 c) (I 7 o - (svS I ow S0 o pl lf c).2)), (svS I ow S0 o pl lf c).2 + mnI ((svS I ow S0 o pl lf c).1 c) (I 7 o - (svS I ow S0 o pl lf c).2)) (svS I ow S0 o pl lf c)
theorem svS_t {I : Nat → Nat → Int32} {ow : Nat → Nat} {S0 : Nat → Nat → Nat → Int32} {o c : Nat} {pl lf : Nat → Int32} (h : pWants I ow S0 o c (pl c)) : svS I ow S0 o pl lf (c + 1) = (upd (svS I ow S0 o pl lf c).1 c ((svS I ow S0 o pl lf c).1 c - mnI ((svS I ow S0 o pl lf c).1 c) (I 7 o - (svS I ow S0 o pl lf c).2)), (svS I ow S0 o pl lf c).2 + mnI ((svS I ow S0 o pl lf c).1 c) (I 7 o - (svS I ow S0 o pl lf c).2)) := by simp only [svS]; rw [pif_t h]
theorem svS_f {I : Nat → Nat → Int32} {ow : Nat → Nat} {S0 : Nat → Nat → Nat → Int32} {o c : Nat} {pl lf : Nat → Int32} (h : ¬ pWants I ow S0 o c (pl c)) : svS I ow S0 o pl lf (c + 1) = svS I ow S0 o pl lf c := by simp only [svS]; rw [pif_f h]
/-- what the rest is worth, of the first cages -/
def prS (n : Nat → Nat) (I : Nat → Nat → Int32) (S0 : Nat → Nat → Nat → Int32) (pl lf : Nat → Int32) : Nat → Int64
  | 0 => 0
  | c + 1 => prS n I S0 pl lf c + (if pl c = -1 then ckL n I S0 c else (lf c).toInt64 * (I 0 1).toInt64)
theorem prS_t {n : Nat → Nat} {I : Nat → Nat → Int32} {S0 : Nat → Nat → Nat → Int32} {pl lf : Nat → Int32} {c : Nat} (h : pl c = -1) : prS n I S0 pl lf (c + 1) = prS n I S0 pl lf c + ckL n I S0 c := by simp only [prS]; rw [if_pos h]
theorem prS_f {n : Nat → Nat} {I : Nat → Nat → Int32} {S0 : Nat → Nat → Nat → Int32} {pl lf : Nat → Int32} {c : Nat} (h : ¬ pl c = -1) : prS n I S0 pl lf (c + 1) = prS n I S0 pl lf c + (lf c).toInt64 * (I 0 1).toInt64 := by simp only [prS]; rw [if_neg h]
/-- what the cages taken have at first -/
def lfA (pl : Nat → Int32) (kl : Nat → Nat → Int32) (pw : Nat → Nat) (f : Nat → Int32) : Nat → Nat → Int32
  | 0 => f
  | c + 1 => upd (lfA pl kl pw f c) c (if pl c = -1 then 0 else kl c (pw c))
theorem lfA_t {pl : Nat → Int32} {kl : Nat → Nat → Int32} {pw : Nat → Nat} {f : Nat → Int32} {c : Nat} (h : pl c = -1) : lfA pl kl pw f (c + 1) = upd (lfA pl kl pw f c) c 0 := by simp only [lfA]; rw [if_pos h]
theorem lfA_f {pl : Nat → Int32} {kl : Nat → Nat → Int32} {pw : Nat → Nat} {f : Nat → Int32} {c : Nat} (h : ¬ pl c = -1) : lfA pl kl pw f (c + 1) = upd (lfA pl kl pw f c) c (kl c (pw c)) := by simp only [lfA]; rw [if_neg h]
/-- the orders are served by their ranks: what is left, what each got, the cents -/
noncomputable def saS (n : Nat → Nat) (I : Nat → Nat → Int32) (ow sq : Nat → Nat) (S0 : Nat → Nat → Nat → Int32) (pl lf gt : Nat → Int32) : Nat → (Nat → Int32) × (Nat → Int32) × Int64
  | 0 => (lf, gt, 0)
  | k + 1 => ((svS I ow S0 (sq k) pl (saS n I ow sq S0 pl lf gt k).1 (n 2)).1, upd (saS n I ow sq S0 pl lf gt k).2.1 (sq k) (svS I ow S0 (sq k) pl (saS n I ow sq S0 pl lf gt k).1 (n 2)).2,
      (saS n I ow sq S0 pl lf gt k).2.2 + (svS I ow S0 (sq k) pl (saS n I ow sq S0 pl lf gt k).1 (n 2)).2.toInt64 * (I 8 (sq k)).toInt64)
theorem upR_in {S : Nat → Nat → Nat → Int32} {t j t' j' : Nat} {a b c : Nat → Int32} (h : ¬ (t' = t ∧ j' = j)) : upR (upR (upR S t j a) t' j' b) t j c = upR (upR S t j c) t' j' b := by
  funext x y
  by_cases h1 : x = t ∧ y = j
  · obtain ⟨rfl, rfl⟩ := h1
    rw [upR_self, upR_ne (fun q => h ⟨q.1.symm, q.2.symm⟩), upR_self]
  · rw [upR_ne h1]
    by_cases h2 : x = t' ∧ y = j'
    · obtain ⟨rfl, rfl⟩ := h2
      rw [upR_self, upR_self]
    · rw [upR_ne h2, upR_ne h1, upR_ne h2, upR_ne h1]
end
section
set_option maxHeartbeats 4000000 in
set_option maxRecDepth 100000 in
/-- whether an order may get of a cage -/
theorem c_Order_wants (l : Launch) (D : va_G) (tC : Nat → ClassId) (A : Nat → Prop) (ad : Nat → Nat) (n : Nat → Nat) (I : Nat → Nat → Int32) (K : Nat → Int32) (bw : Int64) (LA : Nat → Int64) (bM : Nat → Option va_E) (aM : Nat → Nat → Option (ClassId × Nat)) (S0 S : Nat → Nat → Nat → Int32) (hsc : scr S0 S) (hN : hpN n) (ow : Nat → Nat) (hO : ∀ o, o < n 4 → I 4 o = nI (ow o) ∧ ow o < n 0) (o c : Nat) (ho : o < n 4) (hc : c < n 2) (tk : Int32) : nw_Met l y_Order_wants [Cond.code y_Order_wants b_Order_wants 3 (some .boolean)] ({ frames := 0, cells := 0, slots := 0, locals := 0 } : Room) D hpC A [.ref (ad (48 + o)), .ref (ad (32 + c)), .int (tk)] (nw_pre D hpC (hpT tC) A (hW ad tC n I K bw LA bM aM S) ad) (nw_ok (some (.int (b2 (pWants I ow S0 o c tk)))) (hW ad tC n I K bw LA bM aM S) ad) 0 0 := by
  refine nw_bodyK (by decide) (Nat.le_of_ble_eq_true rfl) ?_
  intro p e s m below meth cd ls args Q hSx hr hlocks hname hA hKs hw hS hl hQ
  obtain ⟨hx, hb, hml, hown, hts⟩ := id hSx
  have hK := hKs.1
  have hl : lv_has ls 3 [(0, .ref (ad (48 + o))), (1, .ref (ad (32 + c))), (2, .int (tk))] := hl
  obtain ⟨hn0, hn0', hn1, hn2, hn3, hn4⟩ := id hN
  refine lv_iload_n hx hb d_Order_wants_0 rfl (lv_at hl 2 rfl) ?_
  refine lv_aload_n hx hb d_Order_wants_1 rfl (lv_at hl 0 rfl) ?_
  refine nw_get hx hb hts i_Order hown hK hw (48 + o) (hW_order hN (by omega)) rfl 0 (by decide) (hts _ kw_492) (fun _ h9 => h9) rfl d_Order_wants_2 ?_
  refine lv_icmp_ne (tgt := 44) hx hb d_Order_wants_5 (by decide) (fun c_5 => ?_) (fun c_5 => ?_)
  · skip
    have hres : nI 0 = b2 (pWants I ow S0 o c tk) := b2_f (fun h => c_5 h.1)
    refine lv_iconst (v := nI 0) hx hb d_Order_wants_44 (by decide) ?_
    exact nw_zret hQ hx hb hr (by first | exact Or.inl rfl | exact Or.inr rfl) hlocks hw hS (nw_okI hres) (Nat.le_of_ble_eq_true rfl) (Nat.le_of_ble_eq_true rfl) d_Order_wants_45
  · skip
    refine lv_aload_n hx hb d_Order_wants_8 rfl (lv_at hl 1 rfl) ?_
    refine nw_getN hx hb hts i_Cage hown hK hw (32 + c) (hW_cage hN (by omega)) rfl 1 (by decide) (va_Nw.use rfl (hKs.2.2 _ kn_413 rfl)) (fun _ h9 => h9) rfl d_Order_wants_9 ?_
    have hoo := (hO o (by omega)).2
    refine lv_aload_n hx hb d_Order_wants_12 rfl (lv_at hl 0 rfl) ?_
    refine nw_get hx hb hts i_Order hown hK hw (48 + o) (hW_order hN (by omega)) rfl 0 (by decide) (hts _ kw_492) (fun _ h9 => h9) rfl d_Order_wants_13 ?_
    refine nw_iald hx hb hK hw (132 + c) 0 (hW_row (t := 2) (j := c) (by decide) (by omega) (aX_cage (Or.inl rfl) (by omega))) rfl (ow o) ((hO o (by omega)).1) (by omega) (by omega) d_Order_wants_16 ?_
    refine lv_ei (y := S0 2 c (ow o)) (congrFun (hsc 2 c (by omega)) _) ?_
    refine lv_aload_n hx hb d_Order_wants_17 rfl (lv_at hl 0 rfl) ?_
    refine nw_get hx hb hts i_Order hown hK hw (48 + o) (hW_order hN (by omega)) rfl 1 (by decide) (hts _ kw_493) (fun _ h9 => h9) rfl d_Order_wants_18 ?_
    refine lv_icmp_lt (tgt := 44) hx hb d_Order_wants_21 (by decide) (fun c_21 => ?_) (fun c_21 => ?_)
    · skip
      have hres : nI 0 = b2 (pWants I ow S0 o c tk) := b2_f (fun h => Int32.not_le.mpr c_21 h.2.1)
      refine lv_iconst (v := nI 0) hx hb d_Order_wants_44 (by decide) ?_
      exact nw_zret hQ hx hb hr (by first | exact Or.inl rfl | exact Or.inr rfl) hlocks hw hS (nw_okI hres) (Nat.le_of_ble_eq_true rfl) (Nat.le_of_ble_eq_true rfl) d_Order_wants_45
    · skip
      refine lv_aload_n hx hb d_Order_wants_24 rfl (lv_at hl 1 rfl) ?_
      refine nw_getN hx hb hts i_Cage hown hK hw (32 + c) (hW_cage hN (by omega)) rfl 1 (by decide) (va_Nw.use rfl (hKs.2.2 _ kn_413 rfl)) (fun _ h9 => h9) rfl d_Order_wants_25 ?_
      refine lv_aload_n hx hb d_Order_wants_28 rfl (lv_at hl 0 rfl) ?_
      refine nw_get hx hb hts i_Order hown hK hw (48 + o) (hW_order hN (by omega)) rfl 0 (by decide) (hts _ kw_492) (fun _ h9 => h9) rfl d_Order_wants_29 ?_
      refine nw_iald hx hb hK hw (132 + c) 0 (hW_row (t := 2) (j := c) (by decide) (by omega) (aX_cage (Or.inl rfl) (by omega))) rfl (ow o) ((hO o (by omega)).1) (by omega) (by omega) d_Order_wants_32 ?_
      refine lv_ei (y := S0 2 c (ow o)) (congrFun (hsc 2 c (by omega)) _) ?_
      refine lv_aload_n hx hb d_Order_wants_33 rfl (lv_at hl 0 rfl) ?_
      refine nw_get hx hb hts i_Order hown hK hw (48 + o) (hW_order hN (by omega)) rfl 2 (by decide) (hts _ kw_494) (fun _ h9 => h9) rfl d_Order_wants_34 ?_
      refine lv_icmp_gt (tgt := 44) hx hb d_Order_wants_37 (by decide) (fun c_37 => ?_) (fun c_37 => ?_)
      · skip
        have hres : nI 0 = b2 (pWants I ow S0 o c tk) := b2_f (fun h => Int32.not_le.mpr c_37 h.2.2)
        refine lv_iconst (v := nI 0) hx hb d_Order_wants_44 (by decide) ?_
        exact nw_zret hQ hx hb hr (by first | exact Or.inl rfl | exact Or.inr rfl) hlocks hw hS (nw_okI hres) (Nat.le_of_ble_eq_true rfl) (Nat.le_of_ble_eq_true rfl) d_Order_wants_45
      · skip
        have hres : nI 1 = b2 (pWants I ow S0 o c tk) := b2_t ⟨c_5, Int32.not_lt.mp c_21, Int32.not_lt.mp c_37⟩
        refine lv_iconst (v := nI 1) hx hb d_Order_wants_40 (by decide) ?_
        refine lv_goto (tgt := 45) hx hb d_Order_wants_41 (by decide) ?_
        exact nw_zret hQ hx hb hr (by first | exact Or.inl rfl | exact Or.inr rfl) hlocks hw hS (nw_okI hres) (Nat.le_of_ble_eq_true rfl) (Nat.le_of_ble_eq_true rfl) d_Order_wants_45

set_option maxHeartbeats 4000000 in
set_option maxRecDepth 100000 in
/-- what a cage that is not taken counts -/
theorem c_Farm_centsKept (l : Launch) (D : va_G) (tC : Nat → ClassId) (A : Nat → Prop) (ad : Nat → Nat) (n : Nat → Nat) (I : Nat → Nat → Int32) (K : Nat → Int32) (bw : Int64) (LA : Nat → Int64) (bM : Nat → Option va_E) (aM : Nat → Nat → Option (ClassId × Nat)) (S0 S : Nat → Nat → Nat → Int32) (hsc : scr S0 S) (hN : hpN n) (c : Nat) (hc : c < n 2) : nw_Met l y_Farm_centsKept [Cond.code y_Farm_centsKept b_Farm_centsKept 2 (some .long)] ({ frames := 0, cells := 0, slots := 0, locals := 0 } : Room) D hpC A [.ref (ad (1)), .int (nI c)] (nw_pre D hpC (hpT tC) A (hW ad tC n I K bw LA bM aM S) ad) (nw_ok (some (.long (ckL n I S0 c))) (hW ad tC n I K bw LA bM aM S) ad) 0 0 := by
  refine nw_bodyK (by decide) (Nat.le_of_ble_eq_true rfl) ?_
  intro p e s m below meth cd ls args Q hSx hr hlocks hname hA hKs hw hS hl hQ
  obtain ⟨hx, hb, hml, hown, hts⟩ := id hSx
  have hK := hKs.1
  have hl : lv_has ls 2 [(0, .ref (ad (1))), (1, .int (nI c))] := hl
  obtain ⟨hn0, hn0', hn1, hn2, hn3, hn4⟩ := id hN
  refine lv_aload_n hx hb d_Farm_centsKept_0 rfl (lv_at hl 0 rfl) ?_
  refine nw_get hx hb hts i_Farm hown hK hw (1) (hW_1) rfl 2 (by decide) (hts _ kw_54) (fun _ h9 => h9) rfl d_Farm_centsKept_1 ?_
  refine lv_iload_n hx hb d_Farm_centsKept_4 rfl (lv_at hl 1 rfl) ?_
  refine nw_aald hx hb hK hw (7) 4 (hW_7) rfl (c) (rfl) (by omega) (by omega) (y := ad (32 + c)) (if_pos (by omega)) d_Farm_centsKept_5 ?_
  refine nw_getN hx hb hts i_Cage hown hK hw (32 + c) (hW_cage hN (by omega)) rfl 2 (by decide) (va_Nw.use rfl (hKs.2.2 _ kn_419 rfl)) (fun _ h9 => h9) rfl d_Farm_centsKept_6 ?_
  refine lv_aload_n hx hb d_Farm_centsKept_9 rfl (lv_at hl 0 rfl) ?_
  refine nw_get hx hb hts i_Farm hown hK hw (1) (hW_1) rfl 0 (by decide) (hts _ kw_47) (fun _ h9 => h9) rfl d_Farm_centsKept_10 ?_
  refine lv_iconst (v := nI 1) hx hb d_Farm_centsKept_13 (by decide) ?_
  refine lv_isub hx hb d_Farm_centsKept_14 ?_
  refine lv_ei (y := nI (n 0 - 1)) (pk_sub (by omega)) ?_
  refine nw_iald hx hb hK hw (148 + c) 0 (hW_row (t := 3) (j := c) (by decide) (by omega) (aX_cage (Or.inr rfl) (by omega))) rfl (n 0 - 1) (rfl) (by omega) (by omega) d_Farm_centsKept_15 ?_
  refine lv_ei (y := S0 3 c (n 0 - 1)) (congrFun (hsc 3 c (by omega)) _) ?_
  refine lv_i2l (v := ((S0 3 c (n 0 - 1)).toInt64)) hx hb d_Farm_centsKept_16 rfl ?_
  refine lv_aload_n hx hb d_Farm_centsKept_17 rfl (lv_at hl 0 rfl) ?_
  refine nw_get hx hb hts i_Farm hown hK hw (1) (hW_1) rfl 12 (by decide) (hts _ kw_85) (fun _ h9 => h9) rfl d_Farm_centsKept_18 ?_
  refine lv_i2l (v := ((I 0 2).toInt64)) hx hb d_Farm_centsKept_21 rfl ?_
  refine lv_lmul hx hb d_Farm_centsKept_22 ?_
  exact nw_lret hQ hx hb hr hlocks hw hS (nw_okL rfl) (Nat.le_of_ble_eq_true rfl) (Nat.le_of_ble_eq_true rfl) d_Farm_centsKept_23

set_option maxHeartbeats 4000000 in
set_option maxRecDepth 100000 in
/-- the TOP of a cage -/
theorem c_Farm_top (l : Launch) (D : va_G) (tC : Nat → ClassId) (A : Nat → Prop) (ad : Nat → Nat) (n : Nat → Nat) (I : Nat → Nat → Int32) (K : Nat → Int32) (bw : Int64) (LA : Nat → Int64) (bM : Nat → Option va_E) (aM : Nat → Nat → Option (ClassId × Nat)) (S0 S : Nat → Nat → Nat → Int32) (hsc : scr S0 S) (hN : hpN n) (ow : Nat → Nat) (hO : ∀ o, o < n 4 → I 4 o = nI (ow o) ∧ ow o < n 0) (c : Nat) (hc : c < n 2) (tk : Option Nat) (htk : ∀ w, tk = some w → w < n 0) : nw_Met l y_Farm_top [Cond.code y_Farm_top b_Farm_top 5 (some .long)] ({ frames := 1, cells := 0, slots := 0, locals := 22 } : Room) D hpC A [.ref (ad (1)), .int (nI c), .int (oI tk)] (nw_pre D hpC (hpT tC) A (hW ad tC n I K bw LA bM aM S) ad) (nw_ok (some (.long (topL n I ow S0 c tk))) (hW ad tC n I K bw LA bM aM S) ad) 0 0 := by
  refine nw_bodyK (by decide) (Nat.le_of_ble_eq_true rfl) ?_
  intro p e s m below meth cd ls args Q hSx hr hlocks hname hA hKs hw hS hl hQ
  obtain ⟨hx, hb, hml, hown, hts⟩ := id hSx
  have hK := hKs.1
  have hl : lv_has ls 5 [(0, .ref (ad (1))), (1, .int (nI c)), (2, .int (oI tk))] := hl
  obtain ⟨hn0, hn0', hn1, hn2, hn3, hn4⟩ := id hN
  refine lv_iload_n hx hb d_Farm_top_0 rfl (lv_at hl 2 rfl) ?_
  refine lv_iconst (v := (-1)) hx hb d_Farm_top_1 (by decide) ?_
  refine lv_icmp_ne (tgt := 11) hx hb d_Farm_top_2 (by decide) (fun c_2 => ?_) (fun c_2 => ?_)
  · skip
    obtain ⟨w, rfl⟩ := oI_some c_2
    have hw0 := htk w rfl
    have hl : lv_has ls 5 [(0, .ref (ad (1))), (1, .int (nI c)), (2, .int (nI w))] := hl
    refine lv_aload_n hx hb d_Farm_top_11 rfl (lv_at hl 0 rfl) ?_
    refine nw_get hx hb hts i_Farm hown hK hw (1) (hW_1) rfl 11 (by decide) (hts _ kw_83) (fun _ h9 => h9) rfl d_Farm_top_12 ?_
    refine lv_istore_n (lv' := [(3, .int (I 0 1)), (0, .ref (ad (1))), (1, .int (nI c)), (2, .int (nI w))]) hx hb d_Farm_top_15 rfl hl (by decide) rfl (fun ls hl => ?_)
    refine lv_iconst (v := nI 0) hx hb d_Farm_top_16 (by decide) ?_
    refine lv_istore (lv' := [(4, .int (nI 0)), (3, .int (I 0 1)), (0, .ref (ad (1))), (1, .int (nI c)), (2, .int (nI w))]) hx hb d_Farm_top_17 hl (by decide) rfl (fun ls hl => ?_)
    have loop19 : ∀ (k o : Nat), o ≤ n 4 → n 4 + 1 ≤ o + k → ∀ (H : Heap) (locs : List Loc) (ls : Array Slot), nw_W D hpC A (hW ad tC n I K bw LA bM aM S) ad H → va_S A s.heap H locs → lv_has ls 5 [(0, .ref (ad (1))), (1, .int (nI c)), (2, .int (nI w)), (3, .int (tcS I ow S0 c (nI w) o)), (4, .int (nI o))] → W p l e ({ frames := 1, cells := 0, slots := 0, locals := 22 } : Room) s m args below meth cd H locs 0 0 Q (F0 m 19 ls []) := by
      intro k
      induction k with
      | zero => intro o h1 h2; exact absurd h2 (by omega)
      | succ k ih19 =>
        intro o hv19 hk19 H locs ls hw hS hl
        refine lv_iload hx hb d_Farm_top_19 (lv_at hl 4 rfl) ?_
        refine lv_aload_n hx hb d_Farm_top_21 rfl (lv_at hl 0 rfl) ?_
        refine nw_get hx hb hts i_Farm hown hK hw (1) (hW_1) rfl 10 (by decide) (hts _ kw_80) (fun _ h9 => h9) rfl d_Farm_top_22 ?_
        refine lv_icmp_ge (tgt := 69) hx hb d_Farm_top_25 (by decide) (fun c_25 => ?_) (fun c_25 => ?_)
        · skip
          have hge25 : n 4 ≤ o := (nI_leI (by omega) (by omega)).mp c_25
          obtain rfl : n 4 = o := by omega
          refine lv_aload_n hx hb d_Farm_top_69 rfl (lv_at hl 0 rfl) ?_
          refine nw_get hx hb hts i_Farm hown hK hw (1) (hW_1) rfl 2 (by decide) (hts _ kw_54) (fun _ h9 => h9) rfl d_Farm_top_70 ?_
          refine lv_iload_n hx hb d_Farm_top_73 rfl (lv_at hl 1 rfl) ?_
          refine nw_aald hx hb hK hw (7) 4 (hW_7) rfl (c) (rfl) (by omega) (by omega) (y := ad (32 + c)) (if_pos (by omega)) d_Farm_top_74 ?_
          refine nw_getN hx hb hts i_Cage hown hK hw (32 + c) (hW_cage hN (by omega)) rfl 2 (by decide) (va_Nw.use rfl (hKs.2.2 _ kn_419 rfl)) (fun _ h9 => h9) rfl d_Farm_top_75 ?_
          refine lv_iload_n hx hb d_Farm_top_78 rfl (lv_at hl 2 rfl) ?_
          refine nw_iald hx hb hK hw (148 + c) 0 (hW_row (t := 3) (j := c) (by decide) (by omega) (aX_cage (Or.inr rfl) (by omega))) rfl (w) (rfl) (by omega) (by omega) d_Farm_top_79 ?_
          refine lv_ei (y := S0 3 c w) (congrFun (hsc 3 c (by omega)) _) ?_
          refine lv_i2l (v := ((S0 3 c w).toInt64)) hx hb d_Farm_top_80 rfl ?_
          refine lv_iload_n hx hb d_Farm_top_81 rfl (lv_at hl 3 rfl) ?_
          refine lv_i2l (v := ((tcS I ow S0 c (nI w) (n 4)).toInt64)) hx hb d_Farm_top_82 rfl ?_
          refine lv_lmul hx hb d_Farm_top_83 ?_
          exact nw_lret hQ hx hb hr hlocks hw hS (nw_okL rfl) (Nat.le_of_ble_eq_true rfl) (Nat.le_of_ble_eq_true rfl) d_Farm_top_84
        · skip
          have hlt : o < n 4 := Nat.not_le.mp (fun q => c_25 (nI_le q (by omega)))
          refine lv_aload_n hx hb d_Farm_top_28 rfl (lv_at hl 0 rfl) ?_
          refine nw_get hx hb hts i_Farm hown hK hw (1) (hW_1) rfl 4 (by decide) (hts _ kw_61) (fun _ h9 => h9) rfl d_Farm_top_29 ?_
          refine lv_iload hx hb d_Farm_top_32 (lv_at hl 4 rfl) ?_
          refine nw_aald hx hb hK hw (9) 6 (hW_9) rfl (o) (rfl) (by omega) (by omega) (y := ad (48 + o)) (if_pos (by omega)) d_Farm_top_34 ?_
          refine lv_aload_n hx hb d_Farm_top_35 rfl (lv_at hl 0 rfl) ?_
          refine nw_get hx hb hts i_Farm hown hK hw (1) (hW_1) rfl 2 (by decide) (hts _ kw_54) (fun _ h9 => h9) rfl d_Farm_top_36 ?_
          refine lv_iload_n hx hb d_Farm_top_39 rfl (lv_at hl 1 rfl) ?_
          refine nw_aald hx hb hK hw (7) 4 (hW_7) rfl (c) (rfl) (by omega) (by omega) (y := ad (32 + c)) (if_pos (by omega)) d_Farm_top_40 ?_
          refine lv_iload_n hx hb d_Farm_top_41 rfl (lv_at hl 2 rfl) ?_
          refine nw_callD (nw_goVN (n := 2) (As := [.ref (ad (32 + c)), .int (nI w)]) (rest := []) hSx hA hKs hw hS (c_Order_wants l D tC A ad n I K bw LA bM aM S0 S hsc hN ow hO o c (by omega) (by omega) (nI w)) kw_250 kn_246 kw_248 ks_Order_wants kw_17 rfl rfl (by decide +kernel) ⟨Nat.le_of_ble_eq_true rfl, Nat.le_of_ble_eq_true rfl⟩ (nw_recv hK hw (hW_order hN (by omega)) rfl) rfl hl.1 (Nat.le_of_ble_eq_true rfl) d_Farm_top_42 ⟨Nat.le_of_ble_eq_true rfl, Nat.le_of_ble_eq_true rfl⟩) hS (fun H locs hw hS => ?_)
          refine lv_if_eq (tgt := 63) hx hb d_Farm_top_45 (by decide) (fun c_45 => ?_) (fun c_45 => ?_)
          · skip
            have e3 : tcS I ow S0 c (nI w) (o + 1) = tcS I ow S0 c (nI w) o := tcS_f (b2_0 c_45)
            refine lv_iinc (v := nI (o + 1)) (lv' := [(4, .int (nI (o + 1))), (0, .ref (ad (1))), (1, .int (nI c)), (2, .int (nI w)), (3, .int (tcS I ow S0 c (nI w) o))]) hx hb d_Farm_top_63 hl (k := 4) rfl ((nI_succ _).symm) (by decide) rfl (fun ls hl => ?_)
            refine lv_goto (tgt := 19) hx hb d_Farm_top_66 (by decide) ?_
            have el3 : tcS I ow S0 c (nI w) (o + 1) = tcS I ow S0 c (nI w) o := e3
            have hl : lv_has ls 5 [(4, .int (nI (o + 1))), (0, .ref (ad (1))), (1, .int (nI c)), (2, .int (nI w)), (3, .int (tcS I ow S0 c (nI w) (o + 1)))] := by
              have h9 := hl
              revert h9; rw [show Value.int (tcS I ow S0 c (nI w) (o + 1)) = Value.int (tcS I ow S0 c (nI w) o) from congrArg _ el3]; intro h9
              exact h9
            exact ih19 (o + 1) (by omega) (by omega) _ _ ls hw hS (lv_sub hl [1, 2, 3, 4, 0] rfl)
          · skip
            have e3 : tcS I ow S0 c (nI w) (o + 1) = mxI (tcS I ow S0 c (nI w) o) (I 8 o) := tcS_t (b2_1 c_45)
            refine lv_iload_n hx hb d_Farm_top_48 rfl (lv_at hl 3 rfl) ?_
            refine lv_aload_n hx hb d_Farm_top_49 rfl (lv_at hl 0 rfl) ?_
            refine nw_get hx hb hts i_Farm hown hK hw (1) (hW_1) rfl 4 (by decide) (hts _ kw_61) (fun _ h9 => h9) rfl d_Farm_top_50 ?_
            refine lv_iload hx hb d_Farm_top_53 (lv_at hl 4 rfl) ?_
            refine nw_aald hx hb hK hw (9) 6 (hW_9) rfl (o) (rfl) (by omega) (by omega) (y := ad (48 + o)) (if_pos (by omega)) d_Farm_top_55 ?_
            refine nw_getN hx hb hts i_Order hown hK hw (48 + o) (hW_order hN (by omega)) rfl 4 (by decide) (va_Nw.use rfl (hKs.2.2 _ kn_499 rfl)) (fun _ h9 => h9) rfl d_Farm_top_56 ?_
            refine va_mmax hx hb (hml.trans hl.1.symm) hown (hts _ kw_251) (hts _ kw_33) (hts _ kw_3) (hts _ kw_34) (Nat.le_of_ble_eq_true rfl) (Nat.le_of_ble_eq_true rfl) (Nat.le_of_ble_eq_true rfl) (Nat.le_of_ble_eq_true rfl) d_Farm_top_59 ?_
            refine lv_ei (y := mxI (tcS I ow S0 c (nI w) o) (I 8 o)) rfl ?_
            refine lv_istore_n (lv' := [(3, .int (mxI (tcS I ow S0 c (nI w) o) (I 8 o))), (0, .ref (ad (1))), (1, .int (nI c)), (2, .int (nI w)), (4, .int (nI o))]) hx hb d_Farm_top_62 rfl hl (by decide) rfl (fun ls hl => ?_)
            refine lv_iinc (v := nI (o + 1)) (lv' := [(4, .int (nI (o + 1))), (3, .int (mxI (tcS I ow S0 c (nI w) o) (I 8 o))), (0, .ref (ad (1))), (1, .int (nI c)), (2, .int (nI w))]) hx hb d_Farm_top_63 hl (k := 4) rfl ((nI_succ _).symm) (by decide) rfl (fun ls hl => ?_)
            refine lv_goto (tgt := 19) hx hb d_Farm_top_66 (by decide) ?_
            have el3 : tcS I ow S0 c (nI w) (o + 1) = mxI (tcS I ow S0 c (nI w) o) (I 8 o) := e3
            have hl : lv_has ls 5 [(4, .int (nI (o + 1))), (3, .int (tcS I ow S0 c (nI w) (o + 1))), (0, .ref (ad (1))), (1, .int (nI c)), (2, .int (nI w))] := by
              have h9 := hl
              revert h9; rw [show Value.int (tcS I ow S0 c (nI w) (o + 1)) = Value.int (mxI (tcS I ow S0 c (nI w) o) (I 8 o)) from congrArg _ el3]; intro h9
              exact h9
            exact ih19 (o + 1) (by omega) (by omega) _ _ ls hw hS (lv_sub hl [2, 3, 4, 1, 0] rfl)
    exact loop19 (n 4 + 1) (0) (by omega) (by omega) _ _ ls hw hS (lv_sub hl [2, 3, 4, 1, 0] rfl)
  · skip
    obtain rfl := oI_none (fun w h => Nat.lt_trans (htk w h) (by omega)) c_2
    refine lv_aload_n hx hb d_Farm_top_5 rfl (lv_at hl 0 rfl) ?_
    refine lv_iload_n hx hb d_Farm_top_6 rfl (lv_at hl 1 rfl) ?_
    refine nw_callD (nw_goV (n := 1) (As := [.int (nI c)]) (rest := []) hSx hA hKs hw hS (c_Farm_centsKept l D tC A ad n I K bw LA bM aM S0 S hsc hN c (by omega)) kw_241 kw_238 kw_240 ks_Farm_centsKept kw_2 rfl rfl (by decide +kernel) ⟨Nat.le_of_ble_eq_true rfl, Nat.le_of_ble_eq_true rfl⟩ (nw_recv hK hw (hW_1) rfl) rfl hl.1 (Nat.le_of_ble_eq_true rfl) d_Farm_top_7 ⟨Nat.le_of_ble_eq_true rfl, Nat.le_of_ble_eq_true rfl⟩) hS (fun H locs hw hS => ?_)
    exact nw_lret hQ hx hb hr hlocks hw hS (nw_okL rfl) (Nat.le_of_ble_eq_true rfl) (Nat.le_of_ble_eq_true rfl) d_Farm_top_10

set_option maxHeartbeats 4000000 in
set_option maxRecDepth 100000 in
/-- the greatest of the tops -/
theorem c_Farm_greatestTop (l : Launch) (D : va_G) (tC : Nat → ClassId) (A : Nat → Prop) (ad : Nat → Nat) (n : Nat → Nat) (I : Nat → Nat → Int32) (K : Nat → Int32) (bw : Int64) (LA : Nat → Int64) (bM : Nat → Option va_E) (aM : Nat → Nat → Option (ClassId × Nat)) (S0 S : Nat → Nat → Nat → Int32) (hsc : scr S0 S) (hN : hpN n) (ow : Nat → Nat) (hO : ∀ o, o < n 4 → I 4 o = nI (ow o) ∧ ow o < n 0) (c : Nat) (hc : c < n 2) : nw_Met l y_Farm_greatestTop [Cond.code y_Farm_greatestTop b_Farm_greatestTop 5 (some .long)] ({ frames := 2, cells := 0, slots := 0, locals := 46 } : Room) D hpC A [.ref (ad (1)), .int (nI c)] (nw_pre D hpC (hpT tC) A (hW ad tC n I K bw LA bM aM S) ad) (nw_ok (some (.long (gtS n I ow S0 c (n 0)))) (hW ad tC n I K bw LA bM aM S) ad) 0 0 := by
  refine nw_bodyK (by decide) (Nat.le_of_ble_eq_true rfl) ?_
  intro p e s m below meth cd ls args Q hSx hr hlocks hname hA hKs hw hS hl hQ
  obtain ⟨hx, hb, hml, hown, hts⟩ := id hSx
  have hK := hKs.1
  have hl : lv_has ls 5 [(0, .ref (ad (1))), (1, .int (nI c))] := hl
  obtain ⟨hn0, hn0', hn1, hn2, hn3, hn4⟩ := id hN
  refine lv_aload_n hx hb d_Farm_greatestTop_0 rfl (lv_at hl 0 rfl) ?_
  refine lv_iload_n hx hb d_Farm_greatestTop_1 rfl (lv_at hl 1 rfl) ?_
  refine nw_callD (nw_goV (n := 1) (As := [.int (nI c)]) (rest := []) hSx hA hKs hw hS (c_Farm_centsKept l D tC A ad n I K bw LA bM aM S0 S hsc hN c (by omega)) kw_241 kw_238 kw_240 ks_Farm_centsKept kw_2 rfl rfl (by decide +kernel) ⟨Nat.le_of_ble_eq_true rfl, Nat.le_of_ble_eq_true rfl⟩ (nw_recv hK hw (hW_1) rfl) rfl hl.1 (Nat.le_of_ble_eq_true rfl) d_Farm_greatestTop_2 ⟨Nat.le_of_ble_eq_true rfl, Nat.le_of_ble_eq_true rfl⟩) hS (fun H locs hw hS => ?_)
  refine lv_lstore_n (lv' := [(2, .long (ckL n I S0 c)), (0, .ref (ad (1))), (1, .int (nI c))]) hx hb d_Farm_greatestTop_5 rfl hl (by decide) rfl (fun ls hl => ?_)
  refine lv_iconst (v := nI 0) hx hb d_Farm_greatestTop_6 (by decide) ?_
  refine lv_istore (lv' := [(4, .int (nI 0)), (2, .long (ckL n I S0 c)), (0, .ref (ad (1))), (1, .int (nI c))]) hx hb d_Farm_greatestTop_7 hl (by decide) rfl (fun ls hl => ?_)
  have loop9 : ∀ (k w : Nat), w ≤ n 0 → n 0 + 1 ≤ w + k → ∀ (H : Heap) (locs : List Loc) (ls : Array Slot), nw_W D hpC A (hW ad tC n I K bw LA bM aM S) ad H → va_S A s.heap H locs → lv_has ls 5 [(0, .ref (ad (1))), (1, .int (nI c)), (2, .long (gtS n I ow S0 c w)), (4, .int (nI w))] → W p l e ({ frames := 2, cells := 0, slots := 0, locals := 46 } : Room) s m args below meth cd H locs 0 0 Q (F0 m 9 ls []) := by
    intro k
    induction k with
    | zero => intro w h1 h2; exact absurd h2 (by omega)
    | succ k ih9 =>
      intro w hv9 hk9 H locs ls hw hS hl
      refine lv_iload hx hb d_Farm_greatestTop_9 (lv_at hl 3 rfl) ?_
      refine lv_aload_n hx hb d_Farm_greatestTop_11 rfl (lv_at hl 0 rfl) ?_
      refine nw_get hx hb hts i_Farm hown hK hw (1) (hW_1) rfl 0 (by decide) (hts _ kw_47) (fun _ h9 => h9) rfl d_Farm_greatestTop_12 ?_
      refine lv_icmp_ge (tgt := 36) hx hb d_Farm_greatestTop_15 (by decide) (fun c_15 => ?_) (fun c_15 => ?_)
      · skip
        have hge15 : n 0 ≤ w := (nI_leI (by omega) (by omega)).mp c_15
        obtain rfl : n 0 = w := by omega
        refine lv_lload_n hx hb d_Farm_greatestTop_36 rfl (lv_at hl 2 rfl) ?_
        exact nw_lret hQ hx hb hr hlocks hw hS (nw_okL rfl) (Nat.le_of_ble_eq_true rfl) (Nat.le_of_ble_eq_true rfl) d_Farm_greatestTop_37
      · skip
        have hlt : w < n 0 := Nat.not_le.mp (fun q => c_15 (nI_le q (by omega)))
        refine lv_lload_n hx hb d_Farm_greatestTop_18 rfl (lv_at hl 2 rfl) ?_
        refine lv_aload_n hx hb d_Farm_greatestTop_19 rfl (lv_at hl 0 rfl) ?_
        refine lv_iload_n hx hb d_Farm_greatestTop_20 rfl (lv_at hl 1 rfl) ?_
        refine lv_iload hx hb d_Farm_greatestTop_21 (lv_at hl 3 rfl) ?_
        refine nw_callD (nw_goV (n := 2) (As := [.int (nI c), .int (nI w)]) (rest := [.long (gtS n I ow S0 c w)]) hSx hA hKs hw hS (c_Farm_top l D tC A ad n I K bw LA bM aM S0 S hsc hN ow hO c (by omega) (some w) (fun w9 h9 => by cases h9; omega)) kw_245 kw_242 kw_244 ks_Farm_top kw_2 rfl rfl (by decide +kernel) ⟨Nat.le_of_ble_eq_true rfl, Nat.le_of_ble_eq_true rfl⟩ (nw_recv hK hw (hW_1) rfl) rfl hl.1 (Nat.le_of_ble_eq_true rfl) d_Farm_greatestTop_23 ⟨Nat.le_of_ble_eq_true rfl, Nat.le_of_ble_eq_true rfl⟩) hS (fun H locs hw hS => ?_)
        refine va_mmax_long hx hb (hml.trans hl.1.symm) hown (hts _ kw_252) (hts _ kw_253) (hts _ kw_3) (hts _ kw_254) (Nat.le_of_ble_eq_true rfl) (Nat.le_of_ble_eq_true rfl) (Nat.le_of_ble_eq_true rfl) (Nat.le_of_ble_eq_true rfl) d_Farm_greatestTop_26 ?_
        refine lv_el (y := mxL (gtS n I ow S0 c w) (topL n I ow S0 c (some w))) rfl ?_
        refine lv_lstore_n (lv' := [(2, .long (mxL (gtS n I ow S0 c w) (topL n I ow S0 c (some w)))), (0, .ref (ad (1))), (1, .int (nI c)), (4, .int (nI w))]) hx hb d_Farm_greatestTop_29 rfl hl (by decide) rfl (fun ls hl => ?_)
        refine lv_iinc (v := nI (w + 1)) (lv' := [(4, .int (nI (w + 1))), (2, .long (mxL (gtS n I ow S0 c w) (topL n I ow S0 c (some w)))), (0, .ref (ad (1))), (1, .int (nI c))]) hx hb d_Farm_greatestTop_30 hl (k := 3) rfl ((nI_succ _).symm) (by decide) rfl (fun ls hl => ?_)
        refine lv_goto (tgt := 9) hx hb d_Farm_greatestTop_33 (by decide) ?_
        have el2 : gtS n I ow S0 c (w + 1) = mxL (gtS n I ow S0 c w) (topL n I ow S0 c (some w)) := rfl
        have hl : lv_has ls 5 [(4, .int (nI (w + 1))), (2, .long (gtS n I ow S0 c (w + 1))), (0, .ref (ad (1))), (1, .int (nI c))] := by
          have h9 := hl
          revert h9; rw [show Value.long (gtS n I ow S0 c (w + 1)) = Value.long (mxL (gtS n I ow S0 c w) (topL n I ow S0 c (some w))) from congrArg _ el2]; intro h9
          exact h9
        exact ih9 (w + 1) (by omega) (by omega) _ _ ls hw hS (lv_sub hl [2, 3, 1, 0] rfl)
  exact loop9 (n 0 + 1) (0) (by omega) (by omega) _ _ ls hw hS (lv_sub hl [2, 3, 1, 0] rfl)

set_option maxHeartbeats 4000000 in
set_option maxRecDepth 100000 in
/-- an order is served -/
theorem c_Sales_serve (l : Launch) (D : va_G) (tC : Nat → ClassId) (A : Nat → Prop) (ad : Nat → Nat) (n : Nat → Nat) (I : Nat → Nat → Int32) (K : Nat → Int32) (bw : Int64) (LA : Nat → Int64) (bM : Nat → Option va_E) (aM : Nat → Nat → Option (ClassId × Nat)) (S0 S : Nat → Nat → Nat → Int32) (hsc : scr S0 S) (hN : hpN n) (r : Nat) (hr0 : r = 0 ∨ r = 9) (ow : Nat → Nat) (hO : ∀ o, o < n 4 → I 4 o = nI (ow o) ∧ ow o < n 0) (lf : Nat → Int32) (h7 : S 0 7 = lf) (o : Nat) (ho : o < n 4) : nw_Met l y_Sales_serve [Cond.code y_Sales_serve b_Sales_serve 6 (some .int)] ({ frames := 1, cells := 0, slots := 0, locals := 22 } : Room) D hpC A [.ref (ad (3)), .ref (ad (48 + o)), .ref (ad (100 + r))] (nw_pre D hpC (hpT tC) A (hW ad tC n I K bw LA bM aM S) ad) (nw_ok (some (.int ((svS I ow S0 o (S0 0 r) lf (n 2)).2))) (hW ad tC n I K bw LA bM aM (upR S 0 7 ((svS I ow S0 o (S0 0 r) lf (n 2)).1))) ad) 0 0 := by
  refine nw_bodyK (by decide) (Nat.le_of_ble_eq_true rfl) ?_
  intro p e s m below meth cd ls args Q hSx hr hlocks hname hA hKs hw hS hl hQ
  obtain ⟨hx, hb, hml, hown, hts⟩ := id hSx
  have hK := hKs.1
  have hl : lv_has ls 6 [(0, .ref (ad (3))), (1, .ref (ad (48 + o))), (2, .ref (ad (100 + r)))] := hl
  obtain ⟨hn0, hn0', hn1, hn2, hn3, hn4⟩ := id hN
  refine lv_iconst (v := nI 0) hx hb d_Sales_serve_0 (by decide) ?_
  refine lv_istore_n (lv' := [(3, .int (nI 0)), (0, .ref (ad (3))), (1, .ref (ad (48 + o))), (2, .ref (ad (100 + r)))]) hx hb d_Sales_serve_1 rfl hl (by decide) rfl (fun ls hl => ?_)
  refine lv_iconst (v := nI 0) hx hb d_Sales_serve_2 (by decide) ?_
  refine lv_istore (lv' := [(4, .int (nI 0)), (3, .int (nI 0)), (0, .ref (ad (3))), (1, .ref (ad (48 + o))), (2, .ref (ad (100 + r)))]) hx hb d_Sales_serve_3 hl (by decide) rfl (fun ls hl => ?_)
  have hw := nw_W.as (wn' := hW ad tC n I K bw LA bM aM (upR S 0 7 ((svS I ow S0 o (S0 0 r) lf 0).1))) hw (by rw [show (svS I ow S0 o (S0 0 r) lf 0).1 = lf from rfl, ← h7, upR_same])
  have loop5 : ∀ (k c : Nat), c ≤ n 2 → n 2 + 1 ≤ c + k → ∀ (H : Heap) (locs : List Loc) (ls : Array Slot), nw_W D hpC A (hW ad tC n I K bw LA bM aM (upR S 0 7 ((svS I ow S0 o (S0 0 r) lf c).1))) ad H → va_S A s.heap H locs → lv_has ls 6 [(0, .ref (ad (3))), (1, .ref (ad (48 + o))), (2, .ref (ad (100 + r))), (3, .int ((svS I ow S0 o (S0 0 r) lf c).2)), (4, .int (nI c))] → W p l e ({ frames := 1, cells := 0, slots := 0, locals := 22 } : Room) s m args below meth cd H locs 0 0 Q (F0 m 5 ls []) := by
    intro k
    induction k with
    | zero => intro c h1 h2; exact absurd h2 (by omega)
    | succ k ih5 =>
      intro c hv5 hk5 H locs ls hw hS hl
      refine lv_iload hx hb d_Sales_serve_5 (lv_at hl 4 rfl) ?_
      refine lv_aload_n hx hb d_Sales_serve_7 rfl (lv_at hl 0 rfl) ?_
      refine nw_get hx hb hts i_Sales hown hK hw (3) (hW_3) rfl 0 (by decide) (hts _ kw_143) (fun _ h9 => h9) rfl d_Sales_serve_8 ?_
      refine nw_getN hx hb hts i_Farm hown hK hw (1) (hW_1) rfl 8 (by decide) (va_Nw.use rfl (hKs.2.2 _ kn_71 rfl)) (fun _ h9 => h9) rfl d_Sales_serve_11 ?_
      refine lv_icmp_ge (tgt := 79) hx hb d_Sales_serve_14 (by decide) (fun c_14 => ?_) (fun c_14 => ?_)
      · skip
        have hge14 : n 2 ≤ c := (nI_leI (by omega) (by omega)).mp c_14
        obtain rfl : n 2 = c := by omega
        refine lv_iload_n hx hb d_Sales_serve_79 rfl (lv_at hl 3 rfl) ?_
        exact nw_iret hQ hx hb hr hlocks hw hS (nw_ok_rf) (Nat.le_of_ble_eq_true rfl) (Nat.le_of_ble_eq_true rfl) d_Sales_serve_80
      · skip
        have hlt : c < n 2 := Nat.not_le.mp (fun q => c_14 (nI_le q (by omega)))
        refine lv_aload_n hx hb d_Sales_serve_17 rfl (lv_at hl 1 rfl) ?_
        refine lv_aload_n hx hb d_Sales_serve_18 rfl (lv_at hl 0 rfl) ?_
        refine nw_get hx hb hts i_Sales hown hK hw (3) (hW_3) rfl 0 (by decide) (hts _ kw_143) (fun _ h9 => h9) rfl d_Sales_serve_19 ?_
        refine nw_getN hx hb hts i_Farm hown hK hw (1) (hW_1) rfl 2 (by decide) (va_Nw.use rfl (hKs.2.2 _ kn_55 rfl)) (fun _ h9 => h9) rfl d_Sales_serve_22 ?_
        refine lv_iload hx hb d_Sales_serve_25 (lv_at hl 4 rfl) ?_
        refine nw_aald hx hb hK hw (7) 4 (hW_7) rfl (c) (rfl) (by omega) (by omega) (y := ad (32 + c)) (if_pos (by omega)) d_Sales_serve_27 ?_
        refine lv_aload_n hx hb d_Sales_serve_28 rfl (lv_at hl 2 rfl) ?_
        refine lv_iload hx hb d_Sales_serve_29 (lv_at hl 4 rfl) ?_
        refine nw_iald hx hb hK hw (100 + r) 0 (hW_row (t := 0) (j := r) (by decide) (by omega) (aX_pl hr0)) rfl (c) (rfl) (by omega) (by omega) d_Sales_serve_31 ?_
        refine lv_ei (y := S0 0 r c) (congrFun ((scr_up hsc (by omega)) 0 r (by omega)) _) ?_
        refine nw_callD (nw_goVN (n := 2) (As := [.ref (ad (32 + c)), .int (S0 0 r c)]) (rest := []) hSx hA hKs hw hS (c_Order_wants l D tC A ad n I K bw LA bM aM S0 (upR S 0 7 ((svS I ow S0 o (S0 0 r) lf c).1)) (scr_up hsc (by omega)) hN ow hO o c (by omega) (by omega) (S0 0 r c)) kw_250 kn_559 kw_248 ks_Order_wants kw_17 rfl rfl (by decide +kernel) ⟨Nat.le_of_ble_eq_true rfl, Nat.le_of_ble_eq_true rfl⟩ (nw_recv hK hw (hW_order hN (by omega)) rfl) rfl hl.1 (Nat.le_of_ble_eq_true rfl) d_Sales_serve_32 ⟨Nat.le_of_ble_eq_true rfl, Nat.le_of_ble_eq_true rfl⟩) hS (fun H locs hw hS => ?_)
        refine lv_if_eq (tgt := 73) hx hb d_Sales_serve_35 (by decide) (fun c_35 => ?_) (fun c_35 => ?_)
        · skip
          have e7 : svS I ow S0 o (S0 0 r) lf (c + 1) = svS I ow S0 o (S0 0 r) lf c := svS_f (b2_0 c_35)
          refine lv_iinc (v := nI (c + 1)) (lv' := [(4, .int (nI (c + 1))), (0, .ref (ad (3))), (1, .ref (ad (48 + o))), (2, .ref (ad (100 + r))), (3, .int ((svS I ow S0 o (S0 0 r) lf c).2))]) hx hb d_Sales_serve_73 hl (k := 4) rfl ((nI_succ _).symm) (by decide) rfl (fun ls hl => ?_)
          refine lv_goto (tgt := 5) hx hb d_Sales_serve_76 (by decide) ?_
          have el3 : (svS I ow S0 o (S0 0 r) lf (c + 1)).2 = (svS I ow S0 o (S0 0 r) lf c).2 := by rw [e7]
          have hl : lv_has ls 6 [(4, .int (nI (c + 1))), (0, .ref (ad (3))), (1, .ref (ad (48 + o))), (2, .ref (ad (100 + r))), (3, .int ((svS I ow S0 o (S0 0 r) lf (c + 1)).2))] := by
            have h9 := hl
            revert h9; rw [show Value.int ((svS I ow S0 o (S0 0 r) lf (c + 1)).2) = Value.int ((svS I ow S0 o (S0 0 r) lf c).2) from congrArg _ el3]; intro h9
            exact h9
          have hw := nw_W.as (wn' := hW ad tC n I K bw LA bM aM (upR S 0 7 ((svS I ow S0 o (S0 0 r) lf (c + 1)).1))) hw (by rw [e7])
          exact ih5 (c + 1) (by omega) (by omega) _ _ ls hw hS (lv_sub hl [1, 2, 3, 4, 0] rfl)
        · skip
          have e7 : svS I ow S0 o (S0 0 r) lf (c + 1) = (upd (svS I ow S0 o (S0 0 r) lf c).1 c ((svS I ow S0 o (S0 0 r) lf c).1 c - mnI ((svS I ow S0 o (S0 0 r) lf c).1 c) (I 7 o - (svS I ow S0 o (S0 0 r) lf c).2)), (svS I ow S0 o (S0 0 r) lf c).2 + mnI ((svS I ow S0 o (S0 0 r) lf c).1 c) (I 7 o - (svS I ow S0 o (S0 0 r) lf c).2)) := svS_t (b2_1 c_35)
          refine lv_aload_n hx hb d_Sales_serve_38 rfl (lv_at hl 0 rfl) ?_
          refine nw_get hx hb hts i_Sales hown hK hw (3) (hW_3) rfl 1 (by decide) (hts _ kw_144) (fun _ h9 => h9) rfl d_Sales_serve_39 ?_
          refine lv_iload hx hb d_Sales_serve_42 (lv_at hl 4 rfl) ?_
          refine nw_iald hx hb hK hw (107) 0 (hW_row (t := 0) (j := 7) (by decide) (by omega) (rfl)) rfl (c) (rfl) (by omega) (by omega) d_Sales_serve_44 ?_
          refine lv_ei (y := ((svS I ow S0 o (S0 0 r) lf c).1) c) (congrFun upR_self _) ?_
          refine lv_aload_n hx hb d_Sales_serve_45 rfl (lv_at hl 1 rfl) ?_
          refine nw_getN hx hb hts i_Order hown hK hw (48 + o) (hW_order hN (by omega)) rfl 3 (by decide) (va_Nw.use rfl (hKs.2.2 _ kn_496 rfl)) (fun _ h9 => h9) rfl d_Sales_serve_46 ?_
          refine lv_iload_n hx hb d_Sales_serve_49 rfl (lv_at hl 3 rfl) ?_
          refine lv_isub hx hb d_Sales_serve_50 ?_
          refine va_mmin hx hb (hml.trans hl.1.symm) hown (hts _ kw_560) (hts _ kw_30) (hts _ kw_3) (hts _ kw_31) (Nat.le_of_ble_eq_true rfl) (Nat.le_of_ble_eq_true rfl) (Nat.le_of_ble_eq_true rfl) (Nat.le_of_ble_eq_true rfl) d_Sales_serve_51 ?_
          refine lv_ei (y := mnI (((svS I ow S0 o (S0 0 r) lf c).1) c) (((I 7 o) - ((svS I ow S0 o (S0 0 r) lf c).2)))) rfl ?_
          refine lv_istore (lv' := [(5, .int (mnI (((svS I ow S0 o (S0 0 r) lf c).1) c) (((I 7 o) - ((svS I ow S0 o (S0 0 r) lf c).2))))), (0, .ref (ad (3))), (1, .ref (ad (48 + o))), (2, .ref (ad (100 + r))), (3, .int ((svS I ow S0 o (S0 0 r) lf c).2)), (4, .int (nI c))]) hx hb d_Sales_serve_54 hl (by decide) rfl (fun ls hl => ?_)
          refine lv_aload_n hx hb d_Sales_serve_56 rfl (lv_at hl 1 rfl) ?_
          refine nw_get hx hb hts i_Sales hown hK hw (3) (hW_3) rfl 1 (by decide) (hts _ kw_144) (fun _ h9 => h9) rfl d_Sales_serve_57 ?_
          refine lv_iload hx hb d_Sales_serve_60 (lv_at hl 5 rfl) ?_
          refine lv_dup2_11 hx hb d_Sales_serve_62 rfl rfl ?_
          refine nw_iald hx hb hK hw (107) 0 (hW_row (t := 0) (j := 7) (by decide) (by omega) (rfl)) rfl (c) (rfl) (by omega) (by omega) d_Sales_serve_63 ?_
          refine lv_ei (y := ((svS I ow S0 o (S0 0 r) lf c).1) c) (congrFun upR_self _) ?_
          refine lv_iload hx hb d_Sales_serve_64 (lv_at hl 0 rfl) ?_
          refine lv_isub hx hb d_Sales_serve_66 ?_
          refine nw_iast hx hb hK hw hS (107) 0 (hW_row (t := 0) (j := 7) (by decide) (by omega) (rfl)) rfl (c) (rfl) (by omega) (by omega) d_Sales_serve_67 (fun H locs hw hS => ?_)
          have hw := hW_setRow (t := 0) (j := 7) (by decide) (by omega) (rfl) hw
          rw [upR_upR, upR_self] at hw
          refine lv_iload_n hx hb d_Sales_serve_68 rfl (lv_at hl 4 rfl) ?_
          refine lv_iload hx hb d_Sales_serve_69 (lv_at hl 0 rfl) ?_
          refine lv_iadd hx hb d_Sales_serve_71 ?_
          refine lv_istore_n (lv' := [(3, .int ((((svS I ow S0 o (S0 0 r) lf c).2) + (mnI (((svS I ow S0 o (S0 0 r) lf c).1) c) (((I 7 o) - ((svS I ow S0 o (S0 0 r) lf c).2))))))), (5, .int (mnI (((svS I ow S0 o (S0 0 r) lf c).1) c) (((I 7 o) - ((svS I ow S0 o (S0 0 r) lf c).2))))), (0, .ref (ad (3))), (1, .ref (ad (48 + o))), (2, .ref (ad (100 + r))), (4, .int (nI c))]) hx hb d_Sales_serve_72 rfl hl (by decide) rfl (fun ls hl => ?_)
          refine lv_iinc (v := nI (c + 1)) (lv' := [(4, .int (nI (c + 1))), (3, .int ((((svS I ow S0 o (S0 0 r) lf c).2) + (mnI (((svS I ow S0 o (S0 0 r) lf c).1) c) (((I 7 o) - ((svS I ow S0 o (S0 0 r) lf c).2))))))), (5, .int (mnI (((svS I ow S0 o (S0 0 r) lf c).1) c) (((I 7 o) - ((svS I ow S0 o (S0 0 r) lf c).2))))), (0, .ref (ad (3))), (1, .ref (ad (48 + o))), (2, .ref (ad (100 + r)))]) hx hb d_Sales_serve_73 hl (k := 5) rfl ((nI_succ _).symm) (by decide) rfl (fun ls hl => ?_)
          refine lv_goto (tgt := 5) hx hb d_Sales_serve_76 (by decide) ?_
          have el3 : (svS I ow S0 o (S0 0 r) lf (c + 1)).2 = (((svS I ow S0 o (S0 0 r) lf c).2) + (mnI (((svS I ow S0 o (S0 0 r) lf c).1) c) (((I 7 o) - ((svS I ow S0 o (S0 0 r) lf c).2))))) := by rw [e7]
          have hl : lv_has ls 6 [(4, .int (nI (c + 1))), (3, .int ((svS I ow S0 o (S0 0 r) lf (c + 1)).2)), (5, .int (mnI (((svS I ow S0 o (S0 0 r) lf c).1) c) (((I 7 o) - ((svS I ow S0 o (S0 0 r) lf c).2))))), (0, .ref (ad (3))), (1, .ref (ad (48 + o))), (2, .ref (ad (100 + r)))] := by
            have h9 := hl
            revert h9; rw [show Value.int ((svS I ow S0 o (S0 0 r) lf (c + 1)).2) = Value.int ((((svS I ow S0 o (S0 0 r) lf c).2) + (mnI (((svS I ow S0 o (S0 0 r) lf c).1) c) (((I 7 o) - ((svS I ow S0 o (S0 0 r) lf c).2)))))) from congrArg _ el3]; intro h9
            exact h9
          have hw := nw_W.as (wn' := hW ad tC n I K bw LA bM aM (upR S 0 7 ((svS I ow S0 o (S0 0 r) lf (c + 1)).1))) hw (by rw [e7])
          exact ih5 (c + 1) (by omega) (by omega) _ _ ls hw hS (lv_sub hl [3, 4, 5, 1, 0] rfl)
  exact loop5 (n 2 + 1) (0) (by omega) (by omega) _ _ ls hw hS (lv_sub hl [2, 3, 4, 1, 0] rfl)

set_option maxHeartbeats 4000000 in
set_option maxRecDepth 100000 in
/-- what the rest is worth -/
theorem c_Sales_priceOfRest (l : Launch) (D : va_G) (tC : Nat → ClassId) (A : Nat → Prop) (ad : Nat → Nat) (n : Nat → Nat) (I : Nat → Nat → Int32) (K : Nat → Int32) (bw : Int64) (LA : Nat → Int64) (bM : Nat → Option va_E) (aM : Nat → Nat → Option (ClassId × Nat)) (S0 S : Nat → Nat → Nat → Int32) (hsc : scr S0 S) (hN : hpN n) (r : Nat) (hr0 : r = 0 ∨ r = 9) : nw_Met l y_Sales_priceOfRest [Cond.code y_Sales_priceOfRest b_Sales_priceOfRest 5 (some .long)] ({ frames := 1, cells := 0, slots := 0, locals := 21 } : Room) D hpC A [.ref (ad (3)), .ref (ad (100 + r))] (nw_pre D hpC (hpT tC) A (hW ad tC n I K bw LA bM aM S) ad) (nw_ok (some (.long (prS n I S0 (S0 0 r) (S 0 7) (n 2)))) (hW ad tC n I K bw LA bM aM S) ad) 0 0 := by
  refine nw_bodyK (by decide) (Nat.le_of_ble_eq_true rfl) ?_
  intro p e s m below meth cd ls args Q hSx hr hlocks hname hA hKs hw hS hl hQ
  obtain ⟨hx, hb, hml, hown, hts⟩ := id hSx
  have hK := hKs.1
  have hl : lv_has ls 5 [(0, .ref (ad (3))), (1, .ref (ad (100 + r)))] := hl
  obtain ⟨hn0, hn0', hn1, hn2, hn3, hn4⟩ := id hN
  refine lv_lconst (v := 0) hx hb d_Sales_priceOfRest_0 (by decide) ?_
  refine lv_lstore_n (lv' := [(2, .long (0)), (0, .ref (ad (3))), (1, .ref (ad (100 + r)))]) hx hb d_Sales_priceOfRest_1 rfl hl (by decide) rfl (fun ls hl => ?_)
  refine lv_iconst (v := nI 0) hx hb d_Sales_priceOfRest_2 (by decide) ?_
  refine lv_istore (lv' := [(4, .int (nI 0)), (2, .long (0)), (0, .ref (ad (3))), (1, .ref (ad (100 + r)))]) hx hb d_Sales_priceOfRest_3 hl (by decide) rfl (fun ls hl => ?_)
  have loop5 : ∀ (k c : Nat), c ≤ n 2 → n 2 + 1 ≤ c + k → ∀ (H : Heap) (locs : List Loc) (ls : Array Slot), nw_W D hpC A (hW ad tC n I K bw LA bM aM S) ad H → va_S A s.heap H locs → lv_has ls 5 [(0, .ref (ad (3))), (1, .ref (ad (100 + r))), (2, .long (prS n I S0 (S0 0 r) (S 0 7) c)), (4, .int (nI c))] → W p l e ({ frames := 1, cells := 0, slots := 0, locals := 21 } : Room) s m args below meth cd H locs 0 0 Q (F0 m 5 ls []) := by
    intro k
    induction k with
    | zero => intro c h1 h2; exact absurd h2 (by omega)
    | succ k ih5 =>
      intro c hv5 hk5 H locs ls hw hS hl
      refine lv_iload hx hb d_Sales_priceOfRest_5 (lv_at hl 3 rfl) ?_
      refine lv_aload_n hx hb d_Sales_priceOfRest_7 rfl (lv_at hl 0 rfl) ?_
      refine nw_get hx hb hts i_Sales hown hK hw (3) (hW_3) rfl 0 (by decide) (hts _ kw_143) (fun _ h9 => h9) rfl d_Sales_priceOfRest_8 ?_
      refine nw_getN hx hb hts i_Farm hown hK hw (1) (hW_1) rfl 8 (by decide) (va_Nw.use rfl (hKs.2.2 _ kn_71 rfl)) (fun _ h9 => h9) rfl d_Sales_priceOfRest_11 ?_
      refine lv_icmp_ge (tgt := 63) hx hb d_Sales_priceOfRest_14 (by decide) (fun c_14 => ?_) (fun c_14 => ?_)
      · skip
        have hge14 : n 2 ≤ c := (nI_leI (by omega) (by omega)).mp c_14
        obtain rfl : n 2 = c := by omega
        refine lv_lload_n hx hb d_Sales_priceOfRest_63 rfl (lv_at hl 2 rfl) ?_
        exact nw_lret hQ hx hb hr hlocks hw hS (nw_okL rfl) (Nat.le_of_ble_eq_true rfl) (Nat.le_of_ble_eq_true rfl) d_Sales_priceOfRest_64
      · skip
        have hlt : c < n 2 := Nat.not_le.mp (fun q => c_14 (nI_le q (by omega)))
        refine lv_lload_n hx hb d_Sales_priceOfRest_17 rfl (lv_at hl 2 rfl) ?_
        refine lv_aload_n hx hb d_Sales_priceOfRest_18 rfl (lv_at hl 1 rfl) ?_
        refine lv_iload hx hb d_Sales_priceOfRest_19 (lv_at hl 3 rfl) ?_
        refine nw_iald hx hb hK hw (100 + r) 0 (hW_row (t := 0) (j := r) (by decide) (by omega) (aX_pl hr0)) rfl (c) (rfl) (by omega) (by omega) d_Sales_priceOfRest_21 ?_
        refine lv_ei (y := S0 0 r c) (congrFun (hsc 0 r (by omega)) _) ?_
        refine lv_iconst (v := (-1)) hx hb d_Sales_priceOfRest_22 (by decide) ?_
        refine lv_icmp_ne (tgt := 38) hx hb d_Sales_priceOfRest_23 (by decide) (fun c_23 => ?_) (fun c_23 => ?_)
        · skip
          have e2 : prS n I S0 (S0 0 r) (S 0 7) (c + 1) = prS n I S0 (S0 0 r) (S 0 7) c + (S 0 7 c).toInt64 * (I 0 1).toInt64 := prS_f c_23
          refine lv_aload_n hx hb d_Sales_priceOfRest_38 rfl (lv_at hl 0 rfl) ?_
          refine nw_get hx hb hts i_Sales hown hK hw (3) (hW_3) rfl 1 (by decide) (hts _ kw_144) (fun _ h9 => h9) rfl d_Sales_priceOfRest_39 ?_
          refine lv_iload hx hb d_Sales_priceOfRest_42 (lv_at hl 3 rfl) ?_
          refine nw_iald hx hb hK hw (107) 0 (hW_row (t := 0) (j := 7) (by decide) (by omega) (rfl)) rfl (c) (rfl) (by omega) (by omega) d_Sales_priceOfRest_44 ?_
          refine lv_i2l (v := (((S 0 7 (c))).toInt64)) hx hb d_Sales_priceOfRest_45 rfl ?_
          refine lv_aload_n hx hb d_Sales_priceOfRest_46 rfl (lv_at hl 0 rfl) ?_
          refine nw_get hx hb hts i_Sales hown hK hw (3) (hW_3) rfl 0 (by decide) (hts _ kw_143) (fun _ h9 => h9) rfl d_Sales_priceOfRest_47 ?_
          refine nw_getN hx hb hts i_Farm hown hK hw (1) (hW_1) rfl 11 (by decide) (va_Nw.use rfl (hKs.2.2 _ kn_82 rfl)) (fun _ h9 => h9) rfl d_Sales_priceOfRest_50 ?_
          refine lv_i2l (v := ((I 0 1).toInt64)) hx hb d_Sales_priceOfRest_53 rfl ?_
          refine lv_lmul hx hb d_Sales_priceOfRest_54 ?_
          refine lv_ladd hx hb d_Sales_priceOfRest_55 ?_
          refine lv_lstore_n (lv' := [(2, .long (((prS n I S0 (S0 0 r) (S 0 7) c) + ((((((S 0 7 (c))).toInt64)) * (((I 0 1).toInt64))))))), (0, .ref (ad (3))), (1, .ref (ad (100 + r))), (4, .int (nI c))]) hx hb d_Sales_priceOfRest_56 rfl hl (by decide) rfl (fun ls hl => ?_)
          refine lv_iinc (v := nI (c + 1)) (lv' := [(4, .int (nI (c + 1))), (2, .long (((prS n I S0 (S0 0 r) (S 0 7) c) + ((((((S 0 7 (c))).toInt64)) * (((I 0 1).toInt64))))))), (0, .ref (ad (3))), (1, .ref (ad (100 + r)))]) hx hb d_Sales_priceOfRest_57 hl (k := 3) rfl ((nI_succ _).symm) (by decide) rfl (fun ls hl => ?_)
          refine lv_goto (tgt := 5) hx hb d_Sales_priceOfRest_60 (by decide) ?_
          have el2 : prS n I S0 (S0 0 r) (S 0 7) (c + 1) = ((prS n I S0 (S0 0 r) (S 0 7) c) + ((((((S 0 7 (c))).toInt64)) * (((I 0 1).toInt64))))) := e2
          have hl : lv_has ls 5 [(4, .int (nI (c + 1))), (2, .long (prS n I S0 (S0 0 r) (S 0 7) (c + 1))), (0, .ref (ad (3))), (1, .ref (ad (100 + r)))] := by
            have h9 := hl
            revert h9; rw [show Value.long (prS n I S0 (S0 0 r) (S 0 7) (c + 1)) = Value.long (((prS n I S0 (S0 0 r) (S 0 7) c) + ((((((S 0 7 (c))).toInt64)) * (((I 0 1).toInt64)))))) from congrArg _ el2]; intro h9
            exact h9
          exact ih5 (c + 1) (by omega) (by omega) _ _ ls hw hS (lv_sub hl [2, 3, 1, 0] rfl)
        · skip
          have e2 : prS n I S0 (S0 0 r) (S 0 7) (c + 1) = prS n I S0 (S0 0 r) (S 0 7) c + ckL n I S0 c := prS_t c_23
          refine lv_aload_n hx hb d_Sales_priceOfRest_26 rfl (lv_at hl 0 rfl) ?_
          refine nw_get hx hb hts i_Sales hown hK hw (3) (hW_3) rfl 0 (by decide) (hts _ kw_143) (fun _ h9 => h9) rfl d_Sales_priceOfRest_27 ?_
          refine lv_iload hx hb d_Sales_priceOfRest_30 (lv_at hl 3 rfl) ?_
          refine nw_callD (nw_goVN (n := 1) (As := [.int (nI c)]) (rest := [.long (prS n I S0 (S0 0 r) (S 0 7) c)]) hSx hA hKs hw hS (c_Farm_centsKept l D tC A ad n I K bw LA bM aM S0 S hsc hN c (by omega)) kw_241 kn_565 kw_240 ks_Farm_centsKept kw_2 rfl rfl (by decide +kernel) ⟨Nat.le_of_ble_eq_true rfl, Nat.le_of_ble_eq_true rfl⟩ (nw_recv hK hw (hW_1) rfl) rfl hl.1 (Nat.le_of_ble_eq_true rfl) d_Sales_priceOfRest_32 ⟨Nat.le_of_ble_eq_true rfl, Nat.le_of_ble_eq_true rfl⟩) hS (fun H locs hw hS => ?_)
          refine lv_goto (tgt := 55) hx hb d_Sales_priceOfRest_35 (by decide) ?_
          refine lv_ladd hx hb d_Sales_priceOfRest_55 ?_
          refine lv_lstore_n (lv' := [(2, .long (((prS n I S0 (S0 0 r) (S 0 7) c) + (ckL n I S0 c)))), (0, .ref (ad (3))), (1, .ref (ad (100 + r))), (4, .int (nI c))]) hx hb d_Sales_priceOfRest_56 rfl hl (by decide) rfl (fun ls hl => ?_)
          refine lv_iinc (v := nI (c + 1)) (lv' := [(4, .int (nI (c + 1))), (2, .long (((prS n I S0 (S0 0 r) (S 0 7) c) + (ckL n I S0 c)))), (0, .ref (ad (3))), (1, .ref (ad (100 + r)))]) hx hb d_Sales_priceOfRest_57 hl (k := 3) rfl ((nI_succ _).symm) (by decide) rfl (fun ls hl => ?_)
          refine lv_goto (tgt := 5) hx hb d_Sales_priceOfRest_60 (by decide) ?_
          have el2 : prS n I S0 (S0 0 r) (S 0 7) (c + 1) = ((prS n I S0 (S0 0 r) (S 0 7) c) + (ckL n I S0 c)) := e2
          have hl : lv_has ls 5 [(4, .int (nI (c + 1))), (2, .long (prS n I S0 (S0 0 r) (S 0 7) (c + 1))), (0, .ref (ad (3))), (1, .ref (ad (100 + r)))] := by
            have h9 := hl
            revert h9; rw [show Value.long (prS n I S0 (S0 0 r) (S 0 7) (c + 1)) = Value.long (((prS n I S0 (S0 0 r) (S 0 7) c) + (ckL n I S0 c))) from congrArg _ el2]; intro h9
            exact h9
          exact ih5 (c + 1) (by omega) (by omega) _ _ ls hw hS (lv_sub hl [2, 3, 1, 0] rfl)
  exact loop5 (n 2 + 1) (0) (by omega) (by omega) _ _ ls hw hS (lv_sub hl [2, 3, 1, 0] rfl)
end
section
/-! PURE WORDS of sellAll: the worth, what orders get; neither depends on what the scratch rows held before -/
theorem upR_same2 {S : Nat → Nat → Nat → Int32} {t j : Nat} {f : Nat → Int32} (h : f = S t j) : upR S t j f = S := by subst h; exact upR_same
theorem lfA_val {pl : Nat → Int32} {kl : Nat → Nat → Int32} {pw : Nat → Nat} {f g : Nat → Int32} {N c : Nat} (hc : c < N) : lfA pl kl pw f N c = lfA pl kl pw g N c := by
  induction N with
  | zero => exact absurd hc (Nat.not_lt_zero c)
  | succ N ih =>
    simp only [lfA, upd]
    by_cases h : c = N
    · rw [if_pos h, if_pos h]
    · rw [if_neg h, if_neg h]
      exact ih (by omega)
section BASE
variable {n : Nat → Nat} {I : Nat → Nat → Int32} {ow sq : Nat → Nat} {S0 : Nat → Nat → Nat → Int32} {o N : Nat} {pl lf lf' gt gt' : Nat → Int32}
theorem svS_base (h : ∀ c, c < N → lf c = lf' c) : ∀ k, k ≤ N → (∀ c, c < N → (svS I ow S0 o pl lf k).1 c = (svS I ow S0 o pl lf' k).1 c) ∧ (svS I ow S0 o pl lf k).2 = (svS I ow S0 o pl lf' k).2 := by
  intro k
  induction k with
  | zero => exact fun _ => ⟨h, rfl⟩
  | succ k ih =>
    intro hk
    obtain ⟨h1, h2⟩ := ih (by omega)
    by_cases hp : pWants I ow S0 o k (pl k)
    · rw [svS_t (lf := lf) hp, svS_t (lf := lf') hp, h1 k (by omega), h2]
      refine ⟨fun c hc => ?_, rfl⟩
      simp only [upd]
      by_cases hq : c = k
      · rw [if_pos hq, if_pos hq]
      · rw [if_neg hq, if_neg hq]
        exact h1 c hc
    · rw [svS_f (lf := lf) hp, svS_f (lf := lf') hp]
      exact ⟨h1, h2⟩
theorem saS_base (h : ∀ c, c < n 2 → lf c = lf' c) : ∀ k, (∀ c, c < n 2 → (saS n I ow sq S0 pl lf gt k).1 c = (saS n I ow sq S0 pl lf' gt' k).1 c) ∧ (∀ q, (∃ j, j < k ∧ sq j = q) → (saS n I ow sq S0 pl lf gt k).2.1 q = (saS n I ow sq S0 pl lf' gt' k).2.1 q) ∧ (saS n I ow sq S0 pl lf gt k).2.2 = (saS n I ow sq S0 pl lf' gt' k).2.2 := by
  intro k
  induction k with
  | zero => exact ⟨h, fun q ⟨j, hj, _⟩ => absurd hj (Nat.not_lt_zero j), rfl⟩
  | succ k ih =>
    obtain ⟨h1, h2, h3⟩ := ih
    obtain ⟨g1, g2⟩ := svS_base (I := I) (ow := ow) (S0 := S0) (o := sq k) (pl := pl) h1 (n 2) (Nat.le_refl _)
    refine ⟨g1, fun q hq => ?_, ?_⟩
    · simp only [saS, upd]
      by_cases he : q = sq k
      · rw [if_pos he, if_pos he, g2]
      · rw [if_neg he, if_neg he]
        obtain ⟨j, hj, hjq⟩ := hq
        exact h2 q ⟨j, by rcases Nat.lt_or_ge j k with hl | hl; exact hl; exact absurd (by rw [← hjq, show j = k by omega]) he, hjq⟩
    · simp only [saS]
      rw [g2, h3]
theorem prS_base (h : ∀ c, c < N → lf c = lf' c) : ∀ k, k ≤ N → prS n I S0 pl lf k = prS n I S0 pl lf' k := by
  intro k
  induction k with
  | zero => exact fun _ => rfl
  | succ k ih =>
    intro hk
    simp only [prS]
    rw [ih (by omega), h k (by omega)]
end BASE
/-- a plan's week of a cage, where it has one -/
def pwF (pl : Nat → Int32) (c : Nat) : Nat := (pl c).toNatClampNeg
def okT (n : Nat → Nat) (pl : Nat → Int32) : Prop := ∀ c, c < n 2 → pl c = -1 ∨ ∃ w, w < n 0 ∧ pl c = nI w
theorem okT_pw {n : Nat → Nat} {pl : Nat → Int32} (hn : n 0 ≤ 8) (h : okT n pl) : ∀ c, c < n 2 → pl c = -1 ∨ (pl c = nI (pwF pl c) ∧ pwF pl c < n 0) := by
  intro c hc
  rcases h c hc with h1 | ⟨w, hw, h1⟩
  · exact Or.inl h1
  · refine Or.inr ?_
    have e : pwF pl c = w := by rw [pwF, h1, nI_clamp (by omega)]
    rw [e]
    exact ⟨h1, hw⟩
noncomputable def saF (n : Nat → Nat) (I : Nat → Nat → Int32) (ow sq : Nat → Nat) (S0 : Nat → Nat → Nat → Int32) (pl : Nat → Int32) : (Nat → Int32) × (Nat → Int32) × Int64 := saS n I ow sq S0 pl (lfA pl (S0 3) (pwF pl) (fun _ => 0) (n 2)) (fun _ => 0) (n 4)
/-- THE WORTH -/
noncomputable def wrL (n : Nat → Nat) (I : Nat → Nat → Int32) (ow sq : Nat → Nat) (S0 : Nat → Nat → Nat → Int32) (pl : Nat → Int32) : Int64 := (saF n I ow sq S0 pl).2.2 + prS n I S0 pl (saF n I ow sq S0 pl).1 (n 2)
theorem wr_base {n : Nat → Nat} {I : Nat → Nat → Int32} {ow sq : Nat → Nat} {S0 : Nat → Nat → Nat → Int32} {pl f g : Nat → Int32} : (saS n I ow sq S0 pl (lfA pl (S0 3) (pwF pl) f (n 2)) g (n 4)).2.2 + prS n I S0 pl (saS n I ow sq S0 pl (lfA pl (S0 3) (pwF pl) f (n 2)) g (n 4)).1 (n 2) = wrL n I ow sq S0 pl := by
  obtain ⟨h1, h2, h3⟩ := saS_base (n := n) (I := I) (ow := ow) (sq := sq) (S0 := S0) (pl := pl) (lf := lfA pl (S0 3) (pwF pl) f (n 2)) (lf' := lfA pl (S0 3) (pwF pl) (fun _ => 0) (n 2)) (gt := g) (gt' := fun _ => 0) (fun c hc => lfA_val hc) (n 4)
  rw [wrL, saF, h3, prS_base h1 (n 2) (Nat.le_refl _)]
theorem sd_base {n : Nat → Nat} {I : Nat → Nat → Int32} {ow sq : Nat → Nat} {S0 : Nat → Nat → Nat → Int32} {pl f g : Nat → Int32} {q : Nat} (hq : ∃ j, j < n 4 ∧ sq j = q) : (saS n I ow sq S0 pl (lfA pl (S0 3) (pwF pl) f (n 2)) g (n 4)).2.1 q = (saF n I ow sq S0 pl).2.1 q :=
  (saS_base (n := n) (I := I) (ow := ow) (sq := sq) (S0 := S0) (pl := pl) (lf := lfA pl (S0 3) (pwF pl) f (n 2)) (lf' := lfA pl (S0 3) (pwF pl) (fun _ => 0) (n 2)) (gt := g) (gt' := fun _ => 0) (fun c hc => lfA_val hc) (n 4)).2.1 q hq
/-- it returns v; scratch is another one, of which X holds -/
def nw_sx (v : Option Value) (wf : (Nat → Nat → Nat → Int32) → nw_N) (S0 : Nat → Nat → Nat → Int32) (ad : Nat → Nat) (X : (Nat → Nat → Nat → Int32) → Prop) : nw_P := fun o wn' ad' => o = v ∧ ad' = ad ∧ ∃ S', scr S0 S' ∧ X S' ∧ wn' = wf S'
theorem nw_sxL {x v : Int64} {wf : (Nat → Nat → Nat → Int32) → nw_N} {S0 S' : Nat → Nat → Nat → Int32} {ad : Nat → Nat} {X : (Nat → Nat → Nat → Int32) → Prop} (hs : scr S0 S') (hX : X S') (h : x = v) : nw_sx (some (.long v)) wf S0 ad X (some (.long x)) (wf S') ad := by subst h; exact ⟨rfl, rfl, S', hs, hX, rfl⟩
theorem nw_sx_out {v rv : Option Value} {wf : (Nat → Nat → Nat → Int32) → nw_N} {S0 : Nat → Nat → Nat → Int32} {ad ad' : Nat → Nat} {X : (Nat → Nat → Nat → Int32) → Prop} {wn' : nw_N} {D : va_G} {cl : List vw_C} {A : Nat → Prop} {H : Heap} (h : nw_sx v wf S0 ad X rv wn' ad') (hw : nw_W D cl A wn' ad' H) : rv = v ∧ ∃ S', scr S0 S' ∧ X S' ∧ nw_W D cl A (wf S') ad H := by
  obtain ⟨h1, h2, S', h3, h5, h4⟩ := h
  rw [h2, h4] at hw
  exact ⟨h1, S', h3, h5, hw⟩
end
section
set_option maxHeartbeats 4000000 in
set_option maxRecDepth 100000 in
/-- THE WORTH of a plan -/
theorem c_Sales_sellAll (l : Launch) (D : va_G) (tC : Nat → ClassId) (A : Nat → Prop) (ad : Nat → Nat) (n : Nat → Nat) (I : Nat → Nat → Int32) (K : Nat → Int32) (bw : Int64) (LA : Nat → Int64) (bM : Nat → Option va_E) (aM : Nat → Nat → Option (ClassId × Nat)) (S0 S : Nat → Nat → Nat → Int32) (hsc : scr S0 S) (hN : hpN n) (r : Nat) (hr0 : r = 0 ∨ r = 9) (hPl : okT n (S0 0 r)) (ow : Nat → Nat) (hO : ∀ o, o < n 4 → I 4 o = nI (ow o) ∧ ow o < n 0) (sq : Nat → Nat) (hSq : ∀ k, k < n 4 → S0 0 1 k = nI (sq k) ∧ sq k < n 4) (hSo : ∀ q, q < n 4 → ∃ j, j < n 4 ∧ sq j = q) : nw_Met l y_Sales_sellAll [Cond.code y_Sales_sellAll b_Sales_sellAll 6 (some .long)] ({ frames := 2, cells := 0, slots := 0, locals := 47 } : Room) D hpC A [.ref (ad (3)), .ref (ad (100 + r))] (nw_pre D hpC (hpT tC) A (hW ad tC n I K bw LA bM aM S) ad) (nw_sx (some (.long (wrL n I ow sq S0 (S0 0 r)))) (fun S' => hW ad tC n I K bw LA bM aM S') S0 ad (fun S' => ∀ q, q < n 4 → S' 0 8 q = (saF n I ow sq S0 (S0 0 r)).2.1 q)) 0 0 := by
  refine nw_bodyK (by decide) (Nat.le_of_ble_eq_true rfl) ?_
  intro p e s m below meth cd ls args Q hSx hr hlocks hname hA hKs hw hS hl hQ
  obtain ⟨hx, hb, hml, hown, hts⟩ := id hSx
  have hK := hKs.1
  have hl : lv_has ls 6 [(0, .ref (ad (3))), (1, .ref (ad (100 + r)))] := hl
  obtain ⟨hn0, hn0', hn1, hn2, hn3, hn4⟩ := id hN
  refine lv_iconst (v := nI 0) hx hb d_Sales_sellAll_0 (by decide) ?_
  refine lv_istore_n (lv' := [(2, .int (nI 0)), (0, .ref (ad (3))), (1, .ref (ad (100 + r)))]) hx hb d_Sales_sellAll_1 rfl hl (by decide) rfl (fun ls hl => ?_)
  have hw := nw_W.as (wn' := hW ad tC n I K bw LA bM aM (upR S 0 7 (lfA (S0 0 r) (S0 3) (pwF (S0 0 r)) (S 0 7) 0))) hw (by rw [show lfA (S0 0 r) (S0 3) (pwF (S0 0 r)) (S 0 7) 0 = S 0 7 from rfl, upR_same])
  have loop2 : ∀ (k c : Nat), c ≤ n 2 → n 2 + 1 ≤ c + k → ∀ (H : Heap) (locs : List Loc) (ls : Array Slot), nw_W D hpC A (hW ad tC n I K bw LA bM aM (upR S 0 7 (lfA (S0 0 r) (S0 3) (pwF (S0 0 r)) (S 0 7) c))) ad H → va_S A s.heap H locs → lv_has ls 6 [(0, .ref (ad (3))), (1, .ref (ad (100 + r))), (2, .int (nI c))] → W p l e ({ frames := 2, cells := 0, slots := 0, locals := 47 } : Room) s m args below meth cd H locs 0 0 Q (F0 m 2 ls []) := by
    intro k
    induction k with
    | zero => intro c h1 h2; exact absurd h2 (by omega)
    | succ k ih2 =>
      intro c hv2 hk2 H locs ls hw hS hl
      refine lv_iload_n hx hb d_Sales_sellAll_2 rfl (lv_at hl 2 rfl) ?_
      refine lv_aload_n hx hb d_Sales_sellAll_3 rfl (lv_at hl 0 rfl) ?_
      refine nw_get hx hb hts i_Sales hown hK hw (3) (hW_3) rfl 0 (by decide) (hts _ kw_143) (fun _ h9 => h9) rfl d_Sales_sellAll_4 ?_
      refine nw_getN hx hb hts i_Farm hown hK hw (1) (hW_1) rfl 8 (by decide) (va_Nw.use rfl (hKs.2.2 _ kn_71 rfl)) (fun _ h9 => h9) rfl d_Sales_sellAll_7 ?_
      refine lv_icmp_ge (tgt := 52) hx hb d_Sales_sellAll_10 (by decide) (fun c_10 => ?_) (fun c_10 => ?_)
      · skip
        have hge10 : n 2 ≤ c := (nI_leI (by omega) (by omega)).mp c_10
        obtain rfl : n 2 = c := by omega
        refine lv_lconst (v := 0) hx hb d_Sales_sellAll_52 (by decide) ?_
        refine lv_lstore_n (lv' := [(2, .long (0)), (0, .ref (ad (3))), (1, .ref (ad (100 + r)))]) hx hb d_Sales_sellAll_53 rfl hl (by decide) rfl (fun ls hl => ?_)
        refine lv_iconst (v := nI 0) hx hb d_Sales_sellAll_54 (by decide) ?_
        refine lv_istore (lv' := [(4, .int (nI 0)), (2, .long (0)), (0, .ref (ad (3))), (1, .ref (ad (100 + r)))]) hx hb d_Sales_sellAll_55 hl (by decide) rfl (fun ls hl => ?_)
        have hw := nw_W.as (wn' := hW ad tC n I K bw LA bM aM (upR (upR S 0 7 ((saS n I ow sq S0 (S0 0 r) (lfA (S0 0 r) (S0 3) (pwF (S0 0 r)) (S 0 7) (n 2)) (S 0 8) 0).1)) 0 8 ((saS n I ow sq S0 (S0 0 r) (lfA (S0 0 r) (S0 3) (pwF (S0 0 r)) (S 0 7) (n 2)) (S 0 8) 0).2.1))) hw (by rw [upR_same2 (show (saS n I ow sq S0 (S0 0 r) (lfA (S0 0 r) (S0 3) (pwF (S0 0 r)) (S 0 7) (n 2)) (S 0 8) 0).2.1 = (upR S 0 7 (saS n I ow sq S0 (S0 0 r) (lfA (S0 0 r) (S0 3) (pwF (S0 0 r)) (S 0 7) (n 2)) (S 0 8) 0).1) 0 8 from (upR_ne (by omega)).symm)]; rfl)
        have loop57 : ∀ (k rk : Nat), rk ≤ n 4 → n 4 + 1 ≤ rk + k → ∀ (H : Heap) (locs : List Loc) (ls : Array Slot), nw_W D hpC A (hW ad tC n I K bw LA bM aM (upR (upR S 0 7 ((saS n I ow sq S0 (S0 0 r) (lfA (S0 0 r) (S0 3) (pwF (S0 0 r)) (S 0 7) (n 2)) (S 0 8) rk).1)) 0 8 ((saS n I ow sq S0 (S0 0 r) (lfA (S0 0 r) (S0 3) (pwF (S0 0 r)) (S 0 7) (n 2)) (S 0 8) rk).2.1))) ad H → va_S A s.heap H locs → lv_has ls 6 [(0, .ref (ad (3))), (1, .ref (ad (100 + r))), (2, .long ((saS n I ow sq S0 (S0 0 r) (lfA (S0 0 r) (S0 3) (pwF (S0 0 r)) (S 0 7) (n 2)) (S 0 8) rk).2.2)), (4, .int (nI rk))] → W p l e ({ frames := 2, cells := 0, slots := 0, locals := 47 } : Room) s m args below meth cd H locs 0 0 Q (F0 m 57 ls []) := by
          intro k
          induction k with
          | zero => intro rk h1 h2; exact absurd h2 (by omega)
          | succ k ih57 =>
            intro rk hv57 hk57 H locs ls hw hS hl
            refine lv_iload hx hb d_Sales_sellAll_57 (lv_at hl 3 rfl) ?_
            refine lv_aload_n hx hb d_Sales_sellAll_59 rfl (lv_at hl 0 rfl) ?_
            refine nw_get hx hb hts i_Sales hown hK hw (3) (hW_3) rfl 0 (by decide) (hts _ kw_143) (fun _ h9 => h9) rfl d_Sales_sellAll_60 ?_
            refine nw_getN hx hb hts i_Farm hown hK hw (1) (hW_1) rfl 10 (by decide) (va_Nw.use rfl (hKs.2.2 _ kn_79 rfl)) (fun _ h9 => h9) rfl d_Sales_sellAll_63 ?_
            refine lv_icmp_ge (tgt := 135) hx hb d_Sales_sellAll_66 (by decide) (fun c_66 => ?_) (fun c_66 => ?_)
            · skip
              have hge66 : n 4 ≤ rk := (nI_leI (by omega) (by omega)).mp c_66
              obtain rfl : n 4 = rk := by omega
              refine lv_lload_n hx hb d_Sales_sellAll_135 rfl (lv_at hl 2 rfl) ?_
              refine lv_aload_n hx hb d_Sales_sellAll_136 rfl (lv_at hl 0 rfl) ?_
              refine lv_aload_n hx hb d_Sales_sellAll_137 rfl (lv_at hl 1 rfl) ?_
              refine nw_callD (nw_goV (n := 1) (As := [.ref (ad (100 + r))]) (rest := [.long ((saS n I ow sq S0 (S0 0 r) (lfA (S0 0 r) (S0 3) (pwF (S0 0 r)) (S 0 7) (n 2)) (S 0 8) (n 4)).2.2)]) hSx hA hKs hw hS (c_Sales_priceOfRest l D tC A ad n I K bw LA bM aM S0 (upR (upR S 0 7 ((saS n I ow sq S0 (S0 0 r) (lfA (S0 0 r) (S0 3) (pwF (S0 0 r)) (S 0 7) (n 2)) (S 0 8) (n 4)).1)) 0 8 ((saS n I ow sq S0 (S0 0 r) (lfA (S0 0 r) (S0 3) (pwF (S0 0 r)) (S 0 7) (n 2)) (S 0 8) (n 4)).2.1)) (scr_up (scr_up hsc (by omega)) (by omega)) hN r hr0) kw_564 kw_561 kw_563 ks_Sales_priceOfRest kw_5 rfl rfl (by decide +kernel) ⟨Nat.le_of_ble_eq_true rfl, Nat.le_of_ble_eq_true rfl⟩ (nw_recv hK hw (hW_3) rfl) rfl hl.1 (Nat.le_of_ble_eq_true rfl) d_Sales_sellAll_138 ⟨Nat.le_of_ble_eq_true rfl, Nat.le_of_ble_eq_true rfl⟩) hS (fun H locs hw hS => ?_)
              refine lv_el (y := prS n I S0 (S0 0 r) (saS n I ow sq S0 (S0 0 r) (lfA (S0 0 r) (S0 3) (pwF (S0 0 r)) (S 0 7) (n 2)) (S 0 8) (n 4)).1 (n 2)) (by rw [upR_ne (by omega), upR_self]) ?_
              refine lv_ladd hx hb d_Sales_sellAll_141 ?_
              exact nw_lret hQ hx hb hr hlocks hw hS (nw_sxL (scr_up (scr_up hsc (by omega)) (by omega)) (fun q hq => by rw [upR_self]; exact sd_base (hSo q hq)) wr_base) (Nat.le_of_ble_eq_true rfl) (Nat.le_of_ble_eq_true rfl) d_Sales_sellAll_142
            · skip
              have hlt : rk < n 4 := Nat.not_le.mp (fun q => c_66 (nI_le q (by omega)))
              refine lv_aload_n hx hb d_Sales_sellAll_69 rfl (lv_at hl 0 rfl) ?_
              refine nw_get hx hb hts i_Sales hown hK hw (3) (hW_3) rfl 0 (by decide) (hts _ kw_143) (fun _ h9 => h9) rfl d_Sales_sellAll_70 ?_
              refine nw_getN hx hb hts i_Farm hown hK hw (1) (hW_1) rfl 5 (by decide) (va_Nw.use rfl (hKs.2.2 _ kn_64 rfl)) (fun _ h9 => h9) rfl d_Sales_sellAll_73 ?_
              refine lv_iload hx hb d_Sales_sellAll_76 (lv_at hl 3 rfl) ?_
              refine nw_iald hx hb hK hw (101) 0 (hW_row (t := 0) (j := 1) (by decide) (by omega) (rfl)) rfl (rk) (rfl) (by omega) (by omega) d_Sales_sellAll_78 ?_
              refine lv_ei (y := S0 0 1 rk) (congrFun ((scr_up (scr_up hsc (by omega)) (by omega)) 0 1 (by omega)) _) ?_
              refine lv_ei (y := nI (sq rk)) ((hSq rk (by omega)).1) ?_
              have hsq := (hSq rk (by omega)).2
              refine lv_istore (lv' := [(5, .int (nI (sq rk))), (0, .ref (ad (3))), (1, .ref (ad (100 + r))), (2, .long ((saS n I ow sq S0 (S0 0 r) (lfA (S0 0 r) (S0 3) (pwF (S0 0 r)) (S 0 7) (n 2)) (S 0 8) rk).2.2)), (4, .int (nI rk))]) hx hb d_Sales_sellAll_79 hl (by decide) rfl (fun ls hl => ?_)
              refine lv_aload_n hx hb d_Sales_sellAll_81 rfl (lv_at hl 1 rfl) ?_
              refine nw_get hx hb hts i_Sales hown hK hw (3) (hW_3) rfl 2 (by decide) (hts _ kw_145) (fun _ h9 => h9) rfl d_Sales_sellAll_82 ?_
              refine lv_iload hx hb d_Sales_sellAll_85 (lv_at hl 0 rfl) ?_
              refine lv_aload_n hx hb d_Sales_sellAll_87 rfl (lv_at hl 1 rfl) ?_
              refine lv_aload_n hx hb d_Sales_sellAll_88 rfl (lv_at hl 1 rfl) ?_
              refine nw_get hx hb hts i_Sales hown hK hw (3) (hW_3) rfl 0 (by decide) (hts _ kw_143) (fun _ h9 => h9) rfl d_Sales_sellAll_89 ?_
              refine nw_getN hx hb hts i_Farm hown hK hw (1) (hW_1) rfl 4 (by decide) (va_Nw.use rfl (hKs.2.2 _ kn_62 rfl)) (fun _ h9 => h9) rfl d_Sales_sellAll_92 ?_
              refine lv_iload hx hb d_Sales_sellAll_95 (lv_at hl 0 rfl) ?_
              refine nw_aald hx hb hK hw (9) 6 (hW_9) rfl (sq rk) (rfl) (by omega) (by omega) (y := ad (48 + (sq rk))) (if_pos (by omega)) d_Sales_sellAll_97 ?_
              refine lv_aload_n hx hb d_Sales_sellAll_98 rfl (lv_at hl 2 rfl) ?_
              refine nw_callD (nw_goV (n := 2) (As := [.ref (ad (48 + (sq rk))), .ref (ad (100 + r))]) (rest := [.int (nI (sq rk)), .ref (ad (108))]) hSx hA hKs hw hS (c_Sales_serve l D tC A ad n I K bw LA bM aM S0 (upR (upR S 0 7 ((saS n I ow sq S0 (S0 0 r) (lfA (S0 0 r) (S0 3) (pwF (S0 0 r)) (S 0 7) (n 2)) (S 0 8) rk).1)) 0 8 ((saS n I ow sq S0 (S0 0 r) (lfA (S0 0 r) (S0 3) (pwF (S0 0 r)) (S 0 7) (n 2)) (S 0 8) rk).2.1)) (scr_up (scr_up hsc (by omega)) (by omega)) hN r hr0 ow hO ((saS n I ow sq S0 (S0 0 r) (lfA (S0 0 r) (S0 3) (pwF (S0 0 r)) (S 0 7) (n 2)) (S 0 8) rk).1) (by rw [upR_ne (by omega), upR_self]) (sq rk) (by omega)) kw_558 kw_555 kw_557 ks_Sales_serve kw_5 rfl rfl (by decide +kernel) ⟨Nat.le_of_ble_eq_true rfl, Nat.le_of_ble_eq_true rfl⟩ (nw_recv hK hw (hW_3) rfl) rfl hl.1 (Nat.le_of_ble_eq_true rfl) d_Sales_sellAll_99 ⟨Nat.le_of_ble_eq_true rfl, Nat.le_of_ble_eq_true rfl⟩) hS (fun H locs hw hS => ?_)
              rw [upR_in (by omega)] at hw
              refine nw_iast hx hb hK hw hS (108) 0 (hW_row (t := 0) (j := 8) (by decide) (by omega) (rfl)) rfl (sq rk) (rfl) (by omega) (by omega) d_Sales_sellAll_102 (fun H locs hw hS => ?_)
              have hw := hW_setRow (t := 0) (j := 8) (by decide) (by omega) (rfl) hw
              rw [upR_upR, upR_self] at hw
              refine lv_lload_n hx hb d_Sales_sellAll_103 rfl (lv_at hl 3 rfl) ?_
              refine lv_aload_n hx hb d_Sales_sellAll_104 rfl (lv_at hl 1 rfl) ?_
              refine nw_get hx hb hts i_Sales hown hK hw (3) (hW_3) rfl 2 (by decide) (hts _ kw_145) (fun _ h9 => h9) rfl d_Sales_sellAll_105 ?_
              refine lv_iload hx hb d_Sales_sellAll_108 (lv_at hl 0 rfl) ?_
              refine nw_iald hx hb hK hw (108) 0 (hW_row (t := 0) (j := 8) (by decide) (by omega) (rfl)) rfl (sq rk) (rfl) (by omega) (by omega) d_Sales_sellAll_110 ?_
              refine lv_ei (y := (upd ((saS n I ow sq S0 (S0 0 r) (lfA (S0 0 r) (S0 3) (pwF (S0 0 r)) (S 0 7) (n 2)) (S 0 8) rk).2.1) (sq rk) ((svS I ow S0 (sq rk) (S0 0 r) ((saS n I ow sq S0 (S0 0 r) (lfA (S0 0 r) (S0 3) (pwF (S0 0 r)) (S 0 7) (n 2)) (S 0 8) rk).1) (n 2)).2)) (sq rk)) (congrFun upR_self _) ?_
              refine lv_ei (y := (svS I ow S0 (sq rk) (S0 0 r) ((saS n I ow sq S0 (S0 0 r) (lfA (S0 0 r) (S0 3) (pwF (S0 0 r)) (S 0 7) (n 2)) (S 0 8) rk).1) (n 2)).2) (pk_us) ?_
              refine lv_i2l (v := (((svS I ow S0 (sq rk) (S0 0 r) ((saS n I ow sq S0 (S0 0 r) (lfA (S0 0 r) (S0 3) (pwF (S0 0 r)) (S 0 7) (n 2)) (S 0 8) rk).1) (n 2)).2).toInt64)) hx hb d_Sales_sellAll_111 rfl ?_
              refine lv_aload_n hx hb d_Sales_sellAll_112 rfl (lv_at hl 1 rfl) ?_
              refine nw_get hx hb hts i_Sales hown hK hw (3) (hW_3) rfl 0 (by decide) (hts _ kw_143) (fun _ h9 => h9) rfl d_Sales_sellAll_113 ?_
              refine nw_getN hx hb hts i_Farm hown hK hw (1) (hW_1) rfl 4 (by decide) (va_Nw.use rfl (hKs.2.2 _ kn_62 rfl)) (fun _ h9 => h9) rfl d_Sales_sellAll_116 ?_
              refine lv_iload hx hb d_Sales_sellAll_119 (lv_at hl 0 rfl) ?_
              refine nw_aald hx hb hK hw (9) 6 (hW_9) rfl (sq rk) (rfl) (by omega) (by omega) (y := ad (48 + (sq rk))) (if_pos (by omega)) d_Sales_sellAll_121 ?_
              refine nw_getN hx hb hts i_Order hown hK hw (48 + (sq rk)) (hW_order hN (by omega)) rfl 4 (by decide) (va_Nw.use rfl (hKs.2.2 _ kn_498 rfl)) (fun _ h9 => h9) rfl d_Sales_sellAll_122 ?_
              refine lv_i2l (v := ((I 8 (sq rk)).toInt64)) hx hb d_Sales_sellAll_125 rfl ?_
              refine lv_lmul hx hb d_Sales_sellAll_126 ?_
              refine lv_ladd hx hb d_Sales_sellAll_127 ?_
              refine lv_lstore_n (lv' := [(2, .long ((((saS n I ow sq S0 (S0 0 r) (lfA (S0 0 r) (S0 3) (pwF (S0 0 r)) (S 0 7) (n 2)) (S 0 8) rk).2.2) + ((((((svS I ow S0 (sq rk) (S0 0 r) ((saS n I ow sq S0 (S0 0 r) (lfA (S0 0 r) (S0 3) (pwF (S0 0 r)) (S 0 7) (n 2)) (S 0 8) rk).1) (n 2)).2).toInt64)) * (((I 8 (sq rk)).toInt64))))))), (5, .int (nI (sq rk))), (0, .ref (ad (3))), (1, .ref (ad (100 + r))), (4, .int (nI rk))]) hx hb d_Sales_sellAll_128 rfl hl (by decide) rfl (fun ls hl => ?_)
              refine lv_iinc (v := nI (rk + 1)) (lv' := [(4, .int (nI (rk + 1))), (2, .long ((((saS n I ow sq S0 (S0 0 r) (lfA (S0 0 r) (S0 3) (pwF (S0 0 r)) (S 0 7) (n 2)) (S 0 8) rk).2.2) + ((((((svS I ow S0 (sq rk) (S0 0 r) ((saS n I ow sq S0 (S0 0 r) (lfA (S0 0 r) (S0 3) (pwF (S0 0 r)) (S 0 7) (n 2)) (S 0 8) rk).1) (n 2)).2).toInt64)) * (((I 8 (sq rk)).toInt64))))))), (5, .int (nI (sq rk))), (0, .ref (ad (3))), (1, .ref (ad (100 + r)))]) hx hb d_Sales_sellAll_129 hl (k := 4) rfl ((nI_succ _).symm) (by decide) rfl (fun ls hl => ?_)
              refine lv_goto (tgt := 57) hx hb d_Sales_sellAll_132 (by decide) ?_
              have el2 : (saS n I ow sq S0 (S0 0 r) (lfA (S0 0 r) (S0 3) (pwF (S0 0 r)) (S 0 7) (n 2)) (S 0 8) (rk + 1)).2.2 = (((saS n I ow sq S0 (S0 0 r) (lfA (S0 0 r) (S0 3) (pwF (S0 0 r)) (S 0 7) (n 2)) (S 0 8) rk).2.2) + ((((((svS I ow S0 (sq rk) (S0 0 r) ((saS n I ow sq S0 (S0 0 r) (lfA (S0 0 r) (S0 3) (pwF (S0 0 r)) (S 0 7) (n 2)) (S 0 8) rk).1) (n 2)).2).toInt64)) * (((I 8 (sq rk)).toInt64))))) := rfl
              have hl : lv_has ls 6 [(4, .int (nI (rk + 1))), (2, .long ((saS n I ow sq S0 (S0 0 r) (lfA (S0 0 r) (S0 3) (pwF (S0 0 r)) (S 0 7) (n 2)) (S 0 8) (rk + 1)).2.2)), (5, .int (nI (sq rk))), (0, .ref (ad (3))), (1, .ref (ad (100 + r)))] := by
                have h9 := hl
                revert h9; rw [show Value.long ((saS n I ow sq S0 (S0 0 r) (lfA (S0 0 r) (S0 3) (pwF (S0 0 r)) (S 0 7) (n 2)) (S 0 8) (rk + 1)).2.2) = Value.long ((((saS n I ow sq S0 (S0 0 r) (lfA (S0 0 r) (S0 3) (pwF (S0 0 r)) (S 0 7) (n 2)) (S 0 8) rk).2.2) + ((((((svS I ow S0 (sq rk) (S0 0 r) ((saS n I ow sq S0 (S0 0 r) (lfA (S0 0 r) (S0 3) (pwF (S0 0 r)) (S 0 7) (n 2)) (S 0 8) rk).1) (n 2)).2).toInt64)) * (((I 8 (sq rk)).toInt64)))))) from congrArg _ el2]; intro h9
                exact h9
              have hw := nw_W.as (wn' := hW ad tC n I K bw LA bM aM (upR (upR S 0 7 ((saS n I ow sq S0 (S0 0 r) (lfA (S0 0 r) (S0 3) (pwF (S0 0 r)) (S 0 7) (n 2)) (S 0 8) (rk + 1)).1)) 0 8 ((saS n I ow sq S0 (S0 0 r) (lfA (S0 0 r) (S0 3) (pwF (S0 0 r)) (S 0 7) (n 2)) (S 0 8) (rk + 1)).2.1))) hw (rfl)
              exact ih57 (rk + 1) (by omega) (by omega) _ _ ls hw hS (lv_sub hl [3, 4, 1, 0] rfl)
        exact loop57 (n 4 + 1) (0) (by omega) (by omega) _ _ ls hw hS (lv_sub hl [2, 3, 1, 0] rfl)
      · skip
        have hlt : c < n 2 := Nat.not_le.mp (fun q => c_10 (nI_le q (by omega)))
        refine lv_aload_n hx hb d_Sales_sellAll_13 rfl (lv_at hl 0 rfl) ?_
        refine nw_get hx hb hts i_Sales hown hK hw (3) (hW_3) rfl 1 (by decide) (hts _ kw_144) (fun _ h9 => h9) rfl d_Sales_sellAll_14 ?_
        refine lv_iload_n hx hb d_Sales_sellAll_17 rfl (lv_at hl 2 rfl) ?_
        refine lv_aload_n hx hb d_Sales_sellAll_18 rfl (lv_at hl 1 rfl) ?_
        refine lv_iload_n hx hb d_Sales_sellAll_19 rfl (lv_at hl 2 rfl) ?_
        refine nw_iald hx hb hK hw (100 + r) 0 (hW_row (t := 0) (j := r) (by decide) (by omega) (aX_pl hr0)) rfl (c) (rfl) (by omega) (by omega) d_Sales_sellAll_20 ?_
        refine lv_ei (y := S0 0 r c) (congrFun ((scr_up hsc (by omega)) 0 r (by omega)) _) ?_
        refine lv_iconst (v := (-1)) hx hb d_Sales_sellAll_21 (by decide) ?_
        refine lv_icmp_ne (tgt := 29) hx hb d_Sales_sellAll_22 (by decide) (fun c_22 => ?_) (fun c_22 => ?_)
        · skip
          have hpc := (okT_pw hn0' hPl c (by omega)).resolve_left c_22
          have e7 : lfA (S0 0 r) (S0 3) (pwF (S0 0 r)) (S 0 7) (c + 1) = upd (lfA (S0 0 r) (S0 3) (pwF (S0 0 r)) (S 0 7) c) c (S0 3 c (pwF (S0 0 r) c)) := lfA_f c_22
          refine lv_aload_n hx hb d_Sales_sellAll_29 rfl (lv_at hl 0 rfl) ?_
          refine nw_get hx hb hts i_Sales hown hK hw (3) (hW_3) rfl 0 (by decide) (hts _ kw_143) (fun _ h9 => h9) rfl d_Sales_sellAll_30 ?_
          refine nw_getN hx hb hts i_Farm hown hK hw (1) (hW_1) rfl 2 (by decide) (va_Nw.use rfl (hKs.2.2 _ kn_55 rfl)) (fun _ h9 => h9) rfl d_Sales_sellAll_33 ?_
          refine lv_iload_n hx hb d_Sales_sellAll_36 rfl (lv_at hl 2 rfl) ?_
          refine nw_aald hx hb hK hw (7) 4 (hW_7) rfl (c) (rfl) (by omega) (by omega) (y := ad (32 + c)) (if_pos (by omega)) d_Sales_sellAll_37 ?_
          refine nw_getN hx hb hts i_Cage hown hK hw (32 + c) (hW_cage hN (by omega)) rfl 2 (by decide) (va_Nw.use rfl (hKs.2.2 _ kn_416 rfl)) (fun _ h9 => h9) rfl d_Sales_sellAll_38 ?_
          refine lv_aload_n hx hb d_Sales_sellAll_41 rfl (lv_at hl 1 rfl) ?_
          refine lv_iload_n hx hb d_Sales_sellAll_42 rfl (lv_at hl 2 rfl) ?_
          refine nw_iald hx hb hK hw (100 + r) 0 (hW_row (t := 0) (j := r) (by decide) (by omega) (aX_pl hr0)) rfl (c) (rfl) (by omega) (by omega) d_Sales_sellAll_43 ?_
          refine lv_ei (y := S0 0 r c) (congrFun ((scr_up hsc (by omega)) 0 r (by omega)) _) ?_
          refine nw_iald hx hb hK hw (148 + c) 0 (hW_row (t := 3) (j := c) (by decide) (by omega) (aX_cage (Or.inr rfl) (by omega))) rfl (pwF (S0 0 r) c) (hpc.1) (hpc.2) (by omega) d_Sales_sellAll_44 ?_
          refine lv_ei (y := S0 3 c (pwF (S0 0 r) c)) (congrFun ((scr_up hsc (by omega)) 3 c (by omega)) _) ?_
          refine nw_iast hx hb hK hw hS (107) 0 (hW_row (t := 0) (j := 7) (by decide) (by omega) (rfl)) rfl (c) (rfl) (by omega) (by omega) d_Sales_sellAll_45 (fun H locs hw hS => ?_)
          have hw := hW_setRow (t := 0) (j := 7) (by decide) (by omega) (rfl) hw
          rw [upR_upR, upR_self] at hw
          refine lv_iinc (v := nI (c + 1)) (lv' := [(2, .int (nI (c + 1))), (0, .ref (ad (3))), (1, .ref (ad (100 + r)))]) hx hb d_Sales_sellAll_46 hl (k := 2) rfl ((nI_succ _).symm) (by decide) rfl (fun ls hl => ?_)
          refine lv_goto (tgt := 2) hx hb d_Sales_sellAll_49 (by decide) ?_
          have hw := nw_W.as (wn' := hW ad tC n I K bw LA bM aM (upR S 0 7 (lfA (S0 0 r) (S0 3) (pwF (S0 0 r)) (S 0 7) (c + 1)))) hw (by rw [e7])
          exact ih2 (c + 1) (by omega) (by omega) _ _ ls hw hS (lv_sub hl [1, 2, 0] rfl)
        · skip
          have e7 : lfA (S0 0 r) (S0 3) (pwF (S0 0 r)) (S 0 7) (c + 1) = upd (lfA (S0 0 r) (S0 3) (pwF (S0 0 r)) (S 0 7) c) c (nI 0) := lfA_t c_22
          refine lv_iconst (v := nI 0) hx hb d_Sales_sellAll_25 (by decide) ?_
          refine lv_goto (tgt := 45) hx hb d_Sales_sellAll_26 (by decide) ?_
          refine nw_iast hx hb hK hw hS (107) 0 (hW_row (t := 0) (j := 7) (by decide) (by omega) (rfl)) rfl (c) (rfl) (by omega) (by omega) d_Sales_sellAll_45 (fun H locs hw hS => ?_)
          have hw := hW_setRow (t := 0) (j := 7) (by decide) (by omega) (rfl) hw
          rw [upR_upR, upR_self] at hw
          refine lv_iinc (v := nI (c + 1)) (lv' := [(2, .int (nI (c + 1))), (0, .ref (ad (3))), (1, .ref (ad (100 + r)))]) hx hb d_Sales_sellAll_46 hl (k := 2) rfl ((nI_succ _).symm) (by decide) rfl (fun ls hl => ?_)
          refine lv_goto (tgt := 2) hx hb d_Sales_sellAll_49 (by decide) ?_
          have hw := nw_W.as (wn' := hW ad tC n I K bw LA bM aM (upR S 0 7 (lfA (S0 0 r) (S0 3) (pwF (S0 0 r)) (S 0 7) (c + 1)))) hw (by rw [e7])
          exact ih2 (c + 1) (by omega) (by omega) _ _ ls hw hS (lv_sub hl [1, 2, 0] rfl)
  exact loop2 (n 2 + 1) (0) (by omega) (by omega) _ _ ls hw hS (lv_sub hl [1, 2, 0] rfl)
end
section
/-! PURE WORDS of the search -/
def bI (b : Bool) : Int32 := if b then 1 else 0
theorem bI_1 {b : Bool} (h : ¬ bI b = 0) : b = true := by cases b; exact absurd rfl h; rfl
theorem bI_0 {b : Bool} (h : bI b = 0) : b = false := by cases b; rfl; exact absurd h (by decide)
theorem kup2 {K : Nat → Int32} {a b v : Int32} : va_up (va_up (va_up K 2 a) 3 b) 2 v = va_up (va_up K 2 v) 3 b := by
  funext j
  simp only [va_up]
  by_cases h : j = 2
  · subst h; simp
  · simp [h]
theorem kup3 {K : Nat → Int32} {a b v : Int32} : va_up (va_up (va_up K 2 a) 3 b) 3 v = va_up (va_up K 2 a) 3 v := by
  funext j
  simp only [va_up]
  by_cases h : j = 3
  · subst h; simp
  · simp [h]
theorem scr_9 {F S : Nat → Nat → Nat → Int32} {tr be : Nat → Int32} {c : Nat} {v : Int32} (h : scr (upR (upR F 0 9 tr) 0 10 be) S) : scr (upR (upR F 0 9 (upd tr c v)) 0 10 be) (upR S 0 9 (upd (S 0 9) c v)) := fun t j hj => by
  have e9 : S 0 9 = tr := h 0 9 (by omega)
  by_cases h1 : t = 0 ∧ j = 9
  · obtain ⟨rfl, rfl⟩ := h1
    rw [upR_self, e9, upR_ne (by omega), upR_self]
  · rw [upR_ne h1, h t j hj]
    by_cases h2 : t = 0 ∧ j = 10
    · obtain ⟨rfl, rfl⟩ := h2
      rw [upR_self, upR_self]
    · rw [upR_ne h2, upR_ne h1, upR_ne h2, upR_ne h1]
theorem scr_10 {F S : Nat → Nat → Nat → Int32} {tr be : Nat → Int32} (h : scr (upR (upR F 0 9 tr) 0 10 be) S) : scr (upR (upR F 0 9 tr) 0 10 (va_cpy tr be 0 0 6)) (upR S 0 10 (va_cpy (S 0 9) (S 0 10) 0 0 6)) := fun t j hj => by
  have e9 : S 0 9 = tr := h 0 9 (by omega)
  have e10 : S 0 10 = be := h 0 10 (by omega)
  by_cases h1 : t = 0 ∧ j = 10
  · obtain ⟨rfl, rfl⟩ := h1
    rw [upR_self, e9, e10, upR_self]
  · rw [upR_ne h1, h t j hj, upR_ne h1, upR_ne h1]
theorem ex_9 {D : va_G} {A : Nat → Prop} {ad : Nat → Nat} {tC : Nat → ClassId} {n : Nat → Nat} {I : Nat → Nat → Int32} {K : Nat → Int32} {bw : Int64} {LA : Nat → Int64} {bM : Nat → Option va_E} {aM : Nat → Nat → Option (ClassId × Nat)} {F S : Nat → Nat → Nat → Int32} {tr be : Nat → Int32} {c : Nat} {v : Int32} {H : Heap} (h : scr (upR (upR F 0 9 tr) 0 10 be) S) (hw : nw_W D hpC A (hW ad tC n I K bw LA bM aM (upR S 0 9 (upd (S 0 9) c v))) ad H) : ∃ S', scr (upR (upR F 0 9 (upd tr c v)) 0 10 be) S' ∧ nw_W D hpC A (hW ad tC n I K bw LA bM aM S') ad H := ⟨_, scr_9 h, hw⟩
theorem ex_10 {D : va_G} {A : Nat → Prop} {ad : Nat → Nat} {tC : Nat → ClassId} {n : Nat → Nat} {I : Nat → Nat → Int32} {K : Nat → Int32} {bw : Int64} {LA : Nat → Int64} {bM : Nat → Option va_E} {aM : Nat → Nat → Option (ClassId × Nat)} {F S : Nat → Nat → Nat → Int32} {tr be : Nat → Int32} {H : Heap} (h : scr (upR (upR F 0 9 tr) 0 10 be) S) (hw : nw_W D hpC A (hW ad tC n I K bw LA bM aM (upR S 0 10 (va_cpy (S 0 9) (S 0 10) 0 0 6))) ad H) : ∃ S', scr (upR (upR F 0 9 tr) 0 10 (va_cpy tr be 0 0 6)) S' ∧ nw_W D hpC A (hW ad tC n I K bw LA bM aM S') ad H := ⟨_, scr_10 h, hw⟩
/-- what the last d cages hope for -/
noncomputable def hpS (n : Nat → Nat) (I : Nat → Nat → Int32) (ow : Nat → Nat) (F : Nat → Nat → Nat → Int32) : Nat → Int64
  | 0 => 0
  | d + 1 => hpS n I ow F d + gtS n I ow F (n 2 - d - 1) (n 0)
noncomputable def hfA (n : Nat → Nat) (I : Nat → Nat → Int32) (ow : Nat → Nat) (F : Nat → Nat → Nat → Int32) (LA : Nat → Int64) : Nat → Nat → Int64
  | 0 => vp_updL LA (n 2) 0
  | d + 1 => vp_updL (hfA n I ow F LA d) (n 2 - d - 1) (hfA n I ow F LA d (n 2 - d) + gtS n I ow F (n 2 - d - 1) (n 0))
theorem hfA_hp {n : Nat → Nat} {I : Nat → Nat → Int32} {ow : Nat → Nat} {F : Nat → Nat → Nat → Int32} {LA : Nat → Int64} : ∀ d, d ≤ n 2 → ∀ e, e ≤ d → hfA n I ow F LA d (n 2 - e) = hpS n I ow F e := by
  intro d
  induction d with
  | zero =>
    intro _ e he
    obtain rfl : e = 0 := by omega
    simp only [hfA, hpS, vp_updL]
    rw [if_pos (by omega)]
  | succ d ih =>
    intro hd e he
    simp only [hfA, vp_updL]
    by_cases h : n 2 - e = n 2 - d - 1
    · obtain rfl : e = d + 1 := by omega
      rw [if_pos h, ih (by omega) d (Nat.le_refl _)]
      rfl
    · rw [if_neg h]
      exact ih (by omega) e (by omega)
theorem dn_t {i : Nat} (hi : i < 2 ^ 31) (h : nI i - 1 < 0) : i = 0 := by
  rcases Nat.eq_zero_or_pos i with h0 | h0
  · exact h0
  · obtain ⟨j, rfl⟩ : ∃ j, i = j + 1 := ⟨i - 1, by omega⟩
    rw [nI_pred] at h
    exact absurd h (nI_pos (by omega))
theorem dn_f {i : Nat} (h : ¬ nI i - 1 < 0) : 1 ≤ i ∧ nI i - 1 = nI (i - 1) := by
  rcases Nat.eq_zero_or_pos i with h0 | h0
  · subst h0
    exact absurd (by decide) h
  · obtain ⟨j, rfl⟩ : ∃ j, i = j + 1 := ⟨i - 1, by omega⟩
    exact ⟨h0, nI_pred j⟩
abbrev sX : Type := Nat × Bool × Int64 × (Nat → Int32) × (Nat → Int32)
def tkO (v : Int32) : Option Nat := if v = -1 then none else some v.toNatClampNeg
theorem tkO_eq {n : Nat → Nat} {pl : Nat → Int32} (hn : n 0 ≤ 8) (h : okT n pl) {c : Nat} (hc : c < n 2) : pl c = oI (tkO (pl c)) ∧ ∀ w, tkO (pl c) = some w → w < n 0 := by
  rcases h c hc with h1 | ⟨w, hw, h1⟩
  · rw [h1]
    exact ⟨rfl, fun w hw => by simp [tkO] at hw⟩
  · rw [h1]
    have e : tkO (nI w) = some w := by simp only [tkO]; rw [if_neg (nI_ne_m1 (by omega)), nI_clamp (by omega)]
    rw [e]
    exact ⟨rfl, fun w' h' => by cases h'; exact hw⟩
def pAll (n : Nat → Nat) (I : Nat → Nat → Int32) (hm : Nat → Nat) (F : Nat → Nat → Nat → Int32) (pl : Nat → Int32) (w : Nat) : Prop := pClosed n hm F pl w ∧ pPlant n F pl w ∧ pBoats n I F pl w
section SEARCH
variable (n : Nat → Nat) (I : Nat → Nat → Int32) (hm ow sq : Nat → Nat) (F : Nat → Nat → Nat → Int32) (lim : Nat)
noncomputable def meF (x : sX) : sX := pif ((∀ w, w < n 0 → pHeld n I hm F x.2.2.2.1 w) ∧ x.2.2.1 < wrL n I ow sq F x.2.2.2.1) (x.1, x.2.1, wrL n I ow sq F x.2.2.2.1, x.2.2.2.1, va_cpy x.2.2.2.1 x.2.2.2.2 0 0 6) x
noncomputable def mkF (br : Int64 → sX → sX) (cg : Nat) (tops : Int64) (x : sX) : sX :=
  if lim ≤ x.1 then (x.1, true, x.2.2) else if x.2.2.1 < (tops + topL n I ow F cg (tkO (x.2.2.2.1 cg))) + hpS n I ow F (n 2 - (cg + 1)) then br (tops + topL n I ow F cg (tkO (x.2.2.2.1 cg))) (x.1 + 1, x.2) else (x.1 + 1, x.2)
def stT (x : sX) (c : Nat) (v : Int32) : sX := (x.1, x.2.1, x.2.2.1, upd x.2.2.2.1 c v, x.2.2.2.2)
noncomputable def wlF (br : Int64 → sX → sX) (cg : Nat) (tops : Int64) (x : sX) : Nat → sX
  | 0 => x
  | w + 1 => if (wlF br cg tops x w).2.1 = true then wlF br cg tops x w else pif (pAll n I hm F (upd (wlF br cg tops x w).2.2.2.1 cg (nI w)) w) (mkF n I ow F lim br cg tops (stT (wlF br cg tops x w) cg (nI w))) (stT (wlF br cg tops x w) cg (nI w))
noncomputable def brF : Nat → Nat → Int64 → sX → sX
  | 0, _, _, x => meF n I hm ow sq F x
  | d + 1, cg, tops, x => if (wlF n I hm ow F lim (brF d (cg + 1)) cg tops x (n 0)).2.1 = true then stT (wlF n I hm ow F lim (brF d (cg + 1)) cg tops x (n 0)) cg (-1) else mkF n I ow F lim (brF d (cg + 1)) cg tops (stT (wlF n I hm ow F lim (brF d (cg + 1)) cg tops x (n 0)) cg (-1))
end SEARCH
section SEARCH2
variable {n : Nat → Nat} {I : Nat → Nat → Int32} {hm ow sq : Nat → Nat} {F : Nat → Nat → Nat → Int32} {lim : Nat} {br : Int64 → sX → sX} {cg : Nat} {tops : Int64} {x : sX}
theorem wlF_sp {w : Nat} (h : (wlF n I hm ow F lim br cg tops x w).2.1 = true) : ∀ k, wlF n I hm ow F lim br cg tops x (w + k) = wlF n I hm ow F lim br cg tops x w := by
  intro k
  induction k with
  | zero => rfl
  | succ k ih =>
    show wlF n I hm ow F lim br cg tops x (w + k + 1) = _
    simp only [wlF]
    rw [ih, if_pos h]
/-- what stays through the search -/
def sOk (n : Nat → Nat) (lim : Nat) (x : sX) : Prop := x.1 ≤ lim ∧ okT n x.2.2.2.1
theorem okT_up {pl : Nat → Int32} {v : Int32} {c : Nat} (h : okT n pl) (hv : v = -1 ∨ ∃ w, w < n 0 ∧ v = nI w) : okT n (upd pl c v) := fun j hj => by
  simp only [upd]
  by_cases e : j = c
  · rw [if_pos e]; exact hv
  · rw [if_neg e]; exact h j hj
theorem stT_ok {v : Int32} {c : Nat} (h : sOk n lim x) (hv : v = -1 ∨ ∃ w, w < n 0 ∧ v = nI w) : sOk n lim (stT x c v) := ⟨h.1, okT_up h.2 hv⟩
theorem meF_ok (h : sOk n lim x) : sOk n lim (meF n I hm ow sq F x) := by
  unfold meF
  by_cases hp : (∀ w, w < n 0 → pHeld n I hm F x.2.2.2.1 w) ∧ x.2.2.1 < wrL n I ow sq F x.2.2.2.1
  · rw [pif_t hp]; exact h
  · rw [pif_f hp]; exact h
theorem mkF_ok (hb : ∀ t y, sOk n lim y → sOk n lim (br t y)) (h : sOk n lim x) : sOk n lim (mkF n I ow F lim br cg tops x) := by
  unfold mkF
  by_cases h1 : lim ≤ x.1
  · rw [if_pos h1]; exact h
  · rw [if_neg h1]
    have h2 : sOk n lim (x.1 + 1, x.2) := ⟨by show x.1 + 1 ≤ lim; omega, h.2⟩
    split
    · exact hb _ _ h2
    · exact h2
theorem wlF_ok (hb : ∀ t y, sOk n lim y → sOk n lim (br t y)) (h : sOk n lim x) : ∀ w, w ≤ n 0 → sOk n lim (wlF n I hm ow F lim br cg tops x w) := by
  intro w
  induction w with
  | zero => exact fun _ => h
  | succ w ih =>
    intro hw
    have h0 := ih (by omega)
    have h1 := stT_ok (c := cg) h0 (Or.inr ⟨w, by omega, rfl⟩)
    simp only [wlF]
    split
    · exact h0
    · by_cases hp : pAll n I hm F (upd (wlF n I hm ow F lim br cg tops x w).2.2.2.1 cg (nI w)) w
      · rw [pif_t hp]; exact mkF_ok hb h1
      · rw [pif_f hp]; exact h1
theorem brF_ok : ∀ (d cg : Nat) (tops : Int64) (x : sX), sOk n lim x → sOk n lim (brF n I hm ow sq F lim d cg tops x) := by
  intro d
  induction d with
  | zero => exact fun _ _ x h => meF_ok h
  | succ d ih =>
    intro cg tops x h
    have h1 := wlF_ok (I := I) (hm := hm) (ow := ow) (F := F) (cg := cg) (tops := tops) (fun t y hy => ih (cg + 1) t y hy) h (n 0) (Nat.le_refl _)
    have h2 := stT_ok (c := cg) h1 (Or.inl rfl)
    simp only [brF]
    split
    · exact h2
    · exact mkF_ok (fun t y hy => ih (cg + 1) t y hy) h2
end SEARCH2
def hWx (ad : Nat → Nat) (tC : Nat → ClassId) (n : Nat → Nat) (I : Nat → Nat → Int32) (K : Nat → Int32) (LA : Nat → Int64) (bM : Nat → Option va_E) (aM : Nat → Nat → Option (ClassId × Nat)) (x : sX) (S : Nat → Nat → Nat → Int32) : nw_N := hW ad tC n I (va_up (va_up K 2 (nI x.1)) 3 (bI x.2.1)) x.2.2.1 LA bM aM S
/-- it returns; the search's state is x -/
def nw_xs (ad : Nat → Nat) (tC : Nat → ClassId) (n : Nat → Nat) (I : Nat → Nat → Int32) (K : Nat → Int32) (LA : Nat → Int64) (bM : Nat → Option va_E) (aM : Nat → Nat → Option (ClassId × Nat)) (F : Nat → Nat → Nat → Int32) (x : sX) : nw_P := fun o wn' ad' => o = none ∧ ad' = ad ∧ ∃ S', scr (upR (upR F 0 9 x.2.2.2.1) 0 10 x.2.2.2.2) S' ∧ wn' = hWx ad tC n I K LA bM aM x S'
theorem nw_xs_in {ad : Nat → Nat} {tC : Nat → ClassId} {n : Nat → Nat} {I : Nat → Nat → Int32} {K : Nat → Int32} {LA : Nat → Int64} {bM : Nat → Option va_E} {aM : Nat → Nat → Option (ClassId × Nat)} {F S : Nat → Nat → Nat → Int32} {x y : sX} (e : x = y) (h : scr (upR (upR F 0 9 x.2.2.2.1) 0 10 x.2.2.2.2) S) : nw_xs ad tC n I K LA bM aM F y none (hWx ad tC n I K LA bM aM x S) ad := by subst e; exact ⟨rfl, rfl, S, h, rfl⟩
theorem nw_xs_out {ad ad' : Nat → Nat} {tC : Nat → ClassId} {n : Nat → Nat} {I : Nat → Nat → Int32} {K : Nat → Int32} {LA : Nat → Int64} {bM : Nat → Option va_E} {aM : Nat → Nat → Option (ClassId × Nat)} {F : Nat → Nat → Nat → Int32} {x : sX} {rv : Option Value} {wn' : nw_N} {D : va_G} {A : Nat → Prop} {H : Heap} (h : nw_xs ad tC n I K LA bM aM F x rv wn' ad') (hw : nw_W D hpC A wn' ad' H) : rv = none ∧ ∃ S', scr (upR (upR F 0 9 x.2.2.2.1) 0 10 x.2.2.2.2) S' ∧ nw_W D hpC A (hWx ad tC n I K LA bM aM x S') ad H := by
  obtain ⟨h1, h2, S', h3, h4⟩ := h
  rw [h2, h4] at hw
  exact ⟨h1, S', h3, hw⟩
def nw_fo (v : Option Value) (wf : (Nat → Int64) → nw_N) (ad : Nat → Nat) (X : (Nat → Int64) → Prop) : nw_P := fun o wn' ad' => o = v ∧ ad' = ad ∧ ∃ L', X L' ∧ wn' = wf L'
theorem nw_fo_out {v rv : Option Value} {wf : (Nat → Int64) → nw_N} {ad ad' : Nat → Nat} {X : (Nat → Int64) → Prop} {wn' : nw_N} {D : va_G} {cl : List vw_C} {A : Nat → Prop} {H : Heap} (h : nw_fo v wf ad X rv wn' ad') (hw : nw_W D cl A wn' ad' H) : rv = v ∧ ∃ L', X L' ∧ nw_W D cl A (wf L') ad H := by
  obtain ⟨h1, h2, L', h3, h4⟩ := h
  rw [h2, h4] at hw
  exact ⟨h1, L', h3, hw⟩
theorem m1_sub (x : Int32) : x + Int32.ofInt (-1) = x - 1 := by rw [Int32.sub_eq_add_neg]; rfl
section CG
variable {n : Nat → Nat} {I : Nat → Nat → Int32} {ow sq : Nat → Nat} {S0 S1 : Nat → Nat → Nat → Int32}
theorem svS_cg (h2 : S1 2 = S0 2) {o : Nat} {pl lf : Nat → Int32} : ∀ k, svS I ow S1 o pl lf k = svS I ow S0 o pl lf k := by
  intro k
  induction k with
  | zero => rfl
  | succ k ih => simp only [svS, pWants, ih, h2]
theorem saS_cg (h2 : S1 2 = S0 2) {pl lf gt : Nat → Int32} : ∀ k, saS n I ow sq S1 pl lf gt k = saS n I ow sq S0 pl lf gt k := by
  intro k
  induction k with
  | zero => rfl
  | succ k ih => simp only [saS, ih, svS_cg h2]
theorem prS_cg (h3 : S1 3 = S0 3) {pl lf : Nat → Int32} : ∀ k, prS n I S1 pl lf k = prS n I S0 pl lf k := by
  intro k
  induction k with
  | zero => rfl
  | succ k ih => simp only [prS, ckL, ih, h3]
theorem saF_cg (h2 : S1 2 = S0 2) (h3 : S1 3 = S0 3) {pl : Nat → Int32} : saF n I ow sq S1 pl = saF n I ow sq S0 pl := by simp only [saF, saS_cg h2, h3]
theorem wrL_cg (h2 : S1 2 = S0 2) (h3 : S1 3 = S0 3) {pl : Nat → Int32} : wrL n I ow sq S1 pl = wrL n I ow sq S0 pl := by simp only [wrL, saF_cg h2 h3, prS_cg h3]
theorem tcS_cg (h2 : S1 2 = S0 2) {c : Nat} {tk : Int32} : ∀ k, tcS I ow S1 c tk k = tcS I ow S0 c tk k := by
  intro k
  induction k with
  | zero => rfl
  | succ k ih => simp only [tcS, pWants, ih, h2]
theorem topL_cg (h2 : S1 2 = S0 2) (h3 : S1 3 = S0 3) {c : Nat} {tk : Option Nat} : topL n I ow S1 c tk = topL n I ow S0 c tk := by
  cases tk with
  | none => simp only [topL, ckL, h3]
  | some w => simp only [topL, tcS_cg h2, h3]
theorem gtS_cg (h2 : S1 2 = S0 2) (h3 : S1 3 = S0 3) {c : Nat} : ∀ k, gtS n I ow S1 c k = gtS n I ow S0 c k := by
  intro k
  induction k with
  | zero => simp only [gtS, ckL, h3]
  | succ k ih => simp only [gtS, ih, topL_cg h2 h3]
theorem hpS_cg (h2 : S1 2 = S0 2) (h3 : S1 3 = S0 3) : ∀ k, hpS n I ow S1 k = hpS n I ow S0 k := by
  intro k
  induction k with
  | zero => rfl
  | succ k ih => simp only [hpS, ih, gtS_cg h2 h3]
end CG
theorem wrL_F {n : Nat → Nat} {I : Nat → Nat → Int32} {ow sq : Nat → Nat} {F : Nat → Nat → Nat → Int32} {tr be : Nat → Int32} : wrL n I ow sq (upR (upR F 0 9 tr) 0 10 be) (upR (upR F 0 9 tr) 0 10 be 0 9) = wrL n I ow sq F tr := by
  rw [show upR (upR F 0 9 tr) 0 10 be 0 9 = tr from rfl]
  exact wrL_cg (S0 := F) (S1 := upR (upR F 0 9 tr) 0 10 be) rfl rfl
theorem topL_F {n : Nat → Nat} {I : Nat → Nat → Int32} {ow : Nat → Nat} {F : Nat → Nat → Nat → Int32} {tr be : Nat → Int32} {c : Nat} {tk : Option Nat} : topL n I ow (upR (upR F 0 9 tr) 0 10 be) c tk = topL n I ow F c tk := topL_cg (S0 := F) (S1 := upR (upR F 0 9 tr) 0 10 be) rfl rfl
end
section
set_option maxHeartbeats 4000000 in
set_option maxRecDepth 100000 in
/-- what the cages behind hope for -/
theorem c_Search_foretell (l : Launch) (D : va_G) (tC : Nat → ClassId) (A : Nat → Prop) (ad : Nat → Nat) (n : Nat → Nat) (I : Nat → Nat → Int32) (K : Nat → Int32) (bw : Int64) (LA : Nat → Int64) (bM : Nat → Option va_E) (aM : Nat → Nat → Option (ClassId × Nat)) (S0 S : Nat → Nat → Nat → Int32) (hsc : scr S0 S) (hN : hpN n) (ow : Nat → Nat) (hO : ∀ o, o < n 4 → I 4 o = nI (ow o) ∧ ow o < n 0) : nw_Met l y_Search_foretell [Cond.code y_Search_foretell b_Search_foretell 2 none] ({ frames := 3, cells := 0, slots := 0, locals := 70 } : Room) D hpC A [.ref (ad (4))] (nw_pre D hpC (hpT tC) A (hW ad tC n I K bw LA bM aM S) ad) (nw_fo none (fun L' => hW ad tC n I K bw L' bM aM S) ad (fun L' => ∀ c, c ≤ n 2 → L' c = hpS n I ow S0 (n 2 - c))) 0 0 := by
  refine nw_bodyK (by decide) (Nat.le_of_ble_eq_true rfl) ?_
  intro p e s m below meth cd ls args Q hSx hr hlocks hname hA hKs hw hS hl hQ
  obtain ⟨hx, hb, hml, hown, hts⟩ := id hSx
  have hK := hKs.1
  have hl : lv_has ls 2 [(0, .ref (ad (4)))] := hl
  obtain ⟨hn0, hn0', hn1, hn2, hn3, hn4⟩ := id hN
  refine lv_aload_n hx hb d_Search_foretell_0 rfl (lv_at hl 0 rfl) ?_
  refine nw_get hx hb hts i_Search hown hK hw (4) (hW_4) rfl 5 (by decide) (hts _ kw_167) (fun _ h9 => h9) rfl d_Search_foretell_1 ?_
  refine lv_aload_n hx hb d_Search_foretell_4 rfl (lv_at hl 0 rfl) ?_
  refine nw_get hx hb hts i_Search hown hK hw (4) (hW_4) rfl 0 (by decide) (hts _ kw_161) (fun _ h9 => h9) rfl d_Search_foretell_5 ?_
  refine nw_getN hx hb hts i_Farm hown hK hw (1) (hW_1) rfl 8 (by decide) (va_Nw.use rfl (hKs.2.2 _ kn_75 rfl)) (fun _ h9 => h9) rfl d_Search_foretell_8 ?_
  refine lv_lconst (v := 0) hx hb d_Search_foretell_11 (by decide) ?_
  refine nw_last hx hb hK hw hS (5) 1 (hW_5) rfl (n 2) (rfl) (by omega) (by omega) d_Search_foretell_12 (fun H locs hw hS => ?_)
  have hw := hW_setLA hw
  refine lv_aload_n hx hb d_Search_foretell_13 rfl (lv_at hl 0 rfl) ?_
  refine nw_get hx hb hts i_Search hown hK hw (4) (hW_4) rfl 0 (by decide) (hts _ kw_161) (fun _ h9 => h9) rfl d_Search_foretell_14 ?_
  refine nw_getN hx hb hts i_Farm hown hK hw (1) (hW_1) rfl 8 (by decide) (va_Nw.use rfl (hKs.2.2 _ kn_75 rfl)) (fun _ h9 => h9) rfl d_Search_foretell_17 ?_
  refine lv_iconst (v := nI 1) hx hb d_Search_foretell_20 (by decide) ?_
  refine lv_isub hx hb d_Search_foretell_21 ?_
  refine lv_istore_n (lv' := [(1, .int (((nI (n 2)) - (nI 1)))), (0, .ref (ad (4)))]) hx hb d_Search_foretell_22 rfl hl (by decide) rfl (fun ls hl => ?_)
  have el1 : nI (n 2 - 0) - 1 = ((nI (n 2)) - (nI 1)) := rfl
  have hl : lv_has ls 2 [(1, .int (nI (n 2 - 0) - 1)), (0, .ref (ad (4)))] := by
    have h9 := hl
    revert h9; rw [show Value.int (nI (n 2 - 0) - 1) = Value.int (((nI (n 2)) - (nI 1))) from congrArg _ el1]; intro h9
    exact h9
  have loop23 : ∀ (k d : Nat), d ≤ n 2 → n 2 + 1 ≤ d + k → ∀ (H : Heap) (locs : List Loc) (ls : Array Slot), nw_W D hpC A (hW ad tC n I K bw (hfA n I ow S0 LA d) bM aM S) ad H → va_S A s.heap H locs → lv_has ls 2 [(0, .ref (ad (4))), (1, .int (nI (n 2 - d) - 1))] → W p l e ({ frames := 3, cells := 0, slots := 0, locals := 70 } : Room) s m args below meth cd H locs 0 0 Q (F0 m 23 ls []) := by
    intro k
    induction k with
    | zero => intro d h1 h2; exact absurd h2 (by omega)
    | succ k ih23 =>
      intro d hv23 hk23 H locs ls hw hS hl
      refine lv_iload_n hx hb d_Search_foretell_23 rfl (lv_at hl 1 rfl) ?_
      refine lv_if_lt (tgt := 56) hx hb d_Search_foretell_24 (by decide) (fun c_24 => ?_) (fun c_24 => ?_)
      · skip
        have hd0 := dn_t (by omega) c_24
        obtain rfl : n 2 = d := by omega
        exact nw_vret hQ hx hb hr hlocks hw hS (⟨rfl, rfl, _, fun c hc => by have h9 := hfA_hp (n := n) (I := I) (ow := ow) (F := S0) (LA := LA) (n 2) (Nat.le_refl _) (n 2 - c) (by omega); rwa [show n 2 - (n 2 - c) = c by omega] at h9, rfl⟩) (Nat.le_of_ble_eq_true rfl) (Nat.le_of_ble_eq_true rfl) d_Search_foretell_56
      · skip
        have hd1 := dn_f c_24
        have el1 : nI (n 2 - d - 1) = nI (n 2 - d) - 1 := hd1.2.symm
        have hl : lv_has ls 2 [(0, .ref (ad (4))), (1, .int (nI (n 2 - d - 1)))] := by
          have h9 := hl
          revert h9; rw [show Value.int (nI (n 2 - d - 1)) = Value.int (nI (n 2 - d) - 1) from congrArg _ el1]; intro h9
          exact h9
        have hlt : d < n 2 := by omega
        refine lv_aload_n hx hb d_Search_foretell_27 rfl (lv_at hl 0 rfl) ?_
        refine nw_get hx hb hts i_Search hown hK hw (4) (hW_4) rfl 5 (by decide) (hts _ kw_167) (fun _ h9 => h9) rfl d_Search_foretell_28 ?_
        refine lv_iload_n hx hb d_Search_foretell_31 rfl (lv_at hl 1 rfl) ?_
        refine lv_aload_n hx hb d_Search_foretell_32 rfl (lv_at hl 0 rfl) ?_
        refine nw_get hx hb hts i_Search hown hK hw (4) (hW_4) rfl 5 (by decide) (hts _ kw_167) (fun _ h9 => h9) rfl d_Search_foretell_33 ?_
        refine lv_iload_n hx hb d_Search_foretell_36 rfl (lv_at hl 1 rfl) ?_
        refine lv_iconst (v := nI 1) hx hb d_Search_foretell_37 (by decide) ?_
        refine lv_iadd hx hb d_Search_foretell_38 ?_
        refine lv_ei (y := nI (n 2 - d)) (by rw [nI_add]; congr 1; omega) ?_
        refine nw_lald hx hb hK hw (5) 1 (hW_5) rfl (n 2 - d) (rfl) (by omega) (by omega) d_Search_foretell_39 ?_
        refine lv_aload_n hx hb d_Search_foretell_40 rfl (lv_at hl 0 rfl) ?_
        refine nw_get hx hb hts i_Search hown hK hw (4) (hW_4) rfl 0 (by decide) (hts _ kw_161) (fun _ h9 => h9) rfl d_Search_foretell_41 ?_
        refine lv_iload_n hx hb d_Search_foretell_44 rfl (lv_at hl 1 rfl) ?_
        refine nw_callD (nw_goVN (n := 1) (As := [.int (nI (n 2 - d - 1))]) (rest := [.long (((hfA n I ow S0 LA d) (n 2 - d))), .int (nI (n 2 - d - 1)), .ref (ad (5))]) hSx hA hKs hw hS (c_Farm_greatestTop l D tC A ad n I K bw (hfA n I ow S0 LA d) bM aM S0 S hsc hN ow hO (n 2 - d - 1) (by omega)) kw_237 kn_234 kw_236 ks_Farm_greatestTop kw_2 rfl rfl (by decide +kernel) ⟨Nat.le_of_ble_eq_true rfl, Nat.le_of_ble_eq_true rfl⟩ (nw_recv hK hw (hW_1) rfl) rfl hl.1 (Nat.le_of_ble_eq_true rfl) d_Search_foretell_45 ⟨Nat.le_of_ble_eq_true rfl, Nat.le_of_ble_eq_true rfl⟩) hS (fun H locs hw hS => ?_)
        refine lv_ladd hx hb d_Search_foretell_48 ?_
        refine nw_last hx hb hK hw hS (5) 1 (hW_5) rfl (n 2 - d - 1) (rfl) (by omega) (by omega) d_Search_foretell_49 (fun H locs hw hS => ?_)
        have hw := hW_setLA hw
        refine lv_iinc (v := nI (n 2 - (d + 1)) - 1) (lv' := [(1, .int (nI (n 2 - (d + 1)) - 1)), (0, .ref (ad (4)))]) hx hb d_Search_foretell_50 hl (k := 1) rfl (by rw [m1_sub, show n 2 - (d + 1) = n 2 - d - 1 by omega]) (by decide) rfl (fun ls hl => ?_)
        refine lv_goto (tgt := 23) hx hb d_Search_foretell_53 (by decide) ?_
        exact ih23 (d + 1) (by omega) (by omega) _ _ ls hw hS (lv_sub hl [1, 0] rfl)
  exact loop23 (n 2 + 1) (0) (by omega) (by omega) _ _ ls hw hS (lv_sub hl [1, 0] rfl)

set_option maxHeartbeats 4000000 in
set_option maxRecDepth 100000 in
/-- THE HOPE before any cage -/
theorem c_Search_hopeBeforeAny (l : Launch) (D : va_G) (tC : Nat → ClassId) (A : Nat → Prop) (ad : Nat → Nat) (n : Nat → Nat) (I : Nat → Nat → Int32) (K : Nat → Int32) (bw : Int64) (LA : Nat → Int64) (bM : Nat → Option va_E) (aM : Nat → Nat → Option (ClassId × Nat)) (S0 S : Nat → Nat → Nat → Int32) (hsc : scr S0 S) (hN : hpN n) (ow : Nat → Nat) (hO : ∀ o, o < n 4 → I 4 o = nI (ow o) ∧ ow o < n 0) : nw_Met l y_Search_hopeBeforeAny [Cond.code y_Search_hopeBeforeAny b_Search_hopeBeforeAny 1 (some .long)] ({ frames := 4, cells := 0, slots := 0, locals := 91 } : Room) D hpC A [.ref (ad (4))] (nw_pre D hpC (hpT tC) A (hW ad tC n I K bw LA bM aM S) ad) (nw_fo (some (.long (hpS n I ow S0 (n 2)))) (fun L' => hW ad tC n I K bw L' bM aM S) ad (fun L' => ∀ c, c ≤ n 2 → L' c = hpS n I ow S0 (n 2 - c))) 0 0 := by
  refine nw_bodyK (by decide) (Nat.le_of_ble_eq_true rfl) ?_
  intro p e s m below meth cd ls args Q hSx hr hlocks hname hA hKs hw hS hl hQ
  obtain ⟨hx, hb, hml, hown, hts⟩ := id hSx
  have hK := hKs.1
  have hl : lv_has ls 1 [(0, .ref (ad (4)))] := hl
  obtain ⟨hn0, hn0', hn1, hn2, hn3, hn4⟩ := id hN
  refine lv_aload_n hx hb d_Search_hopeBeforeAny_0 rfl (lv_at hl 0 rfl) ?_
  refine nw_call (nw_goV (n := 0) (As := []) (rest := []) hSx hA hKs hw hS (c_Search_foretell l D tC A ad n I K bw LA bM aM S0 S hsc hN ow hO) kw_233 kw_230 kw_232 ks_Search_foretell kw_6 rfl rfl (by decide +kernel) ⟨Nat.le_of_ble_eq_true rfl, Nat.le_of_ble_eq_true rfl⟩ (nw_recv hK hw (hW_4) rfl) rfl hl.1 (Nat.le_of_ble_eq_true rfl) d_Search_hopeBeforeAny_1 ⟨Nat.le_of_ble_eq_true rfl, Nat.le_of_ble_eq_true rfl⟩) hS (fun rv wn' ad' H locs hpost hw hS => ?_)
  obtain ⟨hrv1, L1z, hL1z, hw⟩ := nw_fo_out hpost hw
  subst hrv1
  refine lv_aload_n hx hb d_Search_hopeBeforeAny_4 rfl (lv_at hl 0 rfl) ?_
  refine nw_get hx hb hts i_Search hown hK hw (4) (hW_4) rfl 5 (by decide) (hts _ kw_167) (fun _ h9 => h9) rfl d_Search_hopeBeforeAny_5 ?_
  refine lv_iconst (v := nI 0) hx hb d_Search_hopeBeforeAny_8 (by decide) ?_
  refine nw_lald hx hb hK hw (5) 1 (hW_5) rfl (0) (rfl) (by omega) (by omega) d_Search_hopeBeforeAny_9 ?_
  refine lv_el (y := hpS n I ow S0 (n 2)) (hL1z 0 (by omega)) ?_
  exact nw_lret hQ hx hb hr hlocks hw hS (⟨rfl, rfl, _, hL1z, rfl⟩) (Nat.le_of_ble_eq_true rfl) (Nat.le_of_ble_eq_true rfl) d_Search_hopeBeforeAny_10

set_option maxHeartbeats 4000000 in
set_option maxRecDepth 100000 in
/-- whether a plan was met -/
theorem c_Search_hasMet (l : Launch) (D : va_G) (tC : Nat → ClassId) (A : Nat → Prop) (ad : Nat → Nat) (n : Nat → Nat) (I : Nat → Nat → Int32) (K : Nat → Int32) (bw : Int64) (LA : Nat → Int64) (bM : Nat → Option va_E) (aM : Nat → Nat → Option (ClassId × Nat)) (S0 S : Nat → Nat → Nat → Int32) (hsc : scr S0 S) (hN : hpN n)  : nw_Met l y_Search_hasMet [Cond.code y_Search_hasMet b_Search_hasMet 1 (some .boolean)] ({ frames := 0, cells := 0, slots := 0, locals := 0 } : Room) D hpC A [.ref (ad (4))] (nw_pre D hpC (hpT tC) A (hW ad tC n I K bw LA bM aM S) ad) (nw_ok (some (.int (b2 (¬ bw = -1)))) (hW ad tC n I K bw LA bM aM S) ad) 0 0 := by
  refine nw_bodyK (by decide) (Nat.le_of_ble_eq_true rfl) ?_
  intro p e s m below meth cd ls args Q hSx hr hlocks hname hA hKs hw hS hl hQ
  obtain ⟨hx, hb, hml, hown, hts⟩ := id hSx
  have hK := hKs.1
  have hl : lv_has ls 1 [(0, .ref (ad (4)))] := hl
  obtain ⟨hn0, hn0', hn1, hn2, hn3, hn4⟩ := id hN
  refine lv_aload_n hx hb d_Search_hasMet_0 rfl (lv_at hl 0 rfl) ?_
  refine nw_get hx hb hts i_Search hown hK hw (4) (hW_4) rfl 6 (by decide) (hts _ kw_168) (fun _ h9 => h9) rfl d_Search_hasMet_1 ?_
  refine lv_ldc2 (v := (-1)) hx hb hown (hts _ kw_160) d_Search_hasMet_4 ?_
  refine W.lcmp hx hb d_Search_hasMet_7 ?_
  refine lv_if_eq (tgt := 15) hx hb d_Search_hasMet_8 (by decide) (fun c_8 => ?_) (fun c_8 => ?_)
  · skip
    have hres : nI 0 = b2 (¬ bw = -1) := b2_f (fun h => h ((lg_cmp_eq _ _).mp c_8))
    refine lv_iconst (v := nI 0) hx hb d_Search_hasMet_15 (by decide) ?_
    exact nw_zret hQ hx hb hr (by first | exact Or.inl rfl | exact Or.inr rfl) hlocks hw hS (nw_okI hres) (Nat.le_of_ble_eq_true rfl) (Nat.le_of_ble_eq_true rfl) d_Search_hasMet_16
  · skip
    have hres : nI 1 = b2 (¬ bw = -1) := b2_t (fun h => c_8 ((lg_cmp_eq _ _).mpr h))
    refine lv_iconst (v := nI 1) hx hb d_Search_hasMet_11 (by decide) ?_
    refine lv_goto (tgt := 16) hx hb d_Search_hasMet_12 (by decide) ?_
    exact nw_zret hQ hx hb hr (by first | exact Or.inl rfl | exact Or.inr rfl) hlocks hw hS (nw_okI hres) (Nat.le_of_ble_eq_true rfl) (Nat.le_of_ble_eq_true rfl) d_Search_hasMet_16

set_option maxHeartbeats 4000000 in
set_option maxRecDepth 100000 in
/-- a plan is met -/
theorem c_Search_meet (l : Launch) (D : va_G) (tC : Nat → ClassId) (A : Nat → Prop) (ad : Nat → Nat) (n : Nat → Nat) (I : Nat → Nat → Int32) (K : Nat → Int32) (LA : Nat → Int64) (bM : Nat → Option va_E) (aM : Nat → Nat → Option (ClassId × Nat)) (F : Nat → Nat → Nat → Int32) (hN : hpN n) (hm : Nat → Nat) (hH : ∀ c, c < n 2 → I 2 c = nI (hm c) ∧ hm c < n 1) (ow : Nat → Nat) (hO : ∀ o, o < n 4 → I 4 o = nI (ow o) ∧ ow o < n 0) (sq : Nat → Nat) (hSq : ∀ k, k < n 4 → F 0 1 k = nI (sq k) ∧ sq k < n 4) (hSo : ∀ q, q < n 4 → ∃ j, j < n 4 ∧ sq j = q) (lim : Nat) (hLim : K 1 = nI lim) (hlim : lim ≤ 5000) (hLA : ∀ c, c ≤ n 2 → LA c = hpS n I ow F (n 2 - c)) (mk : Nat) (sp : Bool) (bw : Int64) (tr be : Nat → Int32) (S : Nat → Nat → Nat → Int32) (hsc : scr (upR (upR F 0 9 tr) 0 10 be) S) (hmk : mk ≤ lim) (hT : okT n tr)  : nw_Met l y_Search_meet [Cond.code y_Search_meet b_Search_meet 3 none] ({ frames := 3, cells := 0, slots := 0, locals := 72 } : Room) D hpC A [.ref (ad (4))] (nw_pre D hpC (hpT tC) A (hW ad tC n I (va_up (va_up K 2 (nI mk)) 3 (bI sp)) bw LA bM aM S) ad) (nw_xs ad tC n I K LA bM aM F (meF n I hm ow sq F (mk, sp, bw, tr, be))) 0 0 := by
  refine nw_bodyK (by decide) (Nat.le_of_ble_eq_true rfl) ?_
  intro p e s m below meth cd ls args Q hSx hr hlocks hname hA hKs hw hS hl hQ
  obtain ⟨hx, hb, hml, hown, hts⟩ := id hSx
  have hK := hKs.1
  have hl : lv_has ls 3 [(0, .ref (ad (4)))] := hl
  obtain ⟨hn0, hn0', hn1, hn2, hn3, hn4⟩ := id hN
  refine lv_aload_n hx hb d_Search_meet_0 rfl (lv_at hl 0 rfl) ?_
  refine nw_get hx hb hts i_Search hown hK hw (4) (hW_4) rfl 1 (by decide) (hts _ kw_162) (fun _ h9 => h9) rfl d_Search_meet_1 ?_
  refine lv_aload_n hx hb d_Search_meet_4 rfl (lv_at hl 0 rfl) ?_
  refine nw_get hx hb hts i_Search hown hK hw (4) (hW_4) rfl 3 (by decide) (hts _ kw_164) (fun _ h9 => h9) rfl d_Search_meet_5 ?_
  refine nw_call (nw_goVN (n := 1) (As := [.ref (ad (109))]) (rest := []) hSx hA hKs hw hS (c_Rules_keepsAllHeld l D tC A ad n I (va_up (va_up K 2 (nI mk)) 3 (bI sp)) bw LA bM aM (upR (upR F 0 9 tr) 0 10 be) S hsc hN 9 (Or.inr rfl) hm hH) kw_545 kn_542 kw_544 ks_Rules_keepsAllHeld kw_4 rfl rfl (by decide +kernel) ⟨Nat.le_of_ble_eq_true rfl, Nat.le_of_ble_eq_true rfl⟩ (nw_recv hK hw (hW_2) rfl) rfl hl.1 (Nat.le_of_ble_eq_true rfl) d_Search_meet_8 ⟨Nat.le_of_ble_eq_true rfl, Nat.le_of_ble_eq_true rfl⟩) hS (fun rv wn' ad' H locs hpost hw hS => ?_)
  obtain ⟨hrv1, S1z, hsc1z, hw⟩ := nw_sc_out hpost hw
  subst hrv1
  refine lv_if_ne (tgt := 15) hx hb d_Search_meet_11 (by decide) (fun c_11 => ?_) (fun c_11 => ?_)
  · skip
    refine lv_aload_n hx hb d_Search_meet_15 rfl (lv_at hl 0 rfl) ?_
    refine nw_get hx hb hts i_Search hown hK hw (4) (hW_4) rfl 2 (by decide) (hts _ kw_163) (fun _ h9 => h9) rfl d_Search_meet_16 ?_
    refine lv_aload_n hx hb d_Search_meet_19 rfl (lv_at hl 0 rfl) ?_
    refine nw_get hx hb hts i_Search hown hK hw (4) (hW_4) rfl 3 (by decide) (hts _ kw_164) (fun _ h9 => h9) rfl d_Search_meet_20 ?_
    refine nw_call (nw_goVN (n := 1) (As := [.ref (ad (109))]) (rest := []) hSx hA hKs hw hS (c_Sales_sellAll l D tC A ad n I (va_up (va_up K 2 (nI mk)) 3 (bI sp)) bw LA bM aM (upR (upR F 0 9 tr) 0 10 be) S1z hsc1z hN 9 (Or.inr rfl) (hT) ow hO sq hSq hSo) kw_554 kn_551 kw_553 ks_Sales_sellAll kw_5 rfl rfl (by decide +kernel) ⟨Nat.le_of_ble_eq_true rfl, Nat.le_of_ble_eq_true rfl⟩ (nw_recv hK hw (hW_3) rfl) rfl hl.1 (Nat.le_of_ble_eq_true rfl) d_Search_meet_23 ⟨Nat.le_of_ble_eq_true rfl, Nat.le_of_ble_eq_true rfl⟩) hS (fun rv wn' ad' H locs hpost hw hS => ?_)
    obtain ⟨hrv2, S2z, hsc2z, hX2, hw⟩ := nw_sx_out hpost hw
    subst hrv2
    refine lv_el (y := wrL n I ow sq F tr) (wrL_F) ?_
    refine lv_lstore_n (lv' := [(1, .long (wrL n I ow sq F tr)), (0, .ref (ad (4)))]) hx hb d_Search_meet_26 rfl hl (by decide) rfl (fun ls hl => ?_)
    refine lv_lload_n hx hb d_Search_meet_27 rfl (lv_at hl 0 rfl) ?_
    refine lv_aload_n hx hb d_Search_meet_28 rfl (lv_at hl 1 rfl) ?_
    refine nw_get hx hb hts i_Search hown hK hw (4) (hW_4) rfl 6 (by decide) (hts _ kw_168) (fun _ h9 => h9) rfl d_Search_meet_29 ?_
    refine W.lcmp hx hb d_Search_meet_32 ?_
    refine lv_if_le (tgt := 56) hx hb d_Search_meet_33 (by decide) (fun c_33 => ?_) (fun c_33 => ?_)
    · skip
      have ex : (mk, sp, bw, tr, be) = meF n I hm ow sq F (mk, sp, bw, tr, be) := (pif_f (fun h => Int64.not_le.mpr h.2 ((lg_cmp_le _ _).mp c_33))).symm
      exact nw_vret hQ hx hb hr hlocks hw hS (nw_xs_in ex hsc2z) (Nat.le_of_ble_eq_true rfl) (Nat.le_of_ble_eq_true rfl) d_Search_meet_56
    · skip
      have ex : (mk, sp, wrL n I ow sq F tr, tr, va_cpy tr be 0 0 6) = meF n I hm ow sq F (mk, sp, bw, tr, be) := (pif_t ⟨b2_1 c_11, Int64.not_le.mp (fun h => c_33 ((lg_cmp_le _ _).mpr h))⟩).symm
      refine lv_aload_n hx hb d_Search_meet_36 rfl (lv_at hl 1 rfl) ?_
      refine lv_lload_n hx hb d_Search_meet_37 rfl (lv_at hl 0 rfl) ?_
      refine nw_put (v := .long (wrL n I ow sq F tr)) (ty := .long) hx hb hts i_Search t_Search tk_Search n_Search hown hK hw hS (4) (hW_4) rfl 6 (by decide) (hts _ kw_168) (fun _ h9 => h9) rfl (by decide +kernel) (rfl) (rfl) (Nat.le_of_ble_eq_true rfl) d_Search_meet_38 (fun H locs hw hS => ?_)
      have hw := hW_setBw hw
      refine lv_aload_n hx hb d_Search_meet_41 rfl (lv_at hl 1 rfl) ?_
      refine nw_get hx hb hts i_Search hown hK hw (4) (hW_4) rfl 3 (by decide) (hts _ kw_164) (fun _ h9 => h9) rfl d_Search_meet_42 ?_
      refine lv_iconst (v := nI 0) hx hb d_Search_meet_45 (by decide) ?_
      refine lv_aload_n hx hb d_Search_meet_46 rfl (lv_at hl 1 rfl) ?_
      refine nw_get hx hb hts i_Search hown hK hw (4) (hW_4) rfl 4 (by decide) (hts _ kw_165) (fun _ h9 => h9) rfl d_Search_meet_47 ?_
      refine lv_iconst (v := nI 0) hx hb d_Search_meet_50 (by decide) ?_
      refine lv_bipush (v := nI 6) hx hb d_Search_meet_51 (by decide) ?_
      refine nw_copy hx hb (hml.trans hl.1.symm) hown (hts _ kw_566) (hts _ kw_568) (hts _ kw_567) (hts _ kw_18) hK hw hS (109) (110) 0 (hW_row (t := 0) (j := 9) (by decide) (by omega) (rfl)) (hW_row (t := 0) (j := 10) (by decide) (by omega) (rfl)) rfl (nI_pos (by omega)) (nI_pos (by omega)) (nI_pos (by omega)) (by rw [nI_clamp (by omega), nI_clamp (by omega)]; omega) (by rw [nI_clamp (by omega), nI_clamp (by omega)]; omega) (Nat.le_of_ble_eq_true rfl) (Nat.le_of_ble_eq_true rfl) d_Search_meet_53 (fun H locs hw hS => ?_)
      rw [nI_clamp (n := 0) (by omega), nI_clamp (n := 6) (by omega)] at hw
      have hw := hW_setRow (t := 0) (j := 10) (by decide) (by omega) (rfl) hw
      obtain ⟨Sb, hsb, hw⟩ := ex_10 hsc2z hw
      exact nw_vret hQ hx hb hr hlocks hw hS (nw_xs_in ex hsb) (Nat.le_of_ble_eq_true rfl) (Nat.le_of_ble_eq_true rfl) d_Search_meet_56
  · skip
    have ex : (mk, sp, bw, tr, be) = meF n I hm ow sq F (mk, sp, bw, tr, be) := (pif_f (fun h => b2_0 c_11 h.1)).symm
    exact nw_vret hQ hx hb hr hlocks hw hS (nw_xs_in ex hsc1z) (Nat.le_of_ble_eq_true rfl) (Nat.le_of_ble_eq_true rfl) d_Search_meet_14

set_option maxHeartbeats 4000000 in
set_option maxRecDepth 100000 in
/-- a node is made, over branch at the next cage -/
theorem c_Search_makeNode_of (l : Launch) (D : va_G) (tC : Nat → ClassId) (A : Nat → Prop) (ad : Nat → Nat) (n : Nat → Nat) (I : Nat → Nat → Int32) (K : Nat → Int32) (LA : Nat → Int64) (bM : Nat → Option va_E) (aM : Nat → Nat → Option (ClassId × Nat)) (F : Nat → Nat → Nat → Int32) (hN : hpN n) (hm : Nat → Nat) (hH : ∀ c, c < n 2 → I 2 c = nI (hm c) ∧ hm c < n 1) (ow : Nat → Nat) (hO : ∀ o, o < n 4 → I 4 o = nI (ow o) ∧ ow o < n 0) (sq : Nat → Nat) (hSq : ∀ k, k < n 4 → F 0 1 k = nI (sq k) ∧ sq k < n 4) (hSo : ∀ q, q < n 4 → ∃ j, j < n 4 ∧ sq j = q) (lim : Nat) (hLim : K 1 = nI lim) (hlim : lim ≤ 5000) (hLA : ∀ c, c ≤ n 2 → LA c = hpS n I ow F (n 2 - c)) (d cg : Nat) (hcg : cg + 1 + d = n 2) (hB : ∀ (tops : Int64) (mk : Nat) (sp : Bool) (bw : Int64) (tr be : Nat → Int32) (S : Nat → Nat → Nat → Int32) (hsc : scr (upR (upR F 0 9 tr) 0 10 be) S) (hmk : mk ≤ lim) (hT : okT n tr), nw_Met l y_Search_branch [Cond.code y_Search_branch b_Search_branch 5 none] ({ frames := 30 + 2 * d, cells := 0, slots := 0, locals := 900 + 60 * d } : Room) D hpC A [.ref (ad 4), .int (nI (cg + 1)), .long tops] (nw_pre D hpC (hpT tC) A (hWx ad tC n I K LA bM aM (mk, sp, bw, tr, be) S) ad) (nw_xs ad tC n I K LA bM aM F (brF n I hm ow sq F lim d (cg + 1) tops (mk, sp, bw, tr, be))) 0 0) (tops : Int64) (mk : Nat) (sp : Bool) (bw : Int64) (tr be : Nat → Int32) (S : Nat → Nat → Nat → Int32) (hsc : scr (upR (upR F 0 9 tr) 0 10 be) S) (hmk : mk ≤ lim) (hT : okT n tr) : nw_Met l y_Search_makeNode [Cond.code y_Search_makeNode b_Search_makeNode 6 none] ({ frames := 31 + 2 * d, cells := 0, slots := 0, locals := 930 + 60 * d } : Room) D hpC A [.ref (ad (4)), .int (nI cg), .long (tops)] (nw_pre D hpC (hpT tC) A (hW ad tC n I (va_up (va_up K 2 (nI mk)) 3 (bI sp)) bw LA bM aM S) ad) (nw_xs ad tC n I K LA bM aM F (mkF n I ow F lim (brF n I hm ow sq F lim d (cg + 1)) cg tops (mk, sp, bw, tr, be))) 0 0 := by
  refine nw_bodyK (by decide) (Nat.le_of_ble_eq_true rfl) ?_
  intro p e s m below meth cd ls args Q hSx hr hlocks hname hA hKs hw hS hl hQ
  obtain ⟨hx, hb, hml, hown, hts⟩ := id hSx
  have hK := hKs.1
  have hl : lv_has ls 6 [(0, .ref (ad (4))), (1, .int (nI cg)), (2, .long (tops))] := hl
  obtain ⟨hn0, hn0', hn1, hn2, hn3, hn4⟩ := id hN
  refine lv_aload_n hx hb d_Search_makeNode_0 rfl (lv_at hl 0 rfl) ?_
  refine nw_get hx hb hts i_Search hown hK hw (4) (hW_4) rfl 8 (by decide) (hts _ kw_170) (fun _ h9 => h9) rfl d_Search_makeNode_1 ?_
  refine lv_ei (y := nI mk) (rfl) ?_
  refine lv_aload_n hx hb d_Search_makeNode_4 rfl (lv_at hl 0 rfl) ?_
  refine nw_get hx hb hts i_Search hown hK hw (4) (hW_4) rfl 7 (by decide) (hts _ kw_169) (fun _ h9 => h9) rfl d_Search_makeNode_5 ?_
  refine lv_ei (y := nI lim) (hLim) ?_
  refine lv_icmp_lt (tgt := 17) hx hb d_Search_makeNode_8 (by decide) (fun c_8 => ?_) (fun c_8 => ?_)
  · skip
    have hmk2 : mk < lim := (nI_ltI (by omega) (by omega)).mp c_8
    refine lv_aload_n hx hb d_Search_makeNode_17 rfl (lv_at hl 0 rfl) ?_
    refine lv_dup hx hb d_Search_makeNode_18 rfl ?_
    refine nw_get hx hb hts i_Search hown hK hw (4) (hW_4) rfl 8 (by decide) (hts _ kw_170) (fun _ h9 => h9) rfl d_Search_makeNode_19 ?_
    refine lv_ei (y := nI mk) (rfl) ?_
    refine lv_iconst (v := nI 1) hx hb d_Search_makeNode_22 (by decide) ?_
    refine lv_iadd hx hb d_Search_makeNode_23 ?_
    refine lv_ei (y := nI (mk + 1)) (nI_add _ _) ?_
    refine nw_put (v := .int (nI (mk + 1))) (ty := .int) hx hb hts i_Search t_Search tk_Search n_Search hown hK hw hS (4) (hW_4) rfl 8 (by decide) (hts _ kw_170) (fun _ h9 => h9) rfl (by decide +kernel) (rfl) (rfl) (Nat.le_of_ble_eq_true rfl) d_Search_makeNode_24 (fun H locs hw hS => ?_)
    have hw := nw_W.as (wn' := hW ad tC n I (va_up (va_up K 2 (nI (mk + 1))) 3 (bI sp)) bw LA bM aM S) (hW_setMade hw) (by rw [kup2])
    refine lv_lload_n hx hb d_Search_makeNode_27 rfl (lv_at hl 2 rfl) ?_
    refine lv_aload_n hx hb d_Search_makeNode_28 rfl (lv_at hl 0 rfl) ?_
    refine nw_get hx hb hts i_Search hown hK hw (4) (hW_4) rfl 0 (by decide) (hts _ kw_161) (fun _ h9 => h9) rfl d_Search_makeNode_29 ?_
    refine lv_iload_n hx hb d_Search_makeNode_32 rfl (lv_at hl 1 rfl) ?_
    refine lv_aload_n hx hb d_Search_makeNode_33 rfl (lv_at hl 0 rfl) ?_
    refine nw_get hx hb hts i_Search hown hK hw (4) (hW_4) rfl 3 (by decide) (hts _ kw_164) (fun _ h9 => h9) rfl d_Search_makeNode_34 ?_
    refine lv_iload_n hx hb d_Search_makeNode_37 rfl (lv_at hl 1 rfl) ?_
    refine nw_iald hx hb hK hw (109) 0 (hW_row (t := 0) (j := 9) (by decide) (by omega) (rfl)) rfl (cg) (rfl) (by omega) (by omega) d_Search_makeNode_38 ?_
    refine lv_ei (y := tr cg) (congrFun (hsc 0 9 (by omega)) _) ?_
    refine lv_ei (y := oI (tkO (tr cg))) ((tkO_eq hn0' hT (by omega)).1) ?_
    refine nw_callD (nw_goVN (n := 2) (As := [.int (nI cg), .int (oI (tkO (tr cg)))]) (rest := [.long (tops)]) hSx hA hKs hw hS (c_Farm_top l D tC A ad n I (va_up (va_up K 2 (nI (mk + 1))) 3 (bI sp)) bw LA bM aM (upR (upR F 0 9 tr) 0 10 be) S hsc hN ow hO cg (by omega) (tkO (tr cg)) ((tkO_eq hn0' hT (by omega)).2)) kw_245 kn_602 kw_244 ks_Farm_top kw_2 rfl rfl (by decide +kernel) ⟨by dsimp only; omega, by dsimp only; omega⟩ (nw_recv hK hw (hW_1) rfl) rfl hl.1 (Nat.le_of_ble_eq_true rfl) d_Search_makeNode_39 ⟨Nat.le_of_ble_eq_true rfl, Nat.le_of_ble_eq_true rfl⟩) hS (fun H locs hw hS => ?_)
    refine lv_el (y := topL n I ow F cg (tkO (tr cg))) (topL_F) ?_
    refine lv_ladd hx hb d_Search_makeNode_42 ?_
    refine lv_lstore (lv' := [(4, .long (((tops) + (topL n I ow F cg (tkO (tr cg)))))), (0, .ref (ad (4))), (1, .int (nI cg)), (2, .long (tops))]) hx hb d_Search_makeNode_43 hl (by decide) rfl (fun ls hl => ?_)
    refine lv_lload hx hb d_Search_makeNode_45 (lv_at hl 0 rfl) ?_
    refine lv_aload_n hx hb d_Search_makeNode_47 rfl (lv_at hl 1 rfl) ?_
    refine nw_get hx hb hts i_Search hown hK hw (4) (hW_4) rfl 5 (by decide) (hts _ kw_167) (fun _ h9 => h9) rfl d_Search_makeNode_48 ?_
    refine lv_iload_n hx hb d_Search_makeNode_51 rfl (lv_at hl 2 rfl) ?_
    refine lv_iconst (v := nI 1) hx hb d_Search_makeNode_52 (by decide) ?_
    refine lv_iadd hx hb d_Search_makeNode_53 ?_
    refine lv_ei (y := nI (cg + 1)) (nI_add _ _) ?_
    refine nw_lald hx hb hK hw (5) 1 (hW_5) rfl (cg + 1) (rfl) (by omega) (by omega) d_Search_makeNode_54 ?_
    refine lv_el (y := hpS n I ow F (n 2 - (cg + 1))) (hLA _ (by omega)) ?_
    refine lv_ladd hx hb d_Search_makeNode_55 ?_
    refine lv_aload_n hx hb d_Search_makeNode_56 rfl (lv_at hl 1 rfl) ?_
    refine nw_get hx hb hts i_Search hown hK hw (4) (hW_4) rfl 6 (by decide) (hts _ kw_168) (fun _ h9 => h9) rfl d_Search_makeNode_57 ?_
    refine W.lcmp hx hb d_Search_makeNode_60 ?_
    refine lv_if_le (tgt := 73) hx hb d_Search_makeNode_61 (by decide) (fun c_61 => ?_) (fun c_61 => ?_)
    · skip
      have ex : (mk + 1, sp, bw, tr, be) = mkF n I ow F lim (brF n I hm ow sq F lim d (cg + 1)) cg tops (mk, sp, bw, tr, be) := by
        simp only [mkF]
        rw [if_neg (by omega), if_neg (Int64.not_lt.mpr ((lg_cmp_le _ _).mp c_61))]
      exact nw_vret hQ hx hb hr hlocks hw hS (nw_xs_in ex hsc) (Nat.le_of_ble_eq_true rfl) (Nat.le_of_ble_eq_true rfl) d_Search_makeNode_73
    · skip
      have ex : brF n I hm ow sq F lim d (cg + 1) (tops + topL n I ow F cg (tkO (tr cg))) (mk + 1, sp, bw, tr, be) = mkF n I ow F lim (brF n I hm ow sq F lim d (cg + 1)) cg tops (mk, sp, bw, tr, be) := by
        simp only [mkF]
        rw [if_neg (by omega), if_pos (Int64.not_le.mp (fun h => c_61 ((lg_cmp_le _ _).mpr h)))]
      refine lv_aload_n hx hb d_Search_makeNode_64 rfl (lv_at hl 1 rfl) ?_
      refine lv_iload_n hx hb d_Search_makeNode_65 rfl (lv_at hl 2 rfl) ?_
      refine lv_iconst (v := nI 1) hx hb d_Search_makeNode_66 (by decide) ?_
      refine lv_iadd hx hb d_Search_makeNode_67 ?_
      refine lv_ei (y := nI (cg + 1)) (nI_add _ _) ?_
      refine lv_lload hx hb d_Search_makeNode_68 (lv_at hl 0 rfl) ?_
      refine nw_call (nw_goV (n := 2) (As := [.int (nI (cg + 1)), .long (((tops) + (topL n I ow F cg (tkO (tr cg)))))]) (rest := []) hSx hA hKs hw hS (hB (((tops) + (topL n I ow F cg (tkO (tr cg))))) (mk + 1) sp bw tr be S hsc (by omega) (hT)) kw_537 kw_534 kw_536 ks_Search_branch kw_6 rfl rfl (by decide +kernel) ⟨by dsimp only; omega, by dsimp only; omega⟩ (nw_recv hK hw (hW_4) rfl) rfl hl.1 (Nat.le_of_ble_eq_true rfl) d_Search_makeNode_70 ⟨Nat.le_of_ble_eq_true rfl, Nat.le_of_ble_eq_true rfl⟩) hS (fun rv wn' ad' H locs hpost hw hS => ?_)
      obtain ⟨hrv1, S1z, hsc1z, hw⟩ := nw_xs_out hpost hw
      subst hrv1
      obtain ⟨z1, hz1⟩ : ∃ z : sX, z = brF n I hm ow sq F lim d (cg + 1) (((tops) + (topL n I ow F cg (tkO (tr cg))))) (mk + 1, sp, bw, tr, be) := ⟨_, rfl⟩
      rw [← hz1] at hw hsc1z
      exact nw_vret hQ hx hb hr hlocks hw hS (nw_xs_in (hz1.trans ex) hsc1z) (Nat.le_of_ble_eq_true rfl) (Nat.le_of_ble_eq_true rfl) d_Search_makeNode_73
  · skip
    have ex : (mk, true, bw, tr, be) = mkF n I ow F lim (brF n I hm ow sq F lim d (cg + 1)) cg tops (mk, sp, bw, tr, be) := (if_pos (Nat.not_lt.mp (fun h => c_8 (nI_lt h (by omega))))).symm
    refine lv_aload_n hx hb d_Search_makeNode_11 rfl (lv_at hl 0 rfl) ?_
    refine lv_iconst (v := nI 1) hx hb d_Search_makeNode_12 (by decide) ?_
    refine nw_put (v := .int (nI 1)) (ty := .boolean) hx hb hts i_Search t_Search tk_Search n_Search hown hK hw hS (4) (hW_4) rfl 9 (by decide) (hts _ kw_172) (fun _ h9 => h9) rfl (by decide +kernel) (rfl) (rfl) (Nat.le_of_ble_eq_true rfl) d_Search_makeNode_13 (fun H locs hw hS => ?_)
    have hw := nw_W.as (wn' := hW ad tC n I (va_up (va_up K 2 (nI mk)) 3 (bI true)) bw LA bM aM S) (hW_setSpent hw) (by rw [kup3]; rfl)
    exact nw_vret hQ hx hb hr hlocks hw hS (nw_xs_in ex hsc) (Nat.le_of_ble_eq_true rfl) (Nat.le_of_ble_eq_true rfl) d_Search_makeNode_16
end
section
set_option maxHeartbeats 4000000 in
set_option maxRecDepth 100000 in
/-- branching at a cage, over makeNode -/
theorem c_Search_branch_of (l : Launch) (D : va_G) (tC : Nat → ClassId) (A : Nat → Prop) (ad : Nat → Nat) (n : Nat → Nat) (I : Nat → Nat → Int32) (K : Nat → Int32) (LA : Nat → Int64) (bM : Nat → Option va_E) (aM : Nat → Nat → Option (ClassId × Nat)) (F : Nat → Nat → Nat → Int32) (hN : hpN n) (hm : Nat → Nat) (hH : ∀ c, c < n 2 → I 2 c = nI (hm c) ∧ hm c < n 1) (ow : Nat → Nat) (hO : ∀ o, o < n 4 → I 4 o = nI (ow o) ∧ ow o < n 0) (sq : Nat → Nat) (hSq : ∀ k, k < n 4 → F 0 1 k = nI (sq k) ∧ sq k < n 4) (hSo : ∀ q, q < n 4 → ∃ j, j < n 4 ∧ sq j = q) (lim : Nat) (hLim : K 1 = nI lim) (hlim : lim ≤ 5000) (hLA : ∀ c, c ≤ n 2 → LA c = hpS n I ow F (n 2 - c)) (d cg : Nat) (hcg : cg + 1 + d = n 2) (hMk : ∀ (tops : Int64) (mk : Nat) (sp : Bool) (bw : Int64) (tr be : Nat → Int32) (S : Nat → Nat → Nat → Int32) (hsc : scr (upR (upR F 0 9 tr) 0 10 be) S) (hmk : mk ≤ lim) (hT : okT n tr), nw_Met l y_Search_makeNode [Cond.code y_Search_makeNode b_Search_makeNode 6 none] ({ frames := 31 + 2 * d, cells := 0, slots := 0, locals := 930 + 60 * d } : Room) D hpC A [.ref (ad 4), .int (nI cg), .long tops] (nw_pre D hpC (hpT tC) A (hWx ad tC n I K LA bM aM (mk, sp, bw, tr, be) S) ad) (nw_xs ad tC n I K LA bM aM F (mkF n I ow F lim (brF n I hm ow sq F lim d (cg + 1)) cg tops (mk, sp, bw, tr, be))) 0 0) (tops : Int64) (mk : Nat) (sp : Bool) (bw : Int64) (tr be : Nat → Int32) (S : Nat → Nat → Nat → Int32) (hsc : scr (upR (upR F 0 9 tr) 0 10 be) S) (hmk : mk ≤ lim) (hT : okT n tr) : nw_Met l y_Search_branch [Cond.code y_Search_branch b_Search_branch 5 none] ({ frames := 30 + 2 * (d + 1), cells := 0, slots := 0, locals := 900 + 60 * (d + 1) } : Room) D hpC A [.ref (ad (4)), .int (nI cg), .long (tops)] (nw_pre D hpC (hpT tC) A (hW ad tC n I (va_up (va_up K 2 (nI mk)) 3 (bI sp)) bw LA bM aM S) ad) (nw_xs ad tC n I K LA bM aM F (brF n I hm ow sq F lim (d + 1) cg tops (mk, sp, bw, tr, be))) 0 0 := by
  refine nw_bodyK (by decide) (Nat.le_of_ble_eq_true rfl) ?_
  intro p e s m below meth cd ls args Q hSx hr hlocks hname hA hKs hw hS hl hQ
  obtain ⟨hx, hb, hml, hown, hts⟩ := id hSx
  have hK := hKs.1
  have hl : lv_has ls 5 [(0, .ref (ad (4))), (1, .int (nI cg)), (2, .long (tops))] := hl
  obtain ⟨hn0, hn0', hn1, hn2, hn3, hn4⟩ := id hN
  refine lv_iload_n hx hb d_Search_branch_0 rfl (lv_at hl 1 rfl) ?_
  refine lv_aload_n hx hb d_Search_branch_1 rfl (lv_at hl 0 rfl) ?_
  refine nw_get hx hb hts i_Search hown hK hw (4) (hW_4) rfl 0 (by decide) (hts _ kw_161) (fun _ h9 => h9) rfl d_Search_branch_2 ?_
  refine nw_getN hx hb hts i_Farm hown hK hw (1) (hW_1) rfl 8 (by decide) (va_Nw.use rfl (hKs.2.2 _ kn_75 rfl)) (fun _ h9 => h9) rfl d_Search_branch_5 ?_
  refine lv_icmp_lt (tgt := 16) hx hb d_Search_branch_8 (by decide) (fun c_8 => ?_) (fun c_8 => ?_)
  · skip
    refine lv_iconst (v := nI 0) hx hb d_Search_branch_16 (by decide) ?_
    refine lv_istore (lv' := [(4, .int (nI 0)), (0, .ref (ad (4))), (1, .int (nI cg)), (2, .long (tops))]) hx hb d_Search_branch_17 hl (by decide) rfl (fun ls hl => ?_)
    have loop19 : ∀ (k w : Nat) (Sv : Nat → Nat → Nat → Int32), w ≤ n 0 → n 0 + 1 ≤ w + k → (scr (upR (upR F 0 9 (wlF n I hm ow F lim (brF n I hm ow sq F lim d (cg + 1)) cg tops (mk, sp, bw, tr, be) w).2.2.2.1) 0 10 (wlF n I hm ow F lim (brF n I hm ow sq F lim d (cg + 1)) cg tops (mk, sp, bw, tr, be) w).2.2.2.2) Sv) → ∀ (H : Heap) (locs : List Loc) (ls : Array Slot), nw_W D hpC A (hW ad tC n I (va_up (va_up K 2 (nI ((wlF n I hm ow F lim (brF n I hm ow sq F lim d (cg + 1)) cg tops (mk, sp, bw, tr, be) w).1))) 3 (bI ((wlF n I hm ow F lim (brF n I hm ow sq F lim d (cg + 1)) cg tops (mk, sp, bw, tr, be) w).2.1))) ((wlF n I hm ow F lim (brF n I hm ow sq F lim d (cg + 1)) cg tops (mk, sp, bw, tr, be) w).2.2.1) LA bM aM Sv) ad H → va_S A s.heap H locs → lv_has ls 5 [(0, .ref (ad (4))), (1, .int (nI cg)), (2, .long (tops)), (4, .int (nI w))] → W p l e ({ frames := 30 + 2 * (d + 1), cells := 0, slots := 0, locals := 900 + 60 * (d + 1) } : Room) s m args below meth cd H locs 0 0 Q (F0 m 19 ls []) := by
      intro k
      induction k with
      | zero => intro w Sv h1 h2; exact absurd h2 (by omega)
      | succ k ih19 =>
        intro w Sv hv19 hk19 hsv H locs ls hw hS hl
        have hok := wlF_ok (I := I) (hm := hm) (ow := ow) (F := F) (lim := lim) (br := brF n I hm ow sq F lim d (cg + 1)) (cg := cg) (tops := tops) (x := (mk, sp, bw, tr, be)) (fun t y hy => brF_ok d (cg + 1) t y hy) ⟨hmk, hT⟩ (w) (by omega)
        refine lv_iload hx hb d_Search_branch_19 (lv_at hl 3 rfl) ?_
        refine lv_aload_n hx hb d_Search_branch_21 rfl (lv_at hl 0 rfl) ?_
        refine nw_get hx hb hts i_Search hown hK hw (4) (hW_4) rfl 0 (by decide) (hts _ kw_161) (fun _ h9 => h9) rfl d_Search_branch_22 ?_
        refine nw_getN hx hb hts i_Farm hown hK hw (1) (hW_1) rfl 0 (by decide) (va_Nw.use rfl (hKs.2.2 _ kn_49 rfl)) (fun _ h9 => h9) rfl d_Search_branch_25 ?_
        refine lv_icmp_ge (tgt := 74) hx hb d_Search_branch_28 (by decide) (fun c_28 => ?_) (fun c_28 => ?_)
        · skip
          have hge28 : n 0 ≤ w := (nI_leI (by omega) (by omega)).mp c_28
          obtain rfl : n 0 = w := by omega
          refine lv_aload_n hx hb d_Search_branch_74 rfl (lv_at hl 0 rfl) ?_
          refine nw_get hx hb hts i_Search hown hK hw (4) (hW_4) rfl 3 (by decide) (hts _ kw_164) (fun _ h9 => h9) rfl d_Search_branch_75 ?_
          refine lv_iload_n hx hb d_Search_branch_78 rfl (lv_at hl 1 rfl) ?_
          refine lv_iconst (v := (-1)) hx hb d_Search_branch_79 (by decide) ?_
          refine nw_iast hx hb hK hw hS (109) 0 (hW_row (t := 0) (j := 9) (by decide) (by omega) (rfl)) rfl (cg) (rfl) (by omega) (by omega) d_Search_branch_80 (fun H locs hw hS => ?_)
          have hw := hW_setRow (t := 0) (j := 9) (by decide) (by omega) (rfl) hw
          obtain ⟨St1, hst1, hw⟩ := ex_9 hsv hw
          refine lv_aload_n hx hb d_Search_branch_81 rfl (lv_at hl 0 rfl) ?_
          refine nw_get hx hb hts i_Search hown hK hw (4) (hW_4) rfl 9 (by decide) (hts _ kw_172) (fun _ h9 => h9) rfl d_Search_branch_82 ?_
          refine lv_ei (y := bI ((wlF n I hm ow F lim (brF n I hm ow sq F lim d (cg + 1)) cg tops (mk, sp, bw, tr, be) (n 0)).2.1)) (rfl) ?_
          refine lv_if_ne (tgt := 94) hx hb d_Search_branch_85 (by decide) (fun c_85 => ?_) (fun c_85 => ?_)
          · skip
            have ex : (stT (wlF n I hm ow F lim (brF n I hm ow sq F lim d (cg + 1)) cg tops (mk, sp, bw, tr, be) (n 0)) cg (-1)) = brF n I hm ow sq F lim (d + 1) cg tops (mk, sp, bw, tr, be) := by
              simp only [brF]
              rw [if_pos (bI_1 c_85)]
            exact nw_vret hQ hx hb hr hlocks hw hS (nw_xs_in (x := (stT (wlF n I hm ow F lim (brF n I hm ow sq F lim d (cg + 1)) cg tops (mk, sp, bw, tr, be) (n 0)) cg (-1))) ex hst1) (Nat.le_of_ble_eq_true rfl) (Nat.le_of_ble_eq_true rfl) d_Search_branch_94
          · skip
            have hsp1 := bI_0 c_85
            refine lv_aload_n hx hb d_Search_branch_88 rfl (lv_at hl 0 rfl) ?_
            refine lv_iload_n hx hb d_Search_branch_89 rfl (lv_at hl 1 rfl) ?_
            refine lv_lload_n hx hb d_Search_branch_90 rfl (lv_at hl 2 rfl) ?_
            refine nw_call (nw_goV (n := 2) (As := [.int (nI cg), .long (tops)]) (rest := []) hSx hA hKs hw hS (hMk (tops) ((wlF n I hm ow F lim (brF n I hm ow sq F lim d (cg + 1)) cg tops (mk, sp, bw, tr, be) (n 0)).1) ((wlF n I hm ow F lim (brF n I hm ow sq F lim d (cg + 1)) cg tops (mk, sp, bw, tr, be) (n 0)).2.1) ((wlF n I hm ow F lim (brF n I hm ow sq F lim d (cg + 1)) cg tops (mk, sp, bw, tr, be) (n 0)).2.2.1) (upd ((wlF n I hm ow F lim (brF n I hm ow sq F lim d (cg + 1)) cg tops (mk, sp, bw, tr, be) (n 0)).2.2.2.1) cg (-1)) ((wlF n I hm ow F lim (brF n I hm ow sq F lim d (cg + 1)) cg tops (mk, sp, bw, tr, be) (n 0)).2.2.2.2) St1 hst1 (hok.1) (okT_up hok.2 (Or.inl rfl))) kw_601 kw_598 kw_600 ks_Search_makeNode kw_6 rfl rfl (by decide +kernel) ⟨by dsimp only; omega, by dsimp only; omega⟩ (nw_recv hK hw (hW_4) rfl) rfl hl.1 (Nat.le_of_ble_eq_true rfl) d_Search_branch_91 ⟨Nat.le_of_ble_eq_true rfl, Nat.le_of_ble_eq_true rfl⟩) hS (fun rv wn' ad' H locs hpost hw hS => ?_)
            obtain ⟨hrv1, S1z, hsc1z, hw⟩ := nw_xs_out hpost hw
            subst hrv1
            have ex : mkF n I ow F lim (brF n I hm ow sq F lim d (cg + 1)) cg tops (stT (wlF n I hm ow F lim (brF n I hm ow sq F lim d (cg + 1)) cg tops (mk, sp, bw, tr, be) (n 0)) cg (-1)) = brF n I hm ow sq F lim (d + 1) cg tops (mk, sp, bw, tr, be) := by
              simp only [brF]
              rw [if_neg (by rw [hsp1]; decide)]
            exact nw_vret hQ hx hb hr hlocks hw hS (nw_xs_in (x := mkF n I ow F lim (brF n I hm ow sq F lim d (cg + 1)) cg tops (stT (wlF n I hm ow F lim (brF n I hm ow sq F lim d (cg + 1)) cg tops (mk, sp, bw, tr, be) (n 0)) cg (-1))) ex hsc1z) (Nat.le_of_ble_eq_true rfl) (Nat.le_of_ble_eq_true rfl) d_Search_branch_94
        · skip
          have hlt : w < n 0 := Nat.not_le.mp (fun q => c_28 (nI_le q (by omega)))
          refine lv_aload_n hx hb d_Search_branch_31 rfl (lv_at hl 0 rfl) ?_
          refine nw_get hx hb hts i_Search hown hK hw (4) (hW_4) rfl 9 (by decide) (hts _ kw_172) (fun _ h9 => h9) rfl d_Search_branch_32 ?_
          refine lv_ei (y := bI ((wlF n I hm ow F lim (brF n I hm ow sq F lim d (cg + 1)) cg tops (mk, sp, bw, tr, be) w).2.1)) (rfl) ?_
          refine lv_if_ne (tgt := 74) hx hb d_Search_branch_35 (by decide) (fun c_35 => ?_) (fun c_35 => ?_)
          · skip
            have hsp := bI_1 c_35
            have eWL : (wlF n I hm ow F lim (brF n I hm ow sq F lim d (cg + 1)) cg tops (mk, sp, bw, tr, be) (n 0)) = (wlF n I hm ow F lim (brF n I hm ow sq F lim d (cg + 1)) cg tops (mk, sp, bw, tr, be) w) := by
              have h9 := wlF_sp hsp (n 0 - w)
              rwa [show w + (n 0 - w) = n 0 by omega] at h9
            rw [← eWL] at hw hsv hok
            refine lv_aload_n hx hb d_Search_branch_74 rfl (lv_at hl 0 rfl) ?_
            refine nw_get hx hb hts i_Search hown hK hw (4) (hW_4) rfl 3 (by decide) (hts _ kw_164) (fun _ h9 => h9) rfl d_Search_branch_75 ?_
            refine lv_iload_n hx hb d_Search_branch_78 rfl (lv_at hl 1 rfl) ?_
            refine lv_iconst (v := (-1)) hx hb d_Search_branch_79 (by decide) ?_
            refine nw_iast hx hb hK hw hS (109) 0 (hW_row (t := 0) (j := 9) (by decide) (by omega) (rfl)) rfl (cg) (rfl) (by omega) (by omega) d_Search_branch_80 (fun H locs hw hS => ?_)
            have hw := hW_setRow (t := 0) (j := 9) (by decide) (by omega) (rfl) hw
            obtain ⟨St2, hst2, hw⟩ := ex_9 hsv hw
            refine lv_aload_n hx hb d_Search_branch_81 rfl (lv_at hl 0 rfl) ?_
            refine nw_get hx hb hts i_Search hown hK hw (4) (hW_4) rfl 9 (by decide) (hts _ kw_172) (fun _ h9 => h9) rfl d_Search_branch_82 ?_
            refine lv_ei (y := bI ((wlF n I hm ow F lim (brF n I hm ow sq F lim d (cg + 1)) cg tops (mk, sp, bw, tr, be) (n 0)).2.1)) (rfl) ?_
            refine lv_if_ne (tgt := 94) hx hb d_Search_branch_85 (by decide) (fun c_85 => ?_) (fun c_85 => ?_)
            · skip
              have ex : (stT (wlF n I hm ow F lim (brF n I hm ow sq F lim d (cg + 1)) cg tops (mk, sp, bw, tr, be) (n 0)) cg (-1)) = brF n I hm ow sq F lim (d + 1) cg tops (mk, sp, bw, tr, be) := by
                simp only [brF]
                rw [if_pos (bI_1 c_85)]
              exact nw_vret hQ hx hb hr hlocks hw hS (nw_xs_in (x := (stT (wlF n I hm ow F lim (brF n I hm ow sq F lim d (cg + 1)) cg tops (mk, sp, bw, tr, be) (n 0)) cg (-1))) ex hst2) (Nat.le_of_ble_eq_true rfl) (Nat.le_of_ble_eq_true rfl) d_Search_branch_94
            · skip
              have hsp1 := bI_0 c_85
              refine lv_aload_n hx hb d_Search_branch_88 rfl (lv_at hl 0 rfl) ?_
              refine lv_iload_n hx hb d_Search_branch_89 rfl (lv_at hl 1 rfl) ?_
              refine lv_lload_n hx hb d_Search_branch_90 rfl (lv_at hl 2 rfl) ?_
              refine nw_call (nw_goV (n := 2) (As := [.int (nI cg), .long (tops)]) (rest := []) hSx hA hKs hw hS (hMk (tops) ((wlF n I hm ow F lim (brF n I hm ow sq F lim d (cg + 1)) cg tops (mk, sp, bw, tr, be) (n 0)).1) ((wlF n I hm ow F lim (brF n I hm ow sq F lim d (cg + 1)) cg tops (mk, sp, bw, tr, be) (n 0)).2.1) ((wlF n I hm ow F lim (brF n I hm ow sq F lim d (cg + 1)) cg tops (mk, sp, bw, tr, be) (n 0)).2.2.1) (upd ((wlF n I hm ow F lim (brF n I hm ow sq F lim d (cg + 1)) cg tops (mk, sp, bw, tr, be) (n 0)).2.2.2.1) cg (-1)) ((wlF n I hm ow F lim (brF n I hm ow sq F lim d (cg + 1)) cg tops (mk, sp, bw, tr, be) (n 0)).2.2.2.2) St2 hst2 (hok.1) (okT_up hok.2 (Or.inl rfl))) kw_601 kw_598 kw_600 ks_Search_makeNode kw_6 rfl rfl (by decide +kernel) ⟨by dsimp only; omega, by dsimp only; omega⟩ (nw_recv hK hw (hW_4) rfl) rfl hl.1 (Nat.le_of_ble_eq_true rfl) d_Search_branch_91 ⟨Nat.le_of_ble_eq_true rfl, Nat.le_of_ble_eq_true rfl⟩) hS (fun rv wn' ad' H locs hpost hw hS => ?_)
              obtain ⟨hrv2, S2z, hsc2z, hw⟩ := nw_xs_out hpost hw
              subst hrv2
              have ex : mkF n I ow F lim (brF n I hm ow sq F lim d (cg + 1)) cg tops (stT (wlF n I hm ow F lim (brF n I hm ow sq F lim d (cg + 1)) cg tops (mk, sp, bw, tr, be) (n 0)) cg (-1)) = brF n I hm ow sq F lim (d + 1) cg tops (mk, sp, bw, tr, be) := by
                simp only [brF]
                rw [if_neg (by rw [hsp1]; decide)]
              exact nw_vret hQ hx hb hr hlocks hw hS (nw_xs_in (x := mkF n I ow F lim (brF n I hm ow sq F lim d (cg + 1)) cg tops (stT (wlF n I hm ow F lim (brF n I hm ow sq F lim d (cg + 1)) cg tops (mk, sp, bw, tr, be) (n 0)) cg (-1))) ex hsc2z) (Nat.le_of_ble_eq_true rfl) (Nat.le_of_ble_eq_true rfl) d_Search_branch_94
          · skip
            have hsp0 := bI_0 c_35
            refine lv_aload_n hx hb d_Search_branch_38 rfl (lv_at hl 0 rfl) ?_
            refine nw_get hx hb hts i_Search hown hK hw (4) (hW_4) rfl 3 (by decide) (hts _ kw_164) (fun _ h9 => h9) rfl d_Search_branch_39 ?_
            refine lv_iload_n hx hb d_Search_branch_42 rfl (lv_at hl 1 rfl) ?_
            refine lv_iload hx hb d_Search_branch_43 (lv_at hl 3 rfl) ?_
            refine nw_iast hx hb hK hw hS (109) 0 (hW_row (t := 0) (j := 9) (by decide) (by omega) (rfl)) rfl (cg) (rfl) (by omega) (by omega) d_Search_branch_45 (fun H locs hw hS => ?_)
            have hw := hW_setRow (t := 0) (j := 9) (by decide) (by omega) (rfl) hw
            obtain ⟨St3, hst3, hw⟩ := ex_9 hsv hw
            refine lv_aload_n hx hb d_Search_branch_46 rfl (lv_at hl 0 rfl) ?_
            refine nw_get hx hb hts i_Search hown hK hw (4) (hW_4) rfl 1 (by decide) (hts _ kw_162) (fun _ h9 => h9) rfl d_Search_branch_47 ?_
            refine lv_aload_n hx hb d_Search_branch_50 rfl (lv_at hl 0 rfl) ?_
            refine nw_get hx hb hts i_Search hown hK hw (4) (hW_4) rfl 3 (by decide) (hts _ kw_164) (fun _ h9 => h9) rfl d_Search_branch_51 ?_
            refine lv_iload hx hb d_Search_branch_54 (lv_at hl 3 rfl) ?_
            refine nw_call (nw_goVN (n := 2) (As := [.ref (ad (109)), .int (nI w)]) (rest := []) hSx hA hKs hw hS (c_Rules_allowsTaking l D tC A ad n I (va_up (va_up K 2 (nI ((wlF n I hm ow F lim (brF n I hm ow sq F lim d (cg + 1)) cg tops (mk, sp, bw, tr, be) w).1))) 3 (bI ((wlF n I hm ow F lim (brF n I hm ow sq F lim d (cg + 1)) cg tops (mk, sp, bw, tr, be) w).2.1))) ((wlF n I hm ow F lim (brF n I hm ow sq F lim d (cg + 1)) cg tops (mk, sp, bw, tr, be) w).2.2.1) LA bM aM (upR (upR F 0 9 (upd ((wlF n I hm ow F lim (brF n I hm ow sq F lim d (cg + 1)) cg tops (mk, sp, bw, tr, be) w).2.2.2.1) cg (nI w))) 0 10 ((wlF n I hm ow F lim (brF n I hm ow sq F lim d (cg + 1)) cg tops (mk, sp, bw, tr, be) w).2.2.2.2)) St3 hst3 hN 9 (Or.inr rfl) w (by omega) hm hH) kw_572 kn_569 kw_571 ks_Rules_allowsTaking kw_4 rfl rfl (by decide +kernel) ⟨by dsimp only; omega, by dsimp only; omega⟩ (nw_recv hK hw (hW_2) rfl) rfl hl.1 (Nat.le_of_ble_eq_true rfl) d_Search_branch_56 ⟨Nat.le_of_ble_eq_true rfl, Nat.le_of_ble_eq_true rfl⟩) hS (fun rv wn' ad' H locs hpost hw hS => ?_)
            obtain ⟨hrv3, S3z, hsc3z, hw⟩ := nw_sc_out hpost hw
            subst hrv3
            refine lv_if_eq (tgt := 68) hx hb d_Search_branch_59 (by decide) (fun c_59 => ?_) (fun c_59 => ?_)
            · skip
              have hna : ¬ pAll n I hm F (upd (wlF n I hm ow F lim (brF n I hm ow sq F lim d (cg + 1)) cg tops (mk, sp, bw, tr, be) w).2.2.2.1 cg (nI w)) w := b2_0 c_59
              have ew : (wlF n I hm ow F lim (brF n I hm ow sq F lim d (cg + 1)) cg tops (mk, sp, bw, tr, be) (w + 1)) = (stT (wlF n I hm ow F lim (brF n I hm ow sq F lim d (cg + 1)) cg tops (mk, sp, bw, tr, be) w) cg (nI w)) := by
                simp only [wlF]
                rw [if_neg (by rw [hsp0]; decide), pif_f hna]
              refine lv_iinc (v := nI (w + 1)) (lv' := [(4, .int (nI (w + 1))), (0, .ref (ad (4))), (1, .int (nI cg)), (2, .long (tops))]) hx hb d_Search_branch_68 hl (k := 3) rfl ((nI_succ _).symm) (by decide) rfl (fun ls hl => ?_)
              refine lv_goto (tgt := 19) hx hb d_Search_branch_71 (by decide) ?_
              have hw := nw_W.as (wn' := hW ad tC n I (va_up (va_up K 2 (nI ((wlF n I hm ow F lim (brF n I hm ow sq F lim d (cg + 1)) cg tops (mk, sp, bw, tr, be) (w + 1)).1))) 3 (bI ((wlF n I hm ow F lim (brF n I hm ow sq F lim d (cg + 1)) cg tops (mk, sp, bw, tr, be) (w + 1)).2.1))) ((wlF n I hm ow F lim (brF n I hm ow sq F lim d (cg + 1)) cg tops (mk, sp, bw, tr, be) (w + 1)).2.2.1) LA bM aM S3z) hw (by rw [ew]; rfl)
              exact ih19 (w + 1) (_) (by omega) (by omega) (by rw [ew]; exact hsc3z) _ _ ls hw hS (lv_sub hl [1, 2, 3, 0] rfl)
            · skip
              have hya : pAll n I hm F (upd (wlF n I hm ow F lim (brF n I hm ow sq F lim d (cg + 1)) cg tops (mk, sp, bw, tr, be) w).2.2.2.1 cg (nI w)) w := b2_1 c_59
              have ew : (wlF n I hm ow F lim (brF n I hm ow sq F lim d (cg + 1)) cg tops (mk, sp, bw, tr, be) (w + 1)) = mkF n I ow F lim (brF n I hm ow sq F lim d (cg + 1)) cg tops (stT (wlF n I hm ow F lim (brF n I hm ow sq F lim d (cg + 1)) cg tops (mk, sp, bw, tr, be) w) cg (nI w)) := by
                simp only [wlF]
                rw [if_neg (by rw [hsp0]; decide), pif_t hya]
              refine lv_aload_n hx hb d_Search_branch_62 rfl (lv_at hl 0 rfl) ?_
              refine lv_iload_n hx hb d_Search_branch_63 rfl (lv_at hl 1 rfl) ?_
              refine lv_lload_n hx hb d_Search_branch_64 rfl (lv_at hl 2 rfl) ?_
              refine nw_call (nw_goV (n := 2) (As := [.int (nI cg), .long (tops)]) (rest := []) hSx hA hKs hw hS (hMk (tops) ((wlF n I hm ow F lim (brF n I hm ow sq F lim d (cg + 1)) cg tops (mk, sp, bw, tr, be) w).1) ((wlF n I hm ow F lim (brF n I hm ow sq F lim d (cg + 1)) cg tops (mk, sp, bw, tr, be) w).2.1) ((wlF n I hm ow F lim (brF n I hm ow sq F lim d (cg + 1)) cg tops (mk, sp, bw, tr, be) w).2.2.1) (upd ((wlF n I hm ow F lim (brF n I hm ow sq F lim d (cg + 1)) cg tops (mk, sp, bw, tr, be) w).2.2.2.1) cg (nI w)) ((wlF n I hm ow F lim (brF n I hm ow sq F lim d (cg + 1)) cg tops (mk, sp, bw, tr, be) w).2.2.2.2) S3z hsc3z (hok.1) (okT_up hok.2 (Or.inr ⟨w, by omega, rfl⟩))) kw_601 kw_598 kw_600 ks_Search_makeNode kw_6 rfl rfl (by decide +kernel) ⟨by dsimp only; omega, by dsimp only; omega⟩ (nw_recv hK hw (hW_4) rfl) rfl hl.1 (Nat.le_of_ble_eq_true rfl) d_Search_branch_65 ⟨Nat.le_of_ble_eq_true rfl, Nat.le_of_ble_eq_true rfl⟩) hS (fun rv wn' ad' H locs hpost hw hS => ?_)
              obtain ⟨hrv4, S4z, hsc4z, hw⟩ := nw_xs_out hpost hw
              subst hrv4
              rw [show mkF n I ow F lim (brF n I hm ow sq F lim d (cg + 1)) cg tops ((wlF n I hm ow F lim (brF n I hm ow sq F lim d (cg + 1)) cg tops (mk, sp, bw, tr, be) w).1, (wlF n I hm ow F lim (brF n I hm ow sq F lim d (cg + 1)) cg tops (mk, sp, bw, tr, be) w).2.1, (wlF n I hm ow F lim (brF n I hm ow sq F lim d (cg + 1)) cg tops (mk, sp, bw, tr, be) w).2.2.1, upd (wlF n I hm ow F lim (brF n I hm ow sq F lim d (cg + 1)) cg tops (mk, sp, bw, tr, be) w).2.2.2.1 cg (nI w), (wlF n I hm ow F lim (brF n I hm ow sq F lim d (cg + 1)) cg tops (mk, sp, bw, tr, be) w).2.2.2.2) = (wlF n I hm ow F lim (brF n I hm ow sq F lim d (cg + 1)) cg tops (mk, sp, bw, tr, be) (w + 1)) from ew.symm] at hw hsc4z
              refine lv_iinc (v := nI (w + 1)) (lv' := [(4, .int (nI (w + 1))), (0, .ref (ad (4))), (1, .int (nI cg)), (2, .long (tops))]) hx hb d_Search_branch_68 hl (k := 3) rfl ((nI_succ _).symm) (by decide) rfl (fun ls hl => ?_)
              refine lv_goto (tgt := 19) hx hb d_Search_branch_71 (by decide) ?_
              exact ih19 (w + 1) (_) (by omega) (by omega) (hsc4z) _ _ ls hw hS (lv_sub hl [1, 2, 3, 0] rfl)
    exact loop19 (n 0 + 1) (0) (_) (by omega) (by omega) (hsc) _ _ ls hw hS (lv_sub hl [1, 2, 3, 0] rfl)
  · skip
    exact absurd (nI_lt (show cg < n 2 by omega) (by omega)) c_8
end
section
/-! the search's start -/
theorem scr_fill {S0 S : Nat → Nat → Nat → Int32} {v : Int32} {m : Nat} (h : scr S0 S) : scr (upR (upR S0 0 9 (flR (S0 0 9) v m)) 0 10 (S0 0 10)) (upR S 0 9 (flR (S 0 9) v m)) := fun t j hj => by
  have e9 : S 0 9 = S0 0 9 := h 0 9 (by omega)
  by_cases h1 : t = 0 ∧ j = 9
  · obtain ⟨rfl, rfl⟩ := h1
    rw [upR_self, e9, upR_ne (by omega), upR_self]
  · rw [upR_ne h1, h t j hj]
    by_cases h2 : t = 0 ∧ j = 10
    · obtain ⟨rfl, rfl⟩ := h2
      rw [upR_self]
    · rw [upR_ne h2, upR_ne h1]
theorem ex_fill {D : va_G} {A : Nat → Prop} {ad : Nat → Nat} {tC : Nat → ClassId} {n : Nat → Nat} {I : Nat → Nat → Int32} {K : Nat → Int32} {bw : Int64} {LA : Nat → Int64} {bM : Nat → Option va_E} {aM : Nat → Nat → Option (ClassId × Nat)} {S0 S : Nat → Nat → Nat → Int32} {v : Int32} {m : Nat} {H : Heap} (h : scr S0 S) (hw : nw_W D hpC A (hW ad tC n I K bw LA bM aM (upR S 0 9 (flR (S 0 9) v m))) ad H) : ∃ S', scr (upR (upR S0 0 9 (flR (S0 0 9) v m)) 0 10 (S0 0 10)) S' ∧ nw_W D hpC A (hW ad tC n I K bw LA bM aM S') ad H := ⟨_, scr_fill h, hw⟩
theorem okT_fl {n : Nat → Nat} {f : Nat → Int32} (hn : n 2 ≤ 6) : okT n (flR f (-1) 6) := fun c hc => Or.inl (by simp only [flR]; rw [if_pos (by omega)])
/-- what the search leaves, from its start -/
noncomputable def stX (n : Nat → Nat) (I : Nat → Nat → Int32) (hm ow sq : Nat → Nat) (S0 : Nat → Nat → Nat → Int32) (lim : Nat) : sX := brF n I hm ow sq S0 lim (n 2) 0 0 (0, false, -1, flR (S0 0 9) (-1) 6, S0 0 10)
def nw_st (ad : Nat → Nat) (tC : Nat → ClassId) (n : Nat → Nat) (I : Nat → Nat → Int32) (K : Nat → Int32) (bM : Nat → Option va_E) (aM : Nat → Nat → Option (ClassId × Nat)) (F : Nat → Nat → Nat → Int32) (x : sX) : nw_P := fun o wn' ad' => o = none ∧ ad' = ad ∧ ∃ LA' S', scr (upR (upR F 0 9 x.2.2.2.1) 0 10 x.2.2.2.2) S' ∧ wn' = hWx ad tC n I K LA' bM aM x S'
theorem nw_st_out {ad ad' : Nat → Nat} {tC : Nat → ClassId} {n : Nat → Nat} {I : Nat → Nat → Int32} {K : Nat → Int32} {bM : Nat → Option va_E} {aM : Nat → Nat → Option (ClassId × Nat)} {F : Nat → Nat → Nat → Int32} {x : sX} {rv : Option Value} {wn' : nw_N} {D : va_G} {A : Nat → Prop} {H : Heap} (h : nw_st ad tC n I K bM aM F x rv wn' ad') (hw : nw_W D hpC A wn' ad' H) : rv = none ∧ ∃ LA' S', scr (upR (upR F 0 9 x.2.2.2.1) 0 10 x.2.2.2.2) S' ∧ nw_W D hpC A (hWx ad tC n I K LA' bM aM x S') ad H := by
  obtain ⟨h1, h2, L', S', h3, h4⟩ := h
  rw [h2, h4] at hw
  exact ⟨h1, L', S', h3, hw⟩
end
section
set_option maxHeartbeats 4000000 in
set_option maxRecDepth 100000 in
/-- behind the last cage -/
theorem c_Search_branch_0 (l : Launch) (D : va_G) (tC : Nat → ClassId) (A : Nat → Prop) (ad : Nat → Nat) (n : Nat → Nat) (I : Nat → Nat → Int32) (K : Nat → Int32) (LA : Nat → Int64) (bM : Nat → Option va_E) (aM : Nat → Nat → Option (ClassId × Nat)) (F : Nat → Nat → Nat → Int32) (hN : hpN n) (hm : Nat → Nat) (hH : ∀ c, c < n 2 → I 2 c = nI (hm c) ∧ hm c < n 1) (ow : Nat → Nat) (hO : ∀ o, o < n 4 → I 4 o = nI (ow o) ∧ ow o < n 0) (sq : Nat → Nat) (hSq : ∀ k, k < n 4 → F 0 1 k = nI (sq k) ∧ sq k < n 4) (hSo : ∀ q, q < n 4 → ∃ j, j < n 4 ∧ sq j = q) (lim : Nat) (hLim : K 1 = nI lim) (hlim : lim ≤ 5000) (hLA : ∀ c, c ≤ n 2 → LA c = hpS n I ow F (n 2 - c)) (cg : Nat) (hcg : cg = n 2) (tops : Int64) (mk : Nat) (sp : Bool) (bw : Int64) (tr be : Nat → Int32) (S : Nat → Nat → Nat → Int32) (hsc : scr (upR (upR F 0 9 tr) 0 10 be) S) (hmk : mk ≤ lim) (hT : okT n tr) : nw_Met l y_Search_branch [Cond.code y_Search_branch b_Search_branch 5 none] ({ frames := 30 + 2 * 0, cells := 0, slots := 0, locals := 900 + 60 * 0 } : Room) D hpC A [.ref (ad (4)), .int (nI cg), .long (tops)] (nw_pre D hpC (hpT tC) A (hW ad tC n I (va_up (va_up K 2 (nI mk)) 3 (bI sp)) bw LA bM aM S) ad) (nw_xs ad tC n I K LA bM aM F (brF n I hm ow sq F lim 0 cg tops (mk, sp, bw, tr, be))) 0 0 := by
  refine nw_bodyK (by decide) (Nat.le_of_ble_eq_true rfl) ?_
  intro p e s m below meth cd ls args Q hSx hr hlocks hname hA hKs hw hS hl hQ
  obtain ⟨hx, hb, hml, hown, hts⟩ := id hSx
  have hK := hKs.1
  have hl : lv_has ls 5 [(0, .ref (ad (4))), (1, .int (nI cg)), (2, .long (tops))] := hl
  obtain ⟨hn0, hn0', hn1, hn2, hn3, hn4⟩ := id hN
  refine lv_iload_n hx hb d_Search_branch_0 rfl (lv_at hl 1 rfl) ?_
  refine lv_aload_n hx hb d_Search_branch_1 rfl (lv_at hl 0 rfl) ?_
  refine nw_get hx hb hts i_Search hown hK hw (4) (hW_4) rfl 0 (by decide) (hts _ kw_161) (fun _ h9 => h9) rfl d_Search_branch_2 ?_
  refine nw_getN hx hb hts i_Farm hown hK hw (1) (hW_1) rfl 8 (by decide) (va_Nw.use rfl (hKs.2.2 _ kn_75 rfl)) (fun _ h9 => h9) rfl d_Search_branch_5 ?_
  refine lv_icmp_lt (tgt := 16) hx hb d_Search_branch_8 (by decide) (fun c_8 => ?_) (fun c_8 => ?_)
  · skip
    exact absurd c_8 (nI_nlt (show n 2 ≤ cg by omega) (by omega))
  · skip
    refine lv_aload_n hx hb d_Search_branch_11 rfl (lv_at hl 0 rfl) ?_
    refine nw_call (nw_goV (n := 0) (As := []) (rest := []) hSx hA hKs hw hS (c_Search_meet l D tC A ad n I K LA bM aM F hN hm hH ow hO sq hSq hSo lim hLim hlim hLA mk sp bw tr be S hsc (hmk) (hT)) kw_541 kw_538 kw_540 ks_Search_meet kw_6 rfl rfl (by decide +kernel) ⟨by dsimp only; omega, by dsimp only; omega⟩ (nw_recv hK hw (hW_4) rfl) rfl hl.1 (Nat.le_of_ble_eq_true rfl) d_Search_branch_12 ⟨Nat.le_of_ble_eq_true rfl, Nat.le_of_ble_eq_true rfl⟩) hS (fun rv wn' ad' H locs hpost hw hS => ?_)
    obtain ⟨hrv1, S1z, hsc1z, hw⟩ := nw_xs_out hpost hw
    subst hrv1
    exact nw_vret hQ hx hb hr hlocks hw hS (nw_xs_in (x := brF n I hm ow sq F lim 0 cg tops (mk, sp, bw, tr, be)) rfl hsc1z) (Nat.le_of_ble_eq_true rfl) (Nat.le_of_ble_eq_true rfl) d_Search_branch_15

/-- BRANCHING, at any cage -/
theorem c_Search_branch (l : Launch) (D : va_G) (tC : Nat → ClassId) (A : Nat → Prop) (ad : Nat → Nat) (n : Nat → Nat) (I : Nat → Nat → Int32) (K : Nat → Int32) (LA : Nat → Int64) (bM : Nat → Option va_E) (aM : Nat → Nat → Option (ClassId × Nat)) (F : Nat → Nat → Nat → Int32) (hN : hpN n) (hm : Nat → Nat) (hH : ∀ c, c < n 2 → I 2 c = nI (hm c) ∧ hm c < n 1) (ow : Nat → Nat) (hO : ∀ o, o < n 4 → I 4 o = nI (ow o) ∧ ow o < n 0) (sq : Nat → Nat) (hSq : ∀ k, k < n 4 → F 0 1 k = nI (sq k) ∧ sq k < n 4) (hSo : ∀ q, q < n 4 → ∃ j, j < n 4 ∧ sq j = q) (lim : Nat) (hLim : K 1 = nI lim) (hlim : lim ≤ 5000) (hLA : ∀ c, c ≤ n 2 → LA c = hpS n I ow F (n 2 - c)) : ∀ (d cg : Nat) (hcg : cg + d = n 2) (tops : Int64) (mk : Nat) (sp : Bool) (bw : Int64) (tr be : Nat → Int32) (S : Nat → Nat → Nat → Int32) (hsc : scr (upR (upR F 0 9 tr) 0 10 be) S) (hmk : mk ≤ lim) (hT : okT n tr), nw_Met l y_Search_branch [Cond.code y_Search_branch b_Search_branch 5 none] ({ frames := 30 + 2 * d, cells := 0, slots := 0, locals := 900 + 60 * d } : Room) D hpC A [.ref (ad 4), .int (nI cg), .long tops] (nw_pre D hpC (hpT tC) A (hWx ad tC n I K LA bM aM (mk, sp, bw, tr, be) S) ad) (nw_xs ad tC n I K LA bM aM F (brF n I hm ow sq F lim d cg tops (mk, sp, bw, tr, be))) 0 0 := by
  intro d
  induction d with
  | zero =>
    intro cg hcg tops mk sp bw tr be S hsc hmk hT
    exact c_Search_branch_0 l D tC A ad n I K LA bM aM F hN hm hH ow hO sq hSq hSo lim hLim hlim hLA cg (by omega) tops mk sp bw tr be S hsc hmk hT
  | succ d ih =>
    intro cg hcg tops mk sp bw tr be S hsc hmk hT
    exact c_Search_branch_of l D tC A ad n I K LA bM aM F hN hm hH ow hO sq hSq hSo lim hLim hlim hLA d cg (by omega) (fun tops mk sp bw tr be S hsc hmk hT => c_Search_makeNode_of l D tC A ad n I K LA bM aM F hN hm hH ow hO sq hSq hSo lim hLim hlim hLA d cg (by omega) (fun tops mk sp bw tr be S hsc hmk hT => ih (cg + 1) (by omega) tops mk sp bw tr be S hsc hmk hT) tops mk sp bw tr be S hsc hmk hT) tops mk sp bw tr be S hsc hmk hT

set_option maxHeartbeats 4000000 in
set_option maxRecDepth 100000 in
/-- THE SEARCH, from its start -/
theorem c_Search_start (l : Launch) (D : va_G) (tC : Nat → ClassId) (A : Nat → Prop) (ad : Nat → Nat) (n : Nat → Nat) (I : Nat → Nat → Int32) (K : Nat → Int32) (bw : Int64) (LA : Nat → Int64) (bM : Nat → Option va_E) (aM : Nat → Nat → Option (ClassId × Nat)) (S0 S : Nat → Nat → Nat → Int32) (hsc : scr S0 S) (hN : hpN n) (hm : Nat → Nat) (hH : ∀ c, c < n 2 → I 2 c = nI (hm c) ∧ hm c < n 1) (ow : Nat → Nat) (hO : ∀ o, o < n 4 → I 4 o = nI (ow o) ∧ ow o < n 0) (sq : Nat → Nat) (hSq : ∀ k, k < n 4 → S0 0 1 k = nI (sq k) ∧ sq k < n 4) (hSo : ∀ q, q < n 4 → ∃ j, j < n 4 ∧ sq j = q) (lim : Nat) (hlim : lim ≤ 5000) : nw_Met l y_Search_start [Cond.code y_Search_start b_Search_start 2 none] ({ frames := 50, cells := 0, slots := 0, locals := 1300 } : Room) D hpC A [.ref (ad (4)), .int (nI lim)] (nw_pre D hpC (hpT tC) A (hW ad tC n I K bw LA bM aM S) ad) (nw_st ad tC n I (va_up K 1 (nI lim)) bM aM S0 (stX n I hm ow sq S0 lim)) 0 0 := by
  refine nw_bodyK (by decide) (Nat.le_of_ble_eq_true rfl) ?_
  intro p e s m below meth cd ls args Q hSx hr hlocks hname hA hKs hw hS hl hQ
  obtain ⟨hx, hb, hml, hown, hts⟩ := id hSx
  have hK := hKs.1
  have hl : lv_has ls 2 [(0, .ref (ad (4))), (1, .int (nI lim))] := hl
  obtain ⟨hn0, hn0', hn1, hn2, hn3, hn4⟩ := id hN
  refine lv_aload_n hx hb d_Search_start_0 rfl (lv_at hl 0 rfl) ?_
  refine lv_iload_n hx hb d_Search_start_1 rfl (lv_at hl 1 rfl) ?_
  refine nw_put (v := .int (nI lim)) (ty := .int) hx hb hts i_Search t_Search tk_Search n_Search hown hK hw hS (4) (hW_4) rfl 7 (by decide) (hts _ kw_169) (fun _ h9 => h9) rfl (by decide +kernel) (rfl) (rfl) (Nat.le_of_ble_eq_true rfl) d_Search_start_2 (fun H locs hw hS => ?_)
  have hw := hW_setLimit hw
  refine lv_aload_n hx hb d_Search_start_5 rfl (lv_at hl 0 rfl) ?_
  refine lv_iconst (v := nI 0) hx hb d_Search_start_6 (by decide) ?_
  refine nw_put (v := .int (nI 0)) (ty := .int) hx hb hts i_Search t_Search tk_Search n_Search hown hK hw hS (4) (hW_4) rfl 8 (by decide) (hts _ kw_170) (fun _ h9 => h9) rfl (by decide +kernel) (rfl) (rfl) (Nat.le_of_ble_eq_true rfl) d_Search_start_7 (fun H locs hw hS => ?_)
  have hw := hW_setMade hw
  refine lv_aload_n hx hb d_Search_start_10 rfl (lv_at hl 0 rfl) ?_
  refine lv_iconst (v := nI 0) hx hb d_Search_start_11 (by decide) ?_
  refine nw_put (v := .int (nI 0)) (ty := .boolean) hx hb hts i_Search t_Search tk_Search n_Search hown hK hw hS (4) (hW_4) rfl 9 (by decide) (hts _ kw_172) (fun _ h9 => h9) rfl (by decide +kernel) (rfl) (rfl) (Nat.le_of_ble_eq_true rfl) d_Search_start_12 (fun H locs hw hS => ?_)
  have hw := hW_setSpent hw
  refine lv_aload_n hx hb d_Search_start_15 rfl (lv_at hl 0 rfl) ?_
  refine lv_ldc2 (v := (-1)) hx hb hown (hts _ kw_160) d_Search_start_16 ?_
  refine nw_put (v := .long ((-1))) (ty := .long) hx hb hts i_Search t_Search tk_Search n_Search hown hK hw hS (4) (hW_4) rfl 6 (by decide) (hts _ kw_168) (fun _ h9 => h9) rfl (by decide +kernel) (rfl) (rfl) (Nat.le_of_ble_eq_true rfl) d_Search_start_19 (fun H locs hw hS => ?_)
  have hw := hW_setBw hw
  refine lv_aload_n hx hb d_Search_start_22 rfl (lv_at hl 0 rfl) ?_
  refine nw_get hx hb hts i_Search hown hK hw (4) (hW_4) rfl 3 (by decide) (hts _ kw_164) (fun _ h9 => h9) rfl d_Search_start_23 ?_
  refine lv_iconst (v := (-1)) hx hb d_Search_start_26 (by decide) ?_
  refine nw_callD (nw_goS (n := 2) (As := [.ref (ad (109)), .int ((-1))]) (rest := []) hSx hA hKs hw hS (c_Arr_fill l D tC A ad n I (va_up (va_up (va_up K 1 (nI lim)) 2 (nI 0)) 3 (nI 0)) (-1) LA bM aM S0 S hsc hN 9 6 (-1) (by omega) (by omega) (rfl)) kw_198 kw_533 kw_197 kw_7 rfl rfl (by decide +kernel) ⟨by dsimp only; omega, by dsimp only; omega⟩ rfl hl.1 (Nat.le_of_ble_eq_true rfl) d_Search_start_27 ⟨Nat.le_of_ble_eq_true rfl, Nat.le_of_ble_eq_true rfl⟩) hS (fun H locs hw hS => ?_)
  obtain ⟨St0, hst0, hw⟩ := ex_fill hsc hw
  refine lv_aload_n hx hb d_Search_start_30 rfl (lv_at hl 0 rfl) ?_
  refine nw_call (nw_goV (n := 0) (As := []) (rest := []) hSx hA hKs hw hS (c_Search_foretell l D tC A ad n I (va_up (va_up (va_up K 1 (nI lim)) 2 (nI 0)) 3 (bI false)) (-1) LA bM aM (upR (upR S0 0 9 (flR (S0 0 9) (-1) 6)) 0 10 (S0 0 10)) St0 hst0 hN ow hO) kw_233 kw_230 kw_232 ks_Search_foretell kw_6 rfl rfl (by decide +kernel) ⟨by dsimp only; omega, by dsimp only; omega⟩ (nw_recv hK hw (hW_4) rfl) rfl hl.1 (Nat.le_of_ble_eq_true rfl) d_Search_start_31 ⟨Nat.le_of_ble_eq_true rfl, Nat.le_of_ble_eq_true rfl⟩) hS (fun rv wn' ad' H locs hpost hw hS => ?_)
  obtain ⟨hrv1, L1z, hL1z, hw⟩ := nw_fo_out hpost hw
  subst hrv1
  refine lv_aload_n hx hb d_Search_start_34 rfl (lv_at hl 0 rfl) ?_
  refine lv_iconst (v := nI 0) hx hb d_Search_start_35 (by decide) ?_
  refine lv_lconst (v := 0) hx hb d_Search_start_36 (by decide) ?_
  refine nw_call (nw_goV (n := 2) (As := [.int (nI 0), .long (0)]) (rest := []) hSx hA hKs hw hS (c_Search_branch l D tC A ad n I (va_up K 1 (nI lim)) L1z bM aM S0 hN hm hH ow hO sq hSq hSo lim rfl hlim (fun c hc => (hL1z c hc).trans (hpS_cg (S0 := S0) (S1 := upR (upR S0 0 9 (flR (S0 0 9) (-1) 6)) 0 10 (S0 0 10)) rfl rfl _)) (n 2) 0 (by omega) 0 0 false (-1) (flR (S0 0 9) (-1) 6) (S0 0 10) St0 hst0 (by omega) (okT_fl hn2)) kw_537 kw_534 kw_536 ks_Search_branch kw_6 rfl rfl (by decide +kernel) ⟨by dsimp only; omega, by dsimp only; omega⟩ (nw_recv hK hw (hW_4) rfl) rfl hl.1 (Nat.le_of_ble_eq_true rfl) d_Search_start_37 ⟨Nat.le_of_ble_eq_true rfl, Nat.le_of_ble_eq_true rfl⟩) hS (fun rv wn' ad' H locs hpost hw hS => ?_)
  obtain ⟨hrv2, S2z, hsc2z, hw⟩ := nw_xs_out hpost hw
  subst hrv2
  exact nw_vret hQ hx hb hr hlocks hw hS (⟨rfl, rfl, _, _, hsc2z, rfl⟩) (Nat.le_of_ble_eq_true rfl) (Nat.le_of_ble_eq_true rfl) d_Search_start_40
end
section
/-! DECODE ROWS -/
theorem d_M_init_0 : decode b_M_init 0 = .ok (.aload_n 0, 1) := by decide +kernel
theorem d_M_init_1 : decode b_M_init 1 = .ok (.invokespecial 1, 3) := by decide +kernel
theorem d_M_init_4 : decode b_M_init 4 = .ok (.aload_n 0, 1) := by decide +kernel
theorem d_M_init_5 : decode b_M_init 5 = .ok (.iconst 4, 1) := by decide +kernel
theorem d_M_init_6 : decode b_M_init 6 = .ok (.newarray .int, 2) := by decide +kernel
theorem d_M_init_8 : decode b_M_init 8 = .ok (.putfield 7, 3) := by decide +kernel
theorem d_M_init_11 : decode b_M_init 11 = .ok (.aload_n 0, 1) := by decide +kernel
theorem d_M_init_12 : decode b_M_init 12 = .ok (.bipush 32, 2) := by decide +kernel
theorem d_M_init_14 : decode b_M_init 14 = .ok (.newarray .boolean, 2) := by decide +kernel
theorem d_M_init_16 : decode b_M_init 16 = .ok (.putfield 13, 3) := by decide +kernel
theorem d_M_init_19 : decode b_M_init 19 = .ok (.aload_n 0, 1) := by decide +kernel
theorem d_M_init_20 : decode b_M_init 20 = .ok (.bipush 6, 2) := by decide +kernel
theorem d_M_init_22 : decode b_M_init 22 = .ok (.newarray .int, 2) := by decide +kernel
theorem d_M_init_24 : decode b_M_init 24 = .ok (.putfield 17, 3) := by decide +kernel
theorem d_M_init_27 : decode b_M_init 27 = .ok (.aload_n 0, 1) := by decide +kernel
theorem d_M_init_28 : decode b_M_init 28 = .ok (.bipush 48, 2) := by decide +kernel
theorem d_M_init_30 : decode b_M_init 30 = .ok (.newarray .int, 2) := by decide +kernel
theorem d_M_init_32 : decode b_M_init 32 = .ok (.putfield 20, 3) := by decide +kernel
theorem d_M_init_35 : decode b_M_init 35 = .ok (.aload_n 0, 1) := by decide +kernel
theorem d_M_init_36 : decode b_M_init 36 = .ok (.bipush 48, 2) := by decide +kernel
theorem d_M_init_38 : decode b_M_init 38 = .ok (.newarray .int, 2) := by decide +kernel
theorem d_M_init_40 : decode b_M_init 40 = .ok (.putfield 23, 3) := by decide +kernel
theorem d_M_init_43 : decode b_M_init 43 = .ok (.aload_n 0, 1) := by decide +kernel
theorem d_M_init_44 : decode b_M_init 44 = .ok (.iconst 3, 1) := by decide +kernel
theorem d_M_init_45 : decode b_M_init 45 = .ok (.newarray .int, 2) := by decide +kernel
theorem d_M_init_47 : decode b_M_init 47 = .ok (.putfield 26, 3) := by decide +kernel
theorem d_M_init_50 : decode b_M_init 50 = .ok (.aload_n 0, 1) := by decide +kernel
theorem d_M_init_51 : decode b_M_init 51 = .ok (.bipush 24, 2) := by decide +kernel
theorem d_M_init_53 : decode b_M_init 53 = .ok (.newarray .boolean, 2) := by decide +kernel
theorem d_M_init_55 : decode b_M_init 55 = .ok (.putfield 29, 3) := by decide +kernel
theorem d_M_init_58 : decode b_M_init 58 = .ok (.aload_n 0, 1) := by decide +kernel
theorem d_M_init_59 : decode b_M_init 59 = .ok (.bipush 8, 2) := by decide +kernel
theorem d_M_init_61 : decode b_M_init 61 = .ok (.newarray .int, 2) := by decide +kernel
theorem d_M_init_63 : decode b_M_init 63 = .ok (.putfield 32, 3) := by decide +kernel
theorem d_M_init_66 : decode b_M_init 66 = .ok (.aload_n 0, 1) := by decide +kernel
theorem d_M_init_67 : decode b_M_init 67 = .ok (.bipush 6, 2) := by decide +kernel
theorem d_M_init_69 : decode b_M_init 69 = .ok (.newarray .int, 2) := by decide +kernel
theorem d_M_init_71 : decode b_M_init 71 = .ok (.putfield 35, 3) := by decide +kernel
theorem d_M_init_74 : decode b_M_init 74 = .ok (.aload_n 0, 1) := by decide +kernel
theorem d_M_init_75 : decode b_M_init 75 = .ok (.bipush 6, 2) := by decide +kernel
theorem d_M_init_77 : decode b_M_init 77 = .ok (.newarray .int, 2) := by decide +kernel
theorem d_M_init_79 : decode b_M_init 79 = .ok (.putfield 38, 3) := by decide +kernel
theorem d_M_init_82 : decode b_M_init 82 = .ok (.aload_n 0, 1) := by decide +kernel
theorem d_M_init_83 : decode b_M_init 83 = .ok (.bipush 6, 2) := by decide +kernel
theorem d_M_init_85 : decode b_M_init 85 = .ok (.newarray .int, 2) := by decide +kernel
theorem d_M_init_87 : decode b_M_init 87 = .ok (.putfield 41, 3) := by decide +kernel
theorem d_M_init_90 : decode b_M_init 90 = .ok (.aload_n 0, 1) := by decide +kernel
theorem d_M_init_91 : decode b_M_init 91 = .ok (.bipush 6, 2) := by decide +kernel
theorem d_M_init_93 : decode b_M_init 93 = .ok (.newarray .int, 2) := by decide +kernel
theorem d_M_init_95 : decode b_M_init 95 = .ok (.putfield 44, 3) := by decide +kernel
theorem d_M_init_98 : decode b_M_init 98 = .ok (.aload_n 0, 1) := by decide +kernel
theorem d_M_init_99 : decode b_M_init 99 = .ok (.bipush 6, 2) := by decide +kernel
theorem d_M_init_101 : decode b_M_init 101 = .ok (.newarray .int, 2) := by decide +kernel
theorem d_M_init_103 : decode b_M_init 103 = .ok (.putfield 47, 3) := by decide +kernel
theorem d_M_init_106 : decode b_M_init 106 = .ok (.aload_n 0, 1) := by decide +kernel
theorem d_M_init_107 : decode b_M_init 107 = .ok (.bipush 6, 2) := by decide +kernel
theorem d_M_init_109 : decode b_M_init 109 = .ok (.newarray .int, 2) := by decide +kernel
theorem d_M_init_111 : decode b_M_init 111 = .ok (.putfield 50, 3) := by decide +kernel
theorem d_M_init_114 : decode b_M_init 114 = .ok (.aload_n 0, 1) := by decide +kernel
theorem d_M_init_115 : decode b_M_init 115 = .ok (.bipush 6, 2) := by decide +kernel
theorem d_M_init_117 : decode b_M_init 117 = .ok (.newarray .int, 2) := by decide +kernel
theorem d_M_init_119 : decode b_M_init 119 = .ok (.putfield 53, 3) := by decide +kernel
theorem d_M_init_122 : decode b_M_init 122 = .ok (.aload_n 0, 1) := by decide +kernel
theorem d_M_init_123 : decode b_M_init 123 = .ok (.bipush 6, 2) := by decide +kernel
theorem d_M_init_125 : decode b_M_init 125 = .ok (.newarray .int, 2) := by decide +kernel
theorem d_M_init_127 : decode b_M_init 127 = .ok (.putfield 56, 3) := by decide +kernel
theorem d_M_init_130 : decode b_M_init 130 = .ok (.aload_n 0, 1) := by decide +kernel
theorem d_M_init_131 : decode b_M_init 131 = .ok (.bipush 6, 2) := by decide +kernel
theorem d_M_init_133 : decode b_M_init 133 = .ok (.newarray .long, 2) := by decide +kernel
theorem d_M_init_135 : decode b_M_init 135 = .ok (.putfield 59, 3) := by decide +kernel
theorem d_M_init_138 : decode b_M_init 138 = .ok (.aload_n 0, 1) := by decide +kernel
theorem d_M_init_139 : decode b_M_init 139 = .ok (.bipush 6, 2) := by decide +kernel
theorem d_M_init_141 : decode b_M_init 141 = .ok (.newarray .long, 2) := by decide +kernel
theorem d_M_init_143 : decode b_M_init 143 = .ok (.putfield 63, 3) := by decide +kernel
theorem d_M_init_146 : decode b_M_init 146 = .ok (.aload_n 0, 1) := by decide +kernel
theorem d_M_init_147 : decode b_M_init 147 = .ok (.bipush 6, 2) := by decide +kernel
theorem d_M_init_149 : decode b_M_init 149 = .ok (.newarray .boolean, 2) := by decide +kernel
theorem d_M_init_151 : decode b_M_init 151 = .ok (.putfield 66, 3) := by decide +kernel
theorem d_M_init_154 : decode b_M_init 154 = .ok (.aload_n 0, 1) := by decide +kernel
theorem d_M_init_155 : decode b_M_init 155 = .ok (.bipush 6, 2) := by decide +kernel
theorem d_M_init_157 : decode b_M_init 157 = .ok (.newarray .long, 2) := by decide +kernel
theorem d_M_init_159 : decode b_M_init 159 = .ok (.putfield 69, 3) := by decide +kernel
theorem d_M_init_162 : decode b_M_init 162 = .ok (.aload_n 0, 1) := by decide +kernel
theorem d_M_init_163 : decode b_M_init 163 = .ok (.bipush 7, 2) := by decide +kernel
theorem d_M_init_165 : decode b_M_init 165 = .ok (.newarray .long, 2) := by decide +kernel
theorem d_M_init_167 : decode b_M_init 167 = .ok (.putfield 72, 3) := by decide +kernel
theorem d_M_init_170 : decode b_M_init 170 = .ok (.aload_n 0, 1) := by decide +kernel
theorem d_M_init_171 : decode b_M_init 171 = .ok (.iload_n 1, 1) := by decide +kernel
theorem d_M_init_172 : decode b_M_init 172 = .ok (.iconst 1, 1) := by decide +kernel
theorem d_M_init_173 : decode b_M_init 173 = .ok (.if_icmp .ge 7, 3) := by decide +kernel
theorem d_M_init_176 : decode b_M_init 176 = .ok (.iconst 1, 1) := by decide +kernel
theorem d_M_init_177 : decode b_M_init 177 = .ok (.goto 15, 3) := by decide +kernel
theorem d_M_init_180 : decode b_M_init 180 = .ok (.iload_n 1, 1) := by decide +kernel
theorem d_M_init_181 : decode b_M_init 181 = .ok (.bipush 8, 2) := by decide +kernel
theorem d_M_init_183 : decode b_M_init 183 = .ok (.if_icmp .le 8, 3) := by decide +kernel
theorem d_M_init_186 : decode b_M_init 186 = .ok (.bipush 8, 2) := by decide +kernel
theorem d_M_init_188 : decode b_M_init 188 = .ok (.goto 4, 3) := by decide +kernel
theorem d_M_init_191 : decode b_M_init 191 = .ok (.iload_n 1, 1) := by decide +kernel
theorem d_M_init_192 : decode b_M_init 192 = .ok (.putfield 75, 3) := by decide +kernel
theorem d_M_init_195 : decode b_M_init 195 = .ok (.return_, 1) := by decide +kernel
theorem d_M_thrown_0 : decode b_M_thrown 0 = .ok (.aload_n 0, 1) := by decide +kernel
theorem d_M_thrown_1 : decode b_M_thrown 1 = .ok (.getfield 79, 3) := by decide +kernel
theorem d_M_thrown_4 : decode b_M_thrown 4 = .ok (.ireturn, 1) := by decide +kernel
theorem d_M_in_0 : decode b_M_in 0 = .ok (.lload_n 0, 1) := by decide +kernel
theorem d_M_in_1 : decode b_M_in 1 = .ok (.lload_n 2, 1) := by decide +kernel
theorem d_M_in_2 : decode b_M_in 2 = .ok (.lcmp, 1) := by decide +kernel
theorem d_M_in_3 : decode b_M_in 3 = .ok (.ifCond .lt 14, 3) := by decide +kernel
theorem d_M_in_6 : decode b_M_in 6 = .ok (.lload_n 0, 1) := by decide +kernel
theorem d_M_in_7 : decode b_M_in 7 = .ok (.lload 4, 2) := by decide +kernel
theorem d_M_in_9 : decode b_M_in 9 = .ok (.lcmp, 1) := by decide +kernel
theorem d_M_in_10 : decode b_M_in 10 = .ok (.ifCond .gt 7, 3) := by decide +kernel
theorem d_M_in_13 : decode b_M_in 13 = .ok (.iconst 1, 1) := by decide +kernel
theorem d_M_in_14 : decode b_M_in 14 = .ok (.goto 4, 3) := by decide +kernel
theorem d_M_in_17 : decode b_M_in 17 = .ok (.iconst 0, 1) := by decide +kernel
theorem d_M_in_18 : decode b_M_in 18 = .ok (.ireturn, 1) := by decide +kernel
theorem d_M_refuses_0 : decode b_M_refuses 0 = .ok (.aload_n 0, 1) := by decide +kernel
theorem d_M_refuses_1 : decode b_M_refuses 1 = .ok (.iload_n 1, 1) := by decide +kernel
theorem d_M_refuses_2 : decode b_M_refuses 2 = .ok (.ifCond .ne 7, 3) := by decide +kernel
theorem d_M_refuses_5 : decode b_M_refuses 5 = .ok (.iconst 1, 1) := by decide +kernel
theorem d_M_refuses_6 : decode b_M_refuses 6 = .ok (.goto 12, 3) := by decide +kernel
theorem d_M_refuses_9 : decode b_M_refuses 9 = .ok (.iload_n 2, 1) := by decide +kernel
theorem d_M_refuses_10 : decode b_M_refuses 10 = .ok (.ifCond .ne 7, 3) := by decide +kernel
theorem d_M_refuses_13 : decode b_M_refuses 13 = .ok (.iconst 2, 1) := by decide +kernel
theorem d_M_refuses_14 : decode b_M_refuses 14 = .ok (.goto 4, 3) := by decide +kernel
theorem d_M_refuses_17 : decode b_M_refuses 17 = .ok (.iconst 0, 1) := by decide +kernel
theorem d_M_refuses_18 : decode b_M_refuses 18 = .ok (.putfield 79, 3) := by decide +kernel
theorem d_M_refuses_21 : decode b_M_refuses 21 = .ok (.aload_n 0, 1) := by decide +kernel
theorem d_M_refuses_22 : decode b_M_refuses 22 = .ok (.getfield 79, 3) := by decide +kernel
theorem d_M_refuses_25 : decode b_M_refuses 25 = .ok (.ifCond .le 7, 3) := by decide +kernel
theorem d_M_refuses_28 : decode b_M_refuses 28 = .ok (.iconst 1, 1) := by decide +kernel
theorem d_M_refuses_29 : decode b_M_refuses 29 = .ok (.goto 4, 3) := by decide +kernel
theorem d_M_refuses_32 : decode b_M_refuses 32 = .ok (.iconst 0, 1) := by decide +kernel
theorem d_M_refuses_33 : decode b_M_refuses 33 = .ok (.ireturn, 1) := by decide +kernel
theorem d_M_kilos_0 : decode b_M_kilos 0 = .ok (.aload_n 0, 1) := by decide +kernel
theorem d_M_kilos_1 : decode b_M_kilos 1 = .ok (.getfield 20, 3) := by decide +kernel
theorem d_M_kilos_4 : decode b_M_kilos 4 = .ok (.bipush 8, 2) := by decide +kernel
theorem d_M_kilos_6 : decode b_M_kilos 6 = .ok (.iload_n 1, 1) := by decide +kernel
theorem d_M_kilos_7 : decode b_M_kilos 7 = .ok (.imul, 1) := by decide +kernel
theorem d_M_kilos_8 : decode b_M_kilos 8 = .ok (.iload_n 2, 1) := by decide +kernel
theorem d_M_kilos_9 : decode b_M_kilos 9 = .ok (.iadd, 1) := by decide +kernel
theorem d_M_kilos_10 : decode b_M_kilos 10 = .ok (.iaload, 1) := by decide +kernel
theorem d_M_kilos_11 : decode b_M_kilos 11 = .ok (.i2l, 1) := by decide +kernel
theorem d_M_kilos_12 : decode b_M_kilos 12 = .ok (.aload_n 0, 1) := by decide +kernel
theorem d_M_kilos_13 : decode b_M_kilos 13 = .ok (.getfield 23, 3) := by decide +kernel
theorem d_M_kilos_16 : decode b_M_kilos 16 = .ok (.bipush 8, 2) := by decide +kernel
theorem d_M_kilos_18 : decode b_M_kilos 18 = .ok (.iload_n 1, 1) := by decide +kernel
theorem d_M_kilos_19 : decode b_M_kilos 19 = .ok (.imul, 1) := by decide +kernel
theorem d_M_kilos_20 : decode b_M_kilos 20 = .ok (.iload_n 2, 1) := by decide +kernel
theorem d_M_kilos_21 : decode b_M_kilos 21 = .ok (.iadd, 1) := by decide +kernel
theorem d_M_kilos_22 : decode b_M_kilos 22 = .ok (.iaload, 1) := by decide +kernel
theorem d_M_kilos_23 : decode b_M_kilos 23 = .ok (.i2l, 1) := by decide +kernel
theorem d_M_kilos_24 : decode b_M_kilos 24 = .ok (.lmul, 1) := by decide +kernel
theorem d_M_kilos_25 : decode b_M_kilos 25 = .ok (.ldc2_w 82, 3) := by decide +kernel
theorem d_M_kilos_28 : decode b_M_kilos 28 = .ok (.ldiv, 1) := by decide +kernel
theorem d_M_kilos_29 : decode b_M_kilos 29 = .ok (.lreturn, 1) := by decide +kernel
theorem d_M_place_0 : decode b_M_place 0 = .ok (.aload_n 0, 1) := by decide +kernel
theorem d_M_place_1 : decode b_M_place 1 = .ok (.iload_n 1, 1) := by decide +kernel
theorem d_M_place_2 : decode b_M_place 2 = .ok (.i2l, 1) := by decide +kernel
theorem d_M_place_3 : decode b_M_place 3 = .ok (.lconst 0, 1) := by decide +kernel
theorem d_M_place_4 : decode b_M_place 4 = .ok (.ldc2_w 84, 3) := by decide +kernel
theorem d_M_place_7 : decode b_M_place 7 = .ok (.invokestatic 86, 3) := by decide +kernel
theorem d_M_place_10 : decode b_M_place 10 = .ok (.aload_n 0, 1) := by decide +kernel
theorem d_M_place_11 : decode b_M_place 11 = .ok (.getfield 90, 3) := by decide +kernel
theorem d_M_place_14 : decode b_M_place 14 = .ok (.iconst 4, 1) := by decide +kernel
theorem d_M_place_15 : decode b_M_place 15 = .ok (.if_icmp .ge 7, 3) := by decide +kernel
theorem d_M_place_18 : decode b_M_place 18 = .ok (.iconst 1, 1) := by decide +kernel
theorem d_M_place_19 : decode b_M_place 19 = .ok (.goto 4, 3) := by decide +kernel
theorem d_M_place_22 : decode b_M_place 22 = .ok (.iconst 0, 1) := by decide +kernel
theorem d_M_place_23 : decode b_M_place 23 = .ok (.invokevirtual 93, 3) := by decide +kernel
theorem d_M_place_26 : decode b_M_place 26 = .ok (.ifCond .eq 5, 3) := by decide +kernel
theorem d_M_place_29 : decode b_M_place 29 = .ok (.iconst 0, 1) := by decide +kernel
theorem d_M_place_30 : decode b_M_place 30 = .ok (.ireturn, 1) := by decide +kernel
theorem d_M_place_31 : decode b_M_place 31 = .ok (.aload_n 0, 1) := by decide +kernel
theorem d_M_place_32 : decode b_M_place 32 = .ok (.iconst 0, 1) := by decide +kernel
theorem d_M_place_33 : decode b_M_place 33 = .ok (.putfield 97, 3) := by decide +kernel
theorem d_M_place_36 : decode b_M_place 36 = .ok (.aload_n 0, 1) := by decide +kernel
theorem d_M_place_37 : decode b_M_place 37 = .ok (.getfield 7, 3) := by decide +kernel
theorem d_M_place_40 : decode b_M_place 40 = .ok (.aload_n 0, 1) := by decide +kernel
theorem d_M_place_41 : decode b_M_place 41 = .ok (.getfield 90, 3) := by decide +kernel
theorem d_M_place_44 : decode b_M_place 44 = .ok (.iload_n 1, 1) := by decide +kernel
theorem d_M_place_45 : decode b_M_place 45 = .ok (.iastore, 1) := by decide +kernel
theorem d_M_place_46 : decode b_M_place 46 = .ok (.aload_n 0, 1) := by decide +kernel
theorem d_M_place_47 : decode b_M_place 47 = .ok (.dup, 1) := by decide +kernel
theorem d_M_place_48 : decode b_M_place 48 = .ok (.getfield 90, 3) := by decide +kernel
theorem d_M_place_51 : decode b_M_place 51 = .ok (.iconst 1, 1) := by decide +kernel
theorem d_M_place_52 : decode b_M_place 52 = .ok (.iadd, 1) := by decide +kernel
theorem d_M_place_53 : decode b_M_place 53 = .ok (.putfield 90, 3) := by decide +kernel
theorem d_M_place_56 : decode b_M_place 56 = .ok (.aload_n 0, 1) := by decide +kernel
theorem d_M_place_57 : decode b_M_place 57 = .ok (.getfield 90, 3) := by decide +kernel
theorem d_M_place_60 : decode b_M_place 60 = .ok (.iconst 1, 1) := by decide +kernel
theorem d_M_place_61 : decode b_M_place 61 = .ok (.isub, 1) := by decide +kernel
theorem d_M_place_62 : decode b_M_place 62 = .ok (.ireturn, 1) := by decide +kernel
theorem d_M_closed_0 : decode b_M_closed 0 = .ok (.aload_n 0, 1) := by decide +kernel
theorem d_M_closed_1 : decode b_M_closed 1 = .ok (.iload_n 1, 1) := by decide +kernel
theorem d_M_closed_2 : decode b_M_closed 2 = .ok (.i2l, 1) := by decide +kernel
theorem d_M_closed_3 : decode b_M_closed 3 = .ok (.lconst 0, 1) := by decide +kernel
theorem d_M_closed_4 : decode b_M_closed 4 = .ok (.aload_n 0, 1) := by decide +kernel
theorem d_M_closed_5 : decode b_M_closed 5 = .ok (.getfield 90, 3) := by decide +kernel
theorem d_M_closed_8 : decode b_M_closed 8 = .ok (.iconst 1, 1) := by decide +kernel
theorem d_M_closed_9 : decode b_M_closed 9 = .ok (.isub, 1) := by decide +kernel
theorem d_M_closed_10 : decode b_M_closed 10 = .ok (.i2l, 1) := by decide +kernel
theorem d_M_closed_11 : decode b_M_closed 11 = .ok (.invokestatic 86, 3) := by decide +kernel
theorem d_M_closed_14 : decode b_M_closed 14 = .ok (.ifCond .eq 23, 3) := by decide +kernel
theorem d_M_closed_17 : decode b_M_closed 17 = .ok (.iload_n 2, 1) := by decide +kernel
theorem d_M_closed_18 : decode b_M_closed 18 = .ok (.i2l, 1) := by decide +kernel
theorem d_M_closed_19 : decode b_M_closed 19 = .ok (.lconst 0, 1) := by decide +kernel
theorem d_M_closed_20 : decode b_M_closed 20 = .ok (.aload_n 0, 1) := by decide +kernel
theorem d_M_closed_21 : decode b_M_closed 21 = .ok (.getfield 75, 3) := by decide +kernel
theorem d_M_closed_24 : decode b_M_closed 24 = .ok (.iconst 1, 1) := by decide +kernel
theorem d_M_closed_25 : decode b_M_closed 25 = .ok (.isub, 1) := by decide +kernel
theorem d_M_closed_26 : decode b_M_closed 26 = .ok (.i2l, 1) := by decide +kernel
theorem d_M_closed_27 : decode b_M_closed 27 = .ok (.invokestatic 86, 3) := by decide +kernel
theorem d_M_closed_30 : decode b_M_closed 30 = .ok (.ifCond .eq 7, 3) := by decide +kernel
theorem d_M_closed_33 : decode b_M_closed 33 = .ok (.iconst 1, 1) := by decide +kernel
theorem d_M_closed_34 : decode b_M_closed 34 = .ok (.goto 4, 3) := by decide +kernel
theorem d_M_closed_37 : decode b_M_closed 37 = .ok (.iconst 0, 1) := by decide +kernel
theorem d_M_closed_38 : decode b_M_closed 38 = .ok (.iconst 1, 1) := by decide +kernel
theorem d_M_closed_39 : decode b_M_closed 39 = .ok (.invokevirtual 93, 3) := by decide +kernel
theorem d_M_closed_42 : decode b_M_closed 42 = .ok (.ifCond .eq 5, 3) := by decide +kernel
theorem d_M_closed_45 : decode b_M_closed 45 = .ok (.iconst 0, 1) := by decide +kernel
theorem d_M_closed_46 : decode b_M_closed 46 = .ok (.ireturn, 1) := by decide +kernel
theorem d_M_closed_47 : decode b_M_closed 47 = .ok (.aload_n 0, 1) := by decide +kernel
theorem d_M_closed_48 : decode b_M_closed 48 = .ok (.iconst 0, 1) := by decide +kernel
theorem d_M_closed_49 : decode b_M_closed 49 = .ok (.putfield 97, 3) := by decide +kernel
theorem d_M_closed_52 : decode b_M_closed 52 = .ok (.aload_n 0, 1) := by decide +kernel
theorem d_M_closed_53 : decode b_M_closed 53 = .ok (.getfield 13, 3) := by decide +kernel
theorem d_M_closed_56 : decode b_M_closed 56 = .ok (.bipush 8, 2) := by decide +kernel
theorem d_M_closed_58 : decode b_M_closed 58 = .ok (.iload_n 1, 1) := by decide +kernel
theorem d_M_closed_59 : decode b_M_closed 59 = .ok (.imul, 1) := by decide +kernel
theorem d_M_closed_60 : decode b_M_closed 60 = .ok (.iload_n 2, 1) := by decide +kernel
theorem d_M_closed_61 : decode b_M_closed 61 = .ok (.iadd, 1) := by decide +kernel
theorem d_M_closed_62 : decode b_M_closed 62 = .ok (.baload, 1) := by decide +kernel
theorem d_M_closed_63 : decode b_M_closed 63 = .ok (.istore 4, 2) := by decide +kernel
theorem d_M_closed_65 : decode b_M_closed 65 = .ok (.aload_n 0, 1) := by decide +kernel
theorem d_M_closed_66 : decode b_M_closed 66 = .ok (.getfield 13, 3) := by decide +kernel
theorem d_M_closed_69 : decode b_M_closed 69 = .ok (.bipush 8, 2) := by decide +kernel
theorem d_M_closed_71 : decode b_M_closed 71 = .ok (.iload_n 1, 1) := by decide +kernel
theorem d_M_closed_72 : decode b_M_closed 72 = .ok (.imul, 1) := by decide +kernel
theorem d_M_closed_73 : decode b_M_closed 73 = .ok (.iload_n 2, 1) := by decide +kernel
theorem d_M_closed_74 : decode b_M_closed 74 = .ok (.iadd, 1) := by decide +kernel
theorem d_M_closed_75 : decode b_M_closed 75 = .ok (.iload_n 3, 1) := by decide +kernel
theorem d_M_closed_76 : decode b_M_closed 76 = .ok (.bastore, 1) := by decide +kernel
theorem d_M_closed_77 : decode b_M_closed 77 = .ok (.iload 4, 2) := by decide +kernel
theorem d_M_closed_79 : decode b_M_closed 79 = .ok (.ireturn, 1) := by decide +kernel
theorem d_M_cage_0 : decode b_M_cage 0 = .ok (.aload_n 0, 1) := by decide +kernel
theorem d_M_cage_1 : decode b_M_cage 1 = .ok (.iload_n 1, 1) := by decide +kernel
theorem d_M_cage_2 : decode b_M_cage 2 = .ok (.i2l, 1) := by decide +kernel
theorem d_M_cage_3 : decode b_M_cage 3 = .ok (.lconst 0, 1) := by decide +kernel
theorem d_M_cage_4 : decode b_M_cage 4 = .ok (.aload_n 0, 1) := by decide +kernel
theorem d_M_cage_5 : decode b_M_cage 5 = .ok (.getfield 90, 3) := by decide +kernel
theorem d_M_cage_8 : decode b_M_cage 8 = .ok (.iconst 1, 1) := by decide +kernel
theorem d_M_cage_9 : decode b_M_cage 9 = .ok (.isub, 1) := by decide +kernel
theorem d_M_cage_10 : decode b_M_cage 10 = .ok (.i2l, 1) := by decide +kernel
theorem d_M_cage_11 : decode b_M_cage 11 = .ok (.invokestatic 86, 3) := by decide +kernel
theorem d_M_cage_14 : decode b_M_cage 14 = .ok (.aload_n 0, 1) := by decide +kernel
theorem d_M_cage_15 : decode b_M_cage 15 = .ok (.getfield 101, 3) := by decide +kernel
theorem d_M_cage_18 : decode b_M_cage 18 = .ok (.bipush 6, 2) := by decide +kernel
theorem d_M_cage_20 : decode b_M_cage 20 = .ok (.if_icmp .ge 7, 3) := by decide +kernel
theorem d_M_cage_23 : decode b_M_cage 23 = .ok (.iconst 1, 1) := by decide +kernel
theorem d_M_cage_24 : decode b_M_cage 24 = .ok (.goto 4, 3) := by decide +kernel
theorem d_M_cage_27 : decode b_M_cage 27 = .ok (.iconst 0, 1) := by decide +kernel
theorem d_M_cage_28 : decode b_M_cage 28 = .ok (.invokevirtual 93, 3) := by decide +kernel
theorem d_M_cage_31 : decode b_M_cage 31 = .ok (.ifCond .eq 5, 3) := by decide +kernel
theorem d_M_cage_34 : decode b_M_cage 34 = .ok (.iconst 0, 1) := by decide +kernel
theorem d_M_cage_35 : decode b_M_cage 35 = .ok (.ireturn, 1) := by decide +kernel
theorem d_M_cage_36 : decode b_M_cage 36 = .ok (.aload_n 0, 1) := by decide +kernel
theorem d_M_cage_37 : decode b_M_cage 37 = .ok (.iconst 0, 1) := by decide +kernel
theorem d_M_cage_38 : decode b_M_cage 38 = .ok (.putfield 97, 3) := by decide +kernel
theorem d_M_cage_41 : decode b_M_cage 41 = .ok (.aload_n 0, 1) := by decide +kernel
theorem d_M_cage_42 : decode b_M_cage 42 = .ok (.getfield 17, 3) := by decide +kernel
theorem d_M_cage_45 : decode b_M_cage 45 = .ok (.aload_n 0, 1) := by decide +kernel
theorem d_M_cage_46 : decode b_M_cage 46 = .ok (.getfield 101, 3) := by decide +kernel
theorem d_M_cage_49 : decode b_M_cage 49 = .ok (.iload_n 1, 1) := by decide +kernel
theorem d_M_cage_50 : decode b_M_cage 50 = .ok (.iastore, 1) := by decide +kernel
theorem d_M_cage_51 : decode b_M_cage 51 = .ok (.aload_n 0, 1) := by decide +kernel
theorem d_M_cage_52 : decode b_M_cage 52 = .ok (.dup, 1) := by decide +kernel
theorem d_M_cage_53 : decode b_M_cage 53 = .ok (.getfield 101, 3) := by decide +kernel
theorem d_M_cage_56 : decode b_M_cage 56 = .ok (.iconst 1, 1) := by decide +kernel
theorem d_M_cage_57 : decode b_M_cage 57 = .ok (.iadd, 1) := by decide +kernel
theorem d_M_cage_58 : decode b_M_cage 58 = .ok (.putfield 101, 3) := by decide +kernel
theorem d_M_cage_61 : decode b_M_cage 61 = .ok (.aload_n 0, 1) := by decide +kernel
theorem d_M_cage_62 : decode b_M_cage 62 = .ok (.getfield 101, 3) := by decide +kernel
theorem d_M_cage_65 : decode b_M_cage 65 = .ok (.iconst 1, 1) := by decide +kernel
theorem d_M_cage_66 : decode b_M_cage 66 = .ok (.isub, 1) := by decide +kernel
theorem d_M_cage_67 : decode b_M_cage 67 = .ok (.ireturn, 1) := by decide +kernel
theorem d_M_size_0 : decode b_M_size 0 = .ok (.aload_n 0, 1) := by decide +kernel
theorem d_M_size_1 : decode b_M_size 1 = .ok (.iload_n 1, 1) := by decide +kernel
theorem d_M_size_2 : decode b_M_size 2 = .ok (.i2l, 1) := by decide +kernel
theorem d_M_size_3 : decode b_M_size 3 = .ok (.lconst 0, 1) := by decide +kernel
theorem d_M_size_4 : decode b_M_size 4 = .ok (.aload_n 0, 1) := by decide +kernel
theorem d_M_size_5 : decode b_M_size 5 = .ok (.getfield 101, 3) := by decide +kernel
theorem d_M_size_8 : decode b_M_size 8 = .ok (.iconst 1, 1) := by decide +kernel
theorem d_M_size_9 : decode b_M_size 9 = .ok (.isub, 1) := by decide +kernel
theorem d_M_size_10 : decode b_M_size 10 = .ok (.i2l, 1) := by decide +kernel
theorem d_M_size_11 : decode b_M_size 11 = .ok (.invokestatic 86, 3) := by decide +kernel
theorem d_M_size_14 : decode b_M_size 14 = .ok (.ifCond .eq 48, 3) := by decide +kernel
theorem d_M_size_17 : decode b_M_size 17 = .ok (.iload_n 2, 1) := by decide +kernel
theorem d_M_size_18 : decode b_M_size 18 = .ok (.i2l, 1) := by decide +kernel
theorem d_M_size_19 : decode b_M_size 19 = .ok (.lconst 0, 1) := by decide +kernel
theorem d_M_size_20 : decode b_M_size 20 = .ok (.aload_n 0, 1) := by decide +kernel
theorem d_M_size_21 : decode b_M_size 21 = .ok (.getfield 75, 3) := by decide +kernel
theorem d_M_size_24 : decode b_M_size 24 = .ok (.iconst 1, 1) := by decide +kernel
theorem d_M_size_25 : decode b_M_size 25 = .ok (.isub, 1) := by decide +kernel
theorem d_M_size_26 : decode b_M_size 26 = .ok (.i2l, 1) := by decide +kernel
theorem d_M_size_27 : decode b_M_size 27 = .ok (.invokestatic 86, 3) := by decide +kernel
theorem d_M_size_30 : decode b_M_size 30 = .ok (.ifCond .eq 32, 3) := by decide +kernel
theorem d_M_size_33 : decode b_M_size 33 = .ok (.iload_n 3, 1) := by decide +kernel
theorem d_M_size_34 : decode b_M_size 34 = .ok (.i2l, 1) := by decide +kernel
theorem d_M_size_35 : decode b_M_size 35 = .ok (.lconst 0, 1) := by decide +kernel
theorem d_M_size_36 : decode b_M_size 36 = .ok (.ldc2_w 104, 3) := by decide +kernel
theorem d_M_size_39 : decode b_M_size 39 = .ok (.invokestatic 86, 3) := by decide +kernel
theorem d_M_size_42 : decode b_M_size 42 = .ok (.ifCond .eq 20, 3) := by decide +kernel
theorem d_M_size_45 : decode b_M_size 45 = .ok (.iload 4, 2) := by decide +kernel
theorem d_M_size_47 : decode b_M_size 47 = .ok (.i2l, 1) := by decide +kernel
theorem d_M_size_48 : decode b_M_size 48 = .ok (.lconst 0, 1) := by decide +kernel
theorem d_M_size_49 : decode b_M_size 49 = .ok (.ldc2_w 106, 3) := by decide +kernel
theorem d_M_size_52 : decode b_M_size 52 = .ok (.invokestatic 86, 3) := by decide +kernel
theorem d_M_size_55 : decode b_M_size 55 = .ok (.ifCond .eq 7, 3) := by decide +kernel
theorem d_M_size_58 : decode b_M_size 58 = .ok (.iconst 1, 1) := by decide +kernel
theorem d_M_size_59 : decode b_M_size 59 = .ok (.goto 4, 3) := by decide +kernel
theorem d_M_size_62 : decode b_M_size 62 = .ok (.iconst 0, 1) := by decide +kernel
theorem d_M_size_63 : decode b_M_size 63 = .ok (.iconst 1, 1) := by decide +kernel
theorem d_M_size_64 : decode b_M_size 64 = .ok (.invokevirtual 93, 3) := by decide +kernel
theorem d_M_size_67 : decode b_M_size 67 = .ok (.ifCond .eq 5, 3) := by decide +kernel
theorem d_M_size_70 : decode b_M_size 70 = .ok (.iconst 0, 1) := by decide +kernel
theorem d_M_size_71 : decode b_M_size 71 = .ok (.ireturn, 1) := by decide +kernel
theorem d_M_size_72 : decode b_M_size 72 = .ok (.aload_n 0, 1) := by decide +kernel
theorem d_M_size_73 : decode b_M_size 73 = .ok (.iconst 0, 1) := by decide +kernel
theorem d_M_size_74 : decode b_M_size 74 = .ok (.putfield 97, 3) := by decide +kernel
theorem d_M_size_77 : decode b_M_size 77 = .ok (.aload_n 0, 1) := by decide +kernel
theorem d_M_size_78 : decode b_M_size 78 = .ok (.getfield 20, 3) := by decide +kernel
theorem d_M_size_81 : decode b_M_size 81 = .ok (.bipush 8, 2) := by decide +kernel
theorem d_M_size_83 : decode b_M_size 83 = .ok (.iload_n 1, 1) := by decide +kernel
theorem d_M_size_84 : decode b_M_size 84 = .ok (.imul, 1) := by decide +kernel
theorem d_M_size_85 : decode b_M_size 85 = .ok (.iload_n 2, 1) := by decide +kernel
theorem d_M_size_86 : decode b_M_size 86 = .ok (.iadd, 1) := by decide +kernel
theorem d_M_size_87 : decode b_M_size 87 = .ok (.iload_n 3, 1) := by decide +kernel
theorem d_M_size_88 : decode b_M_size 88 = .ok (.iastore, 1) := by decide +kernel
theorem d_M_size_89 : decode b_M_size 89 = .ok (.aload_n 0, 1) := by decide +kernel
theorem d_M_size_90 : decode b_M_size 90 = .ok (.getfield 23, 3) := by decide +kernel
theorem d_M_size_93 : decode b_M_size 93 = .ok (.bipush 8, 2) := by decide +kernel
theorem d_M_size_95 : decode b_M_size 95 = .ok (.iload_n 1, 1) := by decide +kernel
theorem d_M_size_96 : decode b_M_size 96 = .ok (.imul, 1) := by decide +kernel
theorem d_M_size_97 : decode b_M_size 97 = .ok (.iload_n 2, 1) := by decide +kernel
theorem d_M_size_98 : decode b_M_size 98 = .ok (.iadd, 1) := by decide +kernel
theorem d_M_size_99 : decode b_M_size 99 = .ok (.iload 4, 2) := by decide +kernel
theorem d_M_size_101 : decode b_M_size 101 = .ok (.iastore, 1) := by decide +kernel
theorem d_M_size_102 : decode b_M_size 102 = .ok (.aload_n 0, 1) := by decide +kernel
theorem d_M_size_103 : decode b_M_size 103 = .ok (.iload_n 1, 1) := by decide +kernel
theorem d_M_size_104 : decode b_M_size 104 = .ok (.iload_n 2, 1) := by decide +kernel
theorem d_M_size_105 : decode b_M_size 105 = .ok (.invokevirtual 108, 3) := by decide +kernel
theorem d_M_size_108 : decode b_M_size 108 = .ok (.l2i, 1) := by decide +kernel
theorem d_M_size_109 : decode b_M_size 109 = .ok (.ireturn, 1) := by decide +kernel
theorem d_M_boat_0 : decode b_M_boat 0 = .ok (.aload_n 0, 1) := by decide +kernel
theorem d_M_boat_1 : decode b_M_boat 1 = .ok (.iload_n 1, 1) := by decide +kernel
theorem d_M_boat_2 : decode b_M_boat 2 = .ok (.i2l, 1) := by decide +kernel
theorem d_M_boat_3 : decode b_M_boat 3 = .ok (.lconst 0, 1) := by decide +kernel
theorem d_M_boat_4 : decode b_M_boat 4 = .ok (.ldc2_w 84, 3) := by decide +kernel
theorem d_M_boat_7 : decode b_M_boat 7 = .ok (.invokestatic 86, 3) := by decide +kernel
theorem d_M_boat_10 : decode b_M_boat 10 = .ok (.aload_n 0, 1) := by decide +kernel
theorem d_M_boat_11 : decode b_M_boat 11 = .ok (.getfield 112, 3) := by decide +kernel
theorem d_M_boat_14 : decode b_M_boat 14 = .ok (.iconst 3, 1) := by decide +kernel
theorem d_M_boat_15 : decode b_M_boat 15 = .ok (.if_icmp .ge 7, 3) := by decide +kernel
theorem d_M_boat_18 : decode b_M_boat 18 = .ok (.iconst 1, 1) := by decide +kernel
theorem d_M_boat_19 : decode b_M_boat 19 = .ok (.goto 4, 3) := by decide +kernel
theorem d_M_boat_22 : decode b_M_boat 22 = .ok (.iconst 0, 1) := by decide +kernel
theorem d_M_boat_23 : decode b_M_boat 23 = .ok (.invokevirtual 93, 3) := by decide +kernel
theorem d_M_boat_26 : decode b_M_boat 26 = .ok (.ifCond .eq 5, 3) := by decide +kernel
theorem d_M_boat_29 : decode b_M_boat 29 = .ok (.iconst 0, 1) := by decide +kernel
theorem d_M_boat_30 : decode b_M_boat 30 = .ok (.ireturn, 1) := by decide +kernel
theorem d_M_boat_31 : decode b_M_boat 31 = .ok (.aload_n 0, 1) := by decide +kernel
theorem d_M_boat_32 : decode b_M_boat 32 = .ok (.iconst 0, 1) := by decide +kernel
theorem d_M_boat_33 : decode b_M_boat 33 = .ok (.putfield 97, 3) := by decide +kernel
theorem d_M_boat_36 : decode b_M_boat 36 = .ok (.aload_n 0, 1) := by decide +kernel
theorem d_M_boat_37 : decode b_M_boat 37 = .ok (.getfield 26, 3) := by decide +kernel
theorem d_M_boat_40 : decode b_M_boat 40 = .ok (.aload_n 0, 1) := by decide +kernel
theorem d_M_boat_41 : decode b_M_boat 41 = .ok (.getfield 112, 3) := by decide +kernel
theorem d_M_boat_44 : decode b_M_boat 44 = .ok (.iload_n 1, 1) := by decide +kernel
theorem d_M_boat_45 : decode b_M_boat 45 = .ok (.iastore, 1) := by decide +kernel
theorem d_M_boat_46 : decode b_M_boat 46 = .ok (.aload_n 0, 1) := by decide +kernel
theorem d_M_boat_47 : decode b_M_boat 47 = .ok (.dup, 1) := by decide +kernel
theorem d_M_boat_48 : decode b_M_boat 48 = .ok (.getfield 112, 3) := by decide +kernel
theorem d_M_boat_51 : decode b_M_boat 51 = .ok (.iconst 1, 1) := by decide +kernel
theorem d_M_boat_52 : decode b_M_boat 52 = .ok (.iadd, 1) := by decide +kernel
theorem d_M_boat_53 : decode b_M_boat 53 = .ok (.putfield 112, 3) := by decide +kernel
theorem d_M_boat_56 : decode b_M_boat 56 = .ok (.aload_n 0, 1) := by decide +kernel
theorem d_M_boat_57 : decode b_M_boat 57 = .ok (.getfield 112, 3) := by decide +kernel
theorem d_M_boat_60 : decode b_M_boat 60 = .ok (.iconst 1, 1) := by decide +kernel
theorem d_M_boat_61 : decode b_M_boat 61 = .ok (.isub, 1) := by decide +kernel
theorem d_M_boat_62 : decode b_M_boat 62 = .ok (.ireturn, 1) := by decide +kernel
theorem d_M_weather_0 : decode b_M_weather 0 = .ok (.aload_n 0, 1) := by decide +kernel
theorem d_M_weather_1 : decode b_M_weather 1 = .ok (.iload_n 1, 1) := by decide +kernel
theorem d_M_weather_2 : decode b_M_weather 2 = .ok (.i2l, 1) := by decide +kernel
theorem d_M_weather_3 : decode b_M_weather 3 = .ok (.lconst 0, 1) := by decide +kernel
theorem d_M_weather_4 : decode b_M_weather 4 = .ok (.aload_n 0, 1) := by decide +kernel
theorem d_M_weather_5 : decode b_M_weather 5 = .ok (.getfield 112, 3) := by decide +kernel
theorem d_M_weather_8 : decode b_M_weather 8 = .ok (.iconst 1, 1) := by decide +kernel
theorem d_M_weather_9 : decode b_M_weather 9 = .ok (.isub, 1) := by decide +kernel
theorem d_M_weather_10 : decode b_M_weather 10 = .ok (.i2l, 1) := by decide +kernel
theorem d_M_weather_11 : decode b_M_weather 11 = .ok (.invokestatic 86, 3) := by decide +kernel
theorem d_M_weather_14 : decode b_M_weather 14 = .ok (.ifCond .eq 23, 3) := by decide +kernel
theorem d_M_weather_17 : decode b_M_weather 17 = .ok (.iload_n 2, 1) := by decide +kernel
theorem d_M_weather_18 : decode b_M_weather 18 = .ok (.i2l, 1) := by decide +kernel
theorem d_M_weather_19 : decode b_M_weather 19 = .ok (.lconst 0, 1) := by decide +kernel
theorem d_M_weather_20 : decode b_M_weather 20 = .ok (.aload_n 0, 1) := by decide +kernel
theorem d_M_weather_21 : decode b_M_weather 21 = .ok (.getfield 75, 3) := by decide +kernel
theorem d_M_weather_24 : decode b_M_weather 24 = .ok (.iconst 1, 1) := by decide +kernel
theorem d_M_weather_25 : decode b_M_weather 25 = .ok (.isub, 1) := by decide +kernel
theorem d_M_weather_26 : decode b_M_weather 26 = .ok (.i2l, 1) := by decide +kernel
theorem d_M_weather_27 : decode b_M_weather 27 = .ok (.invokestatic 86, 3) := by decide +kernel
theorem d_M_weather_30 : decode b_M_weather 30 = .ok (.ifCond .eq 7, 3) := by decide +kernel
theorem d_M_weather_33 : decode b_M_weather 33 = .ok (.iconst 1, 1) := by decide +kernel
theorem d_M_weather_34 : decode b_M_weather 34 = .ok (.goto 4, 3) := by decide +kernel
theorem d_M_weather_37 : decode b_M_weather 37 = .ok (.iconst 0, 1) := by decide +kernel
theorem d_M_weather_38 : decode b_M_weather 38 = .ok (.iconst 1, 1) := by decide +kernel
theorem d_M_weather_39 : decode b_M_weather 39 = .ok (.invokevirtual 93, 3) := by decide +kernel
theorem d_M_weather_42 : decode b_M_weather 42 = .ok (.ifCond .eq 5, 3) := by decide +kernel
theorem d_M_weather_45 : decode b_M_weather 45 = .ok (.iconst 0, 1) := by decide +kernel
theorem d_M_weather_46 : decode b_M_weather 46 = .ok (.ireturn, 1) := by decide +kernel
theorem d_M_weather_47 : decode b_M_weather 47 = .ok (.aload_n 0, 1) := by decide +kernel
theorem d_M_weather_48 : decode b_M_weather 48 = .ok (.iconst 0, 1) := by decide +kernel
theorem d_M_weather_49 : decode b_M_weather 49 = .ok (.putfield 97, 3) := by decide +kernel
theorem d_M_weather_52 : decode b_M_weather 52 = .ok (.aload_n 0, 1) := by decide +kernel
theorem d_M_weather_53 : decode b_M_weather 53 = .ok (.getfield 29, 3) := by decide +kernel
theorem d_M_weather_56 : decode b_M_weather 56 = .ok (.bipush 8, 2) := by decide +kernel
theorem d_M_weather_58 : decode b_M_weather 58 = .ok (.iload_n 1, 1) := by decide +kernel
theorem d_M_weather_59 : decode b_M_weather 59 = .ok (.imul, 1) := by decide +kernel
theorem d_M_weather_60 : decode b_M_weather 60 = .ok (.iload_n 2, 1) := by decide +kernel
theorem d_M_weather_61 : decode b_M_weather 61 = .ok (.iadd, 1) := by decide +kernel
theorem d_M_weather_62 : decode b_M_weather 62 = .ok (.baload, 1) := by decide +kernel
theorem d_M_weather_63 : decode b_M_weather 63 = .ok (.istore 4, 2) := by decide +kernel
theorem d_M_weather_65 : decode b_M_weather 65 = .ok (.aload_n 0, 1) := by decide +kernel
theorem d_M_weather_66 : decode b_M_weather 66 = .ok (.getfield 29, 3) := by decide +kernel
theorem d_M_weather_69 : decode b_M_weather 69 = .ok (.bipush 8, 2) := by decide +kernel
theorem d_M_weather_71 : decode b_M_weather 71 = .ok (.iload_n 1, 1) := by decide +kernel
theorem d_M_weather_72 : decode b_M_weather 72 = .ok (.imul, 1) := by decide +kernel
theorem d_M_weather_73 : decode b_M_weather 73 = .ok (.iload_n 2, 1) := by decide +kernel
theorem d_M_weather_74 : decode b_M_weather 74 = .ok (.iadd, 1) := by decide +kernel
theorem d_M_weather_75 : decode b_M_weather 75 = .ok (.iload_n 3, 1) := by decide +kernel
theorem d_M_weather_76 : decode b_M_weather 76 = .ok (.bastore, 1) := by decide +kernel
theorem d_M_weather_77 : decode b_M_weather 77 = .ok (.iload 4, 2) := by decide +kernel
theorem d_M_weather_79 : decode b_M_weather 79 = .ok (.ireturn, 1) := by decide +kernel
theorem d_M_plant_0 : decode b_M_plant 0 = .ok (.aload_n 0, 1) := by decide +kernel
theorem d_M_plant_1 : decode b_M_plant 1 = .ok (.iload_n 1, 1) := by decide +kernel
theorem d_M_plant_2 : decode b_M_plant 2 = .ok (.i2l, 1) := by decide +kernel
theorem d_M_plant_3 : decode b_M_plant 3 = .ok (.lconst 0, 1) := by decide +kernel
theorem d_M_plant_4 : decode b_M_plant 4 = .ok (.aload_n 0, 1) := by decide +kernel
theorem d_M_plant_5 : decode b_M_plant 5 = .ok (.getfield 75, 3) := by decide +kernel
theorem d_M_plant_8 : decode b_M_plant 8 = .ok (.iconst 1, 1) := by decide +kernel
theorem d_M_plant_9 : decode b_M_plant 9 = .ok (.isub, 1) := by decide +kernel
theorem d_M_plant_10 : decode b_M_plant 10 = .ok (.i2l, 1) := by decide +kernel
theorem d_M_plant_11 : decode b_M_plant 11 = .ok (.invokestatic 86, 3) := by decide +kernel
theorem d_M_plant_14 : decode b_M_plant 14 = .ok (.ifCond .eq 19, 3) := by decide +kernel
theorem d_M_plant_17 : decode b_M_plant 17 = .ok (.iload_n 2, 1) := by decide +kernel
theorem d_M_plant_18 : decode b_M_plant 18 = .ok (.i2l, 1) := by decide +kernel
theorem d_M_plant_19 : decode b_M_plant 19 = .ok (.lconst 0, 1) := by decide +kernel
theorem d_M_plant_20 : decode b_M_plant 20 = .ok (.ldc2_w 84, 3) := by decide +kernel
theorem d_M_plant_23 : decode b_M_plant 23 = .ok (.invokestatic 86, 3) := by decide +kernel
theorem d_M_plant_26 : decode b_M_plant 26 = .ok (.ifCond .eq 7, 3) := by decide +kernel
theorem d_M_plant_29 : decode b_M_plant 29 = .ok (.iconst 1, 1) := by decide +kernel
theorem d_M_plant_30 : decode b_M_plant 30 = .ok (.goto 4, 3) := by decide +kernel
theorem d_M_plant_33 : decode b_M_plant 33 = .ok (.iconst 0, 1) := by decide +kernel
theorem d_M_plant_34 : decode b_M_plant 34 = .ok (.iconst 1, 1) := by decide +kernel
theorem d_M_plant_35 : decode b_M_plant 35 = .ok (.invokevirtual 93, 3) := by decide +kernel
theorem d_M_plant_38 : decode b_M_plant 38 = .ok (.ifCond .eq 5, 3) := by decide +kernel
theorem d_M_plant_41 : decode b_M_plant 41 = .ok (.iconst 0, 1) := by decide +kernel
theorem d_M_plant_42 : decode b_M_plant 42 = .ok (.ireturn, 1) := by decide +kernel
theorem d_M_plant_43 : decode b_M_plant 43 = .ok (.aload_n 0, 1) := by decide +kernel
theorem d_M_plant_44 : decode b_M_plant 44 = .ok (.iconst 0, 1) := by decide +kernel
theorem d_M_plant_45 : decode b_M_plant 45 = .ok (.putfield 97, 3) := by decide +kernel
theorem d_M_plant_48 : decode b_M_plant 48 = .ok (.aload_n 0, 1) := by decide +kernel
theorem d_M_plant_49 : decode b_M_plant 49 = .ok (.getfield 32, 3) := by decide +kernel
theorem d_M_plant_52 : decode b_M_plant 52 = .ok (.iload_n 1, 1) := by decide +kernel
theorem d_M_plant_53 : decode b_M_plant 53 = .ok (.iaload, 1) := by decide +kernel
theorem d_M_plant_54 : decode b_M_plant 54 = .ok (.istore_n 3, 1) := by decide +kernel
theorem d_M_plant_55 : decode b_M_plant 55 = .ok (.aload_n 0, 1) := by decide +kernel
theorem d_M_plant_56 : decode b_M_plant 56 = .ok (.getfield 32, 3) := by decide +kernel
theorem d_M_plant_59 : decode b_M_plant 59 = .ok (.iload_n 1, 1) := by decide +kernel
theorem d_M_plant_60 : decode b_M_plant 60 = .ok (.iload_n 2, 1) := by decide +kernel
theorem d_M_plant_61 : decode b_M_plant 61 = .ok (.iastore, 1) := by decide +kernel
theorem d_M_plant_62 : decode b_M_plant 62 = .ok (.iload_n 3, 1) := by decide +kernel
theorem d_M_plant_63 : decode b_M_plant 63 = .ok (.ireturn, 1) := by decide +kernel
theorem d_M_order_0 : decode b_M_order 0 = .ok (.iload_n 1, 1) := by decide +kernel
theorem d_M_order_1 : decode b_M_order 1 = .ok (.i2l, 1) := by decide +kernel
theorem d_M_order_2 : decode b_M_order 2 = .ok (.lconst 0, 1) := by decide +kernel
theorem d_M_order_3 : decode b_M_order 3 = .ok (.aload_n 0, 1) := by decide +kernel
theorem d_M_order_4 : decode b_M_order 4 = .ok (.getfield 75, 3) := by decide +kernel
theorem d_M_order_7 : decode b_M_order 7 = .ok (.iconst 1, 1) := by decide +kernel
theorem d_M_order_8 : decode b_M_order 8 = .ok (.isub, 1) := by decide +kernel
theorem d_M_order_9 : decode b_M_order 9 = .ok (.i2l, 1) := by decide +kernel
theorem d_M_order_10 : decode b_M_order 10 = .ok (.invokestatic 86, 3) := by decide +kernel
theorem d_M_order_13 : decode b_M_order 13 = .ok (.ifCond .eq 62, 3) := by decide +kernel
theorem d_M_order_16 : decode b_M_order 16 = .ok (.iload_n 2, 1) := by decide +kernel
theorem d_M_order_17 : decode b_M_order 17 = .ok (.i2l, 1) := by decide +kernel
theorem d_M_order_18 : decode b_M_order 18 = .ok (.lconst 0, 1) := by decide +kernel
theorem d_M_order_19 : decode b_M_order 19 = .ok (.ldc2_w 104, 3) := by decide +kernel
theorem d_M_order_22 : decode b_M_order 22 = .ok (.invokestatic 86, 3) := by decide +kernel
theorem d_M_order_25 : decode b_M_order 25 = .ok (.ifCond .eq 50, 3) := by decide +kernel
theorem d_M_order_28 : decode b_M_order 28 = .ok (.iload_n 3, 1) := by decide +kernel
theorem d_M_order_29 : decode b_M_order 29 = .ok (.i2l, 1) := by decide +kernel
theorem d_M_order_30 : decode b_M_order 30 = .ok (.lconst 0, 1) := by decide +kernel
theorem d_M_order_31 : decode b_M_order 31 = .ok (.ldc2_w 104, 3) := by decide +kernel
theorem d_M_order_34 : decode b_M_order 34 = .ok (.invokestatic 86, 3) := by decide +kernel
theorem d_M_order_37 : decode b_M_order 37 = .ok (.ifCond .eq 38, 3) := by decide +kernel
theorem d_M_order_40 : decode b_M_order 40 = .ok (.iload_n 2, 1) := by decide +kernel
theorem d_M_order_41 : decode b_M_order 41 = .ok (.iload_n 3, 1) := by decide +kernel
theorem d_M_order_42 : decode b_M_order 42 = .ok (.if_icmp .gt 33, 3) := by decide +kernel
theorem d_M_order_45 : decode b_M_order 45 = .ok (.iload 4, 2) := by decide +kernel
theorem d_M_order_47 : decode b_M_order 47 = .ok (.i2l, 1) := by decide +kernel
theorem d_M_order_48 : decode b_M_order 48 = .ok (.lconst 0, 1) := by decide +kernel
theorem d_M_order_49 : decode b_M_order 49 = .ok (.ldc2_w 84, 3) := by decide +kernel
theorem d_M_order_52 : decode b_M_order 52 = .ok (.invokestatic 86, 3) := by decide +kernel
theorem d_M_order_55 : decode b_M_order 55 = .ok (.ifCond .eq 20, 3) := by decide +kernel
theorem d_M_order_58 : decode b_M_order 58 = .ok (.iload 5, 2) := by decide +kernel
theorem d_M_order_60 : decode b_M_order 60 = .ok (.i2l, 1) := by decide +kernel
theorem d_M_order_61 : decode b_M_order 61 = .ok (.lconst 0, 1) := by decide +kernel
theorem d_M_order_62 : decode b_M_order 62 = .ok (.ldc2_w 115, 3) := by decide +kernel
theorem d_M_order_65 : decode b_M_order 65 = .ok (.invokestatic 86, 3) := by decide +kernel
theorem d_M_order_68 : decode b_M_order 68 = .ok (.ifCond .eq 7, 3) := by decide +kernel
theorem d_M_order_71 : decode b_M_order 71 = .ok (.iconst 1, 1) := by decide +kernel
theorem d_M_order_72 : decode b_M_order 72 = .ok (.goto 4, 3) := by decide +kernel
theorem d_M_order_75 : decode b_M_order 75 = .ok (.iconst 0, 1) := by decide +kernel
theorem d_M_order_76 : decode b_M_order 76 = .ok (.istore 6, 2) := by decide +kernel
theorem d_M_order_78 : decode b_M_order 78 = .ok (.aload_n 0, 1) := by decide +kernel
theorem d_M_order_79 : decode b_M_order 79 = .ok (.iload 6, 2) := by decide +kernel
theorem d_M_order_81 : decode b_M_order 81 = .ok (.aload_n 0, 1) := by decide +kernel
theorem d_M_order_82 : decode b_M_order 82 = .ok (.getfield 117, 3) := by decide +kernel
theorem d_M_order_85 : decode b_M_order 85 = .ok (.bipush 6, 2) := by decide +kernel
theorem d_M_order_87 : decode b_M_order 87 = .ok (.if_icmp .ge 7, 3) := by decide +kernel
theorem d_M_order_90 : decode b_M_order 90 = .ok (.iconst 1, 1) := by decide +kernel
theorem d_M_order_91 : decode b_M_order 91 = .ok (.goto 4, 3) := by decide +kernel
theorem d_M_order_94 : decode b_M_order 94 = .ok (.iconst 0, 1) := by decide +kernel
theorem d_M_order_95 : decode b_M_order 95 = .ok (.invokevirtual 93, 3) := by decide +kernel
theorem d_M_order_98 : decode b_M_order 98 = .ok (.ifCond .eq 5, 3) := by decide +kernel
theorem d_M_order_101 : decode b_M_order 101 = .ok (.iconst 0, 1) := by decide +kernel
theorem d_M_order_102 : decode b_M_order 102 = .ok (.ireturn, 1) := by decide +kernel
theorem d_M_order_103 : decode b_M_order 103 = .ok (.aload_n 0, 1) := by decide +kernel
theorem d_M_order_104 : decode b_M_order 104 = .ok (.iconst 0, 1) := by decide +kernel
theorem d_M_order_105 : decode b_M_order 105 = .ok (.putfield 97, 3) := by decide +kernel
theorem d_M_order_108 : decode b_M_order 108 = .ok (.aload_n 0, 1) := by decide +kernel
theorem d_M_order_109 : decode b_M_order 109 = .ok (.getfield 35, 3) := by decide +kernel
theorem d_M_order_112 : decode b_M_order 112 = .ok (.aload_n 0, 1) := by decide +kernel
theorem d_M_order_113 : decode b_M_order 113 = .ok (.getfield 117, 3) := by decide +kernel
theorem d_M_order_116 : decode b_M_order 116 = .ok (.iload_n 1, 1) := by decide +kernel
theorem d_M_order_117 : decode b_M_order 117 = .ok (.iastore, 1) := by decide +kernel
theorem d_M_order_118 : decode b_M_order 118 = .ok (.aload_n 0, 1) := by decide +kernel
theorem d_M_order_119 : decode b_M_order 119 = .ok (.getfield 38, 3) := by decide +kernel
theorem d_M_order_122 : decode b_M_order 122 = .ok (.aload_n 0, 1) := by decide +kernel
theorem d_M_order_123 : decode b_M_order 123 = .ok (.getfield 117, 3) := by decide +kernel
theorem d_M_order_126 : decode b_M_order 126 = .ok (.iload_n 2, 1) := by decide +kernel
theorem d_M_order_127 : decode b_M_order 127 = .ok (.iastore, 1) := by decide +kernel
theorem d_M_order_128 : decode b_M_order 128 = .ok (.aload_n 0, 1) := by decide +kernel
theorem d_M_order_129 : decode b_M_order 129 = .ok (.getfield 41, 3) := by decide +kernel
theorem d_M_order_132 : decode b_M_order 132 = .ok (.aload_n 0, 1) := by decide +kernel
theorem d_M_order_133 : decode b_M_order 133 = .ok (.getfield 117, 3) := by decide +kernel
theorem d_M_order_136 : decode b_M_order 136 = .ok (.iload_n 3, 1) := by decide +kernel
theorem d_M_order_137 : decode b_M_order 137 = .ok (.iastore, 1) := by decide +kernel
theorem d_M_order_138 : decode b_M_order 138 = .ok (.aload_n 0, 1) := by decide +kernel
theorem d_M_order_139 : decode b_M_order 139 = .ok (.getfield 44, 3) := by decide +kernel
theorem d_M_order_142 : decode b_M_order 142 = .ok (.aload_n 0, 1) := by decide +kernel
theorem d_M_order_143 : decode b_M_order 143 = .ok (.getfield 117, 3) := by decide +kernel
theorem d_M_order_146 : decode b_M_order 146 = .ok (.iload 4, 2) := by decide +kernel
theorem d_M_order_148 : decode b_M_order 148 = .ok (.iastore, 1) := by decide +kernel
theorem d_M_order_149 : decode b_M_order 149 = .ok (.aload_n 0, 1) := by decide +kernel
theorem d_M_order_150 : decode b_M_order 150 = .ok (.getfield 47, 3) := by decide +kernel
theorem d_M_order_153 : decode b_M_order 153 = .ok (.aload_n 0, 1) := by decide +kernel
theorem d_M_order_154 : decode b_M_order 154 = .ok (.getfield 117, 3) := by decide +kernel
theorem d_M_order_157 : decode b_M_order 157 = .ok (.iload 5, 2) := by decide +kernel
theorem d_M_order_159 : decode b_M_order 159 = .ok (.iastore, 1) := by decide +kernel
theorem d_M_order_160 : decode b_M_order 160 = .ok (.aload_n 0, 1) := by decide +kernel
theorem d_M_order_161 : decode b_M_order 161 = .ok (.dup, 1) := by decide +kernel
theorem d_M_order_162 : decode b_M_order 162 = .ok (.getfield 117, 3) := by decide +kernel
theorem d_M_order_165 : decode b_M_order 165 = .ok (.iconst 1, 1) := by decide +kernel
theorem d_M_order_166 : decode b_M_order 166 = .ok (.iadd, 1) := by decide +kernel
theorem d_M_order_167 : decode b_M_order 167 = .ok (.putfield 117, 3) := by decide +kernel
theorem d_M_order_170 : decode b_M_order 170 = .ok (.aload_n 0, 1) := by decide +kernel
theorem d_M_order_171 : decode b_M_order 171 = .ok (.getfield 117, 3) := by decide +kernel
theorem d_M_order_174 : decode b_M_order 174 = .ok (.iconst 1, 1) := by decide +kernel
theorem d_M_order_175 : decode b_M_order 175 = .ok (.isub, 1) := by decide +kernel
theorem d_M_order_176 : decode b_M_order 176 = .ok (.ireturn, 1) := by decide +kernel
theorem d_M_prices_0 : decode b_M_prices 0 = .ok (.aload_n 0, 1) := by decide +kernel
theorem d_M_prices_1 : decode b_M_prices 1 = .ok (.iload_n 1, 1) := by decide +kernel
theorem d_M_prices_2 : decode b_M_prices 2 = .ok (.i2l, 1) := by decide +kernel
theorem d_M_prices_3 : decode b_M_prices 3 = .ok (.lconst 0, 1) := by decide +kernel
theorem d_M_prices_4 : decode b_M_prices 4 = .ok (.ldc2_w 115, 3) := by decide +kernel
theorem d_M_prices_7 : decode b_M_prices 7 = .ok (.invokestatic 86, 3) := by decide +kernel
theorem d_M_prices_10 : decode b_M_prices 10 = .ok (.ifCond .eq 19, 3) := by decide +kernel
theorem d_M_prices_13 : decode b_M_prices 13 = .ok (.iload_n 2, 1) := by decide +kernel
theorem d_M_prices_14 : decode b_M_prices 14 = .ok (.i2l, 1) := by decide +kernel
theorem d_M_prices_15 : decode b_M_prices 15 = .ok (.lconst 0, 1) := by decide +kernel
theorem d_M_prices_16 : decode b_M_prices 16 = .ok (.ldc2_w 115, 3) := by decide +kernel
theorem d_M_prices_19 : decode b_M_prices 19 = .ok (.invokestatic 86, 3) := by decide +kernel
theorem d_M_prices_22 : decode b_M_prices 22 = .ok (.ifCond .eq 7, 3) := by decide +kernel
theorem d_M_prices_25 : decode b_M_prices 25 = .ok (.iconst 1, 1) := by decide +kernel
theorem d_M_prices_26 : decode b_M_prices 26 = .ok (.goto 4, 3) := by decide +kernel
theorem d_M_prices_29 : decode b_M_prices 29 = .ok (.iconst 0, 1) := by decide +kernel
theorem d_M_prices_30 : decode b_M_prices 30 = .ok (.iconst 1, 1) := by decide +kernel
theorem d_M_prices_31 : decode b_M_prices 31 = .ok (.invokevirtual 93, 3) := by decide +kernel
theorem d_M_prices_34 : decode b_M_prices 34 = .ok (.ifCond .eq 4, 3) := by decide +kernel
theorem d_M_prices_37 : decode b_M_prices 37 = .ok (.return_, 1) := by decide +kernel
theorem d_M_prices_38 : decode b_M_prices 38 = .ok (.aload_n 0, 1) := by decide +kernel
theorem d_M_prices_39 : decode b_M_prices 39 = .ok (.iconst 0, 1) := by decide +kernel
theorem d_M_prices_40 : decode b_M_prices 40 = .ok (.putfield 97, 3) := by decide +kernel
theorem d_M_prices_43 : decode b_M_prices 43 = .ok (.aload_n 0, 1) := by decide +kernel
theorem d_M_prices_44 : decode b_M_prices 44 = .ok (.iload_n 1, 1) := by decide +kernel
theorem d_M_prices_45 : decode b_M_prices 45 = .ok (.putfield 120, 3) := by decide +kernel
theorem d_M_prices_48 : decode b_M_prices 48 = .ok (.aload_n 0, 1) := by decide +kernel
theorem d_M_prices_49 : decode b_M_prices 49 = .ok (.iload_n 2, 1) := by decide +kernel
theorem d_M_prices_50 : decode b_M_prices 50 = .ok (.putfield 123, 3) := by decide +kernel
theorem d_M_prices_53 : decode b_M_prices 53 = .ok (.return_, 1) := by decide +kernel
theorem d_M_takes_0 : decode b_M_takes 0 = .ok (.iload_n 1, 1) := by decide +kernel
theorem d_M_takes_1 : decode b_M_takes 1 = .ok (.iload_n 3, 1) := by decide +kernel
theorem d_M_takes_2 : decode b_M_takes 2 = .ok (.if_icmp .ge 17, 3) := by decide +kernel
theorem d_M_takes_5 : decode b_M_takes 5 = .ok (.aload_n 0, 1) := by decide +kernel
theorem d_M_takes_6 : decode b_M_takes 6 = .ok (.getfield 53, 3) := by decide +kernel
theorem d_M_takes_9 : decode b_M_takes 9 = .ok (.iload_n 1, 1) := by decide +kernel
theorem d_M_takes_10 : decode b_M_takes 10 = .ok (.iaload, 1) := by decide +kernel
theorem d_M_takes_11 : decode b_M_takes 11 = .ok (.iload_n 2, 1) := by decide +kernel
theorem d_M_takes_12 : decode b_M_takes 12 = .ok (.if_icmp .ne 7, 3) := by decide +kernel
theorem d_M_takes_15 : decode b_M_takes 15 = .ok (.iconst 1, 1) := by decide +kernel
theorem d_M_takes_16 : decode b_M_takes 16 = .ok (.goto 4, 3) := by decide +kernel
theorem d_M_takes_19 : decode b_M_takes 19 = .ok (.iconst 0, 1) := by decide +kernel
theorem d_M_takes_20 : decode b_M_takes 20 = .ok (.ireturn, 1) := by decide +kernel
theorem d_M_keepsPlant_0 : decode b_M_keepsPlant 0 = .ok (.lconst 0, 1) := by decide +kernel
theorem d_M_keepsPlant_1 : decode b_M_keepsPlant 1 = .ok (.lstore_n 3, 1) := by decide +kernel
theorem d_M_keepsPlant_2 : decode b_M_keepsPlant 2 = .ok (.iconst 0, 1) := by decide +kernel
theorem d_M_keepsPlant_3 : decode b_M_keepsPlant 3 = .ok (.istore 5, 2) := by decide +kernel
theorem d_M_keepsPlant_5 : decode b_M_keepsPlant 5 = .ok (.iload 5, 2) := by decide +kernel
theorem d_M_keepsPlant_7 : decode b_M_keepsPlant 7 = .ok (.iload_n 2, 1) := by decide +kernel
theorem d_M_keepsPlant_8 : decode b_M_keepsPlant 8 = .ok (.if_icmp .ge 34, 3) := by decide +kernel
theorem d_M_keepsPlant_11 : decode b_M_keepsPlant 11 = .ok (.lload_n 3, 1) := by decide +kernel
theorem d_M_keepsPlant_12 : decode b_M_keepsPlant 12 = .ok (.aload_n 0, 1) := by decide +kernel
theorem d_M_keepsPlant_13 : decode b_M_keepsPlant 13 = .ok (.iload 5, 2) := by decide +kernel
theorem d_M_keepsPlant_15 : decode b_M_keepsPlant 15 = .ok (.iload_n 1, 1) := by decide +kernel
theorem d_M_keepsPlant_16 : decode b_M_keepsPlant 16 = .ok (.iload_n 2, 1) := by decide +kernel
theorem d_M_keepsPlant_17 : decode b_M_keepsPlant 17 = .ok (.invokevirtual 126, 3) := by decide +kernel
theorem d_M_keepsPlant_20 : decode b_M_keepsPlant 20 = .ok (.ifCond .eq 13, 3) := by decide +kernel
theorem d_M_keepsPlant_23 : decode b_M_keepsPlant 23 = .ok (.aload_n 0, 1) := by decide +kernel
theorem d_M_keepsPlant_24 : decode b_M_keepsPlant 24 = .ok (.iload 5, 2) := by decide +kernel
theorem d_M_keepsPlant_26 : decode b_M_keepsPlant 26 = .ok (.iload_n 1, 1) := by decide +kernel
theorem d_M_keepsPlant_27 : decode b_M_keepsPlant 27 = .ok (.invokevirtual 108, 3) := by decide +kernel
theorem d_M_keepsPlant_30 : decode b_M_keepsPlant 30 = .ok (.goto 4, 3) := by decide +kernel
theorem d_M_keepsPlant_33 : decode b_M_keepsPlant 33 = .ok (.lconst 0, 1) := by decide +kernel
theorem d_M_keepsPlant_34 : decode b_M_keepsPlant 34 = .ok (.ladd, 1) := by decide +kernel
theorem d_M_keepsPlant_35 : decode b_M_keepsPlant 35 = .ok (.lstore_n 3, 1) := by decide +kernel
theorem d_M_keepsPlant_36 : decode b_M_keepsPlant 36 = .ok (.iinc 5 1, 3) := by decide +kernel
theorem d_M_keepsPlant_39 : decode b_M_keepsPlant 39 = .ok (.goto (-34), 3) := by decide +kernel
theorem d_M_keepsPlant_42 : decode b_M_keepsPlant 42 = .ok (.lload_n 3, 1) := by decide +kernel
theorem d_M_keepsPlant_43 : decode b_M_keepsPlant 43 = .ok (.aload_n 0, 1) := by decide +kernel
theorem d_M_keepsPlant_44 : decode b_M_keepsPlant 44 = .ok (.getfield 32, 3) := by decide +kernel
theorem d_M_keepsPlant_47 : decode b_M_keepsPlant 47 = .ok (.iload_n 1, 1) := by decide +kernel
theorem d_M_keepsPlant_48 : decode b_M_keepsPlant 48 = .ok (.iaload, 1) := by decide +kernel
theorem d_M_keepsPlant_49 : decode b_M_keepsPlant 49 = .ok (.i2l, 1) := by decide +kernel
theorem d_M_keepsPlant_50 : decode b_M_keepsPlant 50 = .ok (.lcmp, 1) := by decide +kernel
theorem d_M_keepsPlant_51 : decode b_M_keepsPlant 51 = .ok (.ifCond .gt 7, 3) := by decide +kernel
theorem d_M_keepsPlant_54 : decode b_M_keepsPlant 54 = .ok (.iconst 1, 1) := by decide +kernel
theorem d_M_keepsPlant_55 : decode b_M_keepsPlant 55 = .ok (.goto 4, 3) := by decide +kernel
theorem d_M_keepsPlant_58 : decode b_M_keepsPlant 58 = .ok (.iconst 0, 1) := by decide +kernel
theorem d_M_keepsPlant_59 : decode b_M_keepsPlant 59 = .ok (.ireturn, 1) := by decide +kernel
theorem d_M_keepsBoats_0 : decode b_M_keepsBoats 0 = .ok (.iconst 0, 1) := by decide +kernel
theorem d_M_keepsBoats_1 : decode b_M_keepsBoats 1 = .ok (.istore_n 3, 1) := by decide +kernel
theorem d_M_keepsBoats_2 : decode b_M_keepsBoats 2 = .ok (.iconst 0, 1) := by decide +kernel
theorem d_M_keepsBoats_3 : decode b_M_keepsBoats 3 = .ok (.istore 4, 2) := by decide +kernel
theorem d_M_keepsBoats_5 : decode b_M_keepsBoats 5 = .ok (.iload 4, 2) := by decide +kernel
theorem d_M_keepsBoats_7 : decode b_M_keepsBoats 7 = .ok (.iload_n 2, 1) := by decide +kernel
theorem d_M_keepsBoats_8 : decode b_M_keepsBoats 8 = .ok (.if_icmp .ge 48, 3) := by decide +kernel
theorem d_M_keepsBoats_11 : decode b_M_keepsBoats 11 = .ok (.aload_n 0, 1) := by decide +kernel
theorem d_M_keepsBoats_12 : decode b_M_keepsBoats 12 = .ok (.iload 4, 2) := by decide +kernel
theorem d_M_keepsBoats_14 : decode b_M_keepsBoats 14 = .ok (.iload_n 1, 1) := by decide +kernel
theorem d_M_keepsBoats_15 : decode b_M_keepsBoats 15 = .ok (.iload_n 2, 1) := by decide +kernel
theorem d_M_keepsBoats_16 : decode b_M_keepsBoats 16 = .ok (.invokevirtual 126, 3) := by decide +kernel
theorem d_M_keepsBoats_19 : decode b_M_keepsBoats 19 = .ok (.ifCond .eq 31, 3) := by decide +kernel
theorem d_M_keepsBoats_22 : decode b_M_keepsBoats 22 = .ok (.aload_n 0, 1) := by decide +kernel
theorem d_M_keepsBoats_23 : decode b_M_keepsBoats 23 = .ok (.iload 4, 2) := by decide +kernel
theorem d_M_keepsBoats_25 : decode b_M_keepsBoats 25 = .ok (.iload_n 1, 1) := by decide +kernel
theorem d_M_keepsBoats_26 : decode b_M_keepsBoats 26 = .ok (.invokevirtual 108, 3) := by decide +kernel
theorem d_M_keepsBoats_29 : decode b_M_keepsBoats 29 = .ok (.lconst 0, 1) := by decide +kernel
theorem d_M_keepsBoats_30 : decode b_M_keepsBoats 30 = .ok (.lcmp, 1) := by decide +kernel
theorem d_M_keepsBoats_31 : decode b_M_keepsBoats 31 = .ok (.ifCond .le 19, 3) := by decide +kernel
theorem d_M_keepsBoats_34 : decode b_M_keepsBoats 34 = .ok (.aload_n 0, 1) := by decide +kernel
theorem d_M_keepsBoats_35 : decode b_M_keepsBoats 35 = .ok (.getfield 69, 3) := by decide +kernel
theorem d_M_keepsBoats_38 : decode b_M_keepsBoats 38 = .ok (.iload_n 3, 1) := by decide +kernel
theorem d_M_keepsBoats_39 : decode b_M_keepsBoats 39 = .ok (.aload_n 0, 1) := by decide +kernel
theorem d_M_keepsBoats_40 : decode b_M_keepsBoats 40 = .ok (.iload 4, 2) := by decide +kernel
theorem d_M_keepsBoats_42 : decode b_M_keepsBoats 42 = .ok (.iload_n 1, 1) := by decide +kernel
theorem d_M_keepsBoats_43 : decode b_M_keepsBoats 43 = .ok (.invokevirtual 108, 3) := by decide +kernel
theorem d_M_keepsBoats_46 : decode b_M_keepsBoats 46 = .ok (.lastore, 1) := by decide +kernel
theorem d_M_keepsBoats_47 : decode b_M_keepsBoats 47 = .ok (.iinc 3 1, 3) := by decide +kernel
theorem d_M_keepsBoats_50 : decode b_M_keepsBoats 50 = .ok (.iinc 4 1, 3) := by decide +kernel
theorem d_M_keepsBoats_53 : decode b_M_keepsBoats 53 = .ok (.goto (-48), 3) := by decide +kernel
theorem d_M_keepsBoats_56 : decode b_M_keepsBoats 56 = .ok (.iload_n 3, 1) := by decide +kernel
theorem d_M_keepsBoats_57 : decode b_M_keepsBoats 57 = .ok (.iconst 1, 1) := by decide +kernel
theorem d_M_keepsBoats_58 : decode b_M_keepsBoats 58 = .ok (.iadd, 1) := by decide +kernel
theorem d_M_keepsBoats_59 : decode b_M_keepsBoats 59 = .ok (.iload_n 3, 1) := by decide +kernel
theorem d_M_keepsBoats_60 : decode b_M_keepsBoats 60 = .ok (.iconst 1, 1) := by decide +kernel
theorem d_M_keepsBoats_61 : decode b_M_keepsBoats 61 = .ok (.iadd, 1) := by decide +kernel
theorem d_M_keepsBoats_62 : decode b_M_keepsBoats 62 = .ok (.imul, 1) := by decide +kernel
theorem d_M_keepsBoats_63 : decode b_M_keepsBoats 63 = .ok (.iload_n 3, 1) := by decide +kernel
theorem d_M_keepsBoats_64 : decode b_M_keepsBoats 64 = .ok (.iconst 1, 1) := by decide +kernel
theorem d_M_keepsBoats_65 : decode b_M_keepsBoats 65 = .ok (.iadd, 1) := by decide +kernel
theorem d_M_keepsBoats_66 : decode b_M_keepsBoats 66 = .ok (.imul, 1) := by decide +kernel
theorem d_M_keepsBoats_67 : decode b_M_keepsBoats 67 = .ok (.istore 4, 2) := by decide +kernel
theorem d_M_keepsBoats_69 : decode b_M_keepsBoats 69 = .ok (.iload_n 3, 1) := by decide +kernel
theorem d_M_keepsBoats_70 : decode b_M_keepsBoats 70 = .ok (.ifCond .ne 7, 3) := by decide +kernel
theorem d_M_keepsBoats_73 : decode b_M_keepsBoats 73 = .ok (.iconst 1, 1) := by decide +kernel
theorem d_M_keepsBoats_74 : decode b_M_keepsBoats 74 = .ok (.goto 4, 3) := by decide +kernel
theorem d_M_keepsBoats_77 : decode b_M_keepsBoats 77 = .ok (.iconst 0, 1) := by decide +kernel
theorem d_M_keepsBoats_78 : decode b_M_keepsBoats 78 = .ok (.istore 5, 2) := by decide +kernel
theorem d_M_keepsBoats_80 : decode b_M_keepsBoats 80 = .ok (.iconst 0, 1) := by decide +kernel
theorem d_M_keepsBoats_81 : decode b_M_keepsBoats 81 = .ok (.istore 6, 2) := by decide +kernel
theorem d_M_keepsBoats_83 : decode b_M_keepsBoats 83 = .ok (.iload 6, 2) := by decide +kernel
theorem d_M_keepsBoats_85 : decode b_M_keepsBoats 85 = .ok (.iload 4, 2) := by decide +kernel
theorem d_M_keepsBoats_87 : decode b_M_keepsBoats 87 = .ok (.if_icmp .ge 156, 3) := by decide +kernel
theorem d_M_keepsBoats_90 : decode b_M_keepsBoats 90 = .ok (.iload 5, 2) := by decide +kernel
theorem d_M_keepsBoats_92 : decode b_M_keepsBoats 92 = .ok (.ifCond .ne 151, 3) := by decide +kernel
theorem d_M_keepsBoats_95 : decode b_M_keepsBoats 95 = .ok (.iconst 0, 1) := by decide +kernel
theorem d_M_keepsBoats_96 : decode b_M_keepsBoats 96 = .ok (.istore 7, 2) := by decide +kernel
theorem d_M_keepsBoats_98 : decode b_M_keepsBoats 98 = .ok (.iload 7, 2) := by decide +kernel
theorem d_M_keepsBoats_100 : decode b_M_keepsBoats 100 = .ok (.iload_n 3, 1) := by decide +kernel
theorem d_M_keepsBoats_101 : decode b_M_keepsBoats 101 = .ok (.if_icmp .gt 17, 3) := by decide +kernel
theorem d_M_keepsBoats_104 : decode b_M_keepsBoats 104 = .ok (.aload_n 0, 1) := by decide +kernel
theorem d_M_keepsBoats_105 : decode b_M_keepsBoats 105 = .ok (.getfield 72, 3) := by decide +kernel
theorem d_M_keepsBoats_108 : decode b_M_keepsBoats 108 = .ok (.iload 7, 2) := by decide +kernel
theorem d_M_keepsBoats_110 : decode b_M_keepsBoats 110 = .ok (.lconst 0, 1) := by decide +kernel
theorem d_M_keepsBoats_111 : decode b_M_keepsBoats 111 = .ok (.lastore, 1) := by decide +kernel
theorem d_M_keepsBoats_112 : decode b_M_keepsBoats 112 = .ok (.iinc 7 1, 3) := by decide +kernel
theorem d_M_keepsBoats_115 : decode b_M_keepsBoats 115 = .ok (.goto (-17), 3) := by decide +kernel
theorem d_M_keepsBoats_118 : decode b_M_keepsBoats 118 = .ok (.iload 6, 2) := by decide +kernel
theorem d_M_keepsBoats_120 : decode b_M_keepsBoats 120 = .ok (.istore 7, 2) := by decide +kernel
theorem d_M_keepsBoats_122 : decode b_M_keepsBoats 122 = .ok (.iconst 0, 1) := by decide +kernel
theorem d_M_keepsBoats_123 : decode b_M_keepsBoats 123 = .ok (.istore 8, 2) := by decide +kernel
theorem d_M_keepsBoats_125 : decode b_M_keepsBoats 125 = .ok (.iload 8, 2) := by decide +kernel
theorem d_M_keepsBoats_127 : decode b_M_keepsBoats 127 = .ok (.aload_n 0, 1) := by decide +kernel
theorem d_M_keepsBoats_128 : decode b_M_keepsBoats 128 = .ok (.getfield 112, 3) := by decide +kernel
theorem d_M_keepsBoats_131 : decode b_M_keepsBoats 131 = .ok (.if_icmp .ge 58, 3) := by decide +kernel
theorem d_M_keepsBoats_134 : decode b_M_keepsBoats 134 = .ok (.aload_n 0, 1) := by decide +kernel
theorem d_M_keepsBoats_135 : decode b_M_keepsBoats 135 = .ok (.getfield 72, 3) := by decide +kernel
theorem d_M_keepsBoats_138 : decode b_M_keepsBoats 138 = .ok (.iload 7, 2) := by decide +kernel
theorem d_M_keepsBoats_140 : decode b_M_keepsBoats 140 = .ok (.iload_n 3, 1) := by decide +kernel
theorem d_M_keepsBoats_141 : decode b_M_keepsBoats 141 = .ok (.iconst 1, 1) := by decide +kernel
theorem d_M_keepsBoats_142 : decode b_M_keepsBoats 142 = .ok (.iadd, 1) := by decide +kernel
theorem d_M_keepsBoats_143 : decode b_M_keepsBoats 143 = .ok (.irem, 1) := by decide +kernel
theorem d_M_keepsBoats_144 : decode b_M_keepsBoats 144 = .ok (.dup2, 1) := by decide +kernel
theorem d_M_keepsBoats_145 : decode b_M_keepsBoats 145 = .ok (.laload, 1) := by decide +kernel
theorem d_M_keepsBoats_146 : decode b_M_keepsBoats 146 = .ok (.aload_n 0, 1) := by decide +kernel
theorem d_M_keepsBoats_147 : decode b_M_keepsBoats 147 = .ok (.getfield 29, 3) := by decide +kernel
theorem d_M_keepsBoats_150 : decode b_M_keepsBoats 150 = .ok (.bipush 8, 2) := by decide +kernel
theorem d_M_keepsBoats_152 : decode b_M_keepsBoats 152 = .ok (.iload 8, 2) := by decide +kernel
theorem d_M_keepsBoats_154 : decode b_M_keepsBoats 154 = .ok (.imul, 1) := by decide +kernel
theorem d_M_keepsBoats_155 : decode b_M_keepsBoats 155 = .ok (.iload_n 1, 1) := by decide +kernel
theorem d_M_keepsBoats_156 : decode b_M_keepsBoats 156 = .ok (.iadd, 1) := by decide +kernel
theorem d_M_keepsBoats_157 : decode b_M_keepsBoats 157 = .ok (.baload, 1) := by decide +kernel
theorem d_M_keepsBoats_158 : decode b_M_keepsBoats 158 = .ok (.ifCond .eq 7, 3) := by decide +kernel
theorem d_M_keepsBoats_161 : decode b_M_keepsBoats 161 = .ok (.lconst 0, 1) := by decide +kernel
theorem d_M_keepsBoats_162 : decode b_M_keepsBoats 162 = .ok (.goto 11, 3) := by decide +kernel
theorem d_M_keepsBoats_165 : decode b_M_keepsBoats 165 = .ok (.aload_n 0, 1) := by decide +kernel
theorem d_M_keepsBoats_166 : decode b_M_keepsBoats 166 = .ok (.getfield 26, 3) := by decide +kernel
theorem d_M_keepsBoats_169 : decode b_M_keepsBoats 169 = .ok (.iload 8, 2) := by decide +kernel
theorem d_M_keepsBoats_171 : decode b_M_keepsBoats 171 = .ok (.iaload, 1) := by decide +kernel
theorem d_M_keepsBoats_172 : decode b_M_keepsBoats 172 = .ok (.i2l, 1) := by decide +kernel
theorem d_M_keepsBoats_173 : decode b_M_keepsBoats 173 = .ok (.ladd, 1) := by decide +kernel
theorem d_M_keepsBoats_174 : decode b_M_keepsBoats 174 = .ok (.lastore, 1) := by decide +kernel
theorem d_M_keepsBoats_175 : decode b_M_keepsBoats 175 = .ok (.iload 7, 2) := by decide +kernel
theorem d_M_keepsBoats_177 : decode b_M_keepsBoats 177 = .ok (.iload_n 3, 1) := by decide +kernel
theorem d_M_keepsBoats_178 : decode b_M_keepsBoats 178 = .ok (.iconst 1, 1) := by decide +kernel
theorem d_M_keepsBoats_179 : decode b_M_keepsBoats 179 = .ok (.iadd, 1) := by decide +kernel
theorem d_M_keepsBoats_180 : decode b_M_keepsBoats 180 = .ok (.idiv, 1) := by decide +kernel
theorem d_M_keepsBoats_181 : decode b_M_keepsBoats 181 = .ok (.istore 7, 2) := by decide +kernel
theorem d_M_keepsBoats_183 : decode b_M_keepsBoats 183 = .ok (.iinc 8 1, 3) := by decide +kernel
theorem d_M_keepsBoats_186 : decode b_M_keepsBoats 186 = .ok (.goto (-61), 3) := by decide +kernel
theorem d_M_keepsBoats_189 : decode b_M_keepsBoats 189 = .ok (.iconst 1, 1) := by decide +kernel
theorem d_M_keepsBoats_190 : decode b_M_keepsBoats 190 = .ok (.istore 5, 2) := by decide +kernel
theorem d_M_keepsBoats_192 : decode b_M_keepsBoats 192 = .ok (.iconst 0, 1) := by decide +kernel
theorem d_M_keepsBoats_193 : decode b_M_keepsBoats 193 = .ok (.istore 8, 2) := by decide +kernel
theorem d_M_keepsBoats_195 : decode b_M_keepsBoats 195 = .ok (.iload 8, 2) := by decide +kernel
theorem d_M_keepsBoats_197 : decode b_M_keepsBoats 197 = .ok (.iload_n 3, 1) := by decide +kernel
theorem d_M_keepsBoats_198 : decode b_M_keepsBoats 198 = .ok (.if_icmp .ge 39, 3) := by decide +kernel
theorem d_M_keepsBoats_201 : decode b_M_keepsBoats 201 = .ok (.iload 5, 2) := by decide +kernel
theorem d_M_keepsBoats_203 : decode b_M_keepsBoats 203 = .ok (.ifCond .eq 25, 3) := by decide +kernel
theorem d_M_keepsBoats_206 : decode b_M_keepsBoats 206 = .ok (.aload_n 0, 1) := by decide +kernel
theorem d_M_keepsBoats_207 : decode b_M_keepsBoats 207 = .ok (.getfield 72, 3) := by decide +kernel
theorem d_M_keepsBoats_210 : decode b_M_keepsBoats 210 = .ok (.iload 8, 2) := by decide +kernel
theorem d_M_keepsBoats_212 : decode b_M_keepsBoats 212 = .ok (.laload, 1) := by decide +kernel
theorem d_M_keepsBoats_213 : decode b_M_keepsBoats 213 = .ok (.aload_n 0, 1) := by decide +kernel
theorem d_M_keepsBoats_214 : decode b_M_keepsBoats 214 = .ok (.getfield 69, 3) := by decide +kernel
theorem d_M_keepsBoats_217 : decode b_M_keepsBoats 217 = .ok (.iload 8, 2) := by decide +kernel
theorem d_M_keepsBoats_219 : decode b_M_keepsBoats 219 = .ok (.laload, 1) := by decide +kernel
theorem d_M_keepsBoats_220 : decode b_M_keepsBoats 220 = .ok (.lcmp, 1) := by decide +kernel
theorem d_M_keepsBoats_221 : decode b_M_keepsBoats 221 = .ok (.ifCond .lt 7, 3) := by decide +kernel
theorem d_M_keepsBoats_224 : decode b_M_keepsBoats 224 = .ok (.iconst 1, 1) := by decide +kernel
theorem d_M_keepsBoats_225 : decode b_M_keepsBoats 225 = .ok (.goto 4, 3) := by decide +kernel
theorem d_M_keepsBoats_228 : decode b_M_keepsBoats 228 = .ok (.iconst 0, 1) := by decide +kernel
theorem d_M_keepsBoats_229 : decode b_M_keepsBoats 229 = .ok (.istore 5, 2) := by decide +kernel
theorem d_M_keepsBoats_231 : decode b_M_keepsBoats 231 = .ok (.iinc 8 1, 3) := by decide +kernel
theorem d_M_keepsBoats_234 : decode b_M_keepsBoats 234 = .ok (.goto (-39), 3) := by decide +kernel
theorem d_M_keepsBoats_237 : decode b_M_keepsBoats 237 = .ok (.iinc 6 1, 3) := by decide +kernel
theorem d_M_keepsBoats_240 : decode b_M_keepsBoats 240 = .ok (.goto (-157), 3) := by decide +kernel
theorem d_M_keepsBoats_243 : decode b_M_keepsBoats 243 = .ok (.iload 5, 2) := by decide +kernel
theorem d_M_keepsBoats_245 : decode b_M_keepsBoats 245 = .ok (.ireturn, 1) := by decide +kernel
theorem d_M_keepsOpen_0 : decode b_M_keepsOpen 0 = .ok (.iconst 1, 1) := by decide +kernel
theorem d_M_keepsOpen_1 : decode b_M_keepsOpen 1 = .ok (.istore_n 3, 1) := by decide +kernel
theorem d_M_keepsOpen_2 : decode b_M_keepsOpen 2 = .ok (.iconst 0, 1) := by decide +kernel
theorem d_M_keepsOpen_3 : decode b_M_keepsOpen 3 = .ok (.istore 4, 2) := by decide +kernel
theorem d_M_keepsOpen_5 : decode b_M_keepsOpen 5 = .ok (.iload 4, 2) := by decide +kernel
theorem d_M_keepsOpen_7 : decode b_M_keepsOpen 7 = .ok (.iload_n 2, 1) := by decide +kernel
theorem d_M_keepsOpen_8 : decode b_M_keepsOpen 8 = .ok (.if_icmp .ge 50, 3) := by decide +kernel
theorem d_M_keepsOpen_11 : decode b_M_keepsOpen 11 = .ok (.iload_n 3, 1) := by decide +kernel
theorem d_M_keepsOpen_12 : decode b_M_keepsOpen 12 = .ok (.ifCond .eq 38, 3) := by decide +kernel
theorem d_M_keepsOpen_15 : decode b_M_keepsOpen 15 = .ok (.aload_n 0, 1) := by decide +kernel
theorem d_M_keepsOpen_16 : decode b_M_keepsOpen 16 = .ok (.iload 4, 2) := by decide +kernel
theorem d_M_keepsOpen_18 : decode b_M_keepsOpen 18 = .ok (.iload_n 1, 1) := by decide +kernel
theorem d_M_keepsOpen_19 : decode b_M_keepsOpen 19 = .ok (.iload_n 2, 1) := by decide +kernel
theorem d_M_keepsOpen_20 : decode b_M_keepsOpen 20 = .ok (.invokevirtual 126, 3) := by decide +kernel
theorem d_M_keepsOpen_23 : decode b_M_keepsOpen 23 = .ok (.ifCond .eq 23, 3) := by decide +kernel
theorem d_M_keepsOpen_26 : decode b_M_keepsOpen 26 = .ok (.aload_n 0, 1) := by decide +kernel
theorem d_M_keepsOpen_27 : decode b_M_keepsOpen 27 = .ok (.getfield 13, 3) := by decide +kernel
theorem d_M_keepsOpen_30 : decode b_M_keepsOpen 30 = .ok (.bipush 8, 2) := by decide +kernel
theorem d_M_keepsOpen_32 : decode b_M_keepsOpen 32 = .ok (.aload_n 0, 1) := by decide +kernel
theorem d_M_keepsOpen_33 : decode b_M_keepsOpen 33 = .ok (.getfield 17, 3) := by decide +kernel
theorem d_M_keepsOpen_36 : decode b_M_keepsOpen 36 = .ok (.iload 4, 2) := by decide +kernel
theorem d_M_keepsOpen_38 : decode b_M_keepsOpen 38 = .ok (.iaload, 1) := by decide +kernel
theorem d_M_keepsOpen_39 : decode b_M_keepsOpen 39 = .ok (.imul, 1) := by decide +kernel
theorem d_M_keepsOpen_40 : decode b_M_keepsOpen 40 = .ok (.iload_n 1, 1) := by decide +kernel
theorem d_M_keepsOpen_41 : decode b_M_keepsOpen 41 = .ok (.iadd, 1) := by decide +kernel
theorem d_M_keepsOpen_42 : decode b_M_keepsOpen 42 = .ok (.baload, 1) := by decide +kernel
theorem d_M_keepsOpen_43 : decode b_M_keepsOpen 43 = .ok (.ifCond .ne 7, 3) := by decide +kernel
theorem d_M_keepsOpen_46 : decode b_M_keepsOpen 46 = .ok (.iconst 1, 1) := by decide +kernel
theorem d_M_keepsOpen_47 : decode b_M_keepsOpen 47 = .ok (.goto 4, 3) := by decide +kernel
theorem d_M_keepsOpen_50 : decode b_M_keepsOpen 50 = .ok (.iconst 0, 1) := by decide +kernel
theorem d_M_keepsOpen_51 : decode b_M_keepsOpen 51 = .ok (.istore_n 3, 1) := by decide +kernel
theorem d_M_keepsOpen_52 : decode b_M_keepsOpen 52 = .ok (.iinc 4 1, 3) := by decide +kernel
theorem d_M_keepsOpen_55 : decode b_M_keepsOpen 55 = .ok (.goto (-50), 3) := by decide +kernel
theorem d_M_keepsOpen_58 : decode b_M_keepsOpen 58 = .ok (.iload_n 3, 1) := by decide +kernel
theorem d_M_keepsOpen_59 : decode b_M_keepsOpen 59 = .ok (.ireturn, 1) := by decide +kernel
theorem d_M_keepsHeld_0 : decode b_M_keepsHeld 0 = .ok (.iconst 1, 1) := by decide +kernel
theorem d_M_keepsHeld_1 : decode b_M_keepsHeld 1 = .ok (.istore_n 2, 1) := by decide +kernel
theorem d_M_keepsHeld_2 : decode b_M_keepsHeld 2 = .ok (.iconst 0, 1) := by decide +kernel
theorem d_M_keepsHeld_3 : decode b_M_keepsHeld 3 = .ok (.istore_n 3, 1) := by decide +kernel
theorem d_M_keepsHeld_4 : decode b_M_keepsHeld 4 = .ok (.iload_n 3, 1) := by decide +kernel
theorem d_M_keepsHeld_5 : decode b_M_keepsHeld 5 = .ok (.aload_n 0, 1) := by decide +kernel
theorem d_M_keepsHeld_6 : decode b_M_keepsHeld 6 = .ok (.getfield 90, 3) := by decide +kernel
theorem d_M_keepsHeld_9 : decode b_M_keepsHeld 9 = .ok (.if_icmp .ge 91, 3) := by decide +kernel
theorem d_M_keepsHeld_12 : decode b_M_keepsHeld 12 = .ok (.lconst 0, 1) := by decide +kernel
theorem d_M_keepsHeld_13 : decode b_M_keepsHeld 13 = .ok (.lstore 4, 2) := by decide +kernel
theorem d_M_keepsHeld_15 : decode b_M_keepsHeld 15 = .ok (.iconst 0, 1) := by decide +kernel
theorem d_M_keepsHeld_16 : decode b_M_keepsHeld 16 = .ok (.istore 6, 2) := by decide +kernel
theorem d_M_keepsHeld_18 : decode b_M_keepsHeld 18 = .ok (.iload 6, 2) := by decide +kernel
theorem d_M_keepsHeld_20 : decode b_M_keepsHeld 20 = .ok (.aload_n 0, 1) := by decide +kernel
theorem d_M_keepsHeld_21 : decode b_M_keepsHeld 21 = .ok (.getfield 101, 3) := by decide +kernel
theorem d_M_keepsHeld_24 : decode b_M_keepsHeld 24 = .ok (.if_icmp .ge 47, 3) := by decide +kernel
theorem d_M_keepsHeld_27 : decode b_M_keepsHeld 27 = .ok (.lload 4, 2) := by decide +kernel
theorem d_M_keepsHeld_29 : decode b_M_keepsHeld 29 = .ok (.aload_n 0, 1) := by decide +kernel
theorem d_M_keepsHeld_30 : decode b_M_keepsHeld 30 = .ok (.getfield 17, 3) := by decide +kernel
theorem d_M_keepsHeld_33 : decode b_M_keepsHeld 33 = .ok (.iload 6, 2) := by decide +kernel
theorem d_M_keepsHeld_35 : decode b_M_keepsHeld 35 = .ok (.iaload, 1) := by decide +kernel
theorem d_M_keepsHeld_36 : decode b_M_keepsHeld 36 = .ok (.iload_n 3, 1) := by decide +kernel
theorem d_M_keepsHeld_37 : decode b_M_keepsHeld 37 = .ok (.if_icmp .ne 24, 3) := by decide +kernel
theorem d_M_keepsHeld_40 : decode b_M_keepsHeld 40 = .ok (.aload_n 0, 1) := by decide +kernel
theorem d_M_keepsHeld_41 : decode b_M_keepsHeld 41 = .ok (.getfield 53, 3) := by decide +kernel
theorem d_M_keepsHeld_44 : decode b_M_keepsHeld 44 = .ok (.iload 6, 2) := by decide +kernel
theorem d_M_keepsHeld_46 : decode b_M_keepsHeld 46 = .ok (.iaload, 1) := by decide +kernel
theorem d_M_keepsHeld_47 : decode b_M_keepsHeld 47 = .ok (.iload_n 1, 1) := by decide +kernel
theorem d_M_keepsHeld_48 : decode b_M_keepsHeld 48 = .ok (.if_icmp .lt 13, 3) := by decide +kernel
theorem d_M_keepsHeld_51 : decode b_M_keepsHeld 51 = .ok (.aload_n 0, 1) := by decide +kernel
theorem d_M_keepsHeld_52 : decode b_M_keepsHeld 52 = .ok (.iload 6, 2) := by decide +kernel
theorem d_M_keepsHeld_54 : decode b_M_keepsHeld 54 = .ok (.iload_n 1, 1) := by decide +kernel
theorem d_M_keepsHeld_55 : decode b_M_keepsHeld 55 = .ok (.invokevirtual 108, 3) := by decide +kernel
theorem d_M_keepsHeld_58 : decode b_M_keepsHeld 58 = .ok (.goto 4, 3) := by decide +kernel
theorem d_M_keepsHeld_61 : decode b_M_keepsHeld 61 = .ok (.lconst 0, 1) := by decide +kernel
theorem d_M_keepsHeld_62 : decode b_M_keepsHeld 62 = .ok (.ladd, 1) := by decide +kernel
theorem d_M_keepsHeld_63 : decode b_M_keepsHeld 63 = .ok (.lstore 4, 2) := by decide +kernel
theorem d_M_keepsHeld_65 : decode b_M_keepsHeld 65 = .ok (.iinc 6 1, 3) := by decide +kernel
theorem d_M_keepsHeld_68 : decode b_M_keepsHeld 68 = .ok (.goto (-50), 3) := by decide +kernel
theorem d_M_keepsHeld_71 : decode b_M_keepsHeld 71 = .ok (.iload_n 2, 1) := by decide +kernel
theorem d_M_keepsHeld_72 : decode b_M_keepsHeld 72 = .ok (.ifCond .eq 20, 3) := by decide +kernel
theorem d_M_keepsHeld_75 : decode b_M_keepsHeld 75 = .ok (.lload 4, 2) := by decide +kernel
theorem d_M_keepsHeld_77 : decode b_M_keepsHeld 77 = .ok (.aload_n 0, 1) := by decide +kernel
theorem d_M_keepsHeld_78 : decode b_M_keepsHeld 78 = .ok (.getfield 7, 3) := by decide +kernel
theorem d_M_keepsHeld_81 : decode b_M_keepsHeld 81 = .ok (.iload_n 3, 1) := by decide +kernel
theorem d_M_keepsHeld_82 : decode b_M_keepsHeld 82 = .ok (.iaload, 1) := by decide +kernel
theorem d_M_keepsHeld_83 : decode b_M_keepsHeld 83 = .ok (.i2l, 1) := by decide +kernel
theorem d_M_keepsHeld_84 : decode b_M_keepsHeld 84 = .ok (.lcmp, 1) := by decide +kernel
theorem d_M_keepsHeld_85 : decode b_M_keepsHeld 85 = .ok (.ifCond .gt 7, 3) := by decide +kernel
theorem d_M_keepsHeld_88 : decode b_M_keepsHeld 88 = .ok (.iconst 1, 1) := by decide +kernel
theorem d_M_keepsHeld_89 : decode b_M_keepsHeld 89 = .ok (.goto 4, 3) := by decide +kernel
theorem d_M_keepsHeld_92 : decode b_M_keepsHeld 92 = .ok (.iconst 0, 1) := by decide +kernel
theorem d_M_keepsHeld_93 : decode b_M_keepsHeld 93 = .ok (.istore_n 2, 1) := by decide +kernel
theorem d_M_keepsHeld_94 : decode b_M_keepsHeld 94 = .ok (.iinc 3 1, 3) := by decide +kernel
theorem d_M_keepsHeld_97 : decode b_M_keepsHeld 97 = .ok (.goto (-93), 3) := by decide +kernel
theorem d_M_keepsHeld_100 : decode b_M_keepsHeld 100 = .ok (.iload_n 2, 1) := by decide +kernel
theorem d_M_keepsHeld_101 : decode b_M_keepsHeld 101 = .ok (.ireturn, 1) := by decide +kernel
theorem d_M_broken_0 : decode b_M_broken 0 = .ok (.aload_n 0, 1) := by decide +kernel
theorem d_M_broken_1 : decode b_M_broken 1 = .ok (.iload_n 1, 1) := by decide +kernel
theorem d_M_broken_2 : decode b_M_broken 2 = .ok (.iload_n 2, 1) := by decide +kernel
theorem d_M_broken_3 : decode b_M_broken 3 = .ok (.invokevirtual 130, 3) := by decide +kernel
theorem d_M_broken_6 : decode b_M_broken 6 = .ok (.ifCond .ne 7, 3) := by decide +kernel
theorem d_M_broken_9 : decode b_M_broken 9 = .ok (.iconst 1, 1) := by decide +kernel
theorem d_M_broken_10 : decode b_M_broken 10 = .ok (.goto 46, 3) := by decide +kernel
theorem d_M_broken_13 : decode b_M_broken 13 = .ok (.aload_n 0, 1) := by decide +kernel
theorem d_M_broken_14 : decode b_M_broken 14 = .ok (.iload_n 1, 1) := by decide +kernel
theorem d_M_broken_15 : decode b_M_broken 15 = .ok (.iload_n 2, 1) := by decide +kernel
theorem d_M_broken_16 : decode b_M_broken 16 = .ok (.invokevirtual 134, 3) := by decide +kernel
theorem d_M_broken_19 : decode b_M_broken 19 = .ok (.ifCond .ne 7, 3) := by decide +kernel
theorem d_M_broken_22 : decode b_M_broken 22 = .ok (.iconst 2, 1) := by decide +kernel
theorem d_M_broken_23 : decode b_M_broken 23 = .ok (.goto 33, 3) := by decide +kernel
theorem d_M_broken_26 : decode b_M_broken 26 = .ok (.aload_n 0, 1) := by decide +kernel
theorem d_M_broken_27 : decode b_M_broken 27 = .ok (.iload_n 1, 1) := by decide +kernel
theorem d_M_broken_28 : decode b_M_broken 28 = .ok (.iload_n 2, 1) := by decide +kernel
theorem d_M_broken_29 : decode b_M_broken 29 = .ok (.invokevirtual 137, 3) := by decide +kernel
theorem d_M_broken_32 : decode b_M_broken 32 = .ok (.ifCond .ne 7, 3) := by decide +kernel
theorem d_M_broken_35 : decode b_M_broken 35 = .ok (.iconst 3, 1) := by decide +kernel
theorem d_M_broken_36 : decode b_M_broken 36 = .ok (.goto 20, 3) := by decide +kernel
theorem d_M_broken_39 : decode b_M_broken 39 = .ok (.iload_n 3, 1) := by decide +kernel
theorem d_M_broken_40 : decode b_M_broken 40 = .ok (.ifCond .eq 15, 3) := by decide +kernel
theorem d_M_broken_43 : decode b_M_broken 43 = .ok (.aload_n 0, 1) := by decide +kernel
theorem d_M_broken_44 : decode b_M_broken 44 = .ok (.iload_n 1, 1) := by decide +kernel
theorem d_M_broken_45 : decode b_M_broken 45 = .ok (.invokevirtual 140, 3) := by decide +kernel
theorem d_M_broken_48 : decode b_M_broken 48 = .ok (.ifCond .ne 7, 3) := by decide +kernel
theorem d_M_broken_51 : decode b_M_broken 51 = .ok (.iconst 4, 1) := by decide +kernel
theorem d_M_broken_52 : decode b_M_broken 52 = .ok (.goto 4, 3) := by decide +kernel
theorem d_M_broken_55 : decode b_M_broken 55 = .ok (.iconst 0, 1) := by decide +kernel
theorem d_M_broken_56 : decode b_M_broken 56 = .ok (.ireturn, 1) := by decide +kernel
theorem d_M_keepsAll_0 : decode b_M_keepsAll 0 = .ok (.iconst 1, 1) := by decide +kernel
theorem d_M_keepsAll_1 : decode b_M_keepsAll 1 = .ok (.istore_n 3, 1) := by decide +kernel
theorem d_M_keepsAll_2 : decode b_M_keepsAll 2 = .ok (.iconst 0, 1) := by decide +kernel
theorem d_M_keepsAll_3 : decode b_M_keepsAll 3 = .ok (.istore 4, 2) := by decide +kernel
theorem d_M_keepsAll_5 : decode b_M_keepsAll 5 = .ok (.iload 4, 2) := by decide +kernel
theorem d_M_keepsAll_7 : decode b_M_keepsAll 7 = .ok (.aload_n 0, 1) := by decide +kernel
theorem d_M_keepsAll_8 : decode b_M_keepsAll 8 = .ok (.getfield 75, 3) := by decide +kernel
theorem d_M_keepsAll_11 : decode b_M_keepsAll 11 = .ok (.if_icmp .ge 30, 3) := by decide +kernel
theorem d_M_keepsAll_14 : decode b_M_keepsAll 14 = .ok (.iload_n 3, 1) := by decide +kernel
theorem d_M_keepsAll_15 : decode b_M_keepsAll 15 = .ok (.ifCond .eq 18, 3) := by decide +kernel
theorem d_M_keepsAll_18 : decode b_M_keepsAll 18 = .ok (.aload_n 0, 1) := by decide +kernel
theorem d_M_keepsAll_19 : decode b_M_keepsAll 19 = .ok (.iload 4, 2) := by decide +kernel
theorem d_M_keepsAll_21 : decode b_M_keepsAll 21 = .ok (.iload_n 1, 1) := by decide +kernel
theorem d_M_keepsAll_22 : decode b_M_keepsAll 22 = .ok (.iload_n 2, 1) := by decide +kernel
theorem d_M_keepsAll_23 : decode b_M_keepsAll 23 = .ok (.invokevirtual 144, 3) := by decide +kernel
theorem d_M_keepsAll_26 : decode b_M_keepsAll 26 = .ok (.ifCond .ne 7, 3) := by decide +kernel
theorem d_M_keepsAll_29 : decode b_M_keepsAll 29 = .ok (.iconst 1, 1) := by decide +kernel
theorem d_M_keepsAll_30 : decode b_M_keepsAll 30 = .ok (.goto 4, 3) := by decide +kernel
theorem d_M_keepsAll_33 : decode b_M_keepsAll 33 = .ok (.iconst 0, 1) := by decide +kernel
theorem d_M_keepsAll_34 : decode b_M_keepsAll 34 = .ok (.istore_n 3, 1) := by decide +kernel
theorem d_M_keepsAll_35 : decode b_M_keepsAll 35 = .ok (.iinc 4 1, 3) := by decide +kernel
theorem d_M_keepsAll_38 : decode b_M_keepsAll 38 = .ok (.goto (-33), 3) := by decide +kernel
theorem d_M_keepsAll_41 : decode b_M_keepsAll 41 = .ok (.iload_n 3, 1) := by decide +kernel
theorem d_M_keepsAll_42 : decode b_M_keepsAll 42 = .ok (.ireturn, 1) := by decide +kernel
theorem d_M_nextOrder_0 : decode b_M_nextOrder 0 = .ok (.iconst (-1), 1) := by decide +kernel
theorem d_M_nextOrder_1 : decode b_M_nextOrder 1 = .ok (.istore_n 2, 1) := by decide +kernel
theorem d_M_nextOrder_2 : decode b_M_nextOrder 2 = .ok (.iconst 0, 1) := by decide +kernel
theorem d_M_nextOrder_3 : decode b_M_nextOrder 3 = .ok (.istore_n 3, 1) := by decide +kernel
theorem d_M_nextOrder_4 : decode b_M_nextOrder 4 = .ok (.iload_n 3, 1) := by decide +kernel
theorem d_M_nextOrder_5 : decode b_M_nextOrder 5 = .ok (.aload_n 0, 1) := by decide +kernel
theorem d_M_nextOrder_6 : decode b_M_nextOrder 6 = .ok (.getfield 117, 3) := by decide +kernel
theorem d_M_nextOrder_9 : decode b_M_nextOrder 9 = .ok (.if_icmp .ge 66, 3) := by decide +kernel
theorem d_M_nextOrder_12 : decode b_M_nextOrder 12 = .ok (.iload_n 2, 1) := by decide +kernel
theorem d_M_nextOrder_13 : decode b_M_nextOrder 13 = .ok (.iconst (-1), 1) := by decide +kernel
theorem d_M_nextOrder_14 : decode b_M_nextOrder 14 = .ok (.if_icmp .eq 18, 3) := by decide +kernel
theorem d_M_nextOrder_17 : decode b_M_nextOrder 17 = .ok (.aload_n 0, 1) := by decide +kernel
theorem d_M_nextOrder_18 : decode b_M_nextOrder 18 = .ok (.getfield 47, 3) := by decide +kernel
theorem d_M_nextOrder_21 : decode b_M_nextOrder 21 = .ok (.iload_n 3, 1) := by decide +kernel
theorem d_M_nextOrder_22 : decode b_M_nextOrder 22 = .ok (.iaload, 1) := by decide +kernel
theorem d_M_nextOrder_23 : decode b_M_nextOrder 23 = .ok (.aload_n 0, 1) := by decide +kernel
theorem d_M_nextOrder_24 : decode b_M_nextOrder 24 = .ok (.getfield 47, 3) := by decide +kernel
theorem d_M_nextOrder_27 : decode b_M_nextOrder 27 = .ok (.iload_n 2, 1) := by decide +kernel
theorem d_M_nextOrder_28 : decode b_M_nextOrder 28 = .ok (.iaload, 1) := by decide +kernel
theorem d_M_nextOrder_29 : decode b_M_nextOrder 29 = .ok (.if_icmp .le 7, 3) := by decide +kernel
theorem d_M_nextOrder_32 : decode b_M_nextOrder 32 = .ok (.iconst 1, 1) := by decide +kernel
theorem d_M_nextOrder_33 : decode b_M_nextOrder 33 = .ok (.goto 4, 3) := by decide +kernel
theorem d_M_nextOrder_36 : decode b_M_nextOrder 36 = .ok (.iconst 0, 1) := by decide +kernel
theorem d_M_nextOrder_37 : decode b_M_nextOrder 37 = .ok (.istore 4, 2) := by decide +kernel
theorem d_M_nextOrder_39 : decode b_M_nextOrder 39 = .ok (.aload_n 0, 1) := by decide +kernel
theorem d_M_nextOrder_40 : decode b_M_nextOrder 40 = .ok (.getfield 35, 3) := by decide +kernel
theorem d_M_nextOrder_43 : decode b_M_nextOrder 43 = .ok (.iload_n 3, 1) := by decide +kernel
theorem d_M_nextOrder_44 : decode b_M_nextOrder 44 = .ok (.iaload, 1) := by decide +kernel
theorem d_M_nextOrder_45 : decode b_M_nextOrder 45 = .ok (.iload_n 1, 1) := by decide +kernel
theorem d_M_nextOrder_46 : decode b_M_nextOrder 46 = .ok (.if_icmp .ne 21, 3) := by decide +kernel
theorem d_M_nextOrder_49 : decode b_M_nextOrder 49 = .ok (.aload_n 0, 1) := by decide +kernel
theorem d_M_nextOrder_50 : decode b_M_nextOrder 50 = .ok (.getfield 66, 3) := by decide +kernel
theorem d_M_nextOrder_53 : decode b_M_nextOrder 53 = .ok (.iload_n 3, 1) := by decide +kernel
theorem d_M_nextOrder_54 : decode b_M_nextOrder 54 = .ok (.baload, 1) := by decide +kernel
theorem d_M_nextOrder_55 : decode b_M_nextOrder 55 = .ok (.ifCond .ne 12, 3) := by decide +kernel
theorem d_M_nextOrder_58 : decode b_M_nextOrder 58 = .ok (.iload 4, 2) := by decide +kernel
theorem d_M_nextOrder_60 : decode b_M_nextOrder 60 = .ok (.ifCond .eq 7, 3) := by decide +kernel
theorem d_M_nextOrder_63 : decode b_M_nextOrder 63 = .ok (.iload_n 3, 1) := by decide +kernel
theorem d_M_nextOrder_64 : decode b_M_nextOrder 64 = .ok (.goto 4, 3) := by decide +kernel
theorem d_M_nextOrder_67 : decode b_M_nextOrder 67 = .ok (.iload_n 2, 1) := by decide +kernel
theorem d_M_nextOrder_68 : decode b_M_nextOrder 68 = .ok (.istore_n 2, 1) := by decide +kernel
theorem d_M_nextOrder_69 : decode b_M_nextOrder 69 = .ok (.iinc 3 1, 3) := by decide +kernel
theorem d_M_nextOrder_72 : decode b_M_nextOrder 72 = .ok (.goto (-68), 3) := by decide +kernel
theorem d_M_nextOrder_75 : decode b_M_nextOrder 75 = .ok (.iload_n 2, 1) := by decide +kernel
theorem d_M_nextOrder_76 : decode b_M_nextOrder 76 = .ok (.ireturn, 1) := by decide +kernel
theorem d_M_serve_0 : decode b_M_serve 0 = .ok (.aload_n 0, 1) := by decide +kernel
theorem d_M_serve_1 : decode b_M_serve 1 = .ok (.getfield 66, 3) := by decide +kernel
theorem d_M_serve_4 : decode b_M_serve 4 = .ok (.iload_n 1, 1) := by decide +kernel
theorem d_M_serve_5 : decode b_M_serve 5 = .ok (.iconst 1, 1) := by decide +kernel
theorem d_M_serve_6 : decode b_M_serve 6 = .ok (.bastore, 1) := by decide +kernel
theorem d_M_serve_7 : decode b_M_serve 7 = .ok (.aload_n 0, 1) := by decide +kernel
theorem d_M_serve_8 : decode b_M_serve 8 = .ok (.getfield 63, 3) := by decide +kernel
theorem d_M_serve_11 : decode b_M_serve 11 = .ok (.iload_n 1, 1) := by decide +kernel
theorem d_M_serve_12 : decode b_M_serve 12 = .ok (.lconst 0, 1) := by decide +kernel
theorem d_M_serve_13 : decode b_M_serve 13 = .ok (.lastore, 1) := by decide +kernel
theorem d_M_serve_14 : decode b_M_serve 14 = .ok (.iconst 0, 1) := by decide +kernel
theorem d_M_serve_15 : decode b_M_serve 15 = .ok (.istore_n 3, 1) := by decide +kernel
theorem d_M_serve_16 : decode b_M_serve 16 = .ok (.iload_n 3, 1) := by decide +kernel
theorem d_M_serve_17 : decode b_M_serve 17 = .ok (.aload_n 0, 1) := by decide +kernel
theorem d_M_serve_18 : decode b_M_serve 18 = .ok (.getfield 101, 3) := by decide +kernel
theorem d_M_serve_21 : decode b_M_serve 21 = .ok (.if_icmp .ge 114, 3) := by decide +kernel
theorem d_M_serve_24 : decode b_M_serve 24 = .ok (.aload_n 0, 1) := by decide +kernel
theorem d_M_serve_25 : decode b_M_serve 25 = .ok (.getfield 53, 3) := by decide +kernel
theorem d_M_serve_28 : decode b_M_serve 28 = .ok (.iload_n 3, 1) := by decide +kernel
theorem d_M_serve_29 : decode b_M_serve 29 = .ok (.iaload, 1) := by decide +kernel
theorem d_M_serve_30 : decode b_M_serve 30 = .ok (.iload_n 2, 1) := by decide +kernel
theorem d_M_serve_31 : decode b_M_serve 31 = .ok (.if_icmp .ne 98, 3) := by decide +kernel
theorem d_M_serve_34 : decode b_M_serve 34 = .ok (.aload_n 0, 1) := by decide +kernel
theorem d_M_serve_35 : decode b_M_serve 35 = .ok (.getfield 20, 3) := by decide +kernel
theorem d_M_serve_38 : decode b_M_serve 38 = .ok (.bipush 8, 2) := by decide +kernel
theorem d_M_serve_40 : decode b_M_serve 40 = .ok (.iload_n 3, 1) := by decide +kernel
theorem d_M_serve_41 : decode b_M_serve 41 = .ok (.imul, 1) := by decide +kernel
theorem d_M_serve_42 : decode b_M_serve 42 = .ok (.iload_n 2, 1) := by decide +kernel
theorem d_M_serve_43 : decode b_M_serve 43 = .ok (.iadd, 1) := by decide +kernel
theorem d_M_serve_44 : decode b_M_serve 44 = .ok (.iaload, 1) := by decide +kernel
theorem d_M_serve_45 : decode b_M_serve 45 = .ok (.i2l, 1) := by decide +kernel
theorem d_M_serve_46 : decode b_M_serve 46 = .ok (.aload_n 0, 1) := by decide +kernel
theorem d_M_serve_47 : decode b_M_serve 47 = .ok (.getfield 38, 3) := by decide +kernel
theorem d_M_serve_50 : decode b_M_serve 50 = .ok (.iload_n 1, 1) := by decide +kernel
theorem d_M_serve_51 : decode b_M_serve 51 = .ok (.iaload, 1) := by decide +kernel
theorem d_M_serve_52 : decode b_M_serve 52 = .ok (.i2l, 1) := by decide +kernel
theorem d_M_serve_53 : decode b_M_serve 53 = .ok (.aload_n 0, 1) := by decide +kernel
theorem d_M_serve_54 : decode b_M_serve 54 = .ok (.getfield 41, 3) := by decide +kernel
theorem d_M_serve_57 : decode b_M_serve 57 = .ok (.iload_n 1, 1) := by decide +kernel
theorem d_M_serve_58 : decode b_M_serve 58 = .ok (.iaload, 1) := by decide +kernel
theorem d_M_serve_59 : decode b_M_serve 59 = .ok (.i2l, 1) := by decide +kernel
theorem d_M_serve_60 : decode b_M_serve 60 = .ok (.invokestatic 86, 3) := by decide +kernel
theorem d_M_serve_63 : decode b_M_serve 63 = .ok (.ifCond .eq 66, 3) := by decide +kernel
theorem d_M_serve_66 : decode b_M_serve 66 = .ok (.aload_n 0, 1) := by decide +kernel
theorem d_M_serve_67 : decode b_M_serve 67 = .ok (.getfield 44, 3) := by decide +kernel
theorem d_M_serve_70 : decode b_M_serve 70 = .ok (.iload_n 1, 1) := by decide +kernel
theorem d_M_serve_71 : decode b_M_serve 71 = .ok (.iaload, 1) := by decide +kernel
theorem d_M_serve_72 : decode b_M_serve 72 = .ok (.i2l, 1) := by decide +kernel
theorem d_M_serve_73 : decode b_M_serve 73 = .ok (.aload_n 0, 1) := by decide +kernel
theorem d_M_serve_74 : decode b_M_serve 74 = .ok (.getfield 63, 3) := by decide +kernel
theorem d_M_serve_77 : decode b_M_serve 77 = .ok (.iload_n 1, 1) := by decide +kernel
theorem d_M_serve_78 : decode b_M_serve 78 = .ok (.laload, 1) := by decide +kernel
theorem d_M_serve_79 : decode b_M_serve 79 = .ok (.lsub, 1) := by decide +kernel
theorem d_M_serve_80 : decode b_M_serve 80 = .ok (.lstore 4, 2) := by decide +kernel
theorem d_M_serve_82 : decode b_M_serve 82 = .ok (.aload_n 0, 1) := by decide +kernel
theorem d_M_serve_83 : decode b_M_serve 83 = .ok (.getfield 59, 3) := by decide +kernel
theorem d_M_serve_86 : decode b_M_serve 86 = .ok (.iload_n 3, 1) := by decide +kernel
theorem d_M_serve_87 : decode b_M_serve 87 = .ok (.laload, 1) := by decide +kernel
theorem d_M_serve_88 : decode b_M_serve 88 = .ok (.lload 4, 2) := by decide +kernel
theorem d_M_serve_90 : decode b_M_serve 90 = .ok (.lcmp, 1) := by decide +kernel
theorem d_M_serve_91 : decode b_M_serve 91 = .ok (.ifCond .ge 12, 3) := by decide +kernel
theorem d_M_serve_94 : decode b_M_serve 94 = .ok (.aload_n 0, 1) := by decide +kernel
theorem d_M_serve_95 : decode b_M_serve 95 = .ok (.getfield 59, 3) := by decide +kernel
theorem d_M_serve_98 : decode b_M_serve 98 = .ok (.iload_n 3, 1) := by decide +kernel
theorem d_M_serve_99 : decode b_M_serve 99 = .ok (.laload, 1) := by decide +kernel
theorem d_M_serve_100 : decode b_M_serve 100 = .ok (.goto 5, 3) := by decide +kernel
theorem d_M_serve_103 : decode b_M_serve 103 = .ok (.lload 4, 2) := by decide +kernel
theorem d_M_serve_105 : decode b_M_serve 105 = .ok (.lstore 6, 2) := by decide +kernel
theorem d_M_serve_107 : decode b_M_serve 107 = .ok (.aload_n 0, 1) := by decide +kernel
theorem d_M_serve_108 : decode b_M_serve 108 = .ok (.getfield 63, 3) := by decide +kernel
theorem d_M_serve_111 : decode b_M_serve 111 = .ok (.iload_n 1, 1) := by decide +kernel
theorem d_M_serve_112 : decode b_M_serve 112 = .ok (.dup2, 1) := by decide +kernel
theorem d_M_serve_113 : decode b_M_serve 113 = .ok (.laload, 1) := by decide +kernel
theorem d_M_serve_114 : decode b_M_serve 114 = .ok (.lload 6, 2) := by decide +kernel
theorem d_M_serve_116 : decode b_M_serve 116 = .ok (.ladd, 1) := by decide +kernel
theorem d_M_serve_117 : decode b_M_serve 117 = .ok (.lastore, 1) := by decide +kernel
theorem d_M_serve_118 : decode b_M_serve 118 = .ok (.aload_n 0, 1) := by decide +kernel
theorem d_M_serve_119 : decode b_M_serve 119 = .ok (.getfield 59, 3) := by decide +kernel
theorem d_M_serve_122 : decode b_M_serve 122 = .ok (.iload_n 3, 1) := by decide +kernel
theorem d_M_serve_123 : decode b_M_serve 123 = .ok (.dup2, 1) := by decide +kernel
theorem d_M_serve_124 : decode b_M_serve 124 = .ok (.laload, 1) := by decide +kernel
theorem d_M_serve_125 : decode b_M_serve 125 = .ok (.lload 6, 2) := by decide +kernel
theorem d_M_serve_127 : decode b_M_serve 127 = .ok (.lsub, 1) := by decide +kernel
theorem d_M_serve_128 : decode b_M_serve 128 = .ok (.lastore, 1) := by decide +kernel
theorem d_M_serve_129 : decode b_M_serve 129 = .ok (.iinc 3 1, 3) := by decide +kernel
theorem d_M_serve_132 : decode b_M_serve 132 = .ok (.goto (-116), 3) := by decide +kernel
theorem d_M_serve_135 : decode b_M_serve 135 = .ok (.aload_n 0, 1) := by decide +kernel
theorem d_M_serve_136 : decode b_M_serve 136 = .ok (.getfield 63, 3) := by decide +kernel
theorem d_M_serve_139 : decode b_M_serve 139 = .ok (.iload_n 1, 1) := by decide +kernel
theorem d_M_serve_140 : decode b_M_serve 140 = .ok (.laload, 1) := by decide +kernel
theorem d_M_serve_141 : decode b_M_serve 141 = .ok (.aload_n 0, 1) := by decide +kernel
theorem d_M_serve_142 : decode b_M_serve 142 = .ok (.getfield 47, 3) := by decide +kernel
theorem d_M_serve_145 : decode b_M_serve 145 = .ok (.iload_n 1, 1) := by decide +kernel
theorem d_M_serve_146 : decode b_M_serve 146 = .ok (.iaload, 1) := by decide +kernel
theorem d_M_serve_147 : decode b_M_serve 147 = .ok (.i2l, 1) := by decide +kernel
theorem d_M_serve_148 : decode b_M_serve 148 = .ok (.lmul, 1) := by decide +kernel
theorem d_M_serve_149 : decode b_M_serve 149 = .ok (.lreturn, 1) := by decide +kernel
theorem d_M_value_0 : decode b_M_value 0 = .ok (.lconst 0, 1) := by decide +kernel
theorem d_M_value_1 : decode b_M_value 1 = .ok (.lstore_n 1, 1) := by decide +kernel
theorem d_M_value_2 : decode b_M_value 2 = .ok (.iconst 0, 1) := by decide +kernel
theorem d_M_value_3 : decode b_M_value 3 = .ok (.istore_n 3, 1) := by decide +kernel
theorem d_M_value_4 : decode b_M_value 4 = .ok (.iload_n 3, 1) := by decide +kernel
theorem d_M_value_5 : decode b_M_value 5 = .ok (.aload_n 0, 1) := by decide +kernel
theorem d_M_value_6 : decode b_M_value 6 = .ok (.getfield 117, 3) := by decide +kernel
theorem d_M_value_9 : decode b_M_value 9 = .ok (.if_icmp .ge 23, 3) := by decide +kernel
theorem d_M_value_12 : decode b_M_value 12 = .ok (.aload_n 0, 1) := by decide +kernel
theorem d_M_value_13 : decode b_M_value 13 = .ok (.getfield 66, 3) := by decide +kernel
theorem d_M_value_16 : decode b_M_value 16 = .ok (.iload_n 3, 1) := by decide +kernel
theorem d_M_value_17 : decode b_M_value 17 = .ok (.iconst 0, 1) := by decide +kernel
theorem d_M_value_18 : decode b_M_value 18 = .ok (.bastore, 1) := by decide +kernel
theorem d_M_value_19 : decode b_M_value 19 = .ok (.aload_n 0, 1) := by decide +kernel
theorem d_M_value_20 : decode b_M_value 20 = .ok (.getfield 63, 3) := by decide +kernel
theorem d_M_value_23 : decode b_M_value 23 = .ok (.iload_n 3, 1) := by decide +kernel
theorem d_M_value_24 : decode b_M_value 24 = .ok (.lconst 0, 1) := by decide +kernel
theorem d_M_value_25 : decode b_M_value 25 = .ok (.lastore, 1) := by decide +kernel
theorem d_M_value_26 : decode b_M_value 26 = .ok (.iinc 3 1, 3) := by decide +kernel
theorem d_M_value_29 : decode b_M_value 29 = .ok (.goto (-25), 3) := by decide +kernel
theorem d_M_value_32 : decode b_M_value 32 = .ok (.iconst 0, 1) := by decide +kernel
theorem d_M_value_33 : decode b_M_value 33 = .ok (.istore_n 3, 1) := by decide +kernel
theorem d_M_value_34 : decode b_M_value 34 = .ok (.iload_n 3, 1) := by decide +kernel
theorem d_M_value_35 : decode b_M_value 35 = .ok (.aload_n 0, 1) := by decide +kernel
theorem d_M_value_36 : decode b_M_value 36 = .ok (.getfield 75, 3) := by decide +kernel
theorem d_M_value_39 : decode b_M_value 39 = .ok (.if_icmp .ge 138, 3) := by decide +kernel
theorem d_M_value_42 : decode b_M_value 42 = .ok (.iconst 0, 1) := by decide +kernel
theorem d_M_value_43 : decode b_M_value 43 = .ok (.istore 4, 2) := by decide +kernel
theorem d_M_value_45 : decode b_M_value 45 = .ok (.iload 4, 2) := by decide +kernel
theorem d_M_value_47 : decode b_M_value 47 = .ok (.aload_n 0, 1) := by decide +kernel
theorem d_M_value_48 : decode b_M_value 48 = .ok (.getfield 101, 3) := by decide +kernel
theorem d_M_value_51 : decode b_M_value 51 = .ok (.if_icmp .ge 38, 3) := by decide +kernel
theorem d_M_value_54 : decode b_M_value 54 = .ok (.aload_n 0, 1) := by decide +kernel
theorem d_M_value_55 : decode b_M_value 55 = .ok (.getfield 59, 3) := by decide +kernel
theorem d_M_value_58 : decode b_M_value 58 = .ok (.iload 4, 2) := by decide +kernel
theorem d_M_value_60 : decode b_M_value 60 = .ok (.aload_n 0, 1) := by decide +kernel
theorem d_M_value_61 : decode b_M_value 61 = .ok (.getfield 53, 3) := by decide +kernel
theorem d_M_value_64 : decode b_M_value 64 = .ok (.iload 4, 2) := by decide +kernel
theorem d_M_value_66 : decode b_M_value 66 = .ok (.iaload, 1) := by decide +kernel
theorem d_M_value_67 : decode b_M_value 67 = .ok (.iload_n 3, 1) := by decide +kernel
theorem d_M_value_68 : decode b_M_value 68 = .ok (.if_icmp .ne 13, 3) := by decide +kernel
theorem d_M_value_71 : decode b_M_value 71 = .ok (.aload_n 0, 1) := by decide +kernel
theorem d_M_value_72 : decode b_M_value 72 = .ok (.iload 4, 2) := by decide +kernel
theorem d_M_value_74 : decode b_M_value 74 = .ok (.iload_n 3, 1) := by decide +kernel
theorem d_M_value_75 : decode b_M_value 75 = .ok (.invokevirtual 108, 3) := by decide +kernel
theorem d_M_value_78 : decode b_M_value 78 = .ok (.goto 4, 3) := by decide +kernel
theorem d_M_value_81 : decode b_M_value 81 = .ok (.lconst 0, 1) := by decide +kernel
theorem d_M_value_82 : decode b_M_value 82 = .ok (.lastore, 1) := by decide +kernel
theorem d_M_value_83 : decode b_M_value 83 = .ok (.iinc 4 1, 3) := by decide +kernel
theorem d_M_value_86 : decode b_M_value 86 = .ok (.goto (-41), 3) := by decide +kernel
theorem d_M_value_89 : decode b_M_value 89 = .ok (.aload_n 0, 1) := by decide +kernel
theorem d_M_value_90 : decode b_M_value 90 = .ok (.iload_n 3, 1) := by decide +kernel
theorem d_M_value_91 : decode b_M_value 91 = .ok (.invokevirtual 148, 3) := by decide +kernel
theorem d_M_value_94 : decode b_M_value 94 = .ok (.istore 4, 2) := by decide +kernel
theorem d_M_value_96 : decode b_M_value 96 = .ok (.iload 4, 2) := by decide +kernel
theorem d_M_value_98 : decode b_M_value 98 = .ok (.iconst (-1), 1) := by decide +kernel
theorem d_M_value_99 : decode b_M_value 99 = .ok (.if_icmp .eq 23, 3) := by decide +kernel
theorem d_M_value_102 : decode b_M_value 102 = .ok (.lload_n 1, 1) := by decide +kernel
theorem d_M_value_103 : decode b_M_value 103 = .ok (.aload_n 0, 1) := by decide +kernel
theorem d_M_value_104 : decode b_M_value 104 = .ok (.iload 4, 2) := by decide +kernel
theorem d_M_value_106 : decode b_M_value 106 = .ok (.iload_n 3, 1) := by decide +kernel
theorem d_M_value_107 : decode b_M_value 107 = .ok (.invokevirtual 152, 3) := by decide +kernel
theorem d_M_value_110 : decode b_M_value 110 = .ok (.ladd, 1) := by decide +kernel
theorem d_M_value_111 : decode b_M_value 111 = .ok (.lstore_n 1, 1) := by decide +kernel
theorem d_M_value_112 : decode b_M_value 112 = .ok (.aload_n 0, 1) := by decide +kernel
theorem d_M_value_113 : decode b_M_value 113 = .ok (.iload_n 3, 1) := by decide +kernel
theorem d_M_value_114 : decode b_M_value 114 = .ok (.invokevirtual 148, 3) := by decide +kernel
theorem d_M_value_117 : decode b_M_value 117 = .ok (.istore 4, 2) := by decide +kernel
theorem d_M_value_119 : decode b_M_value 119 = .ok (.goto (-23), 3) := by decide +kernel
theorem d_M_value_122 : decode b_M_value 122 = .ok (.iconst 0, 1) := by decide +kernel
theorem d_M_value_123 : decode b_M_value 123 = .ok (.istore 5, 2) := by decide +kernel
theorem d_M_value_125 : decode b_M_value 125 = .ok (.iload 5, 2) := by decide +kernel
theorem d_M_value_127 : decode b_M_value 127 = .ok (.aload_n 0, 1) := by decide +kernel
theorem d_M_value_128 : decode b_M_value 128 = .ok (.getfield 101, 3) := by decide +kernel
theorem d_M_value_131 : decode b_M_value 131 = .ok (.if_icmp .ge 40, 3) := by decide +kernel
theorem d_M_value_134 : decode b_M_value 134 = .ok (.lload_n 1, 1) := by decide +kernel
theorem d_M_value_135 : decode b_M_value 135 = .ok (.aload_n 0, 1) := by decide +kernel
theorem d_M_value_136 : decode b_M_value 136 = .ok (.getfield 53, 3) := by decide +kernel
theorem d_M_value_139 : decode b_M_value 139 = .ok (.iload 5, 2) := by decide +kernel
theorem d_M_value_141 : decode b_M_value 141 = .ok (.iaload, 1) := by decide +kernel
theorem d_M_value_142 : decode b_M_value 142 = .ok (.iload_n 3, 1) := by decide +kernel
theorem d_M_value_143 : decode b_M_value 143 = .ok (.if_icmp .ne 19, 3) := by decide +kernel
theorem d_M_value_146 : decode b_M_value 146 = .ok (.aload_n 0, 1) := by decide +kernel
theorem d_M_value_147 : decode b_M_value 147 = .ok (.getfield 59, 3) := by decide +kernel
theorem d_M_value_150 : decode b_M_value 150 = .ok (.iload 5, 2) := by decide +kernel
theorem d_M_value_152 : decode b_M_value 152 = .ok (.laload, 1) := by decide +kernel
theorem d_M_value_153 : decode b_M_value 153 = .ok (.aload_n 0, 1) := by decide +kernel
theorem d_M_value_154 : decode b_M_value 154 = .ok (.getfield 120, 3) := by decide +kernel
theorem d_M_value_157 : decode b_M_value 157 = .ok (.i2l, 1) := by decide +kernel
theorem d_M_value_158 : decode b_M_value 158 = .ok (.lmul, 1) := by decide +kernel
theorem d_M_value_159 : decode b_M_value 159 = .ok (.goto 4, 3) := by decide +kernel
theorem d_M_value_162 : decode b_M_value 162 = .ok (.lconst 0, 1) := by decide +kernel
theorem d_M_value_163 : decode b_M_value 163 = .ok (.ladd, 1) := by decide +kernel
theorem d_M_value_164 : decode b_M_value 164 = .ok (.lstore_n 1, 1) := by decide +kernel
theorem d_M_value_165 : decode b_M_value 165 = .ok (.iinc 5 1, 3) := by decide +kernel
theorem d_M_value_168 : decode b_M_value 168 = .ok (.goto (-43), 3) := by decide +kernel
theorem d_M_value_171 : decode b_M_value 171 = .ok (.iinc 3 1, 3) := by decide +kernel
theorem d_M_value_174 : decode b_M_value 174 = .ok (.goto (-140), 3) := by decide +kernel
theorem d_M_value_177 : decode b_M_value 177 = .ok (.iconst 0, 1) := by decide +kernel
theorem d_M_value_178 : decode b_M_value 178 = .ok (.istore_n 3, 1) := by decide +kernel
theorem d_M_value_179 : decode b_M_value 179 = .ok (.iload_n 3, 1) := by decide +kernel
theorem d_M_value_180 : decode b_M_value 180 = .ok (.aload_n 0, 1) := by decide +kernel
theorem d_M_value_181 : decode b_M_value 181 = .ok (.getfield 101, 3) := by decide +kernel
theorem d_M_value_184 : decode b_M_value 184 = .ok (.if_icmp .ge 46, 3) := by decide +kernel
theorem d_M_value_187 : decode b_M_value 187 = .ok (.lload_n 1, 1) := by decide +kernel
theorem d_M_value_188 : decode b_M_value 188 = .ok (.aload_n 0, 1) := by decide +kernel
theorem d_M_value_189 : decode b_M_value 189 = .ok (.getfield 53, 3) := by decide +kernel
theorem d_M_value_192 : decode b_M_value 192 = .ok (.iload_n 3, 1) := by decide +kernel
theorem d_M_value_193 : decode b_M_value 193 = .ok (.iaload, 1) := by decide +kernel
theorem d_M_value_194 : decode b_M_value 194 = .ok (.aload_n 0, 1) := by decide +kernel
theorem d_M_value_195 : decode b_M_value 195 = .ok (.getfield 75, 3) := by decide +kernel
theorem d_M_value_198 : decode b_M_value 198 = .ok (.if_icmp .ne 23, 3) := by decide +kernel
theorem d_M_value_201 : decode b_M_value 201 = .ok (.aload_n 0, 1) := by decide +kernel
theorem d_M_value_202 : decode b_M_value 202 = .ok (.iload_n 3, 1) := by decide +kernel
theorem d_M_value_203 : decode b_M_value 203 = .ok (.aload_n 0, 1) := by decide +kernel
theorem d_M_value_204 : decode b_M_value 204 = .ok (.getfield 75, 3) := by decide +kernel
theorem d_M_value_207 : decode b_M_value 207 = .ok (.iconst 1, 1) := by decide +kernel
theorem d_M_value_208 : decode b_M_value 208 = .ok (.isub, 1) := by decide +kernel
theorem d_M_value_209 : decode b_M_value 209 = .ok (.invokevirtual 108, 3) := by decide +kernel
theorem d_M_value_212 : decode b_M_value 212 = .ok (.aload_n 0, 1) := by decide +kernel
theorem d_M_value_213 : decode b_M_value 213 = .ok (.getfield 123, 3) := by decide +kernel
theorem d_M_value_216 : decode b_M_value 216 = .ok (.i2l, 1) := by decide +kernel
theorem d_M_value_217 : decode b_M_value 217 = .ok (.lmul, 1) := by decide +kernel
theorem d_M_value_218 : decode b_M_value 218 = .ok (.goto 4, 3) := by decide +kernel
theorem d_M_value_221 : decode b_M_value 221 = .ok (.lconst 0, 1) := by decide +kernel
theorem d_M_value_222 : decode b_M_value 222 = .ok (.ladd, 1) := by decide +kernel
theorem d_M_value_223 : decode b_M_value 223 = .ok (.lstore_n 1, 1) := by decide +kernel
theorem d_M_value_224 : decode b_M_value 224 = .ok (.iinc 3 1, 3) := by decide +kernel
theorem d_M_value_227 : decode b_M_value 227 = .ok (.goto (-48), 3) := by decide +kernel
theorem d_M_value_230 : decode b_M_value 230 = .ok (.lload_n 1, 1) := by decide +kernel
theorem d_M_value_231 : decode b_M_value 231 = .ok (.lreturn, 1) := by decide +kernel
theorem d_M_top_0 : decode b_M_top 0 = .ok (.iload_n 2, 1) := by decide +kernel
theorem d_M_top_1 : decode b_M_top 1 = .ok (.aload_n 0, 1) := by decide +kernel
theorem d_M_top_2 : decode b_M_top 2 = .ok (.getfield 75, 3) := by decide +kernel
theorem d_M_top_5 : decode b_M_top 5 = .ok (.if_icmp .ne 21, 3) := by decide +kernel
theorem d_M_top_8 : decode b_M_top 8 = .ok (.aload_n 0, 1) := by decide +kernel
theorem d_M_top_9 : decode b_M_top 9 = .ok (.iload_n 1, 1) := by decide +kernel
theorem d_M_top_10 : decode b_M_top 10 = .ok (.aload_n 0, 1) := by decide +kernel
theorem d_M_top_11 : decode b_M_top 11 = .ok (.getfield 75, 3) := by decide +kernel
theorem d_M_top_14 : decode b_M_top 14 = .ok (.iconst 1, 1) := by decide +kernel
theorem d_M_top_15 : decode b_M_top 15 = .ok (.isub, 1) := by decide +kernel
theorem d_M_top_16 : decode b_M_top 16 = .ok (.invokevirtual 108, 3) := by decide +kernel
theorem d_M_top_19 : decode b_M_top 19 = .ok (.aload_n 0, 1) := by decide +kernel
theorem d_M_top_20 : decode b_M_top 20 = .ok (.getfield 123, 3) := by decide +kernel
theorem d_M_top_23 : decode b_M_top 23 = .ok (.i2l, 1) := by decide +kernel
theorem d_M_top_24 : decode b_M_top 24 = .ok (.lmul, 1) := by decide +kernel
theorem d_M_top_25 : decode b_M_top 25 = .ok (.lreturn, 1) := by decide +kernel
theorem d_M_top_26 : decode b_M_top 26 = .ok (.aload_n 0, 1) := by decide +kernel
theorem d_M_top_27 : decode b_M_top 27 = .ok (.getfield 120, 3) := by decide +kernel
theorem d_M_top_30 : decode b_M_top 30 = .ok (.i2l, 1) := by decide +kernel
theorem d_M_top_31 : decode b_M_top 31 = .ok (.lstore_n 3, 1) := by decide +kernel
theorem d_M_top_32 : decode b_M_top 32 = .ok (.iconst 0, 1) := by decide +kernel
theorem d_M_top_33 : decode b_M_top 33 = .ok (.istore 5, 2) := by decide +kernel
theorem d_M_top_35 : decode b_M_top 35 = .ok (.iload 5, 2) := by decide +kernel
theorem d_M_top_37 : decode b_M_top 37 = .ok (.aload_n 0, 1) := by decide +kernel
theorem d_M_top_38 : decode b_M_top 38 = .ok (.getfield 117, 3) := by decide +kernel
theorem d_M_top_41 : decode b_M_top 41 = .ok (.if_icmp .ge 92, 3) := by decide +kernel
theorem d_M_top_44 : decode b_M_top 44 = .ok (.aload_n 0, 1) := by decide +kernel
theorem d_M_top_45 : decode b_M_top 45 = .ok (.getfield 35, 3) := by decide +kernel
theorem d_M_top_48 : decode b_M_top 48 = .ok (.iload 5, 2) := by decide +kernel
theorem d_M_top_50 : decode b_M_top 50 = .ok (.iaload, 1) := by decide +kernel
theorem d_M_top_51 : decode b_M_top 51 = .ok (.iload_n 2, 1) := by decide +kernel
theorem d_M_top_52 : decode b_M_top 52 = .ok (.if_icmp .ne 41, 3) := by decide +kernel
theorem d_M_top_55 : decode b_M_top 55 = .ok (.aload_n 0, 1) := by decide +kernel
theorem d_M_top_56 : decode b_M_top 56 = .ok (.getfield 20, 3) := by decide +kernel
theorem d_M_top_59 : decode b_M_top 59 = .ok (.bipush 8, 2) := by decide +kernel
theorem d_M_top_61 : decode b_M_top 61 = .ok (.iload_n 1, 1) := by decide +kernel
theorem d_M_top_62 : decode b_M_top 62 = .ok (.imul, 1) := by decide +kernel
theorem d_M_top_63 : decode b_M_top 63 = .ok (.iload_n 2, 1) := by decide +kernel
theorem d_M_top_64 : decode b_M_top 64 = .ok (.iadd, 1) := by decide +kernel
theorem d_M_top_65 : decode b_M_top 65 = .ok (.iaload, 1) := by decide +kernel
theorem d_M_top_66 : decode b_M_top 66 = .ok (.i2l, 1) := by decide +kernel
theorem d_M_top_67 : decode b_M_top 67 = .ok (.aload_n 0, 1) := by decide +kernel
theorem d_M_top_68 : decode b_M_top 68 = .ok (.getfield 38, 3) := by decide +kernel
theorem d_M_top_71 : decode b_M_top 71 = .ok (.iload 5, 2) := by decide +kernel
theorem d_M_top_73 : decode b_M_top 73 = .ok (.iaload, 1) := by decide +kernel
theorem d_M_top_74 : decode b_M_top 74 = .ok (.i2l, 1) := by decide +kernel
theorem d_M_top_75 : decode b_M_top 75 = .ok (.aload_n 0, 1) := by decide +kernel
theorem d_M_top_76 : decode b_M_top 76 = .ok (.getfield 41, 3) := by decide +kernel
theorem d_M_top_79 : decode b_M_top 79 = .ok (.iload 5, 2) := by decide +kernel
theorem d_M_top_81 : decode b_M_top 81 = .ok (.iaload, 1) := by decide +kernel
theorem d_M_top_82 : decode b_M_top 82 = .ok (.i2l, 1) := by decide +kernel
theorem d_M_top_83 : decode b_M_top 83 = .ok (.invokestatic 86, 3) := by decide +kernel
theorem d_M_top_86 : decode b_M_top 86 = .ok (.ifCond .eq 7, 3) := by decide +kernel
theorem d_M_top_89 : decode b_M_top 89 = .ok (.iconst 1, 1) := by decide +kernel
theorem d_M_top_90 : decode b_M_top 90 = .ok (.goto 4, 3) := by decide +kernel
theorem d_M_top_93 : decode b_M_top 93 = .ok (.iconst 0, 1) := by decide +kernel
theorem d_M_top_94 : decode b_M_top 94 = .ok (.istore 6, 2) := by decide +kernel
theorem d_M_top_96 : decode b_M_top 96 = .ok (.iload 6, 2) := by decide +kernel
theorem d_M_top_98 : decode b_M_top 98 = .ok (.ifCond .eq 27, 3) := by decide +kernel
theorem d_M_top_101 : decode b_M_top 101 = .ok (.aload_n 0, 1) := by decide +kernel
theorem d_M_top_102 : decode b_M_top 102 = .ok (.getfield 47, 3) := by decide +kernel
theorem d_M_top_105 : decode b_M_top 105 = .ok (.iload 5, 2) := by decide +kernel
theorem d_M_top_107 : decode b_M_top 107 = .ok (.iaload, 1) := by decide +kernel
theorem d_M_top_108 : decode b_M_top 108 = .ok (.i2l, 1) := by decide +kernel
theorem d_M_top_109 : decode b_M_top 109 = .ok (.lload_n 3, 1) := by decide +kernel
theorem d_M_top_110 : decode b_M_top 110 = .ok (.lcmp, 1) := by decide +kernel
theorem d_M_top_111 : decode b_M_top 111 = .ok (.ifCond .le 14, 3) := by decide +kernel
theorem d_M_top_114 : decode b_M_top 114 = .ok (.aload_n 0, 1) := by decide +kernel
theorem d_M_top_115 : decode b_M_top 115 = .ok (.getfield 47, 3) := by decide +kernel
theorem d_M_top_118 : decode b_M_top 118 = .ok (.iload 5, 2) := by decide +kernel
theorem d_M_top_120 : decode b_M_top 120 = .ok (.iaload, 1) := by decide +kernel
theorem d_M_top_121 : decode b_M_top 121 = .ok (.i2l, 1) := by decide +kernel
theorem d_M_top_122 : decode b_M_top 122 = .ok (.goto 4, 3) := by decide +kernel
theorem d_M_top_125 : decode b_M_top 125 = .ok (.lload_n 3, 1) := by decide +kernel
theorem d_M_top_126 : decode b_M_top 126 = .ok (.lstore_n 3, 1) := by decide +kernel
theorem d_M_top_127 : decode b_M_top 127 = .ok (.iinc 5 1, 3) := by decide +kernel
theorem d_M_top_130 : decode b_M_top 130 = .ok (.goto (-95), 3) := by decide +kernel
theorem d_M_top_133 : decode b_M_top 133 = .ok (.aload_n 0, 1) := by decide +kernel
theorem d_M_top_134 : decode b_M_top 134 = .ok (.iload_n 1, 1) := by decide +kernel
theorem d_M_top_135 : decode b_M_top 135 = .ok (.iload_n 2, 1) := by decide +kernel
theorem d_M_top_136 : decode b_M_top 136 = .ok (.invokevirtual 108, 3) := by decide +kernel
theorem d_M_top_139 : decode b_M_top 139 = .ok (.lload_n 3, 1) := by decide +kernel
theorem d_M_top_140 : decode b_M_top 140 = .ok (.lmul, 1) := by decide +kernel
theorem d_M_top_141 : decode b_M_top 141 = .ok (.lreturn, 1) := by decide +kernel
theorem d_M_greatestTop_0 : decode b_M_greatestTop 0 = .ok (.lconst 0, 1) := by decide +kernel
theorem d_M_greatestTop_1 : decode b_M_greatestTop 1 = .ok (.lstore_n 2, 1) := by decide +kernel
theorem d_M_greatestTop_2 : decode b_M_greatestTop 2 = .ok (.iconst 0, 1) := by decide +kernel
theorem d_M_greatestTop_3 : decode b_M_greatestTop 3 = .ok (.istore 4, 2) := by decide +kernel
theorem d_M_greatestTop_5 : decode b_M_greatestTop 5 = .ok (.iload 4, 2) := by decide +kernel
theorem d_M_greatestTop_7 : decode b_M_greatestTop 7 = .ok (.aload_n 0, 1) := by decide +kernel
theorem d_M_greatestTop_8 : decode b_M_greatestTop 8 = .ok (.getfield 75, 3) := by decide +kernel
theorem d_M_greatestTop_11 : decode b_M_greatestTop 11 = .ok (.if_icmp .gt 33, 3) := by decide +kernel
theorem d_M_greatestTop_14 : decode b_M_greatestTop 14 = .ok (.aload_n 0, 1) := by decide +kernel
theorem d_M_greatestTop_15 : decode b_M_greatestTop 15 = .ok (.iload_n 1, 1) := by decide +kernel
theorem d_M_greatestTop_16 : decode b_M_greatestTop 16 = .ok (.iload 4, 2) := by decide +kernel
theorem d_M_greatestTop_18 : decode b_M_greatestTop 18 = .ok (.invokevirtual 155, 3) := by decide +kernel
theorem d_M_greatestTop_21 : decode b_M_greatestTop 21 = .ok (.lload_n 2, 1) := by decide +kernel
theorem d_M_greatestTop_22 : decode b_M_greatestTop 22 = .ok (.lcmp, 1) := by decide +kernel
theorem d_M_greatestTop_23 : decode b_M_greatestTop 23 = .ok (.ifCond .le 13, 3) := by decide +kernel
theorem d_M_greatestTop_26 : decode b_M_greatestTop 26 = .ok (.aload_n 0, 1) := by decide +kernel
theorem d_M_greatestTop_27 : decode b_M_greatestTop 27 = .ok (.iload_n 1, 1) := by decide +kernel
theorem d_M_greatestTop_28 : decode b_M_greatestTop 28 = .ok (.iload 4, 2) := by decide +kernel
theorem d_M_greatestTop_30 : decode b_M_greatestTop 30 = .ok (.invokevirtual 155, 3) := by decide +kernel
theorem d_M_greatestTop_33 : decode b_M_greatestTop 33 = .ok (.goto 4, 3) := by decide +kernel
theorem d_M_greatestTop_36 : decode b_M_greatestTop 36 = .ok (.lload_n 2, 1) := by decide +kernel
theorem d_M_greatestTop_37 : decode b_M_greatestTop 37 = .ok (.lstore_n 2, 1) := by decide +kernel
theorem d_M_greatestTop_38 : decode b_M_greatestTop 38 = .ok (.iinc 4 1, 3) := by decide +kernel
theorem d_M_greatestTop_41 : decode b_M_greatestTop 41 = .ok (.goto (-36), 3) := by decide +kernel
theorem d_M_greatestTop_44 : decode b_M_greatestTop 44 = .ok (.lload_n 2, 1) := by decide +kernel
theorem d_M_greatestTop_45 : decode b_M_greatestTop 45 = .ok (.lreturn, 1) := by decide +kernel
theorem d_M_hopeOf_0 : decode b_M_hopeOf 0 = .ok (.lconst 0, 1) := by decide +kernel
theorem d_M_hopeOf_1 : decode b_M_hopeOf 1 = .ok (.lstore_n 2, 1) := by decide +kernel
theorem d_M_hopeOf_2 : decode b_M_hopeOf 2 = .ok (.iconst 0, 1) := by decide +kernel
theorem d_M_hopeOf_3 : decode b_M_hopeOf 3 = .ok (.istore 4, 2) := by decide +kernel
theorem d_M_hopeOf_5 : decode b_M_hopeOf 5 = .ok (.iload 4, 2) := by decide +kernel
theorem d_M_hopeOf_7 : decode b_M_hopeOf 7 = .ok (.aload_n 0, 1) := by decide +kernel
theorem d_M_hopeOf_8 : decode b_M_hopeOf 8 = .ok (.getfield 101, 3) := by decide +kernel
theorem d_M_hopeOf_11 : decode b_M_hopeOf 11 = .ok (.if_icmp .ge 40, 3) := by decide +kernel
theorem d_M_hopeOf_14 : decode b_M_hopeOf 14 = .ok (.lload_n 2, 1) := by decide +kernel
theorem d_M_hopeOf_15 : decode b_M_hopeOf 15 = .ok (.iload 4, 2) := by decide +kernel
theorem d_M_hopeOf_17 : decode b_M_hopeOf 17 = .ok (.iload_n 1, 1) := by decide +kernel
theorem d_M_hopeOf_18 : decode b_M_hopeOf 18 = .ok (.if_icmp .ge 19, 3) := by decide +kernel
theorem d_M_hopeOf_21 : decode b_M_hopeOf 21 = .ok (.aload_n 0, 1) := by decide +kernel
theorem d_M_hopeOf_22 : decode b_M_hopeOf 22 = .ok (.iload 4, 2) := by decide +kernel
theorem d_M_hopeOf_24 : decode b_M_hopeOf 24 = .ok (.aload_n 0, 1) := by decide +kernel
theorem d_M_hopeOf_25 : decode b_M_hopeOf 25 = .ok (.getfield 53, 3) := by decide +kernel
theorem d_M_hopeOf_28 : decode b_M_hopeOf 28 = .ok (.iload 4, 2) := by decide +kernel
theorem d_M_hopeOf_30 : decode b_M_hopeOf 30 = .ok (.iaload, 1) := by decide +kernel
theorem d_M_hopeOf_31 : decode b_M_hopeOf 31 = .ok (.invokevirtual 155, 3) := by decide +kernel
theorem d_M_hopeOf_34 : decode b_M_hopeOf 34 = .ok (.goto 9, 3) := by decide +kernel
theorem d_M_hopeOf_37 : decode b_M_hopeOf 37 = .ok (.aload_n 0, 1) := by decide +kernel
theorem d_M_hopeOf_38 : decode b_M_hopeOf 38 = .ok (.iload 4, 2) := by decide +kernel
theorem d_M_hopeOf_40 : decode b_M_hopeOf 40 = .ok (.invokevirtual 158, 3) := by decide +kernel
theorem d_M_hopeOf_43 : decode b_M_hopeOf 43 = .ok (.ladd, 1) := by decide +kernel
theorem d_M_hopeOf_44 : decode b_M_hopeOf 44 = .ok (.lstore_n 2, 1) := by decide +kernel
theorem d_M_hopeOf_45 : decode b_M_hopeOf 45 = .ok (.iinc 4 1, 3) := by decide +kernel
theorem d_M_hopeOf_48 : decode b_M_hopeOf 48 = .ok (.goto (-43), 3) := by decide +kernel
theorem d_M_hopeOf_51 : decode b_M_hopeOf 51 = .ok (.lload_n 2, 1) := by decide +kernel
theorem d_M_hopeOf_52 : decode b_M_hopeOf 52 = .ok (.lreturn, 1) := by decide +kernel
theorem d_M_meet_0 : decode b_M_meet 0 = .ok (.aload_n 0, 1) := by decide +kernel
theorem d_M_meet_1 : decode b_M_meet 1 = .ok (.aload_n 0, 1) := by decide +kernel
theorem d_M_meet_2 : decode b_M_meet 2 = .ok (.getfield 101, 3) := by decide +kernel
theorem d_M_meet_5 : decode b_M_meet 5 = .ok (.iconst 1, 1) := by decide +kernel
theorem d_M_meet_6 : decode b_M_meet 6 = .ok (.invokevirtual 162, 3) := by decide +kernel
theorem d_M_meet_9 : decode b_M_meet 9 = .ok (.ifCond .ne 4, 3) := by decide +kernel
theorem d_M_meet_12 : decode b_M_meet 12 = .ok (.return_, 1) := by decide +kernel
theorem d_M_meet_13 : decode b_M_meet 13 = .ok (.aload_n 0, 1) := by decide +kernel
theorem d_M_meet_14 : decode b_M_meet 14 = .ok (.invokevirtual 166, 3) := by decide +kernel
theorem d_M_meet_17 : decode b_M_meet 17 = .ok (.lstore_n 1, 1) := by decide +kernel
theorem d_M_meet_18 : decode b_M_meet 18 = .ok (.aload_n 0, 1) := by decide +kernel
theorem d_M_meet_19 : decode b_M_meet 19 = .ok (.getfield 170, 3) := by decide +kernel
theorem d_M_meet_22 : decode b_M_meet 22 = .ok (.ifCond .eq 12, 3) := by decide +kernel
theorem d_M_meet_25 : decode b_M_meet 25 = .ok (.lload_n 1, 1) := by decide +kernel
theorem d_M_meet_26 : decode b_M_meet 26 = .ok (.aload_n 0, 1) := by decide +kernel
theorem d_M_meet_27 : decode b_M_meet 27 = .ok (.getfield 173, 3) := by decide +kernel
theorem d_M_meet_30 : decode b_M_meet 30 = .ok (.lcmp, 1) := by decide +kernel
theorem d_M_meet_31 : decode b_M_meet 31 = .ok (.ifCond .le 41, 3) := by decide +kernel
theorem d_M_meet_34 : decode b_M_meet 34 = .ok (.aload_n 0, 1) := by decide +kernel
theorem d_M_meet_35 : decode b_M_meet 35 = .ok (.iconst 1, 1) := by decide +kernel
theorem d_M_meet_36 : decode b_M_meet 36 = .ok (.putfield 170, 3) := by decide +kernel
theorem d_M_meet_39 : decode b_M_meet 39 = .ok (.aload_n 0, 1) := by decide +kernel
theorem d_M_meet_40 : decode b_M_meet 40 = .ok (.lload_n 1, 1) := by decide +kernel
theorem d_M_meet_41 : decode b_M_meet 41 = .ok (.putfield 173, 3) := by decide +kernel
theorem d_M_meet_44 : decode b_M_meet 44 = .ok (.iconst 0, 1) := by decide +kernel
theorem d_M_meet_45 : decode b_M_meet 45 = .ok (.istore_n 3, 1) := by decide +kernel
theorem d_M_meet_46 : decode b_M_meet 46 = .ok (.iload_n 3, 1) := by decide +kernel
theorem d_M_meet_47 : decode b_M_meet 47 = .ok (.aload_n 0, 1) := by decide +kernel
theorem d_M_meet_48 : decode b_M_meet 48 = .ok (.getfield 101, 3) := by decide +kernel
theorem d_M_meet_51 : decode b_M_meet 51 = .ok (.if_icmp .ge 21, 3) := by decide +kernel
theorem d_M_meet_54 : decode b_M_meet 54 = .ok (.aload_n 0, 1) := by decide +kernel
theorem d_M_meet_55 : decode b_M_meet 55 = .ok (.getfield 56, 3) := by decide +kernel
theorem d_M_meet_58 : decode b_M_meet 58 = .ok (.iload_n 3, 1) := by decide +kernel
theorem d_M_meet_59 : decode b_M_meet 59 = .ok (.aload_n 0, 1) := by decide +kernel
theorem d_M_meet_60 : decode b_M_meet 60 = .ok (.getfield 53, 3) := by decide +kernel
theorem d_M_meet_63 : decode b_M_meet 63 = .ok (.iload_n 3, 1) := by decide +kernel
theorem d_M_meet_64 : decode b_M_meet 64 = .ok (.iaload, 1) := by decide +kernel
theorem d_M_meet_65 : decode b_M_meet 65 = .ok (.iastore, 1) := by decide +kernel
theorem d_M_meet_66 : decode b_M_meet 66 = .ok (.iinc 3 1, 3) := by decide +kernel
theorem d_M_meet_69 : decode b_M_meet 69 = .ok (.goto (-23), 3) := by decide +kernel
theorem d_M_meet_72 : decode b_M_meet 72 = .ok (.return_, 1) := by decide +kernel
theorem d_M_search_0 : decode b_M_search 0 = .ok (.iconst 0, 1) := by decide +kernel
theorem d_M_search_1 : decode b_M_search 1 = .ok (.istore_n 2, 1) := by decide +kernel
theorem d_M_search_2 : decode b_M_search 2 = .ok (.aload_n 0, 1) := by decide +kernel
theorem d_M_search_3 : decode b_M_search 3 = .ok (.getfield 53, 3) := by decide +kernel
theorem d_M_search_6 : decode b_M_search 6 = .ok (.iconst 0, 1) := by decide +kernel
theorem d_M_search_7 : decode b_M_search 7 = .ok (.iconst (-1), 1) := by decide +kernel
theorem d_M_search_8 : decode b_M_search 8 = .ok (.iastore, 1) := by decide +kernel
theorem d_M_search_9 : decode b_M_search 9 = .ok (.iload_n 2, 1) := by decide +kernel
theorem d_M_search_10 : decode b_M_search 10 = .ok (.ifCond .lt 115, 3) := by decide +kernel
theorem d_M_search_13 : decode b_M_search 13 = .ok (.aload_n 0, 1) := by decide +kernel
theorem d_M_search_14 : decode b_M_search 14 = .ok (.getfield 53, 3) := by decide +kernel
theorem d_M_search_17 : decode b_M_search 17 = .ok (.iload_n 2, 1) := by decide +kernel
theorem d_M_search_18 : decode b_M_search 18 = .ok (.dup2, 1) := by decide +kernel
theorem d_M_search_19 : decode b_M_search 19 = .ok (.iaload, 1) := by decide +kernel
theorem d_M_search_20 : decode b_M_search 20 = .ok (.iconst 1, 1) := by decide +kernel
theorem d_M_search_21 : decode b_M_search 21 = .ok (.iadd, 1) := by decide +kernel
theorem d_M_search_22 : decode b_M_search 22 = .ok (.iastore, 1) := by decide +kernel
theorem d_M_search_23 : decode b_M_search 23 = .ok (.aload_n 0, 1) := by decide +kernel
theorem d_M_search_24 : decode b_M_search 24 = .ok (.getfield 53, 3) := by decide +kernel
theorem d_M_search_27 : decode b_M_search 27 = .ok (.iload_n 2, 1) := by decide +kernel
theorem d_M_search_28 : decode b_M_search 28 = .ok (.iaload, 1) := by decide +kernel
theorem d_M_search_29 : decode b_M_search 29 = .ok (.aload_n 0, 1) := by decide +kernel
theorem d_M_search_30 : decode b_M_search 30 = .ok (.getfield 75, 3) := by decide +kernel
theorem d_M_search_33 : decode b_M_search 33 = .ok (.if_icmp .le 9, 3) := by decide +kernel
theorem d_M_search_36 : decode b_M_search 36 = .ok (.iinc 2 (-1), 3) := by decide +kernel
theorem d_M_search_39 : decode b_M_search 39 = .ok (.goto (-30), 3) := by decide +kernel
theorem d_M_search_42 : decode b_M_search 42 = .ok (.aload_n 0, 1) := by decide +kernel
theorem d_M_search_43 : decode b_M_search 43 = .ok (.iload_n 2, 1) := by decide +kernel
theorem d_M_search_44 : decode b_M_search 44 = .ok (.iconst 1, 1) := by decide +kernel
theorem d_M_search_45 : decode b_M_search 45 = .ok (.iadd, 1) := by decide +kernel
theorem d_M_search_46 : decode b_M_search 46 = .ok (.iconst 0, 1) := by decide +kernel
theorem d_M_search_47 : decode b_M_search 47 = .ok (.invokevirtual 162, 3) := by decide +kernel
theorem d_M_search_50 : decode b_M_search 50 = .ok (.ifCond .eq (-41), 3) := by decide +kernel
theorem d_M_search_53 : decode b_M_search 53 = .ok (.aload_n 0, 1) := by decide +kernel
theorem d_M_search_54 : decode b_M_search 54 = .ok (.getfield 177, 3) := by decide +kernel
theorem d_M_search_57 : decode b_M_search 57 = .ok (.iload_n 1, 1) := by decide +kernel
theorem d_M_search_58 : decode b_M_search 58 = .ok (.if_icmp .ne 5, 3) := by decide +kernel
theorem d_M_search_61 : decode b_M_search 61 = .ok (.iconst 1, 1) := by decide +kernel
theorem d_M_search_62 : decode b_M_search 62 = .ok (.ireturn, 1) := by decide +kernel
theorem d_M_search_63 : decode b_M_search 63 = .ok (.aload_n 0, 1) := by decide +kernel
theorem d_M_search_64 : decode b_M_search 64 = .ok (.dup, 1) := by decide +kernel
theorem d_M_search_65 : decode b_M_search 65 = .ok (.getfield 177, 3) := by decide +kernel
theorem d_M_search_68 : decode b_M_search 68 = .ok (.iconst 1, 1) := by decide +kernel
theorem d_M_search_69 : decode b_M_search 69 = .ok (.iadd, 1) := by decide +kernel
theorem d_M_search_70 : decode b_M_search 70 = .ok (.putfield 177, 3) := by decide +kernel
theorem d_M_search_73 : decode b_M_search 73 = .ok (.iload_n 2, 1) := by decide +kernel
theorem d_M_search_74 : decode b_M_search 74 = .ok (.aload_n 0, 1) := by decide +kernel
theorem d_M_search_75 : decode b_M_search 75 = .ok (.getfield 101, 3) := by decide +kernel
theorem d_M_search_78 : decode b_M_search 78 = .ok (.iconst 1, 1) := by decide +kernel
theorem d_M_search_79 : decode b_M_search 79 = .ok (.isub, 1) := by decide +kernel
theorem d_M_search_80 : decode b_M_search 80 = .ok (.if_icmp .ne 10, 3) := by decide +kernel
theorem d_M_search_83 : decode b_M_search 83 = .ok (.aload_n 0, 1) := by decide +kernel
theorem d_M_search_84 : decode b_M_search 84 = .ok (.invokevirtual 180, 3) := by decide +kernel
theorem d_M_search_87 : decode b_M_search 87 = .ok (.goto (-78), 3) := by decide +kernel
theorem d_M_search_90 : decode b_M_search 90 = .ok (.aload_n 0, 1) := by decide +kernel
theorem d_M_search_91 : decode b_M_search 91 = .ok (.getfield 170, 3) := by decide +kernel
theorem d_M_search_94 : decode b_M_search 94 = .ok (.ifCond .eq 18, 3) := by decide +kernel
theorem d_M_search_97 : decode b_M_search 97 = .ok (.aload_n 0, 1) := by decide +kernel
theorem d_M_search_98 : decode b_M_search 98 = .ok (.iload_n 2, 1) := by decide +kernel
theorem d_M_search_99 : decode b_M_search 99 = .ok (.iconst 1, 1) := by decide +kernel
theorem d_M_search_100 : decode b_M_search 100 = .ok (.iadd, 1) := by decide +kernel
theorem d_M_search_101 : decode b_M_search 101 = .ok (.invokevirtual 183, 3) := by decide +kernel
theorem d_M_search_104 : decode b_M_search 104 = .ok (.aload_n 0, 1) := by decide +kernel
theorem d_M_search_105 : decode b_M_search 105 = .ok (.getfield 173, 3) := by decide +kernel
theorem d_M_search_108 : decode b_M_search 108 = .ok (.lcmp, 1) := by decide +kernel
theorem d_M_search_109 : decode b_M_search 109 = .ok (.ifCond .le (-100), 3) := by decide +kernel
theorem d_M_search_112 : decode b_M_search 112 = .ok (.iinc 2 1, 3) := by decide +kernel
theorem d_M_search_115 : decode b_M_search 115 = .ok (.aload_n 0, 1) := by decide +kernel
theorem d_M_search_116 : decode b_M_search 116 = .ok (.getfield 53, 3) := by decide +kernel
theorem d_M_search_119 : decode b_M_search 119 = .ok (.iload_n 2, 1) := by decide +kernel
theorem d_M_search_120 : decode b_M_search 120 = .ok (.iconst (-1), 1) := by decide +kernel
theorem d_M_search_121 : decode b_M_search 121 = .ok (.iastore, 1) := by decide +kernel
theorem d_M_search_122 : decode b_M_search 122 = .ok (.goto (-113), 3) := by decide +kernel
theorem d_M_search_125 : decode b_M_search 125 = .ok (.iconst 0, 1) := by decide +kernel
theorem d_M_search_126 : decode b_M_search 126 = .ok (.ireturn, 1) := by decide +kernel
theorem d_M_run_0 : decode b_M_run 0 = .ok (.aload_n 0, 1) := by decide +kernel
theorem d_M_run_1 : decode b_M_run 1 = .ok (.iload_n 1, 1) := by decide +kernel
theorem d_M_run_2 : decode b_M_run 2 = .ok (.i2l, 1) := by decide +kernel
theorem d_M_run_3 : decode b_M_run 3 = .ok (.lconst 1, 1) := by decide +kernel
theorem d_M_run_4 : decode b_M_run 4 = .ok (.ldc2_w 186, 3) := by decide +kernel
theorem d_M_run_7 : decode b_M_run 7 = .ok (.invokestatic 86, 3) := by decide +kernel
theorem d_M_run_10 : decode b_M_run 10 = .ok (.iconst 1, 1) := by decide +kernel
theorem d_M_run_11 : decode b_M_run 11 = .ok (.invokevirtual 93, 3) := by decide +kernel
theorem d_M_run_14 : decode b_M_run 14 = .ok (.ifCond .eq 5, 3) := by decide +kernel
theorem d_M_run_17 : decode b_M_run 17 = .ok (.iconst 0, 1) := by decide +kernel
theorem d_M_run_18 : decode b_M_run 18 = .ok (.ireturn, 1) := by decide +kernel
theorem d_M_run_19 : decode b_M_run 19 = .ok (.aload_n 0, 1) := by decide +kernel
theorem d_M_run_20 : decode b_M_run 20 = .ok (.iconst 0, 1) := by decide +kernel
theorem d_M_run_21 : decode b_M_run 21 = .ok (.putfield 177, 3) := by decide +kernel
theorem d_M_run_24 : decode b_M_run 24 = .ok (.aload_n 0, 1) := by decide +kernel
theorem d_M_run_25 : decode b_M_run 25 = .ok (.iconst 0, 1) := by decide +kernel
theorem d_M_run_26 : decode b_M_run 26 = .ok (.putfield 170, 3) := by decide +kernel
theorem d_M_run_29 : decode b_M_run 29 = .ok (.iconst 0, 1) := by decide +kernel
theorem d_M_run_30 : decode b_M_run 30 = .ok (.istore_n 2, 1) := by decide +kernel
theorem d_M_run_31 : decode b_M_run 31 = .ok (.aload_n 0, 1) := by decide +kernel
theorem d_M_run_32 : decode b_M_run 32 = .ok (.getfield 101, 3) := by decide +kernel
theorem d_M_run_35 : decode b_M_run 35 = .ok (.ifCond .ne 10, 3) := by decide +kernel
theorem d_M_run_38 : decode b_M_run 38 = .ok (.aload_n 0, 1) := by decide +kernel
theorem d_M_run_39 : decode b_M_run 39 = .ok (.invokevirtual 180, 3) := by decide +kernel
theorem d_M_run_42 : decode b_M_run 42 = .ok (.goto 9, 3) := by decide +kernel
theorem d_M_run_45 : decode b_M_run 45 = .ok (.aload_n 0, 1) := by decide +kernel
theorem d_M_run_46 : decode b_M_run 46 = .ok (.iload_n 1, 1) := by decide +kernel
theorem d_M_run_47 : decode b_M_run 47 = .ok (.invokevirtual 188, 3) := by decide +kernel
theorem d_M_run_50 : decode b_M_run 50 = .ok (.istore_n 2, 1) := by decide +kernel
theorem d_M_run_51 : decode b_M_run 51 = .ok (.aload_n 0, 1) := by decide +kernel
theorem d_M_run_52 : decode b_M_run 52 = .ok (.aload_n 0, 1) := by decide +kernel
theorem d_M_run_53 : decode b_M_run 53 = .ok (.getfield 170, 3) := by decide +kernel
theorem d_M_run_56 : decode b_M_run 56 = .ok (.putfield 97, 3) := by decide +kernel
theorem d_M_run_59 : decode b_M_run 59 = .ok (.iconst 0, 1) := by decide +kernel
theorem d_M_run_60 : decode b_M_run 60 = .ok (.istore_n 3, 1) := by decide +kernel
theorem d_M_run_61 : decode b_M_run 61 = .ok (.iload_n 3, 1) := by decide +kernel
theorem d_M_run_62 : decode b_M_run 62 = .ok (.aload_n 0, 1) := by decide +kernel
theorem d_M_run_63 : decode b_M_run 63 = .ok (.getfield 101, 3) := by decide +kernel
theorem d_M_run_66 : decode b_M_run 66 = .ok (.if_icmp .ge 28, 3) := by decide +kernel
theorem d_M_run_69 : decode b_M_run 69 = .ok (.aload_n 0, 1) := by decide +kernel
theorem d_M_run_70 : decode b_M_run 70 = .ok (.getfield 170, 3) := by decide +kernel
theorem d_M_run_73 : decode b_M_run 73 = .ok (.ifCond .eq 21, 3) := by decide +kernel
theorem d_M_run_76 : decode b_M_run 76 = .ok (.aload_n 0, 1) := by decide +kernel
theorem d_M_run_77 : decode b_M_run 77 = .ok (.getfield 50, 3) := by decide +kernel
theorem d_M_run_80 : decode b_M_run 80 = .ok (.iload_n 3, 1) := by decide +kernel
theorem d_M_run_81 : decode b_M_run 81 = .ok (.aload_n 0, 1) := by decide +kernel
theorem d_M_run_82 : decode b_M_run 82 = .ok (.getfield 56, 3) := by decide +kernel
theorem d_M_run_85 : decode b_M_run 85 = .ok (.iload_n 3, 1) := by decide +kernel
theorem d_M_run_86 : decode b_M_run 86 = .ok (.iaload, 1) := by decide +kernel
theorem d_M_run_87 : decode b_M_run 87 = .ok (.iastore, 1) := by decide +kernel
theorem d_M_run_88 : decode b_M_run 88 = .ok (.iinc 3 1, 3) := by decide +kernel
theorem d_M_run_91 : decode b_M_run 91 = .ok (.goto (-30), 3) := by decide +kernel
theorem d_M_run_94 : decode b_M_run 94 = .ok (.aload_n 0, 1) := by decide +kernel
theorem d_M_run_95 : decode b_M_run 95 = .ok (.getfield 170, 3) := by decide +kernel
theorem d_M_run_98 : decode b_M_run 98 = .ok (.ifCond .eq 15, 3) := by decide +kernel
theorem d_M_run_101 : decode b_M_run 101 = .ok (.iload_n 2, 1) := by decide +kernel
theorem d_M_run_102 : decode b_M_run 102 = .ok (.ifCond .eq 7, 3) := by decide +kernel
theorem d_M_run_105 : decode b_M_run 105 = .ok (.iconst 1, 1) := by decide +kernel
theorem d_M_run_106 : decode b_M_run 106 = .ok (.goto 16, 3) := by decide +kernel
theorem d_M_run_109 : decode b_M_run 109 = .ok (.iconst 0, 1) := by decide +kernel
theorem d_M_run_110 : decode b_M_run 110 = .ok (.goto 12, 3) := by decide +kernel
theorem d_M_run_113 : decode b_M_run 113 = .ok (.iload_n 2, 1) := by decide +kernel
theorem d_M_run_114 : decode b_M_run 114 = .ok (.ifCond .eq 7, 3) := by decide +kernel
theorem d_M_run_117 : decode b_M_run 117 = .ok (.iconst 3, 1) := by decide +kernel
theorem d_M_run_118 : decode b_M_run 118 = .ok (.goto 4, 3) := by decide +kernel
theorem d_M_run_121 : decode b_M_run 121 = .ok (.iconst 2, 1) := by decide +kernel
theorem d_M_run_122 : decode b_M_run 122 = .ok (.ireturn, 1) := by decide +kernel
theorem d_M_nodes_0 : decode b_M_nodes 0 = .ok (.aload_n 0, 1) := by decide +kernel
theorem d_M_nodes_1 : decode b_M_nodes 1 = .ok (.iconst 0, 1) := by decide +kernel
theorem d_M_nodes_2 : decode b_M_nodes 2 = .ok (.putfield 79, 3) := by decide +kernel
theorem d_M_nodes_5 : decode b_M_nodes 5 = .ok (.aload_n 0, 1) := by decide +kernel
theorem d_M_nodes_6 : decode b_M_nodes 6 = .ok (.getfield 177, 3) := by decide +kernel
theorem d_M_nodes_9 : decode b_M_nodes 9 = .ok (.ireturn, 1) := by decide +kernel
theorem d_M_hope_0 : decode b_M_hope 0 = .ok (.aload_n 0, 1) := by decide +kernel
theorem d_M_hope_1 : decode b_M_hope 1 = .ok (.iconst 0, 1) := by decide +kernel
theorem d_M_hope_2 : decode b_M_hope 2 = .ok (.putfield 79, 3) := by decide +kernel
theorem d_M_hope_5 : decode b_M_hope 5 = .ok (.aload_n 0, 1) := by decide +kernel
theorem d_M_hope_6 : decode b_M_hope 6 = .ok (.iconst 0, 1) := by decide +kernel
theorem d_M_hope_7 : decode b_M_hope 7 = .ok (.invokevirtual 183, 3) := by decide +kernel
theorem d_M_hope_10 : decode b_M_hope 10 = .ok (.lreturn, 1) := by decide +kernel
theorem d_M_move_0 : decode b_M_move 0 = .ok (.aload_n 0, 1) := by decide +kernel
theorem d_M_move_1 : decode b_M_move 1 = .ok (.iload_n 1, 1) := by decide +kernel
theorem d_M_move_2 : decode b_M_move 2 = .ok (.i2l, 1) := by decide +kernel
theorem d_M_move_3 : decode b_M_move 3 = .ok (.lconst 0, 1) := by decide +kernel
theorem d_M_move_4 : decode b_M_move 4 = .ok (.aload_n 0, 1) := by decide +kernel
theorem d_M_move_5 : decode b_M_move 5 = .ok (.getfield 101, 3) := by decide +kernel
theorem d_M_move_8 : decode b_M_move 8 = .ok (.iconst 1, 1) := by decide +kernel
theorem d_M_move_9 : decode b_M_move 9 = .ok (.isub, 1) := by decide +kernel
theorem d_M_move_10 : decode b_M_move 10 = .ok (.i2l, 1) := by decide +kernel
theorem d_M_move_11 : decode b_M_move 11 = .ok (.invokestatic 86, 3) := by decide +kernel
theorem d_M_move_14 : decode b_M_move 14 = .ok (.ifCond .eq 25, 3) := by decide +kernel
theorem d_M_move_17 : decode b_M_move 17 = .ok (.iload_n 2, 1) := by decide +kernel
theorem d_M_move_18 : decode b_M_move 18 = .ok (.i2l, 1) := by decide +kernel
theorem d_M_move_19 : decode b_M_move 19 = .ok (.ldc2_w 191, 3) := by decide +kernel
theorem d_M_move_22 : decode b_M_move 22 = .ok (.aload_n 0, 1) := by decide +kernel
theorem d_M_move_23 : decode b_M_move 23 = .ok (.getfield 75, 3) := by decide +kernel
theorem d_M_move_26 : decode b_M_move 26 = .ok (.iconst 1, 1) := by decide +kernel
theorem d_M_move_27 : decode b_M_move 27 = .ok (.isub, 1) := by decide +kernel
theorem d_M_move_28 : decode b_M_move 28 = .ok (.i2l, 1) := by decide +kernel
theorem d_M_move_29 : decode b_M_move 29 = .ok (.invokestatic 86, 3) := by decide +kernel
theorem d_M_move_32 : decode b_M_move 32 = .ok (.ifCond .eq 7, 3) := by decide +kernel
theorem d_M_move_35 : decode b_M_move 35 = .ok (.iconst 1, 1) := by decide +kernel
theorem d_M_move_36 : decode b_M_move 36 = .ok (.goto 4, 3) := by decide +kernel
theorem d_M_move_39 : decode b_M_move 39 = .ok (.iconst 0, 1) := by decide +kernel
theorem d_M_move_40 : decode b_M_move 40 = .ok (.iconst 1, 1) := by decide +kernel
theorem d_M_move_41 : decode b_M_move 41 = .ok (.invokevirtual 93, 3) := by decide +kernel
theorem d_M_move_44 : decode b_M_move 44 = .ok (.ifCond .eq 5, 3) := by decide +kernel
theorem d_M_move_47 : decode b_M_move 47 = .ok (.iconst 0, 1) := by decide +kernel
theorem d_M_move_48 : decode b_M_move 48 = .ok (.ireturn, 1) := by decide +kernel
theorem d_M_move_49 : decode b_M_move 49 = .ok (.iconst 0, 1) := by decide +kernel
theorem d_M_move_50 : decode b_M_move 50 = .ok (.istore_n 3, 1) := by decide +kernel
theorem d_M_move_51 : decode b_M_move 51 = .ok (.iload_n 3, 1) := by decide +kernel
theorem d_M_move_52 : decode b_M_move 52 = .ok (.aload_n 0, 1) := by decide +kernel
theorem d_M_move_53 : decode b_M_move 53 = .ok (.getfield 101, 3) := by decide +kernel
theorem d_M_move_56 : decode b_M_move 56 = .ok (.if_icmp .ge 26, 3) := by decide +kernel
theorem d_M_move_59 : decode b_M_move 59 = .ok (.aload_n 0, 1) := by decide +kernel
theorem d_M_move_60 : decode b_M_move 60 = .ok (.getfield 97, 3) := by decide +kernel
theorem d_M_move_63 : decode b_M_move 63 = .ok (.ifCond .ne 19, 3) := by decide +kernel
theorem d_M_move_66 : decode b_M_move 66 = .ok (.aload_n 0, 1) := by decide +kernel
theorem d_M_move_67 : decode b_M_move 67 = .ok (.getfield 50, 3) := by decide +kernel
theorem d_M_move_70 : decode b_M_move 70 = .ok (.iload_n 3, 1) := by decide +kernel
theorem d_M_move_71 : decode b_M_move 71 = .ok (.aload_n 0, 1) := by decide +kernel
theorem d_M_move_72 : decode b_M_move 72 = .ok (.getfield 75, 3) := by decide +kernel
theorem d_M_move_75 : decode b_M_move 75 = .ok (.iastore, 1) := by decide +kernel
theorem d_M_move_76 : decode b_M_move 76 = .ok (.iinc 3 1, 3) := by decide +kernel
theorem d_M_move_79 : decode b_M_move 79 = .ok (.goto (-28), 3) := by decide +kernel
theorem d_M_move_82 : decode b_M_move 82 = .ok (.aload_n 0, 1) := by decide +kernel
theorem d_M_move_83 : decode b_M_move 83 = .ok (.iconst 1, 1) := by decide +kernel
theorem d_M_move_84 : decode b_M_move 84 = .ok (.putfield 97, 3) := by decide +kernel
theorem d_M_move_87 : decode b_M_move 87 = .ok (.aload_n 0, 1) := by decide +kernel
theorem d_M_move_88 : decode b_M_move 88 = .ok (.getfield 50, 3) := by decide +kernel
theorem d_M_move_91 : decode b_M_move 91 = .ok (.iload_n 1, 1) := by decide +kernel
theorem d_M_move_92 : decode b_M_move 92 = .ok (.iaload, 1) := by decide +kernel
theorem d_M_move_93 : decode b_M_move 93 = .ok (.istore_n 3, 1) := by decide +kernel
theorem d_M_move_94 : decode b_M_move 94 = .ok (.aload_n 0, 1) := by decide +kernel
theorem d_M_move_95 : decode b_M_move 95 = .ok (.getfield 50, 3) := by decide +kernel
theorem d_M_move_98 : decode b_M_move 98 = .ok (.iload_n 1, 1) := by decide +kernel
theorem d_M_move_99 : decode b_M_move 99 = .ok (.iload_n 2, 1) := by decide +kernel
theorem d_M_move_100 : decode b_M_move 100 = .ok (.iconst (-1), 1) := by decide +kernel
theorem d_M_move_101 : decode b_M_move 101 = .ok (.if_icmp .ne 10, 3) := by decide +kernel
theorem d_M_move_104 : decode b_M_move 104 = .ok (.aload_n 0, 1) := by decide +kernel
theorem d_M_move_105 : decode b_M_move 105 = .ok (.getfield 75, 3) := by decide +kernel
theorem d_M_move_108 : decode b_M_move 108 = .ok (.goto 4, 3) := by decide +kernel
theorem d_M_move_111 : decode b_M_move 111 = .ok (.iload_n 2, 1) := by decide +kernel
theorem d_M_move_112 : decode b_M_move 112 = .ok (.iastore, 1) := by decide +kernel
theorem d_M_move_113 : decode b_M_move 113 = .ok (.iload_n 3, 1) := by decide +kernel
theorem d_M_move_114 : decode b_M_move 114 = .ok (.aload_n 0, 1) := by decide +kernel
theorem d_M_move_115 : decode b_M_move 115 = .ok (.getfield 75, 3) := by decide +kernel
theorem d_M_move_118 : decode b_M_move 118 = .ok (.if_icmp .ne 7, 3) := by decide +kernel
theorem d_M_move_121 : decode b_M_move 121 = .ok (.iconst (-1), 1) := by decide +kernel
theorem d_M_move_122 : decode b_M_move 122 = .ok (.goto 4, 3) := by decide +kernel
theorem d_M_move_125 : decode b_M_move 125 = .ok (.iload_n 3, 1) := by decide +kernel
theorem d_M_move_126 : decode b_M_move 126 = .ok (.ireturn, 1) := by decide +kernel
theorem d_M_taken_0 : decode b_M_taken 0 = .ok (.aload_n 0, 1) := by decide +kernel
theorem d_M_taken_1 : decode b_M_taken 1 = .ok (.iload_n 1, 1) := by decide +kernel
theorem d_M_taken_2 : decode b_M_taken 2 = .ok (.i2l, 1) := by decide +kernel
theorem d_M_taken_3 : decode b_M_taken 3 = .ok (.lconst 0, 1) := by decide +kernel
theorem d_M_taken_4 : decode b_M_taken 4 = .ok (.aload_n 0, 1) := by decide +kernel
theorem d_M_taken_5 : decode b_M_taken 5 = .ok (.getfield 101, 3) := by decide +kernel
theorem d_M_taken_8 : decode b_M_taken 8 = .ok (.iconst 1, 1) := by decide +kernel
theorem d_M_taken_9 : decode b_M_taken 9 = .ok (.isub, 1) := by decide +kernel
theorem d_M_taken_10 : decode b_M_taken 10 = .ok (.i2l, 1) := by decide +kernel
theorem d_M_taken_11 : decode b_M_taken 11 = .ok (.invokestatic 86, 3) := by decide +kernel
theorem d_M_taken_14 : decode b_M_taken 14 = .ok (.iconst 1, 1) := by decide +kernel
theorem d_M_taken_15 : decode b_M_taken 15 = .ok (.invokevirtual 93, 3) := by decide +kernel
theorem d_M_taken_18 : decode b_M_taken 18 = .ok (.ifCond .eq 5, 3) := by decide +kernel
theorem d_M_taken_21 : decode b_M_taken 21 = .ok (.iconst 0, 1) := by decide +kernel
theorem d_M_taken_22 : decode b_M_taken 22 = .ok (.ireturn, 1) := by decide +kernel
theorem d_M_taken_23 : decode b_M_taken 23 = .ok (.aload_n 0, 1) := by decide +kernel
theorem d_M_taken_24 : decode b_M_taken 24 = .ok (.getfield 97, 3) := by decide +kernel
theorem d_M_taken_27 : decode b_M_taken 27 = .ok (.ifCond .eq 16, 3) := by decide +kernel
theorem d_M_taken_30 : decode b_M_taken 30 = .ok (.aload_n 0, 1) := by decide +kernel
theorem d_M_taken_31 : decode b_M_taken 31 = .ok (.getfield 50, 3) := by decide +kernel
theorem d_M_taken_34 : decode b_M_taken 34 = .ok (.iload_n 1, 1) := by decide +kernel
theorem d_M_taken_35 : decode b_M_taken 35 = .ok (.iaload, 1) := by decide +kernel
theorem d_M_taken_36 : decode b_M_taken 36 = .ok (.aload_n 0, 1) := by decide +kernel
theorem d_M_taken_37 : decode b_M_taken 37 = .ok (.getfield 75, 3) := by decide +kernel
theorem d_M_taken_40 : decode b_M_taken 40 = .ok (.if_icmp .ne 7, 3) := by decide +kernel
theorem d_M_taken_43 : decode b_M_taken 43 = .ok (.iconst (-1), 1) := by decide +kernel
theorem d_M_taken_44 : decode b_M_taken 44 = .ok (.goto 9, 3) := by decide +kernel
theorem d_M_taken_47 : decode b_M_taken 47 = .ok (.aload_n 0, 1) := by decide +kernel
theorem d_M_taken_48 : decode b_M_taken 48 = .ok (.getfield 50, 3) := by decide +kernel
theorem d_M_taken_51 : decode b_M_taken 51 = .ok (.iload_n 1, 1) := by decide +kernel
theorem d_M_taken_52 : decode b_M_taken 52 = .ok (.iaload, 1) := by decide +kernel
theorem d_M_taken_53 : decode b_M_taken 53 = .ok (.ireturn, 1) := by decide +kernel
theorem d_M_tryPlan_0 : decode b_M_tryPlan 0 = .ok (.iconst 0, 1) := by decide +kernel
theorem d_M_tryPlan_1 : decode b_M_tryPlan 1 = .ok (.istore_n 1, 1) := by decide +kernel
theorem d_M_tryPlan_2 : decode b_M_tryPlan 2 = .ok (.iload_n 1, 1) := by decide +kernel
theorem d_M_tryPlan_3 : decode b_M_tryPlan 3 = .ok (.aload_n 0, 1) := by decide +kernel
theorem d_M_tryPlan_4 : decode b_M_tryPlan 4 = .ok (.getfield 101, 3) := by decide +kernel
theorem d_M_tryPlan_7 : decode b_M_tryPlan 7 = .ok (.if_icmp .ge 21, 3) := by decide +kernel
theorem d_M_tryPlan_10 : decode b_M_tryPlan 10 = .ok (.aload_n 0, 1) := by decide +kernel
theorem d_M_tryPlan_11 : decode b_M_tryPlan 11 = .ok (.getfield 53, 3) := by decide +kernel
theorem d_M_tryPlan_14 : decode b_M_tryPlan 14 = .ok (.iload_n 1, 1) := by decide +kernel
theorem d_M_tryPlan_15 : decode b_M_tryPlan 15 = .ok (.aload_n 0, 1) := by decide +kernel
theorem d_M_tryPlan_16 : decode b_M_tryPlan 16 = .ok (.getfield 50, 3) := by decide +kernel
theorem d_M_tryPlan_19 : decode b_M_tryPlan 19 = .ok (.iload_n 1, 1) := by decide +kernel
theorem d_M_tryPlan_20 : decode b_M_tryPlan 20 = .ok (.iaload, 1) := by decide +kernel
theorem d_M_tryPlan_21 : decode b_M_tryPlan 21 = .ok (.iastore, 1) := by decide +kernel
theorem d_M_tryPlan_22 : decode b_M_tryPlan 22 = .ok (.iinc 1 1, 3) := by decide +kernel
theorem d_M_tryPlan_25 : decode b_M_tryPlan 25 = .ok (.goto (-23), 3) := by decide +kernel
theorem d_M_tryPlan_28 : decode b_M_tryPlan 28 = .ok (.return_, 1) := by decide +kernel
theorem d_M_check_0 : decode b_M_check 0 = .ok (.aload_n 0, 1) := by decide +kernel
theorem d_M_check_1 : decode b_M_check 1 = .ok (.iconst 1, 1) := by decide +kernel
theorem d_M_check_2 : decode b_M_check 2 = .ok (.aload_n 0, 1) := by decide +kernel
theorem d_M_check_3 : decode b_M_check 3 = .ok (.getfield 97, 3) := by decide +kernel
theorem d_M_check_6 : decode b_M_check 6 = .ok (.invokevirtual 93, 3) := by decide +kernel
theorem d_M_check_9 : decode b_M_check 9 = .ok (.ifCond .eq 10, 3) := by decide +kernel
theorem d_M_check_12 : decode b_M_check 12 = .ok (.aload_n 0, 1) := by decide +kernel
theorem d_M_check_13 : decode b_M_check 13 = .ok (.iconst 1, 1) := by decide +kernel
theorem d_M_check_14 : decode b_M_check 14 = .ok (.putfield 79, 3) := by decide +kernel
theorem d_M_check_17 : decode b_M_check 17 = .ok (.iconst 0, 1) := by decide +kernel
theorem d_M_check_18 : decode b_M_check 18 = .ok (.ireturn, 1) := by decide +kernel
theorem d_M_check_19 : decode b_M_check 19 = .ok (.aload_n 0, 1) := by decide +kernel
theorem d_M_check_20 : decode b_M_check 20 = .ok (.invokevirtual 193, 3) := by decide +kernel
theorem d_M_check_23 : decode b_M_check 23 = .ok (.iconst 0, 1) := by decide +kernel
theorem d_M_check_24 : decode b_M_check 24 = .ok (.istore_n 1, 1) := by decide +kernel
theorem d_M_check_25 : decode b_M_check 25 = .ok (.iload_n 1, 1) := by decide +kernel
theorem d_M_check_26 : decode b_M_check 26 = .ok (.aload_n 0, 1) := by decide +kernel
theorem d_M_check_27 : decode b_M_check 27 = .ok (.getfield 75, 3) := by decide +kernel
theorem d_M_check_30 : decode b_M_check 30 = .ok (.if_icmp .ge 31, 3) := by decide +kernel
theorem d_M_check_33 : decode b_M_check 33 = .ok (.aload_n 0, 1) := by decide +kernel
theorem d_M_check_34 : decode b_M_check 34 = .ok (.iload_n 1, 1) := by decide +kernel
theorem d_M_check_35 : decode b_M_check 35 = .ok (.aload_n 0, 1) := by decide +kernel
theorem d_M_check_36 : decode b_M_check 36 = .ok (.getfield 101, 3) := by decide +kernel
theorem d_M_check_39 : decode b_M_check 39 = .ok (.iconst 1, 1) := by decide +kernel
theorem d_M_check_40 : decode b_M_check 40 = .ok (.invokevirtual 144, 3) := by decide +kernel
theorem d_M_check_43 : decode b_M_check 43 = .ok (.istore_n 2, 1) := by decide +kernel
theorem d_M_check_44 : decode b_M_check 44 = .ok (.iload_n 2, 1) := by decide +kernel
theorem d_M_check_45 : decode b_M_check 45 = .ok (.ifCond .le 10, 3) := by decide +kernel
theorem d_M_check_48 : decode b_M_check 48 = .ok (.bipush 10, 2) := by decide +kernel
theorem d_M_check_50 : decode b_M_check 50 = .ok (.iload_n 1, 1) := by decide +kernel
theorem d_M_check_51 : decode b_M_check 51 = .ok (.imul, 1) := by decide +kernel
theorem d_M_check_52 : decode b_M_check 52 = .ok (.iload_n 2, 1) := by decide +kernel
theorem d_M_check_53 : decode b_M_check 53 = .ok (.iadd, 1) := by decide +kernel
theorem d_M_check_54 : decode b_M_check 54 = .ok (.ireturn, 1) := by decide +kernel
theorem d_M_check_55 : decode b_M_check 55 = .ok (.iinc 1 1, 3) := by decide +kernel
theorem d_M_check_58 : decode b_M_check 58 = .ok (.goto (-33), 3) := by decide +kernel
theorem d_M_check_61 : decode b_M_check 61 = .ok (.iconst 0, 1) := by decide +kernel
theorem d_M_check_62 : decode b_M_check 62 = .ok (.ireturn, 1) := by decide +kernel
theorem d_M_worth_0 : decode b_M_worth 0 = .ok (.aload_n 0, 1) := by decide +kernel
theorem d_M_worth_1 : decode b_M_worth 1 = .ok (.iconst 1, 1) := by decide +kernel
theorem d_M_worth_2 : decode b_M_worth 2 = .ok (.aload_n 0, 1) := by decide +kernel
theorem d_M_worth_3 : decode b_M_worth 3 = .ok (.getfield 97, 3) := by decide +kernel
theorem d_M_worth_6 : decode b_M_worth 6 = .ok (.invokevirtual 93, 3) := by decide +kernel
theorem d_M_worth_9 : decode b_M_worth 9 = .ok (.ifCond .eq 10, 3) := by decide +kernel
theorem d_M_worth_12 : decode b_M_worth 12 = .ok (.aload_n 0, 1) := by decide +kernel
theorem d_M_worth_13 : decode b_M_worth 13 = .ok (.iconst 1, 1) := by decide +kernel
theorem d_M_worth_14 : decode b_M_worth 14 = .ok (.putfield 79, 3) := by decide +kernel
theorem d_M_worth_17 : decode b_M_worth 17 = .ok (.lconst 0, 1) := by decide +kernel
theorem d_M_worth_18 : decode b_M_worth 18 = .ok (.lreturn, 1) := by decide +kernel
theorem d_M_worth_19 : decode b_M_worth 19 = .ok (.aload_n 0, 1) := by decide +kernel
theorem d_M_worth_20 : decode b_M_worth 20 = .ok (.invokevirtual 193, 3) := by decide +kernel
theorem d_M_worth_23 : decode b_M_worth 23 = .ok (.aload_n 0, 1) := by decide +kernel
theorem d_M_worth_24 : decode b_M_worth 24 = .ok (.invokevirtual 166, 3) := by decide +kernel
theorem d_M_worth_27 : decode b_M_worth 27 = .ok (.lreturn, 1) := by decide +kernel
theorem d_M_sold_0 : decode b_M_sold 0 = .ok (.aload_n 0, 1) := by decide +kernel
theorem d_M_sold_1 : decode b_M_sold 1 = .ok (.iload_n 1, 1) := by decide +kernel
theorem d_M_sold_2 : decode b_M_sold 2 = .ok (.i2l, 1) := by decide +kernel
theorem d_M_sold_3 : decode b_M_sold 3 = .ok (.lconst 0, 1) := by decide +kernel
theorem d_M_sold_4 : decode b_M_sold 4 = .ok (.aload_n 0, 1) := by decide +kernel
theorem d_M_sold_5 : decode b_M_sold 5 = .ok (.getfield 117, 3) := by decide +kernel
theorem d_M_sold_8 : decode b_M_sold 8 = .ok (.iconst 1, 1) := by decide +kernel
theorem d_M_sold_9 : decode b_M_sold 9 = .ok (.isub, 1) := by decide +kernel
theorem d_M_sold_10 : decode b_M_sold 10 = .ok (.i2l, 1) := by decide +kernel
theorem d_M_sold_11 : decode b_M_sold 11 = .ok (.invokestatic 86, 3) := by decide +kernel
theorem d_M_sold_14 : decode b_M_sold 14 = .ok (.aload_n 0, 1) := by decide +kernel
theorem d_M_sold_15 : decode b_M_sold 15 = .ok (.getfield 97, 3) := by decide +kernel
theorem d_M_sold_18 : decode b_M_sold 18 = .ok (.invokevirtual 93, 3) := by decide +kernel
theorem d_M_sold_21 : decode b_M_sold 21 = .ok (.ifCond .eq 5, 3) := by decide +kernel
theorem d_M_sold_24 : decode b_M_sold 24 = .ok (.iconst 0, 1) := by decide +kernel
theorem d_M_sold_25 : decode b_M_sold 25 = .ok (.ireturn, 1) := by decide +kernel
theorem d_M_sold_26 : decode b_M_sold 26 = .ok (.aload_n 0, 1) := by decide +kernel
theorem d_M_sold_27 : decode b_M_sold 27 = .ok (.invokevirtual 193, 3) := by decide +kernel
theorem d_M_sold_30 : decode b_M_sold 30 = .ok (.aload_n 0, 1) := by decide +kernel
theorem d_M_sold_31 : decode b_M_sold 31 = .ok (.invokevirtual 166, 3) := by decide +kernel
theorem d_M_sold_34 : decode b_M_sold 34 = .ok (.lstore_n 2, 1) := by decide +kernel
theorem d_M_sold_35 : decode b_M_sold 35 = .ok (.aload_n 0, 1) := by decide +kernel
theorem d_M_sold_36 : decode b_M_sold 36 = .ok (.getfield 63, 3) := by decide +kernel
theorem d_M_sold_39 : decode b_M_sold 39 = .ok (.iload_n 1, 1) := by decide +kernel
theorem d_M_sold_40 : decode b_M_sold 40 = .ok (.laload, 1) := by decide +kernel
theorem d_M_sold_41 : decode b_M_sold 41 = .ok (.l2i, 1) := by decide +kernel
theorem d_M_sold_42 : decode b_M_sold 42 = .ok (.ireturn, 1) := by decide +kernel
end
section
/-! THE MODEL'S WORLD. J: 0 thrown, 1 spot, 2 keep, 3 hasPlan, 4 nodes, 5 hasBest; L: 0 left, 1 sold, 2 needs, 3 carried (rows of longs). Rows (5, j): 0 mosts, 1 closed, 2 placeOf, 3 grams, 4 fish, 5 loads, 6 barred, 7 plants, 8 orderWeek, 9 orderLeast, 10 orderMost, 11 orderKilos, 12 orderCents, 13 plan, 14 tried, 15 best; (6, 0) served. -/
def oM (ad : Nat → Nat) (tC : Nat → ClassId) (n : Nat → Nat) (J : Nat → Int32) (bw : Int64) (L : Nat → Nat → Int64) (k : Nat) : Option va_E := match k with
  | 64 => some (.inr (9, [.int (nI (n 0)), .int (J 0), .int (nI (n 1)), .ref (ad 180), .ref (ad 181), .int (nI (n 2)), .ref (ad 182), .ref (ad 183), .ref (ad 184), .int (nI (n 3)), .ref (ad 185), .ref (ad 186), .ref (ad 187), .int (nI (n 4)), .ref (ad 188), .ref (ad 189), .ref (ad 190), .ref (ad 191), .ref (ad 192), .int (J 1), .int (J 2), .int (J 3), .ref (ad 193), .int (J 4), .ref (ad 194), .ref (ad 195), .int (J 5), .long bw, .ref (ad 65), .ref (ad 66), .ref (ad 196), .ref (ad 67), .ref (ad 68)]))
  | 65 => some (.inl (tC 1, 6, .inr (.inl (L 0))))
  | 66 => some (.inl (tC 1, 6, .inr (.inl (L 1))))
  | 67 => some (.inl (tC 1, 6, .inr (.inl (L 2))))
  | 68 => some (.inl (tC 1, 7, .inr (.inl (L 3))))
  | _ => none
def aMo (tC : Nat → ClassId) (t j : Nat) : Option (ClassId × Nat) := match t with
  | 5 => match j with
    | 0 => some (tC 0, 4)
    | 1 => some (tC 2, 32)
    | 2 => some (tC 0, 6)
    | 3 => some (tC 0, 48)
    | 4 => some (tC 0, 48)
    | 5 => some (tC 0, 3)
    | 6 => some (tC 2, 24)
    | 7 => some (tC 0, 8)
    | 8 => some (tC 0, 6)
    | 9 => some (tC 0, 6)
    | 10 => some (tC 0, 6)
    | 11 => some (tC 0, 6)
    | 12 => some (tC 0, 6)
    | 13 => some (tC 0, 6)
    | 14 => some (tC 0, 6)
    | 15 => some (tC 0, 6)
    | _ => none
  | 6 => match j with
    | 0 => some (tC 2, 6)
    | _ => none
  | _ => none
def obM (ad : Nat → Nat) (tC : Nat → ClassId) (n : Nat → Nat) (J : Nat → Int32) (bw : Int64) (L : Nat → Nat → Int64) (bX : Nat → Option va_E) (k : Nat) : Option va_E := if 64 ≤ k ∧ k < 69 then oM ad tC n J bw L k else bX k
def arM (tC : Nat → ClassId) (aY : Nat → Nat → Option (ClassId × Nat)) (t j : Nat) : Option (ClassId × Nat) := if 5 ≤ t ∧ t < 7 then aMo tC t j else aY t j
def mW (ad : Nat → Nat) (tC : Nat → ClassId) (n : Nat → Nat) (J : Nat → Int32) (bw : Int64) (L : Nat → Nat → Int64) (bX : Nat → Option va_E) (aY : Nat → Nat → Option (ClassId × Nat)) (S : Nat → Nat → Nat → Int32) : nw_N := gw (obM ad tC n J bw L bX) (arM tC aY) S
section MW
variable {ad : Nat → Nat} {tC : Nat → ClassId} {n : Nat → Nat} {J : Nat → Int32} {bw : Int64} {L : Nat → Nat → Int64} {bX : Nat → Option va_E} {aY : Nat → Nat → Option (ClassId × Nat)} {S : Nat → Nat → Nat → Int32} {D : va_G} {A : Nat → Prop} {H : Heap}
theorem mW_64 : mW ad tC n J bw L bX aY S 64 = some (.inr (9, [.int (nI (n 0)), .int (J 0), .int (nI (n 1)), .ref (ad 180), .ref (ad 181), .int (nI (n 2)), .ref (ad 182), .ref (ad 183), .ref (ad 184), .int (nI (n 3)), .ref (ad 185), .ref (ad 186), .ref (ad 187), .int (nI (n 4)), .ref (ad 188), .ref (ad 189), .ref (ad 190), .ref (ad 191), .ref (ad 192), .int (J 1), .int (J 2), .int (J 3), .ref (ad 193), .int (J 4), .ref (ad 194), .ref (ad 195), .int (J 5), .long bw, .ref (ad 65), .ref (ad 66), .ref (ad 196), .ref (ad 67), .ref (ad 68)])) := rfl
theorem mW_65 : mW ad tC n J bw L bX aY S 65 = some (.inl (tC 1, 6, .inr (.inl (L 0)))) := rfl
theorem mW_66 : mW ad tC n J bw L bX aY S 66 = some (.inl (tC 1, 6, .inr (.inl (L 1)))) := rfl
theorem mW_67 : mW ad tC n J bw L bX aY S 67 = some (.inl (tC 1, 6, .inr (.inl (L 2)))) := rfl
theorem mW_68 : mW ad tC n J bw L bX aY S 68 = some (.inl (tC 1, 7, .inr (.inl (L 3)))) := rfl
theorem mW_row {t j len : Nat} {c : ClassId} (ht : 5 ≤ t ∧ t < 7) (hj : j < 16) (h : aMo tC t j = some (c, len)) : mW ad tC n J bw L bX aY S (100 + 16 * t + j) = some (.inl (c, len, .inl (S t j))) := by
  refine gw_arr hj ?_
  rw [arM, if_pos ht]
  exact h
theorem mW_setRow {t j len : Nat} {c : ClassId} {f : Nat → Int32} (ht : 5 ≤ t ∧ t < 7) (hj : j < 16) (h : aMo tC t j = some (c, len)) (hw : nw_W D hpC A (va_up (mW ad tC n J bw L bX aY S) (100 + 16 * t + j) (some (.inl (c, len, .inl f)))) ad H) : nw_W D hpC A (mW ad tC n J bw L bX aY (upR S t j f)) ad H :=
  gw_row hj (by rw [arM, if_pos ht]; exact h) hw
theorem obM_ne {n' : Nat → Nat} {J' : Nat → Int32} {bw' : Int64} {L' : Nat → Nat → Int64} {q : Nat} (h : ∀ k, k ≠ q → oM ad tC n' J' bw' L' k = oM ad tC n J bw L k) : ∀ k, k ≠ q → obM ad tC n' J' bw' L' bX k = obM ad tC n J bw L bX k := fun k hk => by
  rw [obM, obM, h k hk]
theorem oM_64 {n' : Nat → Nat} {J' : Nat → Int32} {bw' : Int64} : ∀ k, k ≠ 64 → oM ad tC n' J' bw' L k = oM ad tC n J bw L k := fun k hk => by
  unfold oM
  split
  · exact absurd rfl hk
  · rfl
  · rfl
  · rfl
  · rfl
  · rfl
theorem mW_setO {n' : Nat → Nat} {J' : Nat → Int32} {bw' : Int64} {x : va_E} (h1 : oM ad tC n' J' bw' L 64 = some x) (hw : nw_W D hpC A (va_up (mW ad tC n J bw L bX aY S) 64 (some x)) ad H) : nw_W D hpC A (mW ad tC n' J' bw' L bX aY S) ad H :=
  gw_put (q := 64) (by omega) (by rw [obM, if_pos (by omega)]; exact h1) (obM_ne oM_64) hw
theorem mW_setL {q j : Nat} {f : Nat → Int64} {x : va_E} (hq : q = 65 + j) (hj : j < 4) (h1 : oM ad tC n J bw (va_up L j f) q = some x) (hw : nw_W D hpC A (va_up (mW ad tC n J bw L bX aY S) q (some x)) ad H) : nw_W D hpC A (mW ad tC n J bw (va_up L j f) bX aY S) ad H := by
  refine gw_put (q := q) (by omega) (by rw [obM, if_pos (by omega)]; exact h1) (obM_ne (fun k hk => ?_)) hw
  have e : ∀ i, 65 + i ≠ 65 + j → va_up L j f i = L i := fun i hi => va_up_ne _ _ (fun e => hi (by rw [e]))
  unfold oM
  split
  · rfl
  · rw [e 0 (by omega)]
  · rw [e 1 (by omega)]
  · rw [e 2 (by omega)]
  · rw [e 3 (by omega)]
  · rfl
end MW
end
section
/-! PURE WORDS of the model -/
/-- the row of served may be another one -/
def scm (F S : Nat → Nat → Nat → Int32) : Prop := ∀ t j, ¬ (t = 6 ∧ j = 0) → S t j = F t j
theorem scm_rf {F : Nat → Nat → Nat → Int32} : scm F F := fun _ _ _ => rfl
theorem scm_up {F S : Nat → Nat → Nat → Int32} {f : Nat → Int32} (h : scm F S) : scm F (upR S 6 0 f) := fun t j hj => by rw [upR_ne hj]; exact h t j hj
def nw_ms (v : Option Value) (wf : (Nat → Nat → Int64) → (Nat → Nat → Nat → Int32) → nw_N) (F : Nat → Nat → Nat → Int32) (ad : Nat → Nat) : nw_P := fun o wn' ad' => o = v ∧ ad' = ad ∧ ∃ L' S', scm F S' ∧ wn' = wf L' S'
theorem nw_msI {x v : Int32} {wf : (Nat → Nat → Int64) → (Nat → Nat → Nat → Int32) → nw_N} {F S' : Nat → Nat → Nat → Int32} {L' : Nat → Nat → Int64} {ad : Nat → Nat} (hs : scm F S') (h : x = v) : nw_ms (some (.int v)) wf F ad (some (.int x)) (wf L' S') ad := by subst h; exact ⟨rfl, rfl, L', S', hs, rfl⟩
theorem nw_msL {x v : Int64} {wf : (Nat → Nat → Int64) → (Nat → Nat → Nat → Int32) → nw_N} {F S' : Nat → Nat → Nat → Int32} {L' : Nat → Nat → Int64} {ad : Nat → Nat} (hs : scm F S') (h : x = v) : nw_ms (some (.long v)) wf F ad (some (.long x)) (wf L' S') ad := by subst h; exact ⟨rfl, rfl, L', S', hs, rfl⟩
theorem nw_ms_out {v rv : Option Value} {wf : (Nat → Nat → Int64) → (Nat → Nat → Nat → Int32) → nw_N} {F : Nat → Nat → Nat → Int32} {ad ad' : Nat → Nat} {wn' : nw_N} {D : va_G} {cl : List vw_C} {A : Nat → Prop} {H : Heap} (h : nw_ms v wf F ad rv wn' ad') (hw : nw_W D cl A wn' ad' H) : rv = v ∧ ∃ L' S', scm F S' ∧ nw_W D cl A (wf L' S') ad H := by
  obtain ⟨h1, h2, L', S', h3, h4⟩ := h
  rw [h2, h4] at hw
  exact ⟨h1, L', S', h3, hw⟩
def kM (F : Nat → Nat → Nat → Int32) (c w : Nat) : Int64 := (F 5 3 (8 * c + w)).toInt64 * (F 5 4 (8 * c + w)).toInt64 / 1000
theorem ix8 (c w : Nat) : nI 8 * nI c + nI w = nI (8 * c + w) := by rw [pk_mul, nI_add]
def mpS (F : Nat → Nat → Nat → Int32) (w : Nat) : Nat → Int64
  | 0 => 0
  | c + 1 => mpS F w c + (if F 5 14 c = nI w then kM F c w else 0)
theorem mpS_t {F : Nat → Nat → Nat → Int32} {w c : Nat} (h : F 5 14 c = nI w) : mpS F w (c + 1) = mpS F w c + kM F c w := by simp only [mpS]; rw [if_pos h]
theorem mpS_f {F : Nat → Nat → Nat → Int32} {w c : Nat} (h : ¬ F 5 14 c = nI w) : mpS F w (c + 1) = mpS F w c + 0 := by simp only [mpS]; rw [if_neg h]
def qPlant (F : Nat → Nat → Nat → Int32) (w many : Nat) : Prop := mpS F w many ≤ (F 5 7 w).toInt64
def qOpen (F : Nat → Nat → Nat → Int32) (hm : Nat → Nat) (w many : Nat) : Prop := ∀ j, j < many → F 5 14 j = nI w → F 5 1 (8 * hm j + w) = 0
def mhS (F : Nat → Nat → Nat → Int32) (w p : Nat) : Nat → Int64
  | 0 => 0
  | c + 1 => mhS F w p c + (if F 5 2 c = nI p ∧ nI w ≤ F 5 14 c then kM F c w else 0)
theorem mhS_t {F : Nat → Nat → Nat → Int32} {w p c : Nat} (h : F 5 2 c = nI p) (h2 : nI w ≤ F 5 14 c) : mhS F w p (c + 1) = mhS F w p c + kM F c w := by simp only [mhS]; rw [if_pos ⟨h, h2⟩]
theorem mhS_f {F : Nat → Nat → Nat → Int32} {w p c : Nat} (h : ¬ (F 5 2 c = nI p ∧ nI w ≤ F 5 14 c)) : mhS F w p (c + 1) = mhS F w p c + 0 := by simp only [mhS]; rw [if_neg h]
def qHeldP (n : Nat → Nat) (F : Nat → Nat → Nat → Int32) (w p : Nat) : Prop := ∀ j, j < p → mhS F w j (n 2) ≤ (F 5 0 j).toInt64
def qHeld (n : Nat → Nat) (F : Nat → Nat → Nat → Int32) (w : Nat) : Prop := qHeldP n F w (n 1)
theorem va_in {α : Type} {f : Nat → α} {i j : Nat} {a b c : α} (h : i ≠ j) : va_up (va_up (va_up f i a) j b) i c = va_up (va_up f j b) i c := by
  funext k
  by_cases h1 : k = i
  · simp [va_up, h1]
  · simp [va_up, h1]
end
section
set_option maxHeartbeats 4000000 in
set_option maxRecDepth 100000 in
/-- within bounds -/
theorem c_M_in (l : Launch) (D : va_G) (tC : Nat → ClassId) (A : Nat → Prop) (ad : Nat → Nat) (n : Nat → Nat) (J : Nat → Int32) (bw : Int64) (L : Nat → Nat → Int64) (bX : Nat → Option va_E) (aY : Nat → Nat → Option (ClassId × Nat)) (F S : Nat → Nat → Nat → Int32) (hsc : scm F S) (hN : hpN n) (v lo hi : Int64) : nw_Met l y_M_in [Cond.code y_M_in b_M_in 6 (some .boolean)] ({ frames := 0, cells := 0, slots := 0, locals := 0 } : Room) D hpC A [.long (v), .long (lo), .long (hi)] (nw_pre D hpC (hpT tC) A (mW ad tC n J bw L bX aY S) ad) (nw_ok (some (.int (b2 (lo ≤ v ∧ v ≤ hi)))) (mW ad tC n J bw L bX aY S) ad) 0 0 := by
  refine nw_bodyK (by decide) (Nat.le_of_ble_eq_true rfl) ?_
  intro p e s m below meth cd ls args Q hSx hr hlocks hname hA hKs hw hS hl hQ
  obtain ⟨hx, hb, hml, hown, hts⟩ := id hSx
  have hK := hKs.1
  have hl : lv_has ls 6 [(0, .long (v)), (2, .long (lo)), (4, .long (hi))] := hl
  obtain ⟨hn0, hn0', hn1, hn2, hn3, hn4⟩ := id hN
  refine lv_lload_n hx hb d_M_in_0 rfl (lv_at hl 0 rfl) ?_
  refine lv_lload_n hx hb d_M_in_1 rfl (lv_at hl 1 rfl) ?_
  refine W.lcmp hx hb d_M_in_2 ?_
  refine lv_if_lt (tgt := 17) hx hb d_M_in_3 (by decide) (fun c_3 => ?_) (fun c_3 => ?_)
  · skip
    have hres : nI 0 = b2 (lo ≤ v ∧ v ≤ hi) := b2_f (fun h => Int64.not_le.mpr ((lg_cmp_lt _ _).mp c_3) h.1)
    refine lv_iconst (v := nI 0) hx hb d_M_in_17 (by decide) ?_
    exact nw_zret hQ hx hb hr (by first | exact Or.inl rfl | exact Or.inr rfl) hlocks hw hS (nw_okI hres) (Nat.le_of_ble_eq_true rfl) (Nat.le_of_ble_eq_true rfl) d_M_in_18
  · skip
    refine lv_lload_n hx hb d_M_in_6 rfl (lv_at hl 0 rfl) ?_
    refine lv_lload hx hb d_M_in_7 (lv_at hl 2 rfl) ?_
    refine W.lcmp hx hb d_M_in_9 ?_
    refine lv_if_gt (tgt := 17) hx hb d_M_in_10 (by decide) (fun c_10 => ?_) (fun c_10 => ?_)
    · skip
      have hres : nI 0 = b2 (lo ≤ v ∧ v ≤ hi) := b2_f (fun h => Int64.not_le.mpr ((lg_cmp_gt _ _).mp c_10) h.2)
      refine lv_iconst (v := nI 0) hx hb d_M_in_17 (by decide) ?_
      exact nw_zret hQ hx hb hr (by first | exact Or.inl rfl | exact Or.inr rfl) hlocks hw hS (nw_okI hres) (Nat.le_of_ble_eq_true rfl) (Nat.le_of_ble_eq_true rfl) d_M_in_18
    · skip
      have hres : nI 1 = b2 (lo ≤ v ∧ v ≤ hi) := b2_t ⟨Int64.not_lt.mp (fun h => c_3 ((lg_cmp_lt _ _).mpr h)), Int64.not_lt.mp (fun h => c_10 ((lg_cmp_gt _ _).mpr h))⟩
      refine lv_iconst (v := nI 1) hx hb d_M_in_13 (by decide) ?_
      refine lv_goto (tgt := 18) hx hb d_M_in_14 (by decide) ?_
      exact nw_zret hQ hx hb hr (by first | exact Or.inl rfl | exact Or.inr rfl) hlocks hw hS (nw_okI hres) (Nat.le_of_ble_eq_true rfl) (Nat.le_of_ble_eq_true rfl) d_M_in_18

set_option maxHeartbeats 4000000 in
set_option maxRecDepth 100000 in
/-- KILOS -/
theorem c_M_kilos (l : Launch) (D : va_G) (tC : Nat → ClassId) (A : Nat → Prop) (ad : Nat → Nat) (n : Nat → Nat) (J : Nat → Int32) (bw : Int64) (L : Nat → Nat → Int64) (bX : Nat → Option va_E) (aY : Nat → Nat → Option (ClassId × Nat)) (F S : Nat → Nat → Nat → Int32) (hsc : scm F S) (hN : hpN n) (c w : Nat) (hc : c < 6) (hw8 : w < 8) : nw_Met l y_M_kilos [Cond.code y_M_kilos b_M_kilos 3 (some .long)] ({ frames := 0, cells := 0, slots := 0, locals := 0 } : Room) D hpC A [.ref (ad (64)), .int (nI c), .int (nI w)] (nw_pre D hpC (hpT tC) A (mW ad tC n J bw L bX aY S) ad) (nw_ok (some (.long (kM F c w))) (mW ad tC n J bw L bX aY S) ad) 0 0 := by
  refine nw_bodyK (by decide) (Nat.le_of_ble_eq_true rfl) ?_
  intro p e s m below meth cd ls args Q hSx hr hlocks hname hA hKs hw hS hl hQ
  obtain ⟨hx, hb, hml, hown, hts⟩ := id hSx
  have hK := hKs.1
  have hl : lv_has ls 3 [(0, .ref (ad (64))), (1, .int (nI c)), (2, .int (nI w))] := hl
  obtain ⟨hn0, hn0', hn1, hn2, hn3, hn4⟩ := id hN
  refine lv_aload_n hx hb d_M_kilos_0 rfl (lv_at hl 0 rfl) ?_
  refine nw_get hx hb hts i_M hown hK hw (64) (mW_64) rfl 7 (by decide) (hts _ kw_666) (fun _ h9 => h9) rfl d_M_kilos_1 ?_
  refine lv_bipush (v := nI 8) hx hb d_M_kilos_4 (by decide) ?_
  refine lv_iload_n hx hb d_M_kilos_6 rfl (lv_at hl 1 rfl) ?_
  refine lv_imul hx hb d_M_kilos_7 ?_
  refine lv_iload_n hx hb d_M_kilos_8 rfl (lv_at hl 2 rfl) ?_
  refine lv_iadd hx hb d_M_kilos_9 ?_
  refine lv_ei (y := nI (8 * c + w)) (ix8 _ _) ?_
  refine nw_iald hx hb hK hw (183) 0 (mW_row (t := 5) (j := 3) (by decide) (by decide) (rfl)) rfl (8 * c + w) (rfl) (by omega) (by omega) d_M_kilos_10 ?_
  refine lv_ei (y := F 5 3 (8 * c + w)) (congrFun (hsc 5 3 (by omega)) _) ?_
  refine lv_i2l (v := ((F 5 3 (8 * c + w)).toInt64)) hx hb d_M_kilos_11 rfl ?_
  refine lv_aload_n hx hb d_M_kilos_12 rfl (lv_at hl 0 rfl) ?_
  refine nw_get hx hb hts i_M hown hK hw (64) (mW_64) rfl 8 (by decide) (hts _ kw_667) (fun _ h9 => h9) rfl d_M_kilos_13 ?_
  refine lv_bipush (v := nI 8) hx hb d_M_kilos_16 (by decide) ?_
  refine lv_iload_n hx hb d_M_kilos_18 rfl (lv_at hl 1 rfl) ?_
  refine lv_imul hx hb d_M_kilos_19 ?_
  refine lv_iload_n hx hb d_M_kilos_20 rfl (lv_at hl 2 rfl) ?_
  refine lv_iadd hx hb d_M_kilos_21 ?_
  refine lv_ei (y := nI (8 * c + w)) (ix8 _ _) ?_
  refine nw_iald hx hb hK hw (184) 0 (mW_row (t := 5) (j := 4) (by decide) (by decide) (rfl)) rfl (8 * c + w) (rfl) (by omega) (by omega) d_M_kilos_22 ?_
  refine lv_ei (y := F 5 4 (8 * c + w)) (congrFun (hsc 5 4 (by omega)) _) ?_
  refine lv_i2l (v := ((F 5 4 (8 * c + w)).toInt64)) hx hb d_M_kilos_23 rfl ?_
  refine lv_lmul hx hb d_M_kilos_24 ?_
  refine lv_ldc2 (v := 1000) hx hb hown (hts _ kw_793) d_M_kilos_25 ?_
  refine lv_ldiv hx hb d_M_kilos_28 (by decide) ?_
  exact nw_lret hQ hx hb hr hlocks hw hS (nw_okL rfl) (Nat.le_of_ble_eq_true rfl) (Nat.le_of_ble_eq_true rfl) d_M_kilos_29

set_option maxHeartbeats 4000000 in
set_option maxRecDepth 100000 in
/-- whether a cage is taken in the week -/
theorem c_M_takes (l : Launch) (D : va_G) (tC : Nat → ClassId) (A : Nat → Prop) (ad : Nat → Nat) (n : Nat → Nat) (J : Nat → Int32) (bw : Int64) (L : Nat → Nat → Int64) (bX : Nat → Option va_E) (aY : Nat → Nat → Option (ClassId × Nat)) (F S : Nat → Nat → Nat → Int32) (hsc : scm F S) (hN : hpN n) (c w many : Nat) (hc : c < 6) (hmany : many ≤ 6) : nw_Met l y_M_takes [Cond.code y_M_takes b_M_takes 4 (some .boolean)] ({ frames := 0, cells := 0, slots := 0, locals := 0 } : Room) D hpC A [.ref (ad (64)), .int (nI c), .int (nI w), .int (nI many)] (nw_pre D hpC (hpT tC) A (mW ad tC n J bw L bX aY S) ad) (nw_ok (some (.int (b2 (c < many ∧ F 5 14 c = nI w)))) (mW ad tC n J bw L bX aY S) ad) 0 0 := by
  refine nw_bodyK (by decide) (Nat.le_of_ble_eq_true rfl) ?_
  intro p e s m below meth cd ls args Q hSx hr hlocks hname hA hKs hw hS hl hQ
  obtain ⟨hx, hb, hml, hown, hts⟩ := id hSx
  have hK := hKs.1
  have hl : lv_has ls 4 [(0, .ref (ad (64))), (1, .int (nI c)), (2, .int (nI w)), (3, .int (nI many))] := hl
  obtain ⟨hn0, hn0', hn1, hn2, hn3, hn4⟩ := id hN
  refine lv_iload_n hx hb d_M_takes_0 rfl (lv_at hl 1 rfl) ?_
  refine lv_iload_n hx hb d_M_takes_1 rfl (lv_at hl 3 rfl) ?_
  refine lv_icmp_ge (tgt := 19) hx hb d_M_takes_2 (by decide) (fun c_2 => ?_) (fun c_2 => ?_)
  · skip
    have hres : nI 0 = b2 (c < many ∧ F 5 14 c = nI w) := b2_f (fun h => absurd h.1 (Nat.not_lt.mpr ((nI_leI (by omega) (by omega)).mp c_2)))
    refine lv_iconst (v := nI 0) hx hb d_M_takes_19 (by decide) ?_
    exact nw_zret hQ hx hb hr (by first | exact Or.inl rfl | exact Or.inr rfl) hlocks hw hS (nw_okI hres) (Nat.le_of_ble_eq_true rfl) (Nat.le_of_ble_eq_true rfl) d_M_takes_20
  · skip
    refine lv_aload_n hx hb d_M_takes_5 rfl (lv_at hl 0 rfl) ?_
    refine nw_get hx hb hts i_M hown hK hw (64) (mW_64) rfl 24 (by decide) (hts _ kw_683) (fun _ h9 => h9) rfl d_M_takes_6 ?_
    refine lv_iload_n hx hb d_M_takes_9 rfl (lv_at hl 1 rfl) ?_
    refine nw_iald hx hb hK hw (194) 0 (mW_row (t := 5) (j := 14) (by decide) (by decide) (rfl)) rfl (c) (rfl) (by omega) (by omega) d_M_takes_10 ?_
    refine lv_ei (y := F 5 14 c) (congrFun (hsc 5 14 (by omega)) _) ?_
    refine lv_iload_n hx hb d_M_takes_11 rfl (lv_at hl 2 rfl) ?_
    refine lv_icmp_ne (tgt := 19) hx hb d_M_takes_12 (by decide) (fun c_12 => ?_) (fun c_12 => ?_)
    · skip
      have hres : nI 0 = b2 (c < many ∧ F 5 14 c = nI w) := b2_f (fun h => c_12 h.2)
      refine lv_iconst (v := nI 0) hx hb d_M_takes_19 (by decide) ?_
      exact nw_zret hQ hx hb hr (by first | exact Or.inl rfl | exact Or.inr rfl) hlocks hw hS (nw_okI hres) (Nat.le_of_ble_eq_true rfl) (Nat.le_of_ble_eq_true rfl) d_M_takes_20
    · skip
      have hres : nI 1 = b2 (c < many ∧ F 5 14 c = nI w) := b2_t ⟨Nat.not_le.mp (fun q => c_2 (nI_le q (by omega))), c_12⟩
      refine lv_iconst (v := nI 1) hx hb d_M_takes_15 (by decide) ?_
      refine lv_goto (tgt := 20) hx hb d_M_takes_16 (by decide) ?_
      exact nw_zret hQ hx hb hr (by first | exact Or.inl rfl | exact Or.inr rfl) hlocks hw hS (nw_okI hres) (Nat.le_of_ble_eq_true rfl) (Nat.le_of_ble_eq_true rfl) d_M_takes_20

set_option maxHeartbeats 4000000 in
set_option maxRecDepth 100000 in
/-- PLANT -/
theorem c_M_keepsPlant (l : Launch) (D : va_G) (tC : Nat → ClassId) (A : Nat → Prop) (ad : Nat → Nat) (n : Nat → Nat) (J : Nat → Int32) (bw : Int64) (L : Nat → Nat → Int64) (bX : Nat → Option va_E) (aY : Nat → Nat → Option (ClassId × Nat)) (F S : Nat → Nat → Nat → Int32) (hsc : scm F S) (hN : hpN n) (w many : Nat) (hw8 : w < n 0) (hmany : many ≤ n 2) : nw_Met l y_M_keepsPlant [Cond.code y_M_keepsPlant b_M_keepsPlant 6 (some .boolean)] ({ frames := 1, cells := 0, slots := 0, locals := 23 } : Room) D hpC A [.ref (ad (64)), .int (nI w), .int (nI many)] (nw_pre D hpC (hpT tC) A (mW ad tC n J bw L bX aY S) ad) (nw_ok (some (.int (b2 (qPlant F w many)))) (mW ad tC n J bw L bX aY S) ad) 0 0 := by
  refine nw_bodyK (by decide) (Nat.le_of_ble_eq_true rfl) ?_
  intro p e s m below meth cd ls args Q hSx hr hlocks hname hA hKs hw hS hl hQ
  obtain ⟨hx, hb, hml, hown, hts⟩ := id hSx
  have hK := hKs.1
  have hl : lv_has ls 6 [(0, .ref (ad (64))), (1, .int (nI w)), (2, .int (nI many))] := hl
  obtain ⟨hn0, hn0', hn1, hn2, hn3, hn4⟩ := id hN
  refine lv_lconst (v := 0) hx hb d_M_keepsPlant_0 (by decide) ?_
  refine lv_lstore_n (lv' := [(3, .long (0)), (0, .ref (ad (64))), (1, .int (nI w)), (2, .int (nI many))]) hx hb d_M_keepsPlant_1 rfl hl (by decide) rfl (fun ls hl => ?_)
  refine lv_iconst (v := nI 0) hx hb d_M_keepsPlant_2 (by decide) ?_
  refine lv_istore (lv' := [(5, .int (nI 0)), (3, .long (0)), (0, .ref (ad (64))), (1, .int (nI w)), (2, .int (nI many))]) hx hb d_M_keepsPlant_3 hl (by decide) rfl (fun ls hl => ?_)
  have loop5 : ∀ (k c : Nat), c ≤ many → many + 1 ≤ c + k → ∀ (H : Heap) (locs : List Loc) (ls : Array Slot), nw_W D hpC A (mW ad tC n J bw L bX aY S) ad H → va_S A s.heap H locs → lv_has ls 6 [(0, .ref (ad (64))), (1, .int (nI w)), (2, .int (nI many)), (3, .long (mpS F w c)), (5, .int (nI c))] → W p l e ({ frames := 1, cells := 0, slots := 0, locals := 23 } : Room) s m args below meth cd H locs 0 0 Q (F0 m 5 ls []) := by
    intro k
    induction k with
    | zero => intro c h1 h2; exact absurd h2 (by omega)
    | succ k ih5 =>
      intro c hv5 hk5 H locs ls hw hS hl
      refine lv_iload hx hb d_M_keepsPlant_5 (lv_at hl 4 rfl) ?_
      refine lv_iload_n hx hb d_M_keepsPlant_7 rfl (lv_at hl 2 rfl) ?_
      refine lv_icmp_ge (tgt := 42) hx hb d_M_keepsPlant_8 (by decide) (fun c_8 => ?_) (fun c_8 => ?_)
      · skip
        have hge8 : many ≤ c := (nI_leI (by omega) (by omega)).mp c_8
        obtain rfl : many = c := by omega
        refine lv_lload_n hx hb d_M_keepsPlant_42 rfl (lv_at hl 3 rfl) ?_
        refine lv_aload_n hx hb d_M_keepsPlant_43 rfl (lv_at hl 0 rfl) ?_
        refine nw_get hx hb hts i_M hown hK hw (64) (mW_64) rfl 12 (by decide) (hts _ kw_671) (fun _ h9 => h9) rfl d_M_keepsPlant_44 ?_
        refine lv_iload_n hx hb d_M_keepsPlant_47 rfl (lv_at hl 1 rfl) ?_
        refine nw_iald hx hb hK hw (187) 0 (mW_row (t := 5) (j := 7) (by decide) (by decide) (rfl)) rfl (w) (rfl) (by omega) (by omega) d_M_keepsPlant_48 ?_
        refine lv_ei (y := F 5 7 w) (congrFun (hsc 5 7 (by omega)) _) ?_
        refine lv_i2l (v := ((F 5 7 w).toInt64)) hx hb d_M_keepsPlant_49 rfl ?_
        refine W.lcmp hx hb d_M_keepsPlant_50 ?_
        refine lv_if_gt (tgt := 58) hx hb d_M_keepsPlant_51 (by decide) (fun c_51 => ?_) (fun c_51 => ?_)
        · skip
          have hres : nI 0 = b2 (qPlant F w many) := b2_f (fun h => Int64.not_le.mpr ((lg_cmp_gt _ _).mp c_51) h)
          refine lv_iconst (v := nI 0) hx hb d_M_keepsPlant_58 (by decide) ?_
          exact nw_zret hQ hx hb hr (by first | exact Or.inl rfl | exact Or.inr rfl) hlocks hw hS (nw_okI hres) (Nat.le_of_ble_eq_true rfl) (Nat.le_of_ble_eq_true rfl) d_M_keepsPlant_59
        · skip
          have hres : nI 1 = b2 (qPlant F w many) := b2_t (Int64.not_lt.mp (fun h => c_51 ((lg_cmp_gt _ _).mpr h)))
          refine lv_iconst (v := nI 1) hx hb d_M_keepsPlant_54 (by decide) ?_
          refine lv_goto (tgt := 59) hx hb d_M_keepsPlant_55 (by decide) ?_
          exact nw_zret hQ hx hb hr (by first | exact Or.inl rfl | exact Or.inr rfl) hlocks hw hS (nw_okI hres) (Nat.le_of_ble_eq_true rfl) (Nat.le_of_ble_eq_true rfl) d_M_keepsPlant_59
      · skip
        have hlt : c < many := Nat.not_le.mp (fun q => c_8 (nI_le q (by omega)))
        refine lv_lload_n hx hb d_M_keepsPlant_11 rfl (lv_at hl 3 rfl) ?_
        refine lv_aload_n hx hb d_M_keepsPlant_12 rfl (lv_at hl 0 rfl) ?_
        refine lv_iload hx hb d_M_keepsPlant_13 (lv_at hl 4 rfl) ?_
        refine lv_iload_n hx hb d_M_keepsPlant_15 rfl (lv_at hl 1 rfl) ?_
        refine lv_iload_n hx hb d_M_keepsPlant_16 rfl (lv_at hl 2 rfl) ?_
        refine nw_callD (nw_goV (n := 3) (As := [.int (nI c), .int (nI w), .int (nI many)]) (rest := [.long (mpS F w c)]) hSx hA hKs hw hS (c_M_takes l D tC A ad n J bw L bX aY F S hsc hN c w many (by omega) (by omega)) kw_839 kw_836 kw_838 ks_M_takes kw_8 rfl rfl (by decide +kernel) ⟨Nat.le_of_ble_eq_true rfl, Nat.le_of_ble_eq_true rfl⟩ (nw_recv hK hw (mW_64) rfl) rfl hl.1 (Nat.le_of_ble_eq_true rfl) d_M_keepsPlant_17 ⟨Nat.le_of_ble_eq_true rfl, Nat.le_of_ble_eq_true rfl⟩) hS (fun H locs hw hS => ?_)
        refine lv_if_eq (tgt := 33) hx hb d_M_keepsPlant_20 (by decide) (fun c_20 => ?_) (fun c_20 => ?_)
        · skip
          have e3 : mpS F w (c + 1) = mpS F w c + 0 := mpS_f (fun h => b2_0 c_20 ⟨hlt, h⟩)
          refine lv_lconst (v := 0) hx hb d_M_keepsPlant_33 (by decide) ?_
          refine lv_ladd hx hb d_M_keepsPlant_34 ?_
          refine lv_lstore_n (lv' := [(3, .long (((mpS F w c) + (0)))), (0, .ref (ad (64))), (1, .int (nI w)), (2, .int (nI many)), (5, .int (nI c))]) hx hb d_M_keepsPlant_35 rfl hl (by decide) rfl (fun ls hl => ?_)
          refine lv_iinc (v := nI (c + 1)) (lv' := [(5, .int (nI (c + 1))), (3, .long (((mpS F w c) + (0)))), (0, .ref (ad (64))), (1, .int (nI w)), (2, .int (nI many))]) hx hb d_M_keepsPlant_36 hl (k := 4) rfl ((nI_succ _).symm) (by decide) rfl (fun ls hl => ?_)
          refine lv_goto (tgt := 5) hx hb d_M_keepsPlant_39 (by decide) ?_
          have el3 : mpS F w (c + 1) = ((mpS F w c) + (0)) := e3
          have hl : lv_has ls 6 [(5, .int (nI (c + 1))), (3, .long (mpS F w (c + 1))), (0, .ref (ad (64))), (1, .int (nI w)), (2, .int (nI many))] := by
            have h9 := hl
            revert h9; rw [show Value.long (mpS F w (c + 1)) = Value.long (((mpS F w c) + (0))) from congrArg _ el3]; intro h9
            exact h9
          exact ih5 (c + 1) (by omega) (by omega) _ _ ls hw hS (lv_sub hl [2, 3, 4, 1, 0] rfl)
        · skip
          have e3 : mpS F w (c + 1) = mpS F w c + kM F c w := mpS_t (b2_1 c_20).2
          refine lv_aload_n hx hb d_M_keepsPlant_23 rfl (lv_at hl 0 rfl) ?_
          refine lv_iload hx hb d_M_keepsPlant_24 (lv_at hl 4 rfl) ?_
          refine lv_iload_n hx hb d_M_keepsPlant_26 rfl (lv_at hl 1 rfl) ?_
          refine nw_callD (nw_goV (n := 2) (As := [.int (nI c), .int (nI w)]) (rest := [.long (mpS F w c)]) hSx hA hKs hw hS (c_M_kilos l D tC A ad n J bw L bX aY F S hsc hN c w (by omega) (by omega)) kw_792 kw_789 kw_791 ks_M_kilos kw_8 rfl rfl (by decide +kernel) ⟨Nat.le_of_ble_eq_true rfl, Nat.le_of_ble_eq_true rfl⟩ (nw_recv hK hw (mW_64) rfl) rfl hl.1 (Nat.le_of_ble_eq_true rfl) d_M_keepsPlant_27 ⟨Nat.le_of_ble_eq_true rfl, Nat.le_of_ble_eq_true rfl⟩) hS (fun H locs hw hS => ?_)
          refine lv_goto (tgt := 34) hx hb d_M_keepsPlant_30 (by decide) ?_
          refine lv_ladd hx hb d_M_keepsPlant_34 ?_
          refine lv_lstore_n (lv' := [(3, .long (((mpS F w c) + (kM F c w)))), (0, .ref (ad (64))), (1, .int (nI w)), (2, .int (nI many)), (5, .int (nI c))]) hx hb d_M_keepsPlant_35 rfl hl (by decide) rfl (fun ls hl => ?_)
          refine lv_iinc (v := nI (c + 1)) (lv' := [(5, .int (nI (c + 1))), (3, .long (((mpS F w c) + (kM F c w)))), (0, .ref (ad (64))), (1, .int (nI w)), (2, .int (nI many))]) hx hb d_M_keepsPlant_36 hl (k := 4) rfl ((nI_succ _).symm) (by decide) rfl (fun ls hl => ?_)
          refine lv_goto (tgt := 5) hx hb d_M_keepsPlant_39 (by decide) ?_
          have el3 : mpS F w (c + 1) = ((mpS F w c) + (kM F c w)) := e3
          have hl : lv_has ls 6 [(5, .int (nI (c + 1))), (3, .long (mpS F w (c + 1))), (0, .ref (ad (64))), (1, .int (nI w)), (2, .int (nI many))] := by
            have h9 := hl
            revert h9; rw [show Value.long (mpS F w (c + 1)) = Value.long (((mpS F w c) + (kM F c w))) from congrArg _ el3]; intro h9
            exact h9
          exact ih5 (c + 1) (by omega) (by omega) _ _ ls hw hS (lv_sub hl [2, 3, 4, 1, 0] rfl)
  exact loop5 (many + 1) (0) (by omega) (by omega) _ _ ls hw hS (lv_sub hl [2, 3, 4, 1, 0] rfl)

set_option maxHeartbeats 4000000 in
set_option maxRecDepth 100000 in
/-- CLOSED -/
theorem c_M_keepsOpen (l : Launch) (D : va_G) (tC : Nat → ClassId) (A : Nat → Prop) (ad : Nat → Nat) (n : Nat → Nat) (J : Nat → Int32) (bw : Int64) (L : Nat → Nat → Int64) (bX : Nat → Option va_E) (aY : Nat → Nat → Option (ClassId × Nat)) (F S : Nat → Nat → Nat → Int32) (hsc : scm F S) (hN : hpN n) (w many : Nat) (hw8 : w < n 0) (hmany : many ≤ n 2) (hm : Nat → Nat) (hH : ∀ c, c < n 2 → F 5 2 c = nI (hm c) ∧ hm c < n 1) : nw_Met l y_M_keepsOpen [Cond.code y_M_keepsOpen b_M_keepsOpen 5 (some .boolean)] ({ frames := 1, cells := 0, slots := 0, locals := 23 } : Room) D hpC A [.ref (ad (64)), .int (nI w), .int (nI many)] (nw_pre D hpC (hpT tC) A (mW ad tC n J bw L bX aY S) ad) (nw_ok (some (.int (b2 (qOpen F hm w many)))) (mW ad tC n J bw L bX aY S) ad) 0 0 := by
  refine nw_bodyK (by decide) (Nat.le_of_ble_eq_true rfl) ?_
  intro p e s m below meth cd ls args Q hSx hr hlocks hname hA hKs hw hS hl hQ
  obtain ⟨hx, hb, hml, hown, hts⟩ := id hSx
  have hK := hKs.1
  have hl : lv_has ls 5 [(0, .ref (ad (64))), (1, .int (nI w)), (2, .int (nI many))] := hl
  obtain ⟨hn0, hn0', hn1, hn2, hn3, hn4⟩ := id hN
  refine lv_iconst (v := nI 1) hx hb d_M_keepsOpen_0 (by decide) ?_
  refine lv_istore_n (lv' := [(3, .int (nI 1)), (0, .ref (ad (64))), (1, .int (nI w)), (2, .int (nI many))]) hx hb d_M_keepsOpen_1 rfl hl (by decide) rfl (fun ls hl => ?_)
  refine lv_iconst (v := nI 0) hx hb d_M_keepsOpen_2 (by decide) ?_
  refine lv_istore (lv' := [(4, .int (nI 0)), (3, .int (nI 1)), (0, .ref (ad (64))), (1, .int (nI w)), (2, .int (nI many))]) hx hb d_M_keepsOpen_3 hl (by decide) rfl (fun ls hl => ?_)
  have el3 : b2 (qOpen F hm w 0) = nI 1 := (b2_t (fun j hj => absurd hj (Nat.not_lt_zero j))).symm
  have hl : lv_has ls 5 [(4, .int (nI 0)), (3, .int (b2 (qOpen F hm w 0))), (0, .ref (ad (64))), (1, .int (nI w)), (2, .int (nI many))] := by
    have h9 := hl
    revert h9; rw [show Value.int (b2 (qOpen F hm w 0)) = Value.int (nI 1) from congrArg _ el3]; intro h9
    exact h9
  have loop5 : ∀ (k c : Nat), c ≤ many → many + 1 ≤ c + k → ∀ (H : Heap) (locs : List Loc) (ls : Array Slot), nw_W D hpC A (mW ad tC n J bw L bX aY S) ad H → va_S A s.heap H locs → lv_has ls 5 [(0, .ref (ad (64))), (1, .int (nI w)), (2, .int (nI many)), (3, .int (b2 (qOpen F hm w c))), (4, .int (nI c))] → W p l e ({ frames := 1, cells := 0, slots := 0, locals := 23 } : Room) s m args below meth cd H locs 0 0 Q (F0 m 5 ls []) := by
    intro k
    induction k with
    | zero => intro c h1 h2; exact absurd h2 (by omega)
    | succ k ih5 =>
      intro c hv5 hk5 H locs ls hw hS hl
      refine lv_iload hx hb d_M_keepsOpen_5 (lv_at hl 4 rfl) ?_
      refine lv_iload_n hx hb d_M_keepsOpen_7 rfl (lv_at hl 2 rfl) ?_
      refine lv_icmp_ge (tgt := 58) hx hb d_M_keepsOpen_8 (by decide) (fun c_8 => ?_) (fun c_8 => ?_)
      · skip
        have hge8 : many ≤ c := (nI_leI (by omega) (by omega)).mp c_8
        obtain rfl : many = c := by omega
        refine lv_iload_n hx hb d_M_keepsOpen_58 rfl (lv_at hl 3 rfl) ?_
        exact nw_zret hQ hx hb hr (by by_cases h : qOpen F hm w many; exact Or.inr (b2_t h).symm; exact Or.inl (b2_f h).symm) hlocks hw hS (nw_ok_rf) (Nat.le_of_ble_eq_true rfl) (Nat.le_of_ble_eq_true rfl) d_M_keepsOpen_59
      · skip
        have hlt : c < many := Nat.not_le.mp (fun q => c_8 (nI_le q (by omega)))
        have hmc := hH c (by omega)
        refine lv_iload_n hx hb d_M_keepsOpen_11 rfl (lv_at hl 3 rfl) ?_
        refine lv_if_eq (tgt := 50) hx hb d_M_keepsOpen_12 (by decide) (fun c_12 => ?_) (fun c_12 => ?_)
        · skip
          have hb3 : nI 0 = b2 (qOpen F hm w (c + 1)) := b2_f (fun h => b2_0 c_12 (fun j hj => h j (by omega)))
          refine lv_iconst (v := nI 0) hx hb d_M_keepsOpen_50 (by decide) ?_
          refine lv_istore_n (lv' := [(3, .int (nI 0)), (0, .ref (ad (64))), (1, .int (nI w)), (2, .int (nI many)), (4, .int (nI c))]) hx hb d_M_keepsOpen_51 rfl hl (by decide) rfl (fun ls hl => ?_)
          refine lv_iinc (v := nI (c + 1)) (lv' := [(4, .int (nI (c + 1))), (3, .int (nI 0)), (0, .ref (ad (64))), (1, .int (nI w)), (2, .int (nI many))]) hx hb d_M_keepsOpen_52 hl (k := 4) rfl ((nI_succ _).symm) (by decide) rfl (fun ls hl => ?_)
          refine lv_goto (tgt := 5) hx hb d_M_keepsOpen_55 (by decide) ?_
          have el3 : b2 (qOpen F hm w (c + 1)) = nI 0 := hb3.symm
          have hl : lv_has ls 5 [(4, .int (nI (c + 1))), (3, .int (b2 (qOpen F hm w (c + 1)))), (0, .ref (ad (64))), (1, .int (nI w)), (2, .int (nI many))] := by
            have h9 := hl
            revert h9; rw [show Value.int (b2 (qOpen F hm w (c + 1))) = Value.int (nI 0) from congrArg _ el3]; intro h9
            exact h9
          exact ih5 (c + 1) (by omega) (by omega) _ _ ls hw hS (lv_sub hl [2, 3, 4, 1, 0] rfl)
        · skip
          refine lv_aload_n hx hb d_M_keepsOpen_15 rfl (lv_at hl 0 rfl) ?_
          refine lv_iload hx hb d_M_keepsOpen_16 (lv_at hl 4 rfl) ?_
          refine lv_iload_n hx hb d_M_keepsOpen_18 rfl (lv_at hl 1 rfl) ?_
          refine lv_iload_n hx hb d_M_keepsOpen_19 rfl (lv_at hl 2 rfl) ?_
          refine nw_callD (nw_goV (n := 3) (As := [.int (nI c), .int (nI w), .int (nI many)]) (rest := []) hSx hA hKs hw hS (c_M_takes l D tC A ad n J bw L bX aY F S hsc hN c w many (by omega) (by omega)) kw_839 kw_836 kw_838 ks_M_takes kw_8 rfl rfl (by decide +kernel) ⟨Nat.le_of_ble_eq_true rfl, Nat.le_of_ble_eq_true rfl⟩ (nw_recv hK hw (mW_64) rfl) rfl hl.1 (Nat.le_of_ble_eq_true rfl) d_M_keepsOpen_20 ⟨Nat.le_of_ble_eq_true rfl, Nat.le_of_ble_eq_true rfl⟩) hS (fun H locs hw hS => ?_)
          refine lv_if_eq (tgt := 46) hx hb d_M_keepsOpen_23 (by decide) (fun c_23 => ?_) (fun c_23 => ?_)
          · skip
            have hb3 : nI 1 = b2 (qOpen F hm w (c + 1)) := b2_t (lt_s (b2_1 c_12) (fun h => absurd ⟨hlt, h⟩ (b2_0 c_23)))
            refine lv_iconst (v := nI 1) hx hb d_M_keepsOpen_46 (by decide) ?_
            refine lv_goto (tgt := 51) hx hb d_M_keepsOpen_47 (by decide) ?_
            refine lv_istore_n (lv' := [(3, .int (nI 1)), (0, .ref (ad (64))), (1, .int (nI w)), (2, .int (nI many)), (4, .int (nI c))]) hx hb d_M_keepsOpen_51 rfl hl (by decide) rfl (fun ls hl => ?_)
            refine lv_iinc (v := nI (c + 1)) (lv' := [(4, .int (nI (c + 1))), (3, .int (nI 1)), (0, .ref (ad (64))), (1, .int (nI w)), (2, .int (nI many))]) hx hb d_M_keepsOpen_52 hl (k := 4) rfl ((nI_succ _).symm) (by decide) rfl (fun ls hl => ?_)
            refine lv_goto (tgt := 5) hx hb d_M_keepsOpen_55 (by decide) ?_
            have el3 : b2 (qOpen F hm w (c + 1)) = nI 1 := hb3.symm
            have hl : lv_has ls 5 [(4, .int (nI (c + 1))), (3, .int (b2 (qOpen F hm w (c + 1)))), (0, .ref (ad (64))), (1, .int (nI w)), (2, .int (nI many))] := by
              have h9 := hl
              revert h9; rw [show Value.int (b2 (qOpen F hm w (c + 1))) = Value.int (nI 1) from congrArg _ el3]; intro h9
              exact h9
            exact ih5 (c + 1) (by omega) (by omega) _ _ ls hw hS (lv_sub hl [2, 3, 4, 1, 0] rfl)
          · skip
            refine lv_aload_n hx hb d_M_keepsOpen_26 rfl (lv_at hl 0 rfl) ?_
            refine nw_get hx hb hts i_M hown hK hw (64) (mW_64) rfl 4 (by decide) (hts _ kw_663) (fun _ h9 => h9) rfl d_M_keepsOpen_27 ?_
            refine lv_bipush (v := nI 8) hx hb d_M_keepsOpen_30 (by decide) ?_
            refine lv_aload_n hx hb d_M_keepsOpen_32 rfl (lv_at hl 0 rfl) ?_
            refine nw_get hx hb hts i_M hown hK hw (64) (mW_64) rfl 6 (by decide) (hts _ kw_665) (fun _ h9 => h9) rfl d_M_keepsOpen_33 ?_
            refine lv_iload hx hb d_M_keepsOpen_36 (lv_at hl 4 rfl) ?_
            refine nw_iald hx hb hK hw (182) 0 (mW_row (t := 5) (j := 2) (by decide) (by decide) (rfl)) rfl (c) (rfl) (by omega) (by omega) d_M_keepsOpen_38 ?_
            refine lv_ei (y := F 5 2 c) (congrFun (hsc 5 2 (by omega)) _) ?_
            refine lv_ei (y := nI (hm c)) (hmc.1) ?_
            refine lv_imul hx hb d_M_keepsOpen_39 ?_
            refine lv_iload_n hx hb d_M_keepsOpen_40 rfl (lv_at hl 1 rfl) ?_
            refine lv_iadd hx hb d_M_keepsOpen_41 ?_
            refine lv_ei (y := nI (8 * hm c + w)) (ix8 _ _) ?_
            refine nw_zald hx hb hK hw (181) 2 (mW_row (t := 5) (j := 1) (by decide) (by decide) (rfl)) rfl (8 * hm c + w) (rfl) (by omega) (by omega) d_M_keepsOpen_42 ?_
            refine lv_ei (y := F 5 1 (8 * hm c + w)) (congrFun (hsc 5 1 (by omega)) _) ?_
            refine lv_if_ne (tgt := 50) hx hb d_M_keepsOpen_43 (by decide) (fun c_43 => ?_) (fun c_43 => ?_)
            · skip
              have hb3 : nI 0 = b2 (qOpen F hm w (c + 1)) := b2_f (fun h => c_43 (h c (by omega) (b2_1 c_23).2))
              refine lv_iconst (v := nI 0) hx hb d_M_keepsOpen_50 (by decide) ?_
              refine lv_istore_n (lv' := [(3, .int (nI 0)), (0, .ref (ad (64))), (1, .int (nI w)), (2, .int (nI many)), (4, .int (nI c))]) hx hb d_M_keepsOpen_51 rfl hl (by decide) rfl (fun ls hl => ?_)
              refine lv_iinc (v := nI (c + 1)) (lv' := [(4, .int (nI (c + 1))), (3, .int (nI 0)), (0, .ref (ad (64))), (1, .int (nI w)), (2, .int (nI many))]) hx hb d_M_keepsOpen_52 hl (k := 4) rfl ((nI_succ _).symm) (by decide) rfl (fun ls hl => ?_)
              refine lv_goto (tgt := 5) hx hb d_M_keepsOpen_55 (by decide) ?_
              have el3 : b2 (qOpen F hm w (c + 1)) = nI 0 := hb3.symm
              have hl : lv_has ls 5 [(4, .int (nI (c + 1))), (3, .int (b2 (qOpen F hm w (c + 1)))), (0, .ref (ad (64))), (1, .int (nI w)), (2, .int (nI many))] := by
                have h9 := hl
                revert h9; rw [show Value.int (b2 (qOpen F hm w (c + 1))) = Value.int (nI 0) from congrArg _ el3]; intro h9
                exact h9
              exact ih5 (c + 1) (by omega) (by omega) _ _ ls hw hS (lv_sub hl [2, 3, 4, 1, 0] rfl)
            · skip
              have hb3 : nI 1 = b2 (qOpen F hm w (c + 1)) := b2_t (lt_s (b2_1 c_12) (fun _ => c_43))
              refine lv_iconst (v := nI 1) hx hb d_M_keepsOpen_46 (by decide) ?_
              refine lv_goto (tgt := 51) hx hb d_M_keepsOpen_47 (by decide) ?_
              refine lv_istore_n (lv' := [(3, .int (nI 1)), (0, .ref (ad (64))), (1, .int (nI w)), (2, .int (nI many)), (4, .int (nI c))]) hx hb d_M_keepsOpen_51 rfl hl (by decide) rfl (fun ls hl => ?_)
              refine lv_iinc (v := nI (c + 1)) (lv' := [(4, .int (nI (c + 1))), (3, .int (nI 1)), (0, .ref (ad (64))), (1, .int (nI w)), (2, .int (nI many))]) hx hb d_M_keepsOpen_52 hl (k := 4) rfl ((nI_succ _).symm) (by decide) rfl (fun ls hl => ?_)
              refine lv_goto (tgt := 5) hx hb d_M_keepsOpen_55 (by decide) ?_
              have el3 : b2 (qOpen F hm w (c + 1)) = nI 1 := hb3.symm
              have hl : lv_has ls 5 [(4, .int (nI (c + 1))), (3, .int (b2 (qOpen F hm w (c + 1)))), (0, .ref (ad (64))), (1, .int (nI w)), (2, .int (nI many))] := by
                have h9 := hl
                revert h9; rw [show Value.int (b2 (qOpen F hm w (c + 1))) = Value.int (nI 1) from congrArg _ el3]; intro h9
                exact h9
              exact ih5 (c + 1) (by omega) (by omega) _ _ ls hw hS (lv_sub hl [2, 3, 4, 1, 0] rfl)
  exact loop5 (many + 1) (0) (by omega) (by omega) _ _ ls hw hS (lv_sub hl [2, 3, 4, 1, 0] rfl)

set_option maxHeartbeats 4000000 in
set_option maxRecDepth 100000 in
/-- HELD -/
theorem c_M_keepsHeld (l : Launch) (D : va_G) (tC : Nat → ClassId) (A : Nat → Prop) (ad : Nat → Nat) (n : Nat → Nat) (J : Nat → Int32) (bw : Int64) (L : Nat → Nat → Int64) (bX : Nat → Option va_E) (aY : Nat → Nat → Option (ClassId × Nat)) (F S : Nat → Nat → Nat → Int32) (hsc : scm F S) (hN : hpN n) (w : Nat) (hw8 : w < n 0) : nw_Met l y_M_keepsHeld [Cond.code y_M_keepsHeld b_M_keepsHeld 7 (some .boolean)] ({ frames := 1, cells := 0, slots := 0, locals := 22 } : Room) D hpC A [.ref (ad (64)), .int (nI w)] (nw_pre D hpC (hpT tC) A (mW ad tC n J bw L bX aY S) ad) (nw_ok (some (.int (b2 (qHeld n F w)))) (mW ad tC n J bw L bX aY S) ad) 0 0 := by
  refine nw_bodyK (by decide) (Nat.le_of_ble_eq_true rfl) ?_
  intro p e s m below meth cd ls args Q hSx hr hlocks hname hA hKs hw hS hl hQ
  obtain ⟨hx, hb, hml, hown, hts⟩ := id hSx
  have hK := hKs.1
  have hl : lv_has ls 7 [(0, .ref (ad (64))), (1, .int (nI w))] := hl
  obtain ⟨hn0, hn0', hn1, hn2, hn3, hn4⟩ := id hN
  refine lv_iconst (v := nI 1) hx hb d_M_keepsHeld_0 (by decide) ?_
  refine lv_istore_n (lv' := [(2, .int (nI 1)), (0, .ref (ad (64))), (1, .int (nI w))]) hx hb d_M_keepsHeld_1 rfl hl (by decide) rfl (fun ls hl => ?_)
  refine lv_iconst (v := nI 0) hx hb d_M_keepsHeld_2 (by decide) ?_
  refine lv_istore_n (lv' := [(3, .int (nI 0)), (2, .int (nI 1)), (0, .ref (ad (64))), (1, .int (nI w))]) hx hb d_M_keepsHeld_3 rfl hl (by decide) rfl (fun ls hl => ?_)
  have el2 : b2 (qHeldP n F w 0) = nI 1 := (b2_t (fun j hj => absurd hj (Nat.not_lt_zero j))).symm
  have hl : lv_has ls 7 [(3, .int (nI 0)), (2, .int (b2 (qHeldP n F w 0))), (0, .ref (ad (64))), (1, .int (nI w))] := by
    have h9 := hl
    revert h9; rw [show Value.int (b2 (qHeldP n F w 0)) = Value.int (nI 1) from congrArg _ el2]; intro h9
    exact h9
  have loop4 : ∀ (k pp : Nat), pp ≤ n 1 → n 1 + 1 ≤ pp + k → ∀ (H : Heap) (locs : List Loc) (ls : Array Slot), nw_W D hpC A (mW ad tC n J bw L bX aY S) ad H → va_S A s.heap H locs → lv_has ls 7 [(0, .ref (ad (64))), (1, .int (nI w)), (2, .int (b2 (qHeldP n F w pp))), (3, .int (nI pp))] → W p l e ({ frames := 1, cells := 0, slots := 0, locals := 22 } : Room) s m args below meth cd H locs 0 0 Q (F0 m 4 ls []) := by
    intro k
    induction k with
    | zero => intro pp h1 h2; exact absurd h2 (by omega)
    | succ k ih4 =>
      intro pp hv4 hk4 H locs ls hw hS hl
      refine lv_iload_n hx hb d_M_keepsHeld_4 rfl (lv_at hl 3 rfl) ?_
      refine lv_aload_n hx hb d_M_keepsHeld_5 rfl (lv_at hl 0 rfl) ?_
      refine nw_get hx hb hts i_M hown hK hw (64) (mW_64) rfl 2 (by decide) (hts _ kw_661) (fun _ h9 => h9) rfl d_M_keepsHeld_6 ?_
      refine lv_icmp_ge (tgt := 100) hx hb d_M_keepsHeld_9 (by decide) (fun c_9 => ?_) (fun c_9 => ?_)
      · skip
        have hge9 : n 1 ≤ pp := (nI_leI (by omega) (by omega)).mp c_9
        obtain rfl : n 1 = pp := by omega
        refine lv_iload_n hx hb d_M_keepsHeld_100 rfl (lv_at hl 2 rfl) ?_
        exact nw_zret hQ hx hb hr (by by_cases h : qHeldP n F w (n 1); exact Or.inr (b2_t h).symm; exact Or.inl (b2_f h).symm) hlocks hw hS (nw_ok_rf) (Nat.le_of_ble_eq_true rfl) (Nat.le_of_ble_eq_true rfl) d_M_keepsHeld_101
      · skip
        have hlt : pp < n 1 := Nat.not_le.mp (fun q => c_9 (nI_le q (by omega)))
        refine lv_lconst (v := 0) hx hb d_M_keepsHeld_12 (by decide) ?_
        refine lv_lstore (lv' := [(4, .long (0)), (0, .ref (ad (64))), (1, .int (nI w)), (2, .int (b2 (qHeldP n F w pp))), (3, .int (nI pp))]) hx hb d_M_keepsHeld_13 hl (by decide) rfl (fun ls hl => ?_)
        refine lv_iconst (v := nI 0) hx hb d_M_keepsHeld_15 (by decide) ?_
        refine lv_istore (lv' := [(6, .int (nI 0)), (4, .long (0)), (0, .ref (ad (64))), (1, .int (nI w)), (2, .int (b2 (qHeldP n F w pp))), (3, .int (nI pp))]) hx hb d_M_keepsHeld_16 hl (by decide) rfl (fun ls hl => ?_)
        have loop18 : ∀ (k c : Nat), c ≤ n 2 → n 2 + 1 ≤ c + k → ∀ (H : Heap) (locs : List Loc) (ls : Array Slot), nw_W D hpC A (mW ad tC n J bw L bX aY S) ad H → va_S A s.heap H locs → lv_has ls 7 [(0, .ref (ad (64))), (1, .int (nI w)), (2, .int (b2 (qHeldP n F w pp))), (3, .int (nI pp)), (4, .long (mhS F w pp c)), (6, .int (nI c))] → W p l e ({ frames := 1, cells := 0, slots := 0, locals := 22 } : Room) s m args below meth cd H locs 0 0 Q (F0 m 18 ls []) := by
          intro k
          induction k with
          | zero => intro c h1 h2; exact absurd h2 (by omega)
          | succ k ih18 =>
            intro c hv18 hk18 H locs ls hw hS hl
            refine lv_iload hx hb d_M_keepsHeld_18 (lv_at hl 5 rfl) ?_
            refine lv_aload_n hx hb d_M_keepsHeld_20 rfl (lv_at hl 0 rfl) ?_
            refine nw_get hx hb hts i_M hown hK hw (64) (mW_64) rfl 5 (by decide) (hts _ kw_664) (fun _ h9 => h9) rfl d_M_keepsHeld_21 ?_
            refine lv_icmp_ge (tgt := 71) hx hb d_M_keepsHeld_24 (by decide) (fun c_24 => ?_) (fun c_24 => ?_)
            · skip
              have hge24 : n 2 ≤ c := (nI_leI (by omega) (by omega)).mp c_24
              obtain rfl : n 2 = c := by omega
              refine lv_iload_n hx hb d_M_keepsHeld_71 rfl (lv_at hl 2 rfl) ?_
              refine lv_if_eq (tgt := 92) hx hb d_M_keepsHeld_72 (by decide) (fun c_72 => ?_) (fun c_72 => ?_)
              · skip
                have hb2 : nI 0 = b2 (qHeldP n F w (pp + 1)) := b2_f (fun h => b2_0 c_72 (fun j hj => h j (by omega)))
                refine lv_iconst (v := nI 0) hx hb d_M_keepsHeld_92 (by decide) ?_
                refine lv_istore_n (lv' := [(2, .int (nI 0)), (0, .ref (ad (64))), (1, .int (nI w)), (3, .int (nI pp)), (4, .long (mhS F w pp (n 2))), (6, .int (nI (n 2)))]) hx hb d_M_keepsHeld_93 rfl hl (by decide) rfl (fun ls hl => ?_)
                refine lv_iinc (v := nI (pp + 1)) (lv' := [(3, .int (nI (pp + 1))), (2, .int (nI 0)), (0, .ref (ad (64))), (1, .int (nI w)), (4, .long (mhS F w pp (n 2))), (6, .int (nI (n 2)))]) hx hb d_M_keepsHeld_94 hl (k := 3) rfl ((nI_succ _).symm) (by decide) rfl (fun ls hl => ?_)
                refine lv_goto (tgt := 4) hx hb d_M_keepsHeld_97 (by decide) ?_
                have el2 : b2 (qHeldP n F w (pp + 1)) = nI 0 := hb2.symm
                have hl : lv_has ls 7 [(3, .int (nI (pp + 1))), (2, .int (b2 (qHeldP n F w (pp + 1)))), (0, .ref (ad (64))), (1, .int (nI w)), (4, .long (mhS F w pp (n 2))), (6, .int (nI (n 2)))] := by
                  have h9 := hl
                  revert h9; rw [show Value.int (b2 (qHeldP n F w (pp + 1))) = Value.int (nI 0) from congrArg _ el2]; intro h9
                  exact h9
                exact ih4 (pp + 1) (by omega) (by omega) _ _ ls hw hS (lv_sub hl [2, 3, 1, 0] rfl)
              · skip
                refine lv_lload hx hb d_M_keepsHeld_75 (lv_at hl 4 rfl) ?_
                refine lv_aload_n hx hb d_M_keepsHeld_77 rfl (lv_at hl 0 rfl) ?_
                refine nw_get hx hb hts i_M hown hK hw (64) (mW_64) rfl 3 (by decide) (hts _ kw_662) (fun _ h9 => h9) rfl d_M_keepsHeld_78 ?_
                refine lv_iload_n hx hb d_M_keepsHeld_81 rfl (lv_at hl 3 rfl) ?_
                refine nw_iald hx hb hK hw (180) 0 (mW_row (t := 5) (j := 0) (by decide) (by decide) (rfl)) rfl (pp) (rfl) (by omega) (by omega) d_M_keepsHeld_82 ?_
                refine lv_ei (y := F 5 0 pp) (congrFun (hsc 5 0 (by omega)) _) ?_
                refine lv_i2l (v := ((F 5 0 pp).toInt64)) hx hb d_M_keepsHeld_83 rfl ?_
                refine W.lcmp hx hb d_M_keepsHeld_84 ?_
                refine lv_if_gt (tgt := 92) hx hb d_M_keepsHeld_85 (by decide) (fun c_85 => ?_) (fun c_85 => ?_)
                · skip
                  have hb2 : nI 0 = b2 (qHeldP n F w (pp + 1)) := b2_f (fun h => Int64.not_le.mpr ((lg_cmp_gt _ _).mp c_85) (h pp (by omega)))
                  refine lv_iconst (v := nI 0) hx hb d_M_keepsHeld_92 (by decide) ?_
                  refine lv_istore_n (lv' := [(2, .int (nI 0)), (0, .ref (ad (64))), (1, .int (nI w)), (3, .int (nI pp)), (4, .long (mhS F w pp (n 2))), (6, .int (nI (n 2)))]) hx hb d_M_keepsHeld_93 rfl hl (by decide) rfl (fun ls hl => ?_)
                  refine lv_iinc (v := nI (pp + 1)) (lv' := [(3, .int (nI (pp + 1))), (2, .int (nI 0)), (0, .ref (ad (64))), (1, .int (nI w)), (4, .long (mhS F w pp (n 2))), (6, .int (nI (n 2)))]) hx hb d_M_keepsHeld_94 hl (k := 3) rfl ((nI_succ _).symm) (by decide) rfl (fun ls hl => ?_)
                  refine lv_goto (tgt := 4) hx hb d_M_keepsHeld_97 (by decide) ?_
                  have el2 : b2 (qHeldP n F w (pp + 1)) = nI 0 := hb2.symm
                  have hl : lv_has ls 7 [(3, .int (nI (pp + 1))), (2, .int (b2 (qHeldP n F w (pp + 1)))), (0, .ref (ad (64))), (1, .int (nI w)), (4, .long (mhS F w pp (n 2))), (6, .int (nI (n 2)))] := by
                    have h9 := hl
                    revert h9; rw [show Value.int (b2 (qHeldP n F w (pp + 1))) = Value.int (nI 0) from congrArg _ el2]; intro h9
                    exact h9
                  exact ih4 (pp + 1) (by omega) (by omega) _ _ ls hw hS (lv_sub hl [2, 3, 1, 0] rfl)
                · skip
                  have hb2 : nI 1 = b2 (qHeldP n F w (pp + 1)) := b2_t (lt_s (b2_1 c_72) (Int64.not_lt.mp (fun h => c_85 ((lg_cmp_gt _ _).mpr h))))
                  refine lv_iconst (v := nI 1) hx hb d_M_keepsHeld_88 (by decide) ?_
                  refine lv_goto (tgt := 93) hx hb d_M_keepsHeld_89 (by decide) ?_
                  refine lv_istore_n (lv' := [(2, .int (nI 1)), (0, .ref (ad (64))), (1, .int (nI w)), (3, .int (nI pp)), (4, .long (mhS F w pp (n 2))), (6, .int (nI (n 2)))]) hx hb d_M_keepsHeld_93 rfl hl (by decide) rfl (fun ls hl => ?_)
                  refine lv_iinc (v := nI (pp + 1)) (lv' := [(3, .int (nI (pp + 1))), (2, .int (nI 1)), (0, .ref (ad (64))), (1, .int (nI w)), (4, .long (mhS F w pp (n 2))), (6, .int (nI (n 2)))]) hx hb d_M_keepsHeld_94 hl (k := 3) rfl ((nI_succ _).symm) (by decide) rfl (fun ls hl => ?_)
                  refine lv_goto (tgt := 4) hx hb d_M_keepsHeld_97 (by decide) ?_
                  have el2 : b2 (qHeldP n F w (pp + 1)) = nI 1 := hb2.symm
                  have hl : lv_has ls 7 [(3, .int (nI (pp + 1))), (2, .int (b2 (qHeldP n F w (pp + 1)))), (0, .ref (ad (64))), (1, .int (nI w)), (4, .long (mhS F w pp (n 2))), (6, .int (nI (n 2)))] := by
                    have h9 := hl
                    revert h9; rw [show Value.int (b2 (qHeldP n F w (pp + 1))) = Value.int (nI 1) from congrArg _ el2]; intro h9
                    exact h9
                  exact ih4 (pp + 1) (by omega) (by omega) _ _ ls hw hS (lv_sub hl [2, 3, 1, 0] rfl)
            · skip
              have hlt : c < n 2 := Nat.not_le.mp (fun q => c_24 (nI_le q (by omega)))
              refine lv_lload hx hb d_M_keepsHeld_27 (lv_at hl 4 rfl) ?_
              refine lv_aload_n hx hb d_M_keepsHeld_29 rfl (lv_at hl 0 rfl) ?_
              refine nw_get hx hb hts i_M hown hK hw (64) (mW_64) rfl 6 (by decide) (hts _ kw_665) (fun _ h9 => h9) rfl d_M_keepsHeld_30 ?_
              refine lv_iload hx hb d_M_keepsHeld_33 (lv_at hl 5 rfl) ?_
              refine nw_iald hx hb hK hw (182) 0 (mW_row (t := 5) (j := 2) (by decide) (by decide) (rfl)) rfl (c) (rfl) (by omega) (by omega) d_M_keepsHeld_35 ?_
              refine lv_ei (y := F 5 2 c) (congrFun (hsc 5 2 (by omega)) _) ?_
              refine lv_iload_n hx hb d_M_keepsHeld_36 rfl (lv_at hl 3 rfl) ?_
              refine lv_icmp_ne (tgt := 61) hx hb d_M_keepsHeld_37 (by decide) (fun c_37 => ?_) (fun c_37 => ?_)
              · skip
                have e4 : mhS F w pp (c + 1) = mhS F w pp c + 0 := mhS_f (fun h => c_37 h.1)
                refine lv_lconst (v := 0) hx hb d_M_keepsHeld_61 (by decide) ?_
                refine lv_ladd hx hb d_M_keepsHeld_62 ?_
                refine lv_lstore (lv' := [(4, .long (((mhS F w pp c) + (0)))), (0, .ref (ad (64))), (1, .int (nI w)), (2, .int (b2 (qHeldP n F w pp))), (3, .int (nI pp)), (6, .int (nI c))]) hx hb d_M_keepsHeld_63 hl (by decide) rfl (fun ls hl => ?_)
                refine lv_iinc (v := nI (c + 1)) (lv' := [(6, .int (nI (c + 1))), (4, .long (((mhS F w pp c) + (0)))), (0, .ref (ad (64))), (1, .int (nI w)), (2, .int (b2 (qHeldP n F w pp))), (3, .int (nI pp))]) hx hb d_M_keepsHeld_65 hl (k := 5) rfl ((nI_succ _).symm) (by decide) rfl (fun ls hl => ?_)
                refine lv_goto (tgt := 18) hx hb d_M_keepsHeld_68 (by decide) ?_
                have el4 : mhS F w pp (c + 1) = ((mhS F w pp c) + (0)) := e4
                have hl : lv_has ls 7 [(6, .int (nI (c + 1))), (4, .long (mhS F w pp (c + 1))), (0, .ref (ad (64))), (1, .int (nI w)), (2, .int (b2 (qHeldP n F w pp))), (3, .int (nI pp))] := by
                  have h9 := hl
                  revert h9; rw [show Value.long (mhS F w pp (c + 1)) = Value.long (((mhS F w pp c) + (0))) from congrArg _ el4]; intro h9
                  exact h9
                exact ih18 (c + 1) (by omega) (by omega) _ _ ls hw hS (lv_sub hl [2, 3, 4, 5, 1, 0] rfl)
              · skip
                refine lv_aload_n hx hb d_M_keepsHeld_40 rfl (lv_at hl 0 rfl) ?_
                refine nw_get hx hb hts i_M hown hK hw (64) (mW_64) rfl 24 (by decide) (hts _ kw_683) (fun _ h9 => h9) rfl d_M_keepsHeld_41 ?_
                refine lv_iload hx hb d_M_keepsHeld_44 (lv_at hl 5 rfl) ?_
                refine nw_iald hx hb hK hw (194) 0 (mW_row (t := 5) (j := 14) (by decide) (by decide) (rfl)) rfl (c) (rfl) (by omega) (by omega) d_M_keepsHeld_46 ?_
                refine lv_ei (y := F 5 14 c) (congrFun (hsc 5 14 (by omega)) _) ?_
                refine lv_iload_n hx hb d_M_keepsHeld_47 rfl (lv_at hl 1 rfl) ?_
                refine lv_icmp_lt (tgt := 61) hx hb d_M_keepsHeld_48 (by decide) (fun c_48 => ?_) (fun c_48 => ?_)
                · skip
                  have e4 : mhS F w pp (c + 1) = mhS F w pp c + 0 := mhS_f (fun h => Int32.not_le.mpr c_48 h.2)
                  refine lv_lconst (v := 0) hx hb d_M_keepsHeld_61 (by decide) ?_
                  refine lv_ladd hx hb d_M_keepsHeld_62 ?_
                  refine lv_lstore (lv' := [(4, .long (((mhS F w pp c) + (0)))), (0, .ref (ad (64))), (1, .int (nI w)), (2, .int (b2 (qHeldP n F w pp))), (3, .int (nI pp)), (6, .int (nI c))]) hx hb d_M_keepsHeld_63 hl (by decide) rfl (fun ls hl => ?_)
                  refine lv_iinc (v := nI (c + 1)) (lv' := [(6, .int (nI (c + 1))), (4, .long (((mhS F w pp c) + (0)))), (0, .ref (ad (64))), (1, .int (nI w)), (2, .int (b2 (qHeldP n F w pp))), (3, .int (nI pp))]) hx hb d_M_keepsHeld_65 hl (k := 5) rfl ((nI_succ _).symm) (by decide) rfl (fun ls hl => ?_)
                  refine lv_goto (tgt := 18) hx hb d_M_keepsHeld_68 (by decide) ?_
                  have el4 : mhS F w pp (c + 1) = ((mhS F w pp c) + (0)) := e4
                  have hl : lv_has ls 7 [(6, .int (nI (c + 1))), (4, .long (mhS F w pp (c + 1))), (0, .ref (ad (64))), (1, .int (nI w)), (2, .int (b2 (qHeldP n F w pp))), (3, .int (nI pp))] := by
                    have h9 := hl
                    revert h9; rw [show Value.long (mhS F w pp (c + 1)) = Value.long (((mhS F w pp c) + (0))) from congrArg _ el4]; intro h9
                    exact h9
                  exact ih18 (c + 1) (by omega) (by omega) _ _ ls hw hS (lv_sub hl [2, 3, 4, 5, 1, 0] rfl)
                · skip
                  have e4 : mhS F w pp (c + 1) = mhS F w pp c + kM F c w := mhS_t c_37 (Int32.not_lt.mp c_48)
                  refine lv_aload_n hx hb d_M_keepsHeld_51 rfl (lv_at hl 0 rfl) ?_
                  refine lv_iload hx hb d_M_keepsHeld_52 (lv_at hl 5 rfl) ?_
                  refine lv_iload_n hx hb d_M_keepsHeld_54 rfl (lv_at hl 1 rfl) ?_
                  refine nw_callD (nw_goV (n := 2) (As := [.int (nI c), .int (nI w)]) (rest := [.long (mhS F w pp c)]) hSx hA hKs hw hS (c_M_kilos l D tC A ad n J bw L bX aY F S hsc hN c w (by omega) (by omega)) kw_792 kw_789 kw_791 ks_M_kilos kw_8 rfl rfl (by decide +kernel) ⟨Nat.le_of_ble_eq_true rfl, Nat.le_of_ble_eq_true rfl⟩ (nw_recv hK hw (mW_64) rfl) rfl hl.1 (Nat.le_of_ble_eq_true rfl) d_M_keepsHeld_55 ⟨Nat.le_of_ble_eq_true rfl, Nat.le_of_ble_eq_true rfl⟩) hS (fun H locs hw hS => ?_)
                  refine lv_goto (tgt := 62) hx hb d_M_keepsHeld_58 (by decide) ?_
                  refine lv_ladd hx hb d_M_keepsHeld_62 ?_
                  refine lv_lstore (lv' := [(4, .long (((mhS F w pp c) + (kM F c w)))), (0, .ref (ad (64))), (1, .int (nI w)), (2, .int (b2 (qHeldP n F w pp))), (3, .int (nI pp)), (6, .int (nI c))]) hx hb d_M_keepsHeld_63 hl (by decide) rfl (fun ls hl => ?_)
                  refine lv_iinc (v := nI (c + 1)) (lv' := [(6, .int (nI (c + 1))), (4, .long (((mhS F w pp c) + (kM F c w)))), (0, .ref (ad (64))), (1, .int (nI w)), (2, .int (b2 (qHeldP n F w pp))), (3, .int (nI pp))]) hx hb d_M_keepsHeld_65 hl (k := 5) rfl ((nI_succ _).symm) (by decide) rfl (fun ls hl => ?_)
                  refine lv_goto (tgt := 18) hx hb d_M_keepsHeld_68 (by decide) ?_
                  have el4 : mhS F w pp (c + 1) = ((mhS F w pp c) + (kM F c w)) := e4
                  have hl : lv_has ls 7 [(6, .int (nI (c + 1))), (4, .long (mhS F w pp (c + 1))), (0, .ref (ad (64))), (1, .int (nI w)), (2, .int (b2 (qHeldP n F w pp))), (3, .int (nI pp))] := by
                    have h9 := hl
                    revert h9; rw [show Value.long (mhS F w pp (c + 1)) = Value.long (((mhS F w pp c) + (kM F c w))) from congrArg _ el4]; intro h9
                    exact h9
                  exact ih18 (c + 1) (by omega) (by omega) _ _ ls hw hS (lv_sub hl [2, 3, 4, 5, 1, 0] rfl)
        exact loop18 (n 2 + 1) (0) (by omega) (by omega) _ _ ls hw hS (lv_sub hl [2, 3, 4, 5, 1, 0] rfl)
  exact loop4 (n 1 + 1) (0) (by omega) (by omega) _ _ ls hw hS (lv_sub hl [2, 3, 1, 0] rfl)
end
