-- ===== PART A: goes FIRST, ahead of the names: the tables' words, and 'selects' of the private methods out of them =====
/-- a private method of a class that the tables say can be made, by its rows of tables_1 -/
def lw_okq (q : MethodName × Nat) : Prop := (q.1.cls ≠ "java/lang/invoke/MethodHandle" ∧ q.1.cls ≠ "java/lang/invoke/VarHandle") ∧ Cond.instantiable q.1.cls q.2 ∈ tables_1 ∧ Cond.privateMethod q.1 ∈ tables_1 ∧ Cond.instanceMethod q.1 ∈ tables_1
theorem lw_p0 : lw_okq (⟨"SleptWitness", "resize", "(II)I"⟩, 15) := ⟨⟨by decide +kernel, by decide +kernel⟩, List.mem_of_getElem? (i := 20) (by decide +kernel), List.mem_of_getElem? (i := 277) (by decide +kernel), List.mem_of_getElem? (i := 278) (by decide +kernel)⟩
theorem lw_p1 : lw_okq (⟨"SleptWitness", "makeBeds", "(LSleptWitness$Text;)V"⟩, 15) := ⟨⟨by decide +kernel, by decide +kernel⟩, List.mem_of_getElem? (i := 20) (by decide +kernel), List.mem_of_getElem? (i := 281) (by decide +kernel), List.mem_of_getElem? (i := 282) (by decide +kernel)⟩
theorem lw_p2 : lw_okq (⟨"SleptWitness", "tellDeeds", "(LSleptWitness$Text;)V"⟩, 15) := ⟨⟨by decide +kernel, by decide +kernel⟩, List.mem_of_getElem? (i := 20) (by decide +kernel), List.mem_of_getElem? (i := 392) (by decide +kernel), List.mem_of_getElem? (i := 393) (by decide +kernel)⟩
theorem lw_p3 : lw_okq (⟨"SleptWitness$Night", "lieDown", "(LSleptWitness$Sleeper;)V"⟩, 9) := ⟨⟨by decide +kernel, by decide +kernel⟩, List.mem_of_getElem? (i := 113) (by decide +kernel), List.mem_of_getElem? (i := 437) (by decide +kernel), List.mem_of_getElem? (i := 438) (by decide +kernel)⟩
theorem lw_p4 : lw_okq (⟨"SleptWitness$Night", "meet", "(LSleptWitness$Sleeper;LSleptWitness$Deeds;I)V"⟩, 9) := ⟨⟨by decide +kernel, by decide +kernel⟩, List.mem_of_getElem? (i := 113) (by decide +kernel), List.mem_of_getElem? (i := 444) (by decide +kernel), List.mem_of_getElem? (i := 445) (by decide +kernel)⟩
theorem lw_p5 : lw_okq (⟨"SleptWitness$Night", "testifies", "(III[I)Z"⟩, 9) := ⟨⟨by decide +kernel, by decide +kernel⟩, List.mem_of_getElem? (i := 113) (by decide +kernel), List.mem_of_getElem? (i := 476) (by decide +kernel), List.mem_of_getElem? (i := 477) (by decide +kernel)⟩
theorem lw_p6 : lw_okq (⟨"SleptWitness$Night", "wokenOfLate", "(II)Z"⟩, 9) := ⟨⟨by decide +kernel, by decide +kernel⟩, List.mem_of_getElem? (i := 113) (by decide +kernel), List.mem_of_getElem? (i := 480) (by decide +kernel), List.mem_of_getElem? (i := 481) (by decide +kernel)⟩
theorem lw_p7 : lw_okq (⟨"SleptWitness", "hearAll", "(LSleptWitness$Deeds;)V"⟩, 15) := ⟨⟨by decide +kernel, by decide +kernel⟩, List.mem_of_getElem? (i := 20) (by decide +kernel), List.mem_of_getElem? (i := 488) (by decide +kernel), List.mem_of_getElem? (i := 489) (by decide +kernel)⟩
theorem lw_p8 : lw_okq (⟨"SleptWitness", "seenBy", "(I)I"⟩, 15) := ⟨⟨by decide +kernel, by decide +kernel⟩, List.mem_of_getElem? (i := 20) (by decide +kernel), List.mem_of_getElem? (i := 523) (by decide +kernel), List.mem_of_getElem? (i := 524) (by decide +kernel)⟩
theorem lw_p9 : lw_okq (⟨"SleptWitness", "testifyingIn", "(I)I"⟩, 15) := ⟨⟨by decide +kernel, by decide +kernel⟩, List.mem_of_getElem? (i := 20) (by decide +kernel), List.mem_of_getElem? (i := 535) (by decide +kernel), List.mem_of_getElem? (i := 536) (by decide +kernel)⟩
theorem lw_p10 : lw_okq (⟨"SleptWitness", "provenOf", "(LSleptWitness$Deeds;)I"⟩, 15) := ⟨⟨by decide +kernel, by decide +kernel⟩, List.mem_of_getElem? (i := 20) (by decide +kernel), List.mem_of_getElem? (i := 547) (by decide +kernel), List.mem_of_getElem? (i := 548) (by decide +kernel)⟩
theorem lw_p11 : lw_okq (⟨"SleptWitness", "found", "(I)I"⟩, 15) := ⟨⟨by decide +kernel, by decide +kernel⟩, List.mem_of_getElem? (i := 20) (by decide +kernel), List.mem_of_getElem? (i := 588) (by decide +kernel), List.mem_of_getElem? (i := 589) (by decide +kernel)⟩
theorem lw_p12 : lw_okq (⟨"SleptWitness", "comesOut", "()Z"⟩, 15) := ⟨⟨by decide +kernel, by decide +kernel⟩, List.mem_of_getElem? (i := 20) (by decide +kernel), List.mem_of_getElem? (i := 601) (by decide +kernel), List.mem_of_getElem? (i := 602) (by decide +kernel)⟩
theorem lw_p13 : lw_okq (⟨"SleptWitness", "mostAlike", "(II)I"⟩, 15) := ⟨⟨by decide +kernel, by decide +kernel⟩, List.mem_of_getElem? (i := 20) (by decide +kernel), List.mem_of_getElem? (i := 614) (by decide +kernel), List.mem_of_getElem? (i := 615) (by decide +kernel)⟩
theorem lw_p14 : lw_okq (⟨"SleptWitness", "spreadWays", "(II)V"⟩, 15) := ⟨⟨by decide +kernel, by decide +kernel⟩, List.mem_of_getElem? (i := 20) (by decide +kernel), List.mem_of_getElem? (i := 627) (by decide +kernel), List.mem_of_getElem? (i := 628) (by decide +kernel)⟩
theorem lw_p15 : lw_okq (⟨"SleptWitness", "findingAt", "(LSleptWitness$Sheet;II)I"⟩, 15) := ⟨⟨by decide +kernel, by decide +kernel⟩, List.mem_of_getElem? (i := 20) (by decide +kernel), List.mem_of_getElem? (i := 662) (by decide +kernel), List.mem_of_getElem? (i := 663) (by decide +kernel)⟩
def lw_privs_1 : List (MethodName × Nat) := [(⟨"SleptWitness", "resize", "(II)I"⟩, 15), (⟨"SleptWitness", "makeBeds", "(LSleptWitness$Text;)V"⟩, 15), (⟨"SleptWitness", "tellDeeds", "(LSleptWitness$Text;)V"⟩, 15), (⟨"SleptWitness$Night", "lieDown", "(LSleptWitness$Sleeper;)V"⟩, 9), (⟨"SleptWitness$Night", "meet", "(LSleptWitness$Sleeper;LSleptWitness$Deeds;I)V"⟩, 9), (⟨"SleptWitness$Night", "testifies", "(III[I)Z"⟩, 9), (⟨"SleptWitness$Night", "wokenOfLate", "(II)Z"⟩, 9), (⟨"SleptWitness", "hearAll", "(LSleptWitness$Deeds;)V"⟩, 15), (⟨"SleptWitness", "seenBy", "(I)I"⟩, 15), (⟨"SleptWitness", "testifyingIn", "(I)I"⟩, 15), (⟨"SleptWitness", "provenOf", "(LSleptWitness$Deeds;)I"⟩, 15), (⟨"SleptWitness", "found", "(I)I"⟩, 15), (⟨"SleptWitness", "comesOut", "()Z"⟩, 15), (⟨"SleptWitness", "mostAlike", "(II)I"⟩, 15), (⟨"SleptWitness", "spreadWays", "(II)V"⟩, 15), (⟨"SleptWitness", "findingAt", "(LSleptWitness$Sheet;II)I"⟩, 15)]
theorem lw_r1 : ∀ q ∈ lw_privs_1, lw_okq q := List.forall_mem_cons.mpr ⟨lw_p0, List.forall_mem_cons.mpr ⟨lw_p1, List.forall_mem_cons.mpr ⟨lw_p2, List.forall_mem_cons.mpr ⟨lw_p3, List.forall_mem_cons.mpr ⟨lw_p4, List.forall_mem_cons.mpr ⟨lw_p5, List.forall_mem_cons.mpr ⟨lw_p6, List.forall_mem_cons.mpr ⟨lw_p7, List.forall_mem_cons.mpr ⟨lw_p8, List.forall_mem_cons.mpr ⟨lw_p9, List.forall_mem_cons.mpr ⟨lw_p10, List.forall_mem_cons.mpr ⟨lw_p11, List.forall_mem_cons.mpr ⟨lw_p12, List.forall_mem_cons.mpr ⟨lw_p13, List.forall_mem_cons.mpr ⟨lw_p14, List.forall_mem_cons.mpr ⟨lw_p15, fun _ h => absurd h List.not_mem_nil⟩⟩⟩⟩⟩⟩⟩⟩⟩⟩⟩⟩⟩⟩⟩⟩
theorem lw_p16 : lw_okq (⟨"SleptWitness", "digestSleeper", "(JI)J"⟩, 15) := ⟨⟨by decide +kernel, by decide +kernel⟩, List.mem_of_getElem? (i := 20) (by decide +kernel), List.mem_of_getElem? (i := 702) (by decide +kernel), List.mem_of_getElem? (i := 703) (by decide +kernel)⟩
theorem lw_p17 : lw_okq (⟨"SleptWitness", "digestDeed", "(JI)J"⟩, 15) := ⟨⟨by decide +kernel, by decide +kernel⟩, List.mem_of_getElem? (i := 20) (by decide +kernel), List.mem_of_getElem? (i := 711) (by decide +kernel), List.mem_of_getElem? (i := 712) (by decide +kernel)⟩
theorem lw_p18 : lw_okq (⟨"SleptWitnessModel", "faultOf", "(I)I"⟩, 34) := ⟨⟨by decide +kernel, by decide +kernel⟩, List.mem_of_getElem? (i := 726) (by decide +kernel), List.mem_of_getElem? (i := 858) (by decide +kernel), List.mem_of_getElem? (i := 859) (by decide +kernel)⟩
theorem lw_p19 : lw_okq (⟨"SleptWitnessModel", "readsParts", "(I)I"⟩, 34) := ⟨⟨by decide +kernel, by decide +kernel⟩, List.mem_of_getElem? (i := 726) (by decide +kernel), List.mem_of_getElem? (i := 862) (by decide +kernel), List.mem_of_getElem? (i := 863) (by decide +kernel)⟩
theorem lw_p20 : lw_okq (⟨"SleptWitnessModel", "readsSleeper", "(II)I"⟩, 34) := ⟨⟨by decide +kernel, by decide +kernel⟩, List.mem_of_getElem? (i := 726) (by decide +kernel), List.mem_of_getElem? (i := 866) (by decide +kernel), List.mem_of_getElem? (i := 867) (by decide +kernel)⟩
theorem lw_p21 : lw_okq (⟨"SleptWitnessModel", "figureAt", "(III)I"⟩, 34) := ⟨⟨by decide +kernel, by decide +kernel⟩, List.mem_of_getElem? (i := 726) (by decide +kernel), List.mem_of_getElem? (i := 870) (by decide +kernel), List.mem_of_getElem? (i := 871) (by decide +kernel)⟩
theorem lw_p22 : lw_okq (⟨"SleptWitnessModel", "byteAt", "(II)I"⟩, 34) := ⟨⟨by decide +kernel, by decide +kernel⟩, List.mem_of_getElem? (i := 726) (by decide +kernel), List.mem_of_getElem? (i := 874) (by decide +kernel), List.mem_of_getElem? (i := 875) (by decide +kernel)⟩
theorem lw_p23 : lw_okq (⟨"SleptWitnessModel", "readsDeed", "(II)I"⟩, 34) := ⟨⟨by decide +kernel, by decide +kernel⟩, List.mem_of_getElem? (i := 726) (by decide +kernel), List.mem_of_getElem? (i := 878) (by decide +kernel), List.mem_of_getElem? (i := 879) (by decide +kernel)⟩
theorem lw_p24 : lw_okq (⟨"SleptWitnessModel", "isSleeper", "(I)Z"⟩, 34) := ⟨⟨by decide +kernel, by decide +kernel⟩, List.mem_of_getElem? (i := 726) (by decide +kernel), List.mem_of_getElem? (i := 886) (by decide +kernel), List.mem_of_getElem? (i := 887) (by decide +kernel)⟩
theorem lw_p25 : lw_okq (⟨"SleptWitnessModel", "reads", "()V"⟩, 34) := ⟨⟨by decide +kernel, by decide +kernel⟩, List.mem_of_getElem? (i := 726) (by decide +kernel), List.mem_of_getElem? (i := 890) (by decide +kernel), List.mem_of_getElem? (i := 891) (by decide +kernel)⟩
theorem lw_p26 : lw_okq (⟨"SleptWitnessModel", "sleeperOf", "(II)I"⟩, 34) := ⟨⟨by decide +kernel, by decide +kernel⟩, List.mem_of_getElem? (i := 726) (by decide +kernel), List.mem_of_getElem? (i := 894) (by decide +kernel), List.mem_of_getElem? (i := 895) (by decide +kernel)⟩
theorem lw_p27 : lw_okq (⟨"SleptWitnessModel", "isDeed", "(I)Z"⟩, 34) := ⟨⟨by decide +kernel, by decide +kernel⟩, List.mem_of_getElem? (i := 726) (by decide +kernel), List.mem_of_getElem? (i := 902) (by decide +kernel), List.mem_of_getElem? (i := 903) (by decide +kernel)⟩
theorem lw_p28 : lw_okq (⟨"SleptWitnessModel", "deedOf", "(II)I"⟩, 34) := ⟨⟨by decide +kernel, by decide +kernel⟩, List.mem_of_getElem? (i := 726) (by decide +kernel), List.mem_of_getElem? (i := 906) (by decide +kernel), List.mem_of_getElem? (i := 907) (by decide +kernel)⟩
theorem lw_p29 : lw_okq (⟨"SleptWitnessModel", "depthOf", "(II)I"⟩, 34) := ⟨⟨by decide +kernel, by decide +kernel⟩, List.mem_of_getElem? (i := 726) (by decide +kernel), List.mem_of_getElem? (i := 921) (by decide +kernel), List.mem_of_getElem? (i := 922) (by decide +kernel)⟩
theorem lw_p30 : lw_okq (⟨"SleptWitnessModel", "runsTold", "()V"⟩, 34) := ⟨⟨by decide +kernel, by decide +kernel⟩, List.mem_of_getElem? (i := 726) (by decide +kernel), List.mem_of_getElem? (i := 925) (by decide +kernel), List.mem_of_getElem? (i := 926) (by decide +kernel)⟩
theorem lw_p31 : lw_okq (⟨"SleptWitnessModel", "asTold", "()V"⟩, 34) := ⟨⟨by decide +kernel, by decide +kernel⟩, List.mem_of_getElem? (i := 726) (by decide +kernel), List.mem_of_getElem? (i := 929) (by decide +kernel), List.mem_of_getElem? (i := 930) (by decide +kernel)⟩
def lw_privs_2 : List (MethodName × Nat) := [(⟨"SleptWitness", "digestSleeper", "(JI)J"⟩, 15), (⟨"SleptWitness", "digestDeed", "(JI)J"⟩, 15), (⟨"SleptWitnessModel", "faultOf", "(I)I"⟩, 34), (⟨"SleptWitnessModel", "readsParts", "(I)I"⟩, 34), (⟨"SleptWitnessModel", "readsSleeper", "(II)I"⟩, 34), (⟨"SleptWitnessModel", "figureAt", "(III)I"⟩, 34), (⟨"SleptWitnessModel", "byteAt", "(II)I"⟩, 34), (⟨"SleptWitnessModel", "readsDeed", "(II)I"⟩, 34), (⟨"SleptWitnessModel", "isSleeper", "(I)Z"⟩, 34), (⟨"SleptWitnessModel", "reads", "()V"⟩, 34), (⟨"SleptWitnessModel", "sleeperOf", "(II)I"⟩, 34), (⟨"SleptWitnessModel", "isDeed", "(I)Z"⟩, 34), (⟨"SleptWitnessModel", "deedOf", "(II)I"⟩, 34), (⟨"SleptWitnessModel", "depthOf", "(II)I"⟩, 34), (⟨"SleptWitnessModel", "runsTold", "()V"⟩, 34), (⟨"SleptWitnessModel", "asTold", "()V"⟩, 34)]
theorem lw_r2 : ∀ q ∈ lw_privs_2, lw_okq q := List.forall_mem_cons.mpr ⟨lw_p16, List.forall_mem_cons.mpr ⟨lw_p17, List.forall_mem_cons.mpr ⟨lw_p18, List.forall_mem_cons.mpr ⟨lw_p19, List.forall_mem_cons.mpr ⟨lw_p20, List.forall_mem_cons.mpr ⟨lw_p21, List.forall_mem_cons.mpr ⟨lw_p22, List.forall_mem_cons.mpr ⟨lw_p23, List.forall_mem_cons.mpr ⟨lw_p24, List.forall_mem_cons.mpr ⟨lw_p25, List.forall_mem_cons.mpr ⟨lw_p26, List.forall_mem_cons.mpr ⟨lw_p27, List.forall_mem_cons.mpr ⟨lw_p28, List.forall_mem_cons.mpr ⟨lw_p29, List.forall_mem_cons.mpr ⟨lw_p30, List.forall_mem_cons.mpr ⟨lw_p31, fun _ h => absurd h List.not_mem_nil⟩⟩⟩⟩⟩⟩⟩⟩⟩⟩⟩⟩⟩⟩⟩⟩
theorem lw_p32 : lw_okq (⟨"SleptWitnessModel", "runs", "()V"⟩, 34) := ⟨⟨by decide +kernel, by decide +kernel⟩, List.mem_of_getElem? (i := 726) (by decide +kernel), List.mem_of_getElem? (i := 933) (by decide +kernel), List.mem_of_getElem? (i := 934) (by decide +kernel)⟩
theorem lw_p33 : lw_okq (⟨"SleptWitnessModel", "sleeps", "(I)V"⟩, 34) := ⟨⟨by decide +kernel, by decide +kernel⟩, List.mem_of_getElem? (i := 726) (by decide +kernel), List.mem_of_getElem? (i := 937) (by decide +kernel), List.mem_of_getElem? (i := 938) (by decide +kernel)⟩
theorem lw_p34 : lw_okq (⟨"SleptWitnessModel", "deepNow", "(II)I"⟩, 34) := ⟨⟨by decide +kernel, by decide +kernel⟩, List.mem_of_getElem? (i := 726) (by decide +kernel), List.mem_of_getElem? (i := 941) (by decide +kernel), List.mem_of_getElem? (i := 942) (by decide +kernel)⟩
theorem lw_p35 : lw_okq (⟨"SleptWitnessModel", "loudOf", "(II)I"⟩, 34) := ⟨⟨by decide +kernel, by decide +kernel⟩, List.mem_of_getElem? (i := 726) (by decide +kernel), List.mem_of_getElem? (i := 951) (by decide +kernel), List.mem_of_getElem? (i := 952) (by decide +kernel)⟩
theorem lw_p36 : lw_okq (⟨"SleptWitnessModel", "hearsOf", "(III)I"⟩, 34) := ⟨⟨by decide +kernel, by decide +kernel⟩, List.mem_of_getElem? (i := 726) (by decide +kernel), List.mem_of_getElem? (i := 959) (by decide +kernel), List.mem_of_getElem? (i := 960) (by decide +kernel)⟩
theorem lw_p37 : lw_okq (⟨"SleptWitnessModel", "proofOf", "(II)I"⟩, 34) := ⟨⟨by decide +kernel, by decide +kernel⟩, List.mem_of_getElem? (i := 726) (by decide +kernel), List.mem_of_getElem? (i := 967) (by decide +kernel), List.mem_of_getElem? (i := 968) (by decide +kernel)⟩
theorem lw_p38 : lw_okq (⟨"SleptWitnessModel", "whoNow", "(I)I"⟩, 34) := ⟨⟨by decide +kernel, by decide +kernel⟩, List.mem_of_getElem? (i := 726) (by decide +kernel), List.mem_of_getElem? (i := 971) (by decide +kernel), List.mem_of_getElem? (i := 972) (by decide +kernel)⟩
theorem lw_p39 : lw_okq (⟨"SleptWitnessModel", "nightsOf", "(II)I"⟩, 34) := ⟨⟨by decide +kernel, by decide +kernel⟩, List.mem_of_getElem? (i := 726) (by decide +kernel), List.mem_of_getElem? (i := 982) (by decide +kernel), List.mem_of_getElem? (i := 983) (by decide +kernel)⟩
theorem lw_p40 : lw_okq (⟨"SleptWitnessModel", "manyOf", "(I)I"⟩, 34) := ⟨⟨by decide +kernel, by decide +kernel⟩, List.mem_of_getElem? (i := 726) (by decide +kernel), List.mem_of_getElem? (i := 986) (by decide +kernel), List.mem_of_getElem? (i := 987) (by decide +kernel)⟩
theorem lw_p41 : lw_okq (⟨"SleptWitnessModel", "bestNow", "()I"⟩, 34) := ⟨⟨by decide +kernel, by decide +kernel⟩, List.mem_of_getElem? (i := 726) (by decide +kernel), List.mem_of_getElem? (i := 994) (by decide +kernel), List.mem_of_getElem? (i := 995) (by decide +kernel)⟩
theorem lw_p42 : lw_okq (⟨"SleptWitnessModel", "byAllNow", "()I"⟩, 34) := ⟨⟨by decide +kernel, by decide +kernel⟩, List.mem_of_getElem? (i := 726) (by decide +kernel), List.mem_of_getElem? (i := 1002) (by decide +kernel), List.mem_of_getElem? (i := 1003) (by decide +kernel)⟩
theorem lw_p43 : lw_okq (⟨"SleptWitnessModel", "quietOf", "(III)I"⟩, 34) := ⟨⟨by decide +kernel, by decide +kernel⟩, List.mem_of_getElem? (i := 726) (by decide +kernel), List.mem_of_getElem? (i := 1010) (by decide +kernel), List.mem_of_getElem? (i := 1011) (by decide +kernel)⟩
theorem lw_p44 : lw_okq (⟨"SleptWitnessModel", "isProven", "(I)Z"⟩, 34) := ⟨⟨by decide +kernel, by decide +kernel⟩, List.mem_of_getElem? (i := 726) (by decide +kernel), List.mem_of_getElem? (i := 1014) (by decide +kernel), List.mem_of_getElem? (i := 1015) (by decide +kernel)⟩
theorem lw_p45 : lw_okq (⟨"SleptWitnessModel", "moveOf", "(II)I"⟩, 34) := ⟨⟨by decide +kernel, by decide +kernel⟩, List.mem_of_getElem? (i := 726) (by decide +kernel), List.mem_of_getElem? (i := 1022) (by decide +kernel), List.mem_of_getElem? (i := 1023) (by decide +kernel)⟩
theorem lw_p46 : lw_okq (⟨"SleptWitnessModel", "provenNow", "()I"⟩, 34) := ⟨⟨by decide +kernel, by decide +kernel⟩, List.mem_of_getElem? (i := 726) (by decide +kernel), List.mem_of_getElem? (i := 1026) (by decide +kernel), List.mem_of_getElem? (i := 1027) (by decide +kernel)⟩
theorem lw_p47 : lw_okq (⟨"SleptWitnessModel", "needBy", "(I)I"⟩, 34) := ⟨⟨by decide +kernel, by decide +kernel⟩, List.mem_of_getElem? (i := 726) (by decide +kernel), List.mem_of_getElem? (i := 1034) (by decide +kernel), List.mem_of_getElem? (i := 1035) (by decide +kernel)⟩
def lw_privs_3 : List (MethodName × Nat) := [(⟨"SleptWitnessModel", "runs", "()V"⟩, 34), (⟨"SleptWitnessModel", "sleeps", "(I)V"⟩, 34), (⟨"SleptWitnessModel", "deepNow", "(II)I"⟩, 34), (⟨"SleptWitnessModel", "loudOf", "(II)I"⟩, 34), (⟨"SleptWitnessModel", "hearsOf", "(III)I"⟩, 34), (⟨"SleptWitnessModel", "proofOf", "(II)I"⟩, 34), (⟨"SleptWitnessModel", "whoNow", "(I)I"⟩, 34), (⟨"SleptWitnessModel", "nightsOf", "(II)I"⟩, 34), (⟨"SleptWitnessModel", "manyOf", "(I)I"⟩, 34), (⟨"SleptWitnessModel", "bestNow", "()I"⟩, 34), (⟨"SleptWitnessModel", "byAllNow", "()I"⟩, 34), (⟨"SleptWitnessModel", "quietOf", "(III)I"⟩, 34), (⟨"SleptWitnessModel", "isProven", "(I)Z"⟩, 34), (⟨"SleptWitnessModel", "moveOf", "(II)I"⟩, 34), (⟨"SleptWitnessModel", "provenNow", "()I"⟩, 34), (⟨"SleptWitnessModel", "needBy", "(I)I"⟩, 34)]
theorem lw_r3 : ∀ q ∈ lw_privs_3, lw_okq q := List.forall_mem_cons.mpr ⟨lw_p32, List.forall_mem_cons.mpr ⟨lw_p33, List.forall_mem_cons.mpr ⟨lw_p34, List.forall_mem_cons.mpr ⟨lw_p35, List.forall_mem_cons.mpr ⟨lw_p36, List.forall_mem_cons.mpr ⟨lw_p37, List.forall_mem_cons.mpr ⟨lw_p38, List.forall_mem_cons.mpr ⟨lw_p39, List.forall_mem_cons.mpr ⟨lw_p40, List.forall_mem_cons.mpr ⟨lw_p41, List.forall_mem_cons.mpr ⟨lw_p42, List.forall_mem_cons.mpr ⟨lw_p43, List.forall_mem_cons.mpr ⟨lw_p44, List.forall_mem_cons.mpr ⟨lw_p45, List.forall_mem_cons.mpr ⟨lw_p46, List.forall_mem_cons.mpr ⟨lw_p47, fun _ h => absurd h List.not_mem_nil⟩⟩⟩⟩⟩⟩⟩⟩⟩⟩⟩⟩⟩⟩⟩⟩
theorem lw_p48 : lw_okq (⟨"SleptWitnessModel", "isUnproven", "(II)Z"⟩, 34) := ⟨⟨by decide +kernel, by decide +kernel⟩, List.mem_of_getElem? (i := 726) (by decide +kernel), List.mem_of_getElem? (i := 1038) (by decide +kernel), List.mem_of_getElem? (i := 1039) (by decide +kernel)⟩
theorem lw_p49 : lw_okq (⟨"SleptWitnessModel", "ofRow", "(II)I"⟩, 34) := ⟨⟨by decide +kernel, by decide +kernel⟩, List.mem_of_getElem? (i := 726) (by decide +kernel), List.mem_of_getElem? (i := 1042) (by decide +kernel), List.mem_of_getElem? (i := 1043) (by decide +kernel)⟩
theorem lw_p50 : lw_okq (⟨"SleptWitnessModel", "feedOf", "(II)I"⟩, 34) := ⟨⟨by decide +kernel, by decide +kernel⟩, List.mem_of_getElem? (i := 726) (by decide +kernel), List.mem_of_getElem? (i := 1050) (by decide +kernel), List.mem_of_getElem? (i := 1051) (by decide +kernel)⟩
theorem lw_p51 : lw_okq (⟨"SleptWitnessModel", "meets", "(I)I"⟩, 34) := ⟨⟨by decide +kernel, by decide +kernel⟩, List.mem_of_getElem? (i := 726) (by decide +kernel), List.mem_of_getElem? (i := 1069) (by decide +kernel), List.mem_of_getElem? (i := 1070) (by decide +kernel)⟩
theorem lw_p52 : lw_okq (⟨"SleptWitnessModel", "neverNow", "()I"⟩, 34) := ⟨⟨by decide +kernel, by decide +kernel⟩, List.mem_of_getElem? (i := 726) (by decide +kernel), List.mem_of_getElem? (i := 1078) (by decide +kernel), List.mem_of_getElem? (i := 1079) (by decide +kernel)⟩
theorem lw_p53 : lw_okq (⟨"SleptWitnessModel", "isTold", "()Z"⟩, 34) := ⟨⟨by decide +kernel, by decide +kernel⟩, List.mem_of_getElem? (i := 726) (by decide +kernel), List.mem_of_getElem? (i := 1082) (by decide +kernel), List.mem_of_getElem? (i := 1083) (by decide +kernel)⟩
theorem lw_p54 : lw_okq (⟨"SleptWitnessModel", "marksOf", "(II)I"⟩, 34) := ⟨⟨by decide +kernel, by decide +kernel⟩, List.mem_of_getElem? (i := 726) (by decide +kernel), List.mem_of_getElem? (i := 1086) (by decide +kernel), List.mem_of_getElem? (i := 1087) (by decide +kernel)⟩
theorem lw_p55 : lw_okq (⟨"SleptWitnessModel", "placeOf", "(I)I"⟩, 34) := ⟨⟨by decide +kernel, by decide +kernel⟩, List.mem_of_getElem? (i := 726) (by decide +kernel), List.mem_of_getElem? (i := 1094) (by decide +kernel), List.mem_of_getElem? (i := 1095) (by decide +kernel)⟩
theorem lw_p56 : lw_okq (⟨"SleptWitnessModel", "askNow", "()I"⟩, 34) := ⟨⟨by decide +kernel, by decide +kernel⟩, List.mem_of_getElem? (i := 726) (by decide +kernel), List.mem_of_getElem? (i := 1102) (by decide +kernel), List.mem_of_getElem? (i := 1103) (by decide +kernel)⟩
theorem lw_p57 : lw_okq (⟨"SleptWitnessModel", "feignOf", "(III)J"⟩, 34) := ⟨⟨by decide +kernel, by decide +kernel⟩, List.mem_of_getElem? (i := 726) (by decide +kernel), List.mem_of_getElem? (i := 1110) (by decide +kernel), List.mem_of_getElem? (i := 1111) (by decide +kernel)⟩
theorem lw_p58 : lw_okq (⟨"SleptWitnessModel", "courtOf", "(III)I"⟩, 34) := ⟨⟨by decide +kernel, by decide +kernel⟩, List.mem_of_getElem? (i := 726) (by decide +kernel), List.mem_of_getElem? (i := 1125) (by decide +kernel), List.mem_of_getElem? (i := 1126) (by decide +kernel)⟩
theorem lw_p59 : lw_okq (⟨"SleptWitnessModel", "marksNow", "()I"⟩, 34) := ⟨⟨by decide +kernel, by decide +kernel⟩, List.mem_of_getElem? (i := 726) (by decide +kernel), List.mem_of_getElem? (i := 1130) (by decide +kernel), List.mem_of_getElem? (i := 1131) (by decide +kernel)⟩
theorem lw_p60 : lw_okq (⟨"SleptWitnessModel", "lacks", "(III)I"⟩, 34) := ⟨⟨by decide +kernel, by decide +kernel⟩, List.mem_of_getElem? (i := 726) (by decide +kernel), List.mem_of_getElem? (i := 1146) (by decide +kernel), List.mem_of_getElem? (i := 1147) (by decide +kernel)⟩
theorem lw_p61 : lw_okq (⟨"SleptWitnessModel", "keep", "(III)V"⟩, 34) := ⟨⟨by decide +kernel, by decide +kernel⟩, List.mem_of_getElem? (i := 726) (by decide +kernel), List.mem_of_getElem? (i := 1150) (by decide +kernel), List.mem_of_getElem? (i := 1151) (by decide +kernel)⟩
theorem lw_p62 : lw_okq (⟨"SleptWitnessModel", "sumOf", "(I)I"⟩, 34) := ⟨⟨by decide +kernel, by decide +kernel⟩, List.mem_of_getElem? (i := 726) (by decide +kernel), List.mem_of_getElem? (i := 1171) (by decide +kernel), List.mem_of_getElem? (i := 1172) (by decide +kernel)⟩
theorem lw_p63 : lw_okq (⟨"SleptWitnessModel", "wakingsNow", "()I"⟩, 34) := ⟨⟨by decide +kernel, by decide +kernel⟩, List.mem_of_getElem? (i := 726) (by decide +kernel), List.mem_of_getElem? (i := 1175) (by decide +kernel), List.mem_of_getElem? (i := 1176) (by decide +kernel)⟩
def lw_privs_4 : List (MethodName × Nat) := [(⟨"SleptWitnessModel", "isUnproven", "(II)Z"⟩, 34), (⟨"SleptWitnessModel", "ofRow", "(II)I"⟩, 34), (⟨"SleptWitnessModel", "feedOf", "(II)I"⟩, 34), (⟨"SleptWitnessModel", "meets", "(I)I"⟩, 34), (⟨"SleptWitnessModel", "neverNow", "()I"⟩, 34), (⟨"SleptWitnessModel", "isTold", "()Z"⟩, 34), (⟨"SleptWitnessModel", "marksOf", "(II)I"⟩, 34), (⟨"SleptWitnessModel", "placeOf", "(I)I"⟩, 34), (⟨"SleptWitnessModel", "askNow", "()I"⟩, 34), (⟨"SleptWitnessModel", "feignOf", "(III)J"⟩, 34), (⟨"SleptWitnessModel", "courtOf", "(III)I"⟩, 34), (⟨"SleptWitnessModel", "marksNow", "()I"⟩, 34), (⟨"SleptWitnessModel", "lacks", "(III)I"⟩, 34), (⟨"SleptWitnessModel", "keep", "(III)V"⟩, 34), (⟨"SleptWitnessModel", "sumOf", "(I)I"⟩, 34), (⟨"SleptWitnessModel", "wakingsNow", "()I"⟩, 34)]
theorem lw_r4 : ∀ q ∈ lw_privs_4, lw_okq q := List.forall_mem_cons.mpr ⟨lw_p48, List.forall_mem_cons.mpr ⟨lw_p49, List.forall_mem_cons.mpr ⟨lw_p50, List.forall_mem_cons.mpr ⟨lw_p51, List.forall_mem_cons.mpr ⟨lw_p52, List.forall_mem_cons.mpr ⟨lw_p53, List.forall_mem_cons.mpr ⟨lw_p54, List.forall_mem_cons.mpr ⟨lw_p55, List.forall_mem_cons.mpr ⟨lw_p56, List.forall_mem_cons.mpr ⟨lw_p57, List.forall_mem_cons.mpr ⟨lw_p58, List.forall_mem_cons.mpr ⟨lw_p59, List.forall_mem_cons.mpr ⟨lw_p60, List.forall_mem_cons.mpr ⟨lw_p61, List.forall_mem_cons.mpr ⟨lw_p62, List.forall_mem_cons.mpr ⟨lw_p63, fun _ h => absurd h List.not_mem_nil⟩⟩⟩⟩⟩⟩⟩⟩⟩⟩⟩⟩⟩⟩⟩⟩
theorem lw_p64 : lw_okq (⟨"SleptWitnessModel", "sleeperDigest", "(JI)J"⟩, 34) := ⟨⟨by decide +kernel, by decide +kernel⟩, List.mem_of_getElem? (i := 726) (by decide +kernel), List.mem_of_getElem? (i := 1186) (by decide +kernel), List.mem_of_getElem? (i := 1187) (by decide +kernel)⟩
theorem lw_p65 : lw_okq (⟨"SleptWitnessModel", "deedDigest", "(JI)J"⟩, 34) := ⟨⟨by decide +kernel, by decide +kernel⟩, List.mem_of_getElem? (i := 726) (by decide +kernel), List.mem_of_getElem? (i := 1190) (by decide +kernel), List.mem_of_getElem? (i := 1191) (by decide +kernel)⟩
def lw_privs_5 : List (MethodName × Nat) := [(⟨"SleptWitnessModel", "sleeperDigest", "(JI)J"⟩, 34), (⟨"SleptWitnessModel", "deedDigest", "(JI)J"⟩, 34)]
theorem lw_r5 : ∀ q ∈ lw_privs_5, lw_okq q := List.forall_mem_cons.mpr ⟨lw_p64, List.forall_mem_cons.mpr ⟨lw_p65, fun _ h => absurd h List.not_mem_nil⟩⟩
def lw_privs : List (MethodName × Nat) := lw_privs_1 ++ (lw_privs_2 ++ (lw_privs_3 ++ (lw_privs_4 ++ (lw_privs_5))))
def lw_tbl : List Cond := k2_sels lw_privs ++ tables_1
theorem lw_privs_ok : ∀ q ∈ lw_privs, lw_okq q := by
  show ∀ q ∈ lw_privs_1 ++ (lw_privs_2 ++ (lw_privs_3 ++ (lw_privs_4 ++ (lw_privs_5)))), lw_okq q
  exact List.forall_mem_append.mpr ⟨lw_r1, List.forall_mem_append.mpr ⟨lw_r2, List.forall_mem_append.mpr ⟨lw_r3, List.forall_mem_append.mpr ⟨lw_r4, lw_r5⟩⟩⟩⟩
-- ===== end of PART A; then your names; then what follows =====
/-! ===== BEGIN printed: names, fields, word lists, decode rows ===== -/
def RX0 : String := "SleptWitness$Deeds"
def TX0 : u_T := fun k => match k with
  | 0 => ("SleptWitness$Deeds", "hour", "[I", true)
  | 1 => ("SleptWitness$Deeds", "house", "[I", true)
  | 2 => ("SleptWitness$Deeds", "sound", "[I", true)
  | 3 => ("SleptWitness$Deeds", "order", "[I", true)
  | _ => ("SleptWitness$Deeds", "size", "I", false)
def tyX0 : Nat → FieldType := fun k => match k with
  | 0 => .array .int
  | 1 => .array .int
  | 2 => .array .int
  | 3 => .array .int
  | _ => .int
theorem nmX0 : ∀ a, a < 5 → ∀ b, b < 5 → a ≠ b → (TX0 a).2.1 ≠ (TX0 b).2.1 := by decide +kernel
theorem tyX0_ok : ∀ k, k < 5 → parseFieldDescriptor (TX0 k).2.2.1 = some (tyX0 k) := by decide +kernel
abbrev cX0_init : ByteArray := prog_2_method_1_code
def yX0_init : MethodName := ⟨RX0, "<init>", "()V"⟩
abbrev cX0_add : ByteArray := prog_2_method_2_code
def yX0_add : MethodName := ⟨RX0, "add", "(III)V"⟩
abbrev cX0_become : ByteArray := prog_2_method_3_code
def yX0_become : MethodName := ⟨RX0, "become", "(LSleptWitness$Deeds;I)V"⟩
def RX1 : String := "SleptWitness$Hearing"
def TX1 : u_T := fun k => match k with
  | 0 => ("SleptWitness$Hearing", "testimonies", "[I", true)
  | 1 => ("SleptWitness$Hearing", "size", "I", false)
  | 2 => ("SleptWitness$Hearing", "marks", "I", false)
  | _ => ("SleptWitness$Hearing", "wakings", "I", false)
def tyX1 : Nat → FieldType := fun k => match k with
  | 0 => .array .int
  | 1 => .int
  | 2 => .int
  | _ => .int
theorem nmX1 : ∀ a, a < 4 → ∀ b, b < 4 → a ≠ b → (TX1 a).2.1 ≠ (TX1 b).2.1 := by decide +kernel
theorem tyX1_ok : ∀ k, k < 4 → parseFieldDescriptor (TX1 k).2.2.1 = some (tyX1 k) := by decide +kernel
abbrev cX1_init : ByteArray := prog_3_method_1_code
def yX1_init : MethodName := ⟨RX1, "<init>", "()V"⟩
abbrev cX1_open : ByteArray := prog_3_method_2_code
def yX1_open : MethodName := ⟨RX1, "open", "()V"⟩
abbrev cX1_add : ByteArray := prog_3_method_3_code
def yX1_add : MethodName := ⟨RX1, "add", "(LSleptWitness$Night;)V"⟩
abbrev cX1_witnesses : ByteArray := prog_3_method_4_code
def yX1_witnesses : MethodName := ⟨RX1, "witnesses", "(I)I"⟩
abbrev cX1_provenOf : ByteArray := prog_3_method_5_code
def yX1_provenOf : MethodName := ⟨RX1, "provenOf", "(II)I"⟩
def RX2 : String := "SleptWitness$Night"
def TX2 : u_T := fun k => match k with
  | 0 => ("SleptWitness$Night", "loud", "[I", true)
  | 1 => ("SleptWitness$Night", "deep", "[I", true)
  | 2 => ("SleptWitness$Night", "fate", "[I", true)
  | 3 => ("SleptWitness$Night", "marksOf", "[I", true)
  | 4 => ("SleptWitness$Night", "marks", "I", false)
  | 5 => ("SleptWitness$Night", "wakings", "I", false)
  | 6 => ("SleptWitness$Night", "testimony", "I", false)
  | 7 => ("SleptWitness$Night", "lain", "I", false)
  | _ => ("SleptWitness$Night", "wokenIn", "J", false)
def tyX2 : Nat → FieldType := fun k => match k with
  | 0 => .array .int
  | 1 => .array .int
  | 2 => .array .int
  | 3 => .array .int
  | 4 => .int
  | 5 => .int
  | 6 => .int
  | 7 => .int
  | _ => .long
theorem nmX2 : ∀ a, a < 9 → ∀ b, b < 9 → a ≠ b → (TX2 a).2.1 ≠ (TX2 b).2.1 := by decide +kernel
theorem tyX2_ok : ∀ k, k < 9 → parseFieldDescriptor (TX2 k).2.2.1 = some (tyX2 k) := by decide +kernel
abbrev cX2_init : ByteArray := prog_4_method_1_code
def yX2_init : MethodName := ⟨RX2, "<init>", "()V"⟩
abbrev cX2_pass : ByteArray := prog_4_method_2_code
def yX2_pass : MethodName := ⟨RX2, "pass", "(LSleptWitness$Sleeper;LSleptWitness$Deeds;[I)V"⟩
abbrev cX2_hoursFor : ByteArray := prog_4_method_3_code
def yX2_hoursFor : MethodName := ⟨RX2, "hoursFor", "(LSleptWitness$Sleeper;LSleptWitness$Deeds;II[I)J"⟩
abbrev cX2_deepIn : ByteArray := prog_4_method_4_code
def yX2_deepIn : MethodName := ⟨RX2, "deepIn", "(ILSleptWitness$Sleeper;LSleptWitness$Deeds;)I"⟩
abbrev cX2_lieDown : ByteArray := prog_4_method_5_code
def yX2_lieDown : MethodName := ⟨RX2, "lieDown", "(LSleptWitness$Sleeper;)V"⟩
abbrev cX2_meet : ByteArray := prog_4_method_6_code
def yX2_meet : MethodName := ⟨RX2, "meet", "(LSleptWitness$Sleeper;LSleptWitness$Deeds;I)V"⟩
abbrev cX2_loudAt : ByteArray := prog_4_method_7_code
def yX2_loudAt : MethodName := ⟨RX2, "loudAt", "(III)I"⟩
abbrev cX2_fateBy : ByteArray := prog_4_method_8_code
def yX2_fateBy : MethodName := ⟨RX2, "fateBy", "(II)I"⟩
abbrev cX2_testifies : ByteArray := prog_4_method_9_code
def yX2_testifies : MethodName := ⟨RX2, "testifies", "(III[I)Z"⟩
abbrev cX2_wokenOfLate : ByteArray := prog_4_method_10_code
def yX2_wokenOfLate : MethodName := ⟨RX2, "wokenOfLate", "(II)Z"⟩
def RX3 : String := "SleptWitness$Sheet"
def TX3 : u_T := fun k => match k with
  | 0 => ("SleptWitness$Sheet", "items", "[I", true)
  | 1 => ("SleptWitness$Sheet", "lost", "Z", false)
  | 2 => ("SleptWitness$Sheet", "form", "I", false)
  | _ => ("SleptWitness$Sheet", "size", "I", false)
def tyX3 : Nat → FieldType := fun k => match k with
  | 0 => .array .int
  | 1 => .boolean
  | 2 => .int
  | _ => .int
theorem nmX3 : ∀ a, a < 4 → ∀ b, b < 4 → a ≠ b → (TX3 a).2.1 ≠ (TX3 b).2.1 := by decide +kernel
theorem tyX3_ok : ∀ k, k < 4 → parseFieldDescriptor (TX3 k).2.2.1 = some (tyX3 k) := by decide +kernel
abbrev cX3_init : ByteArray := prog_5_method_1_code
def yX3_init : MethodName := ⟨RX3, "<init>", "()V"⟩
abbrev cX3_renew : ByteArray := prog_5_method_2_code
def yX3_renew : MethodName := ⟨RX3, "renew", "(II)V"⟩
abbrev cX3_enter : ByteArray := prog_5_method_3_code
def yX3_enter : MethodName := ⟨RX3, "enter", "(II)V"⟩
def RX4 : String := "SleptWitness$Sleeper"
def TX4 : u_T := fun k => match k with
  | 0 => ("SleptWitness$Sleeper", "house", "I", false)
  | 1 => ("SleptWitness$Sleeper", "bedtime", "I", false)
  | 2 => ("SleptWitness$Sleeper", "supper", "I", false)
  | _ => ("SleptWitness$Sleeper", "kind", "I", false)
def tyX4 : Nat → FieldType := fun k => match k with
  | 0 => .int
  | 1 => .int
  | 2 => .int
  | _ => .int
theorem nmX4 : ∀ a, a < 4 → ∀ b, b < 4 → a ≠ b → (TX4 a).2.1 ≠ (TX4 b).2.1 := by decide +kernel
theorem tyX4_ok : ∀ k, k < 4 → parseFieldDescriptor (TX4 k).2.2.1 = some (tyX4 k) := by decide +kernel
abbrev cX4_init : ByteArray := prog_6_method_1_code
def yX4_init : MethodName := ⟨RX4, "<init>", "()V"⟩
abbrev cX4_become : ByteArray := prog_6_method_2_code
def yX4_become : MethodName := ⟨RX4, "become", "(LSleptWitness$Sleeper;)V"⟩
abbrev cX4_deepAfter : ByteArray := prog_6_method_3_code
def yX4_deepAfter : MethodName := ⟨RX4, "deepAfter", "(I)I"⟩
def RX5 : String := "SleptWitness$Tales"
def TX5 : u_T := fun k => match k with
  | 0 => ("SleptWitness$Tales", "who", "[I", true)
  | 1 => ("SleptWitness$Tales", "sound", "[I", true)
  | 2 => ("SleptWitness$Tales", "marks", "[I", true)
  | _ => ("SleptWitness$Tales", "size", "I", false)
def tyX5 : Nat → FieldType := fun k => match k with
  | 0 => .array .int
  | 1 => .array .int
  | 2 => .array .int
  | _ => .int
theorem nmX5 : ∀ a, a < 4 → ∀ b, b < 4 → a ≠ b → (TX5 a).2.1 ≠ (TX5 b).2.1 := by decide +kernel
theorem tyX5_ok : ∀ k, k < 4 → parseFieldDescriptor (TX5 k).2.2.1 = some (tyX5 k) := by decide +kernel
abbrev cX5_init : ByteArray := prog_7_method_1_code
def yX5_init : MethodName := ⟨RX5, "<init>", "()V"⟩
abbrev cX5_mayBe : ByteArray := prog_7_method_2_code
def yX5_mayBe : MethodName := ⟨RX5, "mayBe", "(III)Z"⟩
abbrev cX5_add : ByteArray := prog_7_method_3_code
def yX5_add : MethodName := ⟨RX5, "add", "(III)V"⟩
def RX6 : String := "SleptWitness$Text"
def TX6 : u_T := fun k => match k with
  | 0 => ("SleptWitness$Text", "bytes", "[I", true)
  | 1 => ("SleptWitness$Text", "greatest", "[I", true)
  | 2 => ("SleptWitness$Text", "letters", "Ljava/lang/String;", true)
  | _ => ("SleptWitness$Text", "size", "I", false)
def tyX6 : Nat → FieldType := fun k => match k with
  | 0 => .array .int
  | 1 => .array .int
  | 2 => .object "java/lang/String"
  | _ => .int
theorem nmX6 : ∀ a, a < 4 → ∀ b, b < 4 → a ≠ b → (TX6 a).2.1 ≠ (TX6 b).2.1 := by decide +kernel
theorem tyX6_ok : ∀ k, k < 4 → parseFieldDescriptor (TX6 k).2.2.1 = some (tyX6 k) := by decide +kernel
abbrev cX6_init : ByteArray := prog_8_method_1_code
def yX6_init : MethodName := ⟨RX6, "<init>", "(IIILjava/lang/String;)V"⟩
abbrev cX6_fits : ByteArray := prog_8_method_2_code
def yX6_fits : MethodName := ⟨RX6, "fits", "(I)Z"⟩
abbrev cX6_firstFault : ByteArray := prog_8_method_3_code
def yX6_firstFault : MethodName := ⟨RX6, "firstFault", "()I"⟩
abbrev cX6_units : ByteArray := prog_8_method_4_code
def yX6_units : MethodName := ⟨RX6, "units", "()I"⟩
abbrev cX6_figure : ByteArray := prog_8_method_5_code
def yX6_figure : MethodName := ⟨RX6, "figure", "(II)I"⟩
abbrev cX6_letter : ByteArray := prog_8_method_6_code
def yX6_letter : MethodName := ⟨RX6, "letter", "(I)I"⟩
def RX7 : String := "SleptWitness"
def TX7 : u_T := fun k => match k with
  | 0 => ("SleptWitness", "texts", "[LSleptWitness$Text;", true)
  | 1 => ("SleptWitness", "beds", "[LSleptWitness$Sleeper;", true)
  | 2 => ("SleptWitness", "sleepers", "I", false)
  | 3 => ("SleptWitness", "deeds", "LSleptWitness$Deeds;", true)
  | 4 => ("SleptWitness", "rules", "[I", true)
  | 5 => ("SleptWitness", "tales", "LSleptWitness$Tales;", true)
  | 6 => ("SleptWitness", "sheets", "[LSleptWitness$Sheet;", true)
  | 7 => ("SleptWitness", "finding", "I", false)
  | 8 => ("SleptWitness", "guess", "LSleptWitness$Sleeper;", true)
  | 9 => ("SleptWitness", "others", "LSleptWitness$Deeds;", true)
  | 10 => ("SleptWitness", "night", "LSleptWitness$Night;", true)
  | 11 => ("SleptWitness", "hearing", "LSleptWitness$Hearing;", true)
  | 12 => ("SleptWitness", "hoursFor", "[J", true)
  | 13 => ("SleptWitness", "alike", "[I", true)
  | _ => ("SleptWitness", "ways", "[J", true)
def tyX7 : Nat → FieldType := fun k => match k with
  | 0 => .array (.object "SleptWitness$Text")
  | 1 => .array (.object "SleptWitness$Sleeper")
  | 2 => .int
  | 3 => .object "SleptWitness$Deeds"
  | 4 => .array .int
  | 5 => .object "SleptWitness$Tales"
  | 6 => .array (.object "SleptWitness$Sheet")
  | 7 => .int
  | 8 => .object "SleptWitness$Sleeper"
  | 9 => .object "SleptWitness$Deeds"
  | 10 => .object "SleptWitness$Night"
  | 11 => .object "SleptWitness$Hearing"
  | 12 => .array .long
  | 13 => .array .int
  | _ => .array .long
theorem nmX7 : ∀ a, a < 15 → ∀ b, b < 15 → a ≠ b → (TX7 a).2.1 ≠ (TX7 b).2.1 := by decide +kernel
theorem tyX7_ok : ∀ k, k < 15 → parseFieldDescriptor (TX7 k).2.2.1 = some (tyX7 k) := by decide +kernel
abbrev cX7_init : ByteArray := prog_1_method_1_code
def yX7_init : MethodName := ⟨RX7, "<init>", "()V"⟩
abbrev cX7_within : ByteArray := prog_1_method_2_code
def yX7_within : MethodName := ⟨RX7, "within", "(II)Z"⟩
abbrev cX7_longRefusal : ByteArray := prog_1_method_3_code
def yX7_longRefusal : MethodName := ⟨RX7, "longRefusal", "(I)J"⟩
abbrev cX7_type : ByteArray := prog_1_method_4_code
def yX7_type : MethodName := ⟨RX7, "type", "(II)I"⟩
abbrev cX7_wipe : ByteArray := prog_1_method_5_code
def yX7_wipe : MethodName := ⟨RX7, "wipe", "(I)I"⟩
abbrev cX7_undo : ByteArray := prog_1_method_6_code
def yX7_undo : MethodName := ⟨RX7, "undo", "(I)I"⟩
abbrev cX7_fault : ByteArray := prog_1_method_7_code
def yX7_fault : MethodName := ⟨RX7, "fault", "(I)I"⟩
abbrev cX7_resize : ByteArray := prog_1_method_8_code
def yX7_resize : MethodName := ⟨RX7, "resize", "(II)I"⟩
abbrev cX7_makeBeds : ByteArray := prog_1_method_9_code
def yX7_makeBeds : MethodName := ⟨RX7, "makeBeds", "(LSleptWitness$Text;)V"⟩
abbrev cX7_tellDeeds : ByteArray := prog_1_method_10_code
def yX7_tellDeeds : MethodName := ⟨RX7, "tellDeeds", "(LSleptWitness$Text;)V"⟩
abbrev cX7_sleeper : ByteArray := prog_1_method_11_code
def yX7_sleeper : MethodName := ⟨RX7, "sleeper", "(II)I"⟩
abbrev cX7_deed : ByteArray := prog_1_method_12_code
def yX7_deed : MethodName := ⟨RX7, "deed", "(II)I"⟩
abbrev cX7_law : ByteArray := prog_1_method_13_code
def yX7_law : MethodName := ⟨RX7, "law", "(II)I"⟩
abbrev cX7_hearAll : ByteArray := prog_1_method_14_code
def yX7_hearAll : MethodName := ⟨RX7, "hearAll", "(LSleptWitness$Deeds;)V"⟩
abbrev cX7_provenOf : ByteArray := prog_1_method_15_code
def yX7_provenOf : MethodName := ⟨RX7, "provenOf", "(LSleptWitness$Deeds;)I"⟩
abbrev cX7_depth : ByteArray := prog_1_method_16_code
def yX7_depth : MethodName := ⟨RX7, "depth", "(II)I"⟩
abbrev cX7_hears : ByteArray := prog_1_method_17_code
def yX7_hears : MethodName := ⟨RX7, "hears", "(III)I"⟩
abbrev cX7_proof : ByteArray := prog_1_method_18_code
def yX7_proof : MethodName := ⟨RX7, "proof", "(II)I"⟩
abbrev cX7_nights : ByteArray := prog_1_method_19_code
def yX7_nights : MethodName := ⟨RX7, "nights", "(II)I"⟩
abbrev cX7_best : ByteArray := prog_1_method_20_code
def yX7_best : MethodName := ⟨RX7, "best", "()I"⟩
abbrev cX7_byAll : ByteArray := prog_1_method_21_code
def yX7_byAll : MethodName := ⟨RX7, "byAll", "()I"⟩
abbrev cX7_seenBy : ByteArray := prog_1_method_22_code
def yX7_seenBy : MethodName := ⟨RX7, "seenBy", "(I)I"⟩
abbrev cX7_quiet : ByteArray := prog_1_method_23_code
def yX7_quiet : MethodName := ⟨RX7, "quiet", "(III)I"⟩
abbrev cX7_testifyingIn : ByteArray := prog_1_method_24_code
def yX7_testifyingIn : MethodName := ⟨RX7, "testifyingIn", "(I)I"⟩
abbrev cX7_move : ByteArray := prog_1_method_25_code
def yX7_move : MethodName := ⟨RX7, "move", "(II)I"⟩
abbrev cX7_need : ByteArray := prog_1_method_26_code
def yX7_need : MethodName := ⟨RX7, "need", "(II)I"⟩
abbrev cX7_bitOf : ByteArray := prog_1_method_27_code
def yX7_bitOf : MethodName := ⟨RX7, "bitOf", "(II)I"⟩
abbrev cX7_feed : ByteArray := prog_1_method_28_code
def yX7_feed : MethodName := ⟨RX7, "feed", "(II)I"⟩
abbrev cX7_told : ByteArray := prog_1_method_29_code
def yX7_told : MethodName := ⟨RX7, "told", "(III)I"⟩
abbrev cX7_forget : ByteArray := prog_1_method_30_code
def yX7_forget : MethodName := ⟨RX7, "forget", "()I"⟩
abbrev cX7_read : ByteArray := prog_1_method_31_code
def yX7_read : MethodName := ⟨RX7, "read", "(I)I"⟩
abbrev cX7_comesOut : ByteArray := prog_1_method_32_code
def yX7_comesOut : MethodName := ⟨RX7, "comesOut", "()Z"⟩
abbrev cX7_never : ByteArray := prog_1_method_33_code
def yX7_never : MethodName := ⟨RX7, "never", "()I"⟩
abbrev cX7_place : ByteArray := prog_1_method_34_code
def yX7_place : MethodName := ⟨RX7, "place", "(I)I"⟩
abbrev cX7_ask : ByteArray := prog_1_method_35_code
def yX7_ask : MethodName := ⟨RX7, "ask", "()I"⟩
abbrev cX7_mostAlike : ByteArray := prog_1_method_36_code
def yX7_mostAlike : MethodName := ⟨RX7, "mostAlike", "(II)I"⟩
abbrev cX7_feign : ByteArray := prog_1_method_37_code
def yX7_feign : MethodName := ⟨RX7, "feign", "(III)J"⟩
abbrev cX7_spreadWays : ByteArray := prog_1_method_38_code
def yX7_spreadWays : MethodName := ⟨RX7, "spreadWays", "(II)V"⟩
abbrev cX7_court : ByteArray := prog_1_method_39_code
def yX7_court : MethodName := ⟨RX7, "court", "(III)I"⟩
abbrev cX7_nextSeed : ByteArray := prog_1_method_40_code
def yX7_nextSeed : MethodName := ⟨RX7, "nextSeed", "(I)I"⟩
abbrev cX7_lot : ByteArray := prog_1_method_41_code
def yX7_lot : MethodName := ⟨RX7, "lot", "(II)I"⟩
abbrev cX7_found : ByteArray := prog_1_method_42_code
def yX7_found : MethodName := ⟨RX7, "found", "(I)I"⟩
abbrev cX7_sheet : ByteArray := prog_1_method_43_code
def yX7_sheet : MethodName := ⟨RX7, "sheet", "(III)I"⟩
abbrev cX7_lose : ByteArray := prog_1_method_44_code
def yX7_lose : MethodName := ⟨RX7, "lose", "(I)I"⟩
abbrev cX7_findingAt : ByteArray := prog_1_method_45_code
def yX7_findingAt : MethodName := ⟨RX7, "findingAt", "(LSleptWitness$Sheet;II)I"⟩
abbrev cX7_put : ByteArray := prog_1_method_46_code
def yX7_put : MethodName := ⟨RX7, "put", "(IIII)I"⟩
abbrev cX7_get : ByteArray := prog_1_method_47_code
def yX7_get : MethodName := ⟨RX7, "get", "(III)I"⟩
abbrev cX7_copy : ByteArray := prog_1_method_48_code
def yX7_copy : MethodName := ⟨RX7, "copy", "(IIIII)I"⟩
abbrev cX7_holds : ByteArray := prog_1_method_49_code
def yX7_holds : MethodName := ⟨RX7, "holds", "(LSleptWitness$Sheet;II)Z"⟩
abbrev cX7_write : ByteArray := prog_1_method_50_code
def yX7_write : MethodName := ⟨RX7, "write", "(II)I"⟩
abbrev cX7_count : ByteArray := prog_1_method_51_code
def yX7_count : MethodName := ⟨RX7, "count", "(I)I"⟩
abbrev cX7_digest : ByteArray := prog_1_method_52_code
def yX7_digest : MethodName := ⟨RX7, "digest", "()J"⟩
abbrev cX7_digestSleeper : ByteArray := prog_1_method_53_code
def yX7_digestSleeper : MethodName := ⟨RX7, "digestSleeper", "(JI)J"⟩
abbrev cX7_digestDeed : ByteArray := prog_1_method_54_code
def yX7_digestDeed : MethodName := ⟨RX7, "digestDeed", "(JI)J"⟩
def RX8 : String := "SleptWitnessModel"
def TX8 : u_T := fun k => match k with
  | 0 => ("SleptWitnessModel", "typed", "[I", true)
  | 1 => ("SleptWitnessModel", "texts", "[I", true)
  | 2 => ("SleptWitnessModel", "sleepers", "I", false)
  | 3 => ("SleptWitnessModel", "beds", "[I", true)
  | 4 => ("SleptWitnessModel", "bedtimes", "[I", true)
  | 5 => ("SleptWitnessModel", "suppers", "[I", true)
  | 6 => ("SleptWitnessModel", "kinds", "[I", true)
  | 7 => ("SleptWitnessModel", "deeds", "I", false)
  | 8 => ("SleptWitnessModel", "hours", "[I", true)
  | 9 => ("SleptWitnessModel", "scenes", "[I", true)
  | 10 => ("SleptWitnessModel", "sounds", "[I", true)
  | 11 => ("SleptWitnessModel", "leastNow", "I", false)
  | 12 => ("SleptWitnessModel", "sinceNow", "I", false)
  | 13 => ("SleptWitnessModel", "proofNow", "I", false)
  | 14 => ("SleptWitnessModel", "notDeeds", "I", false)
  | 15 => ("SleptWitnessModel", "away", "I", false)
  | 16 => ("SleptWitnessModel", "deepAt", "[I", true)
  | 17 => ("SleptWitnessModel", "isWoken", "[Z", true)
  | 18 => ("SleptWitnessModel", "became", "[I", true)
  | 19 => ("SleptWitnessModel", "testifies", "[Z", true)
  | 20 => ("SleptWitnessModel", "wakings", "[I", true)
  | 21 => ("SleptWitnessModel", "planRow", "[I", true)
  | 22 => ("SleptWitnessModel", "tales", "I", false)
  | 23 => ("SleptWitnessModel", "taleWho", "[I", true)
  | 24 => ("SleptWitnessModel", "taleSound", "[I", true)
  | 25 => ("SleptWitnessModel", "taleMany", "[I", true)
  | 26 => ("SleptWitnessModel", "marksWithout", "[I", true)
  | 27 => ("SleptWitnessModel", "kindTold", "[I", true)
  | 28 => ("SleptWitnessModel", "isThere", "[Z", true)
  | 29 => ("SleptWitnessModel", "forms", "[I", true)
  | 30 => ("SleptWitnessModel", "sizes", "[I", true)
  | 31 => ("SleptWitnessModel", "items", "[I", true)
  | 32 => ("SleptWitnessModel", "moved", "[I", true)
  | _ => ("SleptWitnessModel", "finding", "I", false)
def tyX8 : Nat → FieldType := fun k => match k with
  | 0 => .array .int
  | 1 => .array .int
  | 2 => .int
  | 3 => .array .int
  | 4 => .array .int
  | 5 => .array .int
  | 6 => .array .int
  | 7 => .int
  | 8 => .array .int
  | 9 => .array .int
  | 10 => .array .int
  | 11 => .int
  | 12 => .int
  | 13 => .int
  | 14 => .int
  | 15 => .int
  | 16 => .array .int
  | 17 => .array .boolean
  | 18 => .array .int
  | 19 => .array .boolean
  | 20 => .array .int
  | 21 => .array .int
  | 22 => .int
  | 23 => .array .int
  | 24 => .array .int
  | 25 => .array .int
  | 26 => .array .int
  | 27 => .array .int
  | 28 => .array .boolean
  | 29 => .array .int
  | 30 => .array .int
  | 31 => .array .int
  | 32 => .array .int
  | _ => .int
theorem nmX8 : ∀ a, a < 34 → ∀ b, b < 34 → a ≠ b → (TX8 a).2.1 ≠ (TX8 b).2.1 := by decide +kernel
theorem tyX8_ok : ∀ k, k < 34 → parseFieldDescriptor (TX8 k).2.2.1 = some (tyX8 k) := by decide +kernel
abbrev cX8_init : ByteArray := prog_10_method_1_code
def yX8_init : MethodName := ⟨RX8, "<init>", "()V"⟩
abbrev cX8_in : ByteArray := prog_10_method_3_code
def yX8_in : MethodName := ⟨RX8, "in", "(III)Z"⟩
abbrev cX8_isIn : ByteArray := prog_10_method_4_code
def yX8_isIn : MethodName := ⟨RX8, "isIn", "(II)Z"⟩
abbrev cX8_ones : ByteArray := prog_10_method_5_code
def yX8_ones : MethodName := ⟨RX8, "ones", "(I)I"⟩
abbrev cX8_no : ByteArray := prog_10_method_6_code
def yX8_no : MethodName := ⟨RX8, "no", "(I)J"⟩
abbrev cX8_lowest : ByteArray := prog_10_method_7_code
def yX8_lowest : MethodName := ⟨RX8, "lowest", "(JJI)J"⟩
abbrev cX8_isText : ByteArray := prog_10_method_8_code
def yX8_isText : MethodName := ⟨RX8, "isText", "(I)Z"⟩
abbrev cX8_isHour : ByteArray := prog_10_method_9_code
def yX8_isHour : MethodName := ⟨RX8, "isHour", "(I)Z"⟩
abbrev cX8_type : ByteArray := prog_10_method_10_code
def yX8_type : MethodName := ⟨RX8, "type", "(II)I"⟩
abbrev cX8_wipe : ByteArray := prog_10_method_11_code
def yX8_wipe : MethodName := ⟨RX8, "wipe", "(I)I"⟩
abbrev cX8_undo : ByteArray := prog_10_method_12_code
def yX8_undo : MethodName := ⟨RX8, "undo", "(I)I"⟩
abbrev cX8_byteAt : ByteArray := prog_10_method_13_code
def yX8_byteAt : MethodName := ⟨RX8, "byteAt", "(II)I"⟩
abbrev cX8_figureAt : ByteArray := prog_10_method_14_code
def yX8_figureAt : MethodName := ⟨RX8, "figureAt", "(III)I"⟩
abbrev cX8_readsSleeper : ByteArray := prog_10_method_15_code
def yX8_readsSleeper : MethodName := ⟨RX8, "readsSleeper", "(II)I"⟩
abbrev cX8_readsDeed : ByteArray := prog_10_method_16_code
def yX8_readsDeed : MethodName := ⟨RX8, "readsDeed", "(II)I"⟩
abbrev cX8_readsParts : ByteArray := prog_10_method_17_code
def yX8_readsParts : MethodName := ⟨RX8, "readsParts", "(I)I"⟩
abbrev cX8_faultOf : ByteArray := prog_10_method_18_code
def yX8_faultOf : MethodName := ⟨RX8, "faultOf", "(I)I"⟩
abbrev cX8_reads : ByteArray := prog_10_method_19_code
def yX8_reads : MethodName := ⟨RX8, "reads", "()V"⟩
abbrev cX8_fault : ByteArray := prog_10_method_20_code
def yX8_fault : MethodName := ⟨RX8, "fault", "(I)I"⟩
abbrev cX8_isSleeper : ByteArray := prog_10_method_21_code
def yX8_isSleeper : MethodName := ⟨RX8, "isSleeper", "(I)Z"⟩
abbrev cX8_isDeed : ByteArray := prog_10_method_22_code
def yX8_isDeed : MethodName := ⟨RX8, "isDeed", "(I)Z"⟩
abbrev cX8_sleeperOf : ByteArray := prog_10_method_23_code
def yX8_sleeperOf : MethodName := ⟨RX8, "sleeperOf", "(II)I"⟩
abbrev cX8_sleeper : ByteArray := prog_10_method_24_code
def yX8_sleeper : MethodName := ⟨RX8, "sleeper", "(II)I"⟩
abbrev cX8_deedOf : ByteArray := prog_10_method_25_code
def yX8_deedOf : MethodName := ⟨RX8, "deedOf", "(II)I"⟩
abbrev cX8_deed : ByteArray := prog_10_method_26_code
def yX8_deed : MethodName := ⟨RX8, "deed", "(II)I"⟩
abbrev cX8_law : ByteArray := prog_10_method_27_code
def yX8_law : MethodName := ⟨RX8, "law", "(II)I"⟩
abbrev cX8_rowOf : ByteArray := prog_10_method_28_code
def yX8_rowOf : MethodName := ⟨RX8, "rowOf", "(I)I"⟩
abbrev cX8_deepNow : ByteArray := prog_10_method_29_code
def yX8_deepNow : MethodName := ⟨RX8, "deepNow", "(II)I"⟩
abbrev cX8_loudOf : ByteArray := prog_10_method_30_code
def yX8_loudOf : MethodName := ⟨RX8, "loudOf", "(II)I"⟩
abbrev cX8_sleeps : ByteArray := prog_10_method_31_code
def yX8_sleeps : MethodName := ⟨RX8, "sleeps", "(I)V"⟩
abbrev cX8_runs : ByteArray := prog_10_method_32_code
def yX8_runs : MethodName := ⟨RX8, "runs", "()V"⟩
abbrev cX8_asTold : ByteArray := prog_10_method_33_code
def yX8_asTold : MethodName := ⟨RX8, "asTold", "()V"⟩
abbrev cX8_runsTold : ByteArray := prog_10_method_34_code
def yX8_runsTold : MethodName := ⟨RX8, "runsTold", "()V"⟩
abbrev cX8_depthOf : ByteArray := prog_10_method_35_code
def yX8_depthOf : MethodName := ⟨RX8, "depthOf", "(II)I"⟩
abbrev cX8_depth : ByteArray := prog_10_method_36_code
def yX8_depth : MethodName := ⟨RX8, "depth", "(II)I"⟩
abbrev cX8_hearsOf : ByteArray := prog_10_method_37_code
def yX8_hearsOf : MethodName := ⟨RX8, "hearsOf", "(III)I"⟩
abbrev cX8_hears : ByteArray := prog_10_method_38_code
def yX8_hears : MethodName := ⟨RX8, "hears", "(III)I"⟩
abbrev cX8_whoNow : ByteArray := prog_10_method_39_code
def yX8_whoNow : MethodName := ⟨RX8, "whoNow", "(I)I"⟩
abbrev cX8_isProven : ByteArray := prog_10_method_40_code
def yX8_isProven : MethodName := ⟨RX8, "isProven", "(I)Z"⟩
abbrev cX8_proofOf : ByteArray := prog_10_method_41_code
def yX8_proofOf : MethodName := ⟨RX8, "proofOf", "(II)I"⟩
abbrev cX8_proof : ByteArray := prog_10_method_42_code
def yX8_proof : MethodName := ⟨RX8, "proof", "(II)I"⟩
abbrev cX8_manyOf : ByteArray := prog_10_method_43_code
def yX8_manyOf : MethodName := ⟨RX8, "manyOf", "(I)I"⟩
abbrev cX8_nightsOf : ByteArray := prog_10_method_44_code
def yX8_nightsOf : MethodName := ⟨RX8, "nightsOf", "(II)I"⟩
abbrev cX8_nights : ByteArray := prog_10_method_45_code
def yX8_nights : MethodName := ⟨RX8, "nights", "(II)I"⟩
abbrev cX8_bestNow : ByteArray := prog_10_method_46_code
def yX8_bestNow : MethodName := ⟨RX8, "bestNow", "()I"⟩
abbrev cX8_best : ByteArray := prog_10_method_47_code
def yX8_best : MethodName := ⟨RX8, "best", "()I"⟩
abbrev cX8_byAllNow : ByteArray := prog_10_method_48_code
def yX8_byAllNow : MethodName := ⟨RX8, "byAllNow", "()I"⟩
abbrev cX8_byAll : ByteArray := prog_10_method_49_code
def yX8_byAll : MethodName := ⟨RX8, "byAll", "()I"⟩
abbrev cX8_quietOf : ByteArray := prog_10_method_50_code
def yX8_quietOf : MethodName := ⟨RX8, "quietOf", "(III)I"⟩
abbrev cX8_quiet : ByteArray := prog_10_method_51_code
def yX8_quiet : MethodName := ⟨RX8, "quiet", "(III)I"⟩
abbrev cX8_provenNow : ByteArray := prog_10_method_52_code
def yX8_provenNow : MethodName := ⟨RX8, "provenNow", "()I"⟩
abbrev cX8_moveOf : ByteArray := prog_10_method_53_code
def yX8_moveOf : MethodName := ⟨RX8, "moveOf", "(II)I"⟩
abbrev cX8_move : ByteArray := prog_10_method_54_code
def yX8_move : MethodName := ⟨RX8, "move", "(II)I"⟩
abbrev cX8_isUnproven : ByteArray := prog_10_method_55_code
def yX8_isUnproven : MethodName := ⟨RX8, "isUnproven", "(II)Z"⟩
abbrev cX8_needBy : ByteArray := prog_10_method_56_code
def yX8_needBy : MethodName := ⟨RX8, "needBy", "(I)I"⟩
abbrev cX8_ofRow : ByteArray := prog_10_method_57_code
def yX8_ofRow : MethodName := ⟨RX8, "ofRow", "(II)I"⟩
abbrev cX8_need : ByteArray := prog_10_method_58_code
def yX8_need : MethodName := ⟨RX8, "need", "(II)I"⟩
abbrev cX8_feedOf : ByteArray := prog_10_method_59_code
def yX8_feedOf : MethodName := ⟨RX8, "feedOf", "(II)I"⟩
abbrev cX8_feed : ByteArray := prog_10_method_60_code
def yX8_feed : MethodName := ⟨RX8, "feed", "(II)I"⟩
abbrev cX8_told : ByteArray := prog_10_method_61_code
def yX8_told : MethodName := ⟨RX8, "told", "(III)I"⟩
abbrev cX8_forget : ByteArray := prog_10_method_62_code
def yX8_forget : MethodName := ⟨RX8, "forget", "()I"⟩
abbrev cX8_read : ByteArray := prog_10_method_63_code
def yX8_read : MethodName := ⟨RX8, "read", "(I)I"⟩
abbrev cX8_marksOf : ByteArray := prog_10_method_64_code
def yX8_marksOf : MethodName := ⟨RX8, "marksOf", "(II)I"⟩
abbrev cX8_isTold : ByteArray := prog_10_method_65_code
def yX8_isTold : MethodName := ⟨RX8, "isTold", "()Z"⟩
abbrev cX8_neverNow : ByteArray := prog_10_method_66_code
def yX8_neverNow : MethodName := ⟨RX8, "neverNow", "()I"⟩
abbrev cX8_never : ByteArray := prog_10_method_67_code
def yX8_never : MethodName := ⟨RX8, "never", "()I"⟩
abbrev cX8_placeOf : ByteArray := prog_10_method_68_code
def yX8_placeOf : MethodName := ⟨RX8, "placeOf", "(I)I"⟩
abbrev cX8_place : ByteArray := prog_10_method_69_code
def yX8_place : MethodName := ⟨RX8, "place", "(I)I"⟩
abbrev cX8_askNow : ByteArray := prog_10_method_70_code
def yX8_askNow : MethodName := ⟨RX8, "askNow", "()I"⟩
abbrev cX8_ask : ByteArray := prog_10_method_71_code
def yX8_ask : MethodName := ⟨RX8, "ask", "()I"⟩
abbrev cX8_feignOf : ByteArray := prog_10_method_72_code
def yX8_feignOf : MethodName := ⟨RX8, "feignOf", "(III)J"⟩
abbrev cX8_feign : ByteArray := prog_10_method_73_code
def yX8_feign : MethodName := ⟨RX8, "feign", "(III)J"⟩
abbrev cX8_marksNow : ByteArray := prog_10_method_74_code
def yX8_marksNow : MethodName := ⟨RX8, "marksNow", "()I"⟩
abbrev cX8_courtOf : ByteArray := prog_10_method_75_code
def yX8_courtOf : MethodName := ⟨RX8, "courtOf", "(III)I"⟩
abbrev cX8_court : ByteArray := prog_10_method_76_code
def yX8_court : MethodName := ⟨RX8, "court", "(III)I"⟩
abbrev cX8_meets : ByteArray := prog_10_method_77_code
def yX8_meets : MethodName := ⟨RX8, "meets", "(I)I"⟩
abbrev cX8_isSheet : ByteArray := prog_10_method_78_code
def yX8_isSheet : MethodName := ⟨RX8, "isSheet", "(I)Z"⟩
abbrev cX8_sheet : ByteArray := prog_10_method_79_code
def yX8_sheet : MethodName := ⟨RX8, "sheet", "(III)I"⟩
abbrev cX8_lose : ByteArray := prog_10_method_80_code
def yX8_lose : MethodName := ⟨RX8, "lose", "(I)I"⟩
abbrev cX8_lacks : ByteArray := prog_10_method_81_code
def yX8_lacks : MethodName := ⟨RX8, "lacks", "(III)I"⟩
abbrev cX8_keep : ByteArray := prog_10_method_82_code
def yX8_keep : MethodName := ⟨RX8, "keep", "(III)V"⟩
abbrev cX8_put : ByteArray := prog_10_method_83_code
def yX8_put : MethodName := ⟨RX8, "put", "(IIII)I"⟩
abbrev cX8_get : ByteArray := prog_10_method_84_code
def yX8_get : MethodName := ⟨RX8, "get", "(III)I"⟩
abbrev cX8_copy : ByteArray := prog_10_method_85_code
def yX8_copy : MethodName := ⟨RX8, "copy", "(IIIII)I"⟩
abbrev cX8_write : ByteArray := prog_10_method_86_code
def yX8_write : MethodName := ⟨RX8, "write", "(II)I"⟩
abbrev cX8_wakingsNow : ByteArray := prog_10_method_87_code
def yX8_wakingsNow : MethodName := ⟨RX8, "wakingsNow", "()I"⟩
abbrev cX8_sumOf : ByteArray := prog_10_method_88_code
def yX8_sumOf : MethodName := ⟨RX8, "sumOf", "(I)I"⟩
abbrev cX8_count : ByteArray := prog_10_method_89_code
def yX8_count : MethodName := ⟨RX8, "count", "(I)I"⟩
abbrev cX8_sleeperDigest : ByteArray := prog_10_method_90_code
def yX8_sleeperDigest : MethodName := ⟨RX8, "sleeperDigest", "(JI)J"⟩
abbrev cX8_deedDigest : ByteArray := prog_10_method_91_code
def yX8_deedDigest : MethodName := ⟨RX8, "deedDigest", "(JI)J"⟩
abbrev cX8_digest : ByteArray := prog_10_method_92_code
def yX8_digest : MethodName := ⟨RX8, "digest", "()J"⟩
def RJx145de : String := "java/io/Serializable"
def TJx145de : u_T := fun k => match k with
  | _ => ("", "", "", false)
def tyJx145de : Nat → FieldType := fun k => match k with
  | _ => .int
theorem nmJx145de : ∀ a, a < 0 → ∀ b, b < 0 → a ≠ b → (TJx145de a).2.1 ≠ (TJx145de b).2.1 := by decide +kernel
theorem tyJx145de_ok : ∀ k, k < 0 → parseFieldDescriptor (TJx145de k).2.2.1 = some (tyJx145de k) := by decide +kernel
def RJx9f9b0 : String := "java/lang/CharSequence"
def TJx9f9b0 : u_T := fun k => match k with
  | _ => ("", "", "", false)
def tyJx9f9b0 : Nat → FieldType := fun k => match k with
  | _ => .int
theorem nmJx9f9b0 : ∀ a, a < 0 → ∀ b, b < 0 → a ≠ b → (TJx9f9b0 a).2.1 ≠ (TJx9f9b0 b).2.1 := by decide +kernel
theorem tyJx9f9b0_ok : ∀ k, k < 0 → parseFieldDescriptor (TJx9f9b0 k).2.2.1 = some (tyJx9f9b0 k) := by decide +kernel
def RJ11 : String := "java/lang/Character"
def TJ11 : u_T := fun k => match k with
  | _ => ("", "", "", false)
def tyJ11 : Nat → FieldType := fun k => match k with
  | _ => .int
theorem nmJ11 : ∀ a, a < 0 → ∀ b, b < 0 → a ≠ b → (TJ11 a).2.1 ≠ (TJ11 b).2.1 := by decide +kernel
theorem tyJ11_ok : ∀ k, k < 0 → parseFieldDescriptor (TJ11 k).2.2.1 = some (tyJ11 k) := by decide +kernel
abbrev cJ11_isValidCodePoint_9a6ad : ByteArray := prog_11_method_11_code
def yJ11_isValidCodePoint_9a6ad : MethodName := ⟨RJ11, "isValidCodePoint", "(I)Z"⟩
abbrev cJ11_highSurrogate_5068e : ByteArray := prog_11_method_28_code
def yJ11_highSurrogate_5068e : MethodName := ⟨RJ11, "highSurrogate", "(I)C"⟩
abbrev cJ11_lowSurrogate_5068e : ByteArray := prog_11_method_29_code
def yJ11_lowSurrogate_5068e : MethodName := ⟨RJ11, "lowSurrogate", "(I)C"⟩
def RJxb160c : String := "java/lang/Comparable"
def TJxb160c : u_T := fun k => match k with
  | _ => ("", "", "", false)
def tyJxb160c : Nat → FieldType := fun k => match k with
  | _ => .int
theorem nmJxb160c : ∀ a, a < 0 → ∀ b, b < 0 → a ≠ b → (TJxb160c a).2.1 ≠ (TJxb160c b).2.1 := by decide +kernel
theorem tyJxb160c_ok : ∀ k, k < 0 → parseFieldDescriptor (TJxb160c k).2.2.1 = some (tyJxb160c k) := by decide +kernel
def RJ6 : String := "java/lang/Integer"
def TJ6 : u_T := fun k => match k with
  | _ => ("", "", "", false)
def tyJ6 : Nat → FieldType := fun k => match k with
  | _ => .int
theorem nmJ6 : ∀ a, a < 0 → ∀ b, b < 0 → a ≠ b → (TJ6 a).2.1 ≠ (TJ6 b).2.1 := by decide +kernel
theorem tyJ6_ok : ∀ k, k < 0 → parseFieldDescriptor (TJ6 k).2.2.1 = some (tyJ6 k) := by decide +kernel
abbrev cJ6_bitCount_0f7a4 : ByteArray := prog_12_method_49_code
def yJ6_bitCount_0f7a4 : MethodName := ⟨RJ6, "bitCount", "(I)I"⟩
def RJ9 : String := "java/lang/Math"
def TJ9 : u_T := fun k => match k with
  | _ => ("", "", "", false)
def tyJ9 : Nat → FieldType := fun k => match k with
  | _ => .int
theorem nmJ9 : ∀ a, a < 0 → ∀ b, b < 0 → a ≠ b → (TJ9 a).2.1 ≠ (TJ9 b).2.1 := by decide +kernel
theorem tyJ9_ok : ∀ k, k < 0 → parseFieldDescriptor (TJ9 k).2.2.1 = some (tyJ9 k) := by decide +kernel
abbrev cJ9_abs_0f7a4 : ByteArray := prog_13_method_59_code
def yJ9_abs_0f7a4 : MethodName := ⟨RJ9, "abs", "(I)I"⟩
abbrev cJ9_max_7cf53 : ByteArray := prog_13_method_65_code
def yJ9_max_7cf53 : MethodName := ⟨RJ9, "max", "(II)I"⟩
abbrev cJ9_min_7cf53 : ByteArray := prog_13_method_69_code
def yJ9_min_7cf53 : MethodName := ⟨RJ9, "min", "(II)I"⟩
def RJ0 : String := "java/lang/String"
def TJ0 : u_T := fun k => match k with
  | _ => ("", "", "", false)
def tyJ0 : Nat → FieldType := fun k => match k with
  | _ => .int
theorem nmJ0 : ∀ a, a < 0 → ∀ b, b < 0 → a ≠ b → (TJ0 a).2.1 ≠ (TJ0 b).2.1 := by decide +kernel
theorem tyJ0_ok : ∀ k, k < 0 → parseFieldDescriptor (TJ0 k).2.2.1 = some (tyJ0 k) := by decide +kernel
abbrev cJ0_length_8abf5 : ByteArray := prog_14_method_54_code
def yJ0_length_8abf5 : MethodName := ⟨RJ0, "length", "()I"⟩
abbrev cJ0_indexOf_0f7a4 : ByteArray := prog_14_method_79_code
def yJ0_indexOf_0f7a4 : MethodName := ⟨RJ0, "indexOf", "(I)I"⟩
abbrev cJ0_indexOf_7cf53 : ByteArray := prog_14_method_80_code
def yJ0_indexOf_7cf53 : MethodName := ⟨RJ0, "indexOf", "(II)I"⟩
abbrev cJ0_coder_7d493 : ByteArray := prog_14_method_152_code
def yJ0_coder_7d493 : MethodName := ⟨RJ0, "coder", "()B"⟩
abbrev cJ0_isLatin1_aae02 : ByteArray := prog_14_method_154_code
def yJ0_isLatin1_aae02 : MethodName := ⟨RJ0, "isLatin1", "()Z"⟩
abbrev cJ0_checkBoundsBeginEnd_23922 : ByteArray := prog_14_method_158_code
def yJ0_checkBoundsBeginEnd_23922 : MethodName := ⟨RJ0, "checkBoundsBeginEnd", "(III)V"⟩
def RJ1 : String := "java/lang/StringLatin1"
def TJ1 : u_T := fun k => match k with
  | _ => ("", "", "", false)
def tyJ1 : Nat → FieldType := fun k => match k with
  | _ => .int
theorem nmJ1 : ∀ a, a < 0 → ∀ b, b < 0 → a ≠ b → (TJ1 a).2.1 ≠ (TJ1 b).2.1 := by decide +kernel
theorem tyJ1_ok : ∀ k, k < 0 → parseFieldDescriptor (TJ1 k).2.2.1 = some (tyJ1 k) := by decide +kernel
abbrev cJ1_canEncode_9a6ad : ByteArray := prog_15_method_4_code
def yJ1_canEncode_9a6ad : MethodName := ⟨RJ1, "canEncode", "(I)Z"⟩
abbrev cJ1_indexOf_4cfef : ByteArray := prog_15_method_22_code
def yJ1_indexOf_4cfef : MethodName := ⟨RJ1, "indexOf", "([BIII)I"⟩
abbrev cJ1_indexOfChar_4cfef : ByteArray := prog_15_method_23_code
def yJ1_indexOfChar_4cfef : MethodName := ⟨RJ1, "indexOfChar", "([BIII)I"⟩
def RJ2 : String := "java/lang/StringUTF16"
def TJ2 : u_T := fun k => match k with
  | _ => ("", "", "", false)
def tyJ2 : Nat → FieldType := fun k => match k with
  | _ => .int
theorem nmJ2 : ∀ a, a < 0 → ∀ b, b < 0 → a ≠ b → (TJ2 a).2.1 ≠ (TJ2 b).2.1 := by decide +kernel
theorem tyJ2_ok : ∀ k, k < 0 → parseFieldDescriptor (TJ2 k).2.2.1 = some (tyJ2 k) := by decide +kernel
abbrev cJ2_getChar_3b067 : ByteArray := prog_16_method_5_code
def yJ2_getChar_3b067 : MethodName := ⟨RJ2, "getChar", "([BI)C"⟩
abbrev cJ2_length_9d52b : ByteArray := prog_16_method_6_code
def yJ2_length_9d52b : MethodName := ⟨RJ2, "length", "([B)I"⟩
abbrev cJ2_indexOf_4cfef : ByteArray := prog_16_method_40_code
def yJ2_indexOf_4cfef : MethodName := ⟨RJ2, "indexOf", "([BIII)I"⟩
abbrev cJ2_indexOfChar_4cfef : ByteArray := prog_16_method_47_code
def yJ2_indexOfChar_4cfef : MethodName := ⟨RJ2, "indexOfChar", "([BIII)I"⟩
abbrev cJ2_indexOfCharUnsafe_4cfef : ByteArray := prog_16_method_48_code
def yJ2_indexOfCharUnsafe_4cfef : MethodName := ⟨RJ2, "indexOfCharUnsafe", "([BIII)I"⟩
abbrev cJ2_indexOfSupplementary_4cfef : ByteArray := prog_16_method_49_code
def yJ2_indexOfSupplementary_4cfef : MethodName := ⟨RJ2, "indexOfSupplementary", "([BIII)I"⟩
abbrev cJ2_checkBoundsBeginEnd_d044e : ByteArray := prog_16_method_93_code
def yJ2_checkBoundsBeginEnd_d044e : MethodName := ⟨RJ2, "checkBoundsBeginEnd", "(II[B)V"⟩
def RJ10 : String := "java/lang/System"
def TJ10 : u_T := fun k => match k with
  | _ => ("", "", "", false)
def tyJ10 : Nat → FieldType := fun k => match k with
  | _ => .int
theorem nmJ10 : ∀ a, a < 0 → ∀ b, b < 0 → a ≠ b → (TJ10 a).2.1 ≠ (TJ10 b).2.1 := by decide +kernel
theorem tyJ10_ok : ∀ k, k < 0 → parseFieldDescriptor (TJ10 k).2.2.1 = some (tyJ10 k) := by decide +kernel
def RJxfd54e : String := "java/lang/constant/Constable"
def TJxfd54e : u_T := fun k => match k with
  | _ => ("", "", "", false)
def tyJxfd54e : Nat → FieldType := fun k => match k with
  | _ => .int
theorem nmJxfd54e : ∀ a, a < 0 → ∀ b, b < 0 → a ≠ b → (TJxfd54e a).2.1 ≠ (TJxfd54e b).2.1 := by decide +kernel
theorem tyJxfd54e_ok : ∀ k, k < 0 → parseFieldDescriptor (TJxfd54e k).2.2.1 = some (tyJxfd54e k) := by decide +kernel
def RJx3cf43 : String := "java/lang/constant/ConstantDesc"
def TJx3cf43 : u_T := fun k => match k with
  | _ => ("", "", "", false)
def tyJx3cf43 : Nat → FieldType := fun k => match k with
  | _ => .int
theorem nmJx3cf43 : ∀ a, a < 0 → ∀ b, b < 0 → a ≠ b → (TJx3cf43 a).2.1 ≠ (TJx3cf43 b).2.1 := by decide +kernel
theorem tyJx3cf43_ok : ∀ k, k < 0 → parseFieldDescriptor (TJx3cf43 k).2.2.1 = some (tyJx3cf43 k) := by decide +kernel
def RJ7 : String := "java/util/Arrays"
def TJ7 : u_T := fun k => match k with
  | _ => ("", "", "", false)
def tyJ7 : Nat → FieldType := fun k => match k with
  | _ => .int
theorem nmJ7 : ∀ a, a < 0 → ∀ b, b < 0 → a ≠ b → (TJ7 a).2.1 ≠ (TJ7 b).2.1 := by decide +kernel
theorem tyJ7_ok : ∀ k, k < 0 → parseFieldDescriptor (TJ7 k).2.2.1 = some (tyJ7 k) := by decide +kernel
abbrev cJ7_fill_d0a16 : ByteArray := prog_18_method_101_code
def yJ7_fill_d0a16 : MethodName := ⟨RJ7, "fill", "([JJ)V"⟩
abbrev cJ7_fill_53178 : ByteArray := prog_18_method_103_code
def yJ7_fill_53178 : MethodName := ⟨RJ7, "fill", "([II)V"⟩
def RJ3 : String := "jdk/internal/util/Preconditions"
def TJ3 : u_T := fun k => match k with
  | _ => ("", "", "", false)
def tyJ3 : Nat → FieldType := fun k => match k with
  | _ => .int
theorem nmJ3 : ∀ a, a < 0 → ∀ b, b < 0 → a ≠ b → (TJ3 a).2.1 ≠ (TJ3 b).2.1 := by decide +kernel
theorem tyJ3_ok : ∀ k, k < 0 → parseFieldDescriptor (TJ3 k).2.2.1 = some (tyJ3 k) := by decide +kernel
abbrev cJ3_checkFromToIndex_8c36e : ByteArray := prog_19_method_12_code
def yJ3_checkFromToIndex_8c36e : MethodName := ⟨RJ3, "checkFromToIndex", "(IIILjava/util/function/BiFunction;)I"⟩
def RL : String := "SleptWitnessLaw"
abbrev cL_law : ByteArray := code
def yL_law : MethodName := ⟨RL, "law", "([I)Z"⟩
