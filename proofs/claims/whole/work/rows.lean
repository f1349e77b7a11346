section
-- ===== PART A: goes FIRST, ahead of the names: the tables' words, and 'selects' of the private methods out of them =====
/-- a private method of a class that the tables say can be made, by its rows of tables_1 -/
def lw_okq (q : MethodName × Nat) : Prop := (q.1.cls ≠ "java/lang/invoke/MethodHandle" ∧ q.1.cls ≠ "java/lang/invoke/VarHandle") ∧ Cond.instantiable q.1.cls q.2 ∈ tables_1 ∧ Cond.privateMethod q.1 ∈ tables_1 ∧ Cond.instanceMethod q.1 ∈ tables_1
theorem lw_p0 : lw_okq (⟨"SleptWitness", "resize", "(II)I"⟩, 15) := ⟨⟨by decide +kernel, by decide +kernel⟩, List.mem_of_getElem? (i := 20) (by decide +kernel), List.mem_of_getElem? (i := 277) (by decide +kernel), List.mem_of_getElem? (i := 278) (by decide +kernel)⟩
theorem lw_p1 : lw_okq (⟨"SleptWitness", "makeBeds", "(LSleptWitness$Text;)V"⟩, 15) := ⟨⟨by decide +kernel, by decide +kernel⟩, List.mem_of_getElem? (i := 20) (by decide +kernel), List.mem_of_getElem? (i := 281) (by decide +kernel), List.mem_of_getElem? (i := 282) (by decide +kernel)⟩
theorem lw_p2 : lw_okq (⟨"SleptWitness", "tellDeeds", "(LSleptWitness$Text;)V"⟩, 15) := ⟨⟨by decide +kernel, by decide +kernel⟩, List.mem_of_getElem? (i := 20) (by decide +kernel), List.mem_of_getElem? (i := 392) (by decide +kernel), List.mem_of_getElem? (i := 393) (by decide +kernel)⟩
theorem lw_p3 : lw_okq (⟨"SleptWitness$Night", "lieDown", "(LSleptWitness$Sleeper;)V"⟩, 9) := ⟨⟨by decide +kernel, by decide +kernel⟩, List.mem_of_getElem? (i := 113) (by decide +kernel), List.mem_of_getElem? (i := 437) (by decide +kernel), List.mem_of_getElem? (i := 438) (by decide +kernel)⟩
theorem lw_p4 : lw_okq (⟨"SleptWitness$Night", "meet", "(LSleptWitness$Sleeper;LSleptWitness$Deeds;I)V"⟩, 9) := ⟨⟨by decide +kernel, by decide +kernel⟩, List.mem_of_getElem? (i := 113) (by decide +kernel), List.mem_of_getElem? (i := 444) (by decide +kernel), List.mem_of_getElem? (i := 445) (by decide +kernel)⟩
theorem lw_p5 : lw_okq (⟨"SleptWitness$Night", "testifies", "(III[I)Z"⟩, 9) := ⟨⟨by decide +kernel, by decide +kernel⟩, List.mem_of_getElem? (i := 113) (by decide +kernel), List.mem_of_getElem? (i := 476) (by decide +kernel), List.mem_of_getElem? (i := 477) (by decide +kernel)⟩
theorem lw_p6 : lw_okq (⟨"SleptWitness$Night", "wokenOfLate", "(II)Z"⟩, 9) := ⟨⟨by decide +kernel, by decide +kernel⟩, List.mem_of_getElem? (i := 113) (by decide +kernel), List.mem_of_getElem? (i := 480) (by decide +kernel), List.mem_of_getElem? (i := 481) (by decide +kernel)⟩
theorem lw_p7 : lw_okq (⟨"SleptWitness", "hearAll", "(LSleptWitness$Deeds;)V"⟩, 15) := ⟨⟨by decide +kernel, by decide +kernel⟩, List.mem_of_getElem? (i := 20) (by decide +kernel), List.mem_of_getElem? (i := 488) (by decide +kernel), List.mem_of_getElem? (i := 489) (by decide +kernel)⟩
theorem lw_p8 : lw_okq (⟨"SleptWitness", "seenBy", "(I)I"⟩, 15) := ⟨⟨by decide +kernel, by decide +kernel⟩, List.mem_of_getElem? (i := 20) (by decide +kernel), List.mem_of_getElem? (i := 523) (by decide +kernel), List.mem_of_getElem? (i := 524) (by decide +kernel)⟩
theorem lw_p9 : lw_okq (⟨"SleptWitness", "testifyingIn", "(I)I"⟩, 15) := ⟨⟨by decide +kernel, by decide +kernel⟩, List.mem_of_getElem? (i := 20) (by decide +kernel), List.mem_of_getElem? (i := 535) (by decide +kernel), List.mem_of_getElem? (i := 536) (by decide +kernel)⟩
theorem lw_p10 : lw_okq (⟨"SleptWitness", "provenOf", "(LSleptWitness$Deeds;)I"⟩, 15) := ⟨⟨by decide +kernel, by decide +kernel⟩, List.mem_of_getElem? (i := 20) (by decide +kernel), List.mem_of_getElem? (i := 547) (by decide +kernel), List.mem_of_getElem? (i := 548) (by decide +kernel)⟩
theorem lw_p11 : lw_okq (⟨"SleptWitness", "found", "(I)I"⟩, 15) := ⟨⟨by decide +kernel, by decide +kernel⟩, List.mem_of_getElem? (i := 20) (by decide +kernel), List.mem_of_getElem? (i := 588) (by decide +kernel), List.mem_of_getElem? (i := 589) (by decide +kernel)⟩
theorem lw_p12 : lw_okq (⟨"SleptWitness", "comesOut", "()Z"⟩, 15) := ⟨⟨by decide +kernel, by decide +kernel⟩, List.mem_of_getElem? (i := 20) (by decide +kernel), List.mem_of_getElem? (i := 601) (by decide +kernel), List.mem_of_getElem? (i := 602) (by decide +kernel)⟩
theorem lw_p13 : lw_okq (⟨"SleptWitness", "mostAlike", "(II)I"⟩, 15) := ⟨⟨by decide +kernel, by decide +kernel⟩, List.mem_of_getElem? (i := 20) (by decide +kernel), List.mem_of_getElem? (i := 614) (by decide +kernel), List.mem_of_getElem? (i := 615) (by decide +kernel)⟩
theorem lw_p14 : lw_okq (⟨"SleptWitness", "spreadWays", "(II)V"⟩, 15) := ⟨⟨by decide +kernel, by decide +kernel⟩, List.mem_of_getElem? (i := 20) (by decide +kernel), List.mem_of_getElem? (i := 627) (by decide +kernel), List.mem_of_getElem? (i := 628) (by decide +kernel)⟩
theorem lw_p15 : lw_okq (⟨"SleptWitness", "findingAt", "(LSleptWitness$Sheet;II)I"⟩, 15) := ⟨⟨by decide +kernel, by decide +kernel⟩, List.mem_of_getElem? (i := 20) (by decide +kernel), List.mem_of_getElem? (i := 662) (by decide +kernel), List.mem_of_getElem? (i := 663) (by decide +kernel)⟩
def lw_privs_1 : List (MethodName × Nat) := [(⟨"SleptWitness", "resize", "(II)I"⟩, 15), (⟨"SleptWitness", "makeBeds", "(LSleptWitness$Text;)V"⟩, 15), (⟨"SleptWitness", "tellDeeds", "(LSleptWitness$Text;)V"⟩, 15), (⟨"SleptWitness$Night", "lieDown", "(LSleptWitness$Sleeper;)V"⟩, 9), (⟨"SleptWitness$Night", "meet", "(LSleptWitness$Sleeper;LSleptWitness$Deeds;I)V"⟩, 9), (⟨"SleptWitness$Night", "testifies", "(III[I)Z"⟩, 9), (⟨"SleptWitness$Night", "wokenOfLate", "(II)Z"⟩, 9), (⟨"SleptWitness", "hearAll", "(LSleptWitness$Deeds;)V"⟩, 15), (⟨"SleptWitness", "seenBy", "(I)I"⟩, 15), (⟨"SleptWitness", "testifyingIn", "(I)I"⟩, 15), (⟨"SleptWitness", "provenOf", "(LSleptWitness$Deeds;)I"⟩, 15), (⟨"SleptWitness", "found", "(I)I"⟩, 15), (⟨"SleptWitness", "comesOut", "()Z"⟩, 15), (⟨"SleptWitness", "mostAlike", "(II)I"⟩, 15), (⟨"SleptWitness", "spreadWays", "(II)V"⟩, 15), (⟨"SleptWitness", "findingAt", "(LSleptWitness$Sheet;II)I"⟩, 15)]
theorem lw_r1 : ∀ q ∈ lw_privs_1, lw_okq q := List.forall_mem_cons.mpr ⟨lw_p0, List.forall_mem_cons.mpr ⟨lw_p1, List.forall_mem_cons.mpr ⟨lw_p2, List.forall_mem_cons.mpr ⟨lw_p3, List.forall_mem_cons.mpr ⟨lw_p4, List.forall_mem_cons.mpr ⟨lw_p5, List.forall_mem_cons.mpr ⟨lw_p6, List.forall_mem_cons.mpr ⟨lw_p7, List.forall_mem_cons.mpr ⟨lw_p8, List.forall_mem_cons.mpr ⟨lw_p9, List.forall_mem_cons.mpr ⟨lw_p10, List.forall_mem_cons.mpr ⟨lw_p11, List.forall_mem_cons.mpr ⟨lw_p12, List.forall_mem_cons.mpr ⟨lw_p13, List.forall_mem_cons.mpr ⟨lw_p14, List.forall_mem_cons.mpr ⟨lw_p15, fun _ h => absurd h List.not_mem_nil⟩⟩⟩⟩⟩⟩⟩⟩⟩⟩⟩⟩⟩⟩⟩⟩
theorem lw_p16 : lw_okq (⟨"SleptWitness", "digestSleeper", "(JI)J"⟩, 15) := ⟨⟨by decide +kernel, by decide +kernel⟩, List.mem_of_getElem? (i := 20) (by decide +kernel), List.mem_of_getElem? (i := 702) (by decide +kernel), List.mem_of_getElem? (i := 703) (by decide +kernel)⟩
theorem lw_p17 : lw_okq (⟨"SleptWitness", "digestDeed", "(JI)J"⟩, 15) := ⟨⟨by decide +kernel, by decide +kernel⟩, List.mem_of_getElem? (i := 20) (by decide +kernel), List.mem_of_getElem? (i := 711) (by decide +kernel), List.mem_of_getElem? (i := 712) (by decide +kernel)⟩
theorem lw_p18 : lw_okq (⟨"SleptWitnessModel", "faultOf", "(I)I"⟩, 34) := ⟨⟨by decide +kernel, by decide +kernel⟩, List.mem_of_getElem? (i := 726) (by decide +kernel), List.mem_of_getElem? (i := 858) (by decide +kernel), List.mem_of_getElem? (i := 859) (by decide +kernel)⟩
theorem lw_p19 : lw_okq (⟨"SleptWitnessModel", "readsParts", "(I)I"⟩, 34) := ⟨⟨by decide +kernel, by decide +kernel⟩, List.mem_of_getElem? (i := 726) (by decide +kernel), List.mem_of_getElem? (i := 862) (by decide +kernel), List.mem_of_getElem? (i := 863) (by decide +kernel)⟩
theorem lw_p20 : lw_okq (⟨"SleptWitnessModel", "readsSleeper", "(II)I"⟩, 34) := ⟨⟨by decide +kernel, by decide +kernel⟩, List.mem_of_getElem? (i := 726) (by decide +kernel), List.mem_of_getElem? (i := 866) (by decide +kernel), List.mem_of_getElem? (i := 867) (by decide +kernel)⟩
theorem lw_p21 : lw_okq (⟨"SleptWitnessModel", "figureAt", "(III)I"⟩, 34) := ⟨⟨by decide +kernel, by decide +kernel⟩, List.mem_of_getElem? (i := 726) (by decide +kernel), List.mem_of_getElem? (i := 870) (by decide +kernel), List.mem_of_getElem? (i := 871) (by decide +kernel)⟩
theorem lw_p22 : lw_okq (⟨"SleptWitnessModel", "byteAt", "(II)I"⟩, 34) := ⟨⟨by decide +kernel, by decide +kernel⟩, List.mem_of_getElem? (i := 726) (by decide +kernel), List.mem_of_getElem? (i := 874) (by decide +kernel), List.mem_of_getElem? (i := 875) (by decide +kernel)⟩
theorem lw_p23 : lw_okq (⟨"SleptWitnessModel", "readsDeed", "(II)I"⟩, 34) := ⟨⟨by decide +kernel, by decide +kernel⟩, List.mem_of_getElem? (i := 726) (by decide +kernel), List.mem_of_getElem? (i := 878) (by decide +kernel), List.mem_of_getElem? (i := 879) (by decide +kernel)⟩
theorem lw_p24 : lw_okq (⟨"SleptWitnessModel", "isSleeper", "(I)Z"⟩, 34) := ⟨⟨by decide +kernel, by decide +kernel⟩, List.mem_of_getElem? (i := 726) (by decide +kernel), List.mem_of_getElem? (i := 886) (by decide +kernel), List.mem_of_getElem? (i := 887) (by decide +kernel)⟩
theorem lw_p25 : lw_okq (⟨"SleptWitnessModel", "reads", "()V"⟩, 34) := ⟨⟨by decide +kernel, by decide +kernel⟩, List.mem_of_getElem? (i := 726) (by decide +kernel), List.mem_of_getElem? (i := 890) (by decide +kernel), List.mem_of_getElem? (i := 891) (by decide +kernel)⟩
theorem lw_p26 : lw_okq (⟨"SleptWitnessModel", "sleeperOf", "(II)I"⟩, 34) := ⟨⟨by decide +kernel, by decide +kernel⟩, List.mem_of_getElem? (i := 726) (by decide +kernel), List.mem_of_getElem? (i := 894) (by decide +kernel), List.mem_of_getElem? (i := 895) (by decide +kernel)⟩
theorem lw_p27 : lw_okq (⟨"SleptWitnessModel", "isDeed", "(I)Z"⟩, 34) := ⟨⟨by decide +kernel, by decide +kernel⟩, List.mem_of_getElem? (i := 726) (by decide +kernel), List.mem_of_getElem? (i := 902) (by decide +kernel), List.mem_of_getElem? (i := 903) (by decide +kernel)⟩
theorem lw_p28 : lw_okq (⟨"SleptWitnessModel", "deedOf", "(II)I"⟩, 34) := ⟨⟨by decide +kernel, by decide +kernel⟩, List.mem_of_getElem? (i := 726) (by decide +kernel), List.mem_of_getElem? (i := 906) (by decide +kernel), List.mem_of_getElem? (i := 907) (by decide +kernel)⟩
theorem lw_p29 : lw_okq (⟨"SleptWitnessModel", "depthOf", "(II)I"⟩, 34) := ⟨⟨by decide +kernel, by decide +kernel⟩, List.mem_of_getElem? (i := 726) (by decide +kernel), List.mem_of_getElem? (i := 921) (by decide +kernel), List.mem_of_getElem? (i := 922) (by decide +kernel)⟩
theorem lw_p30 : lw_okq (⟨"SleptWitnessModel", "runsTold", "()V"⟩, 34) := ⟨⟨by decide +kernel, by decide +kernel⟩, List.mem_of_getElem? (i := 726) (by decide +kernel), List.mem_of_getElem? (i := 925) (by decide +kernel), List.mem_of_getElem? (i := 926) (by decide +kernel)⟩
theorem lw_p31 : lw_okq (⟨"SleptWitnessModel", "asTold", "()V"⟩, 34) := ⟨⟨by decide +kernel, by decide +kernel⟩, List.mem_of_getElem? (i := 726) (by decide +kernel), List.mem_of_getElem? (i := 929) (by decide +kernel), List.mem_of_getElem? (i := 930) (by decide +kernel)⟩
def lw_privs_2 : List (MethodName × Nat) := [(⟨"SleptWitness", "digestSleeper", "(JI)J"⟩, 15), (⟨"SleptWitness", "digestDeed", "(JI)J"⟩, 15), (⟨"SleptWitnessModel", "faultOf", "(I)I"⟩, 34), (⟨"SleptWitnessModel", "readsParts", "(I)I"⟩, 34), (⟨"SleptWitnessModel", "readsSleeper", "(II)I"⟩, 34), (⟨"SleptWitnessModel", "figureAt", "(III)I"⟩, 34), (⟨"SleptWitnessModel", "byteAt", "(II)I"⟩, 34), (⟨"SleptWitnessModel", "readsDeed", "(II)I"⟩, 34), (⟨"SleptWitnessModel", "isSleeper", "(I)Z"⟩, 34), (⟨"SleptWitnessModel", "reads", "()V"⟩, 34), (⟨"SleptWitnessModel", "sleeperOf", "(II)I"⟩, 34), (⟨"SleptWitnessModel", "isDeed", "(I)Z"⟩, 34), (⟨"SleptWitnessModel", "deedOf", "(II)I"⟩, 34), (⟨"SleptWitnessModel", "depthOf", "(II)I"⟩, 34), (⟨"SleptWitnessModel", "runsTold", "()V"⟩, 34), (⟨"SleptWitnessModel", "asTold", "()V"⟩, 34)]
theorem lw_r2 : ∀ q ∈ lw_privs_2, lw_okq q := List.forall_mem_cons.mpr ⟨lw_p16, List.forall_mem_cons.mpr ⟨lw_p17, List.forall_mem_cons.mpr ⟨lw_p18, List.forall_mem_cons.mpr ⟨lw_p19, List.forall_mem_cons.mpr ⟨lw_p20, List.forall_mem_cons.mpr ⟨lw_p21, List.forall_mem_cons.mpr ⟨lw_p22, List.forall_mem_cons.mpr ⟨lw_p23, List.forall_mem_cons.mpr ⟨lw_p24, List.forall_mem_cons.mpr ⟨lw_p25, List.forall_mem_cons.mpr ⟨lw_p26, List.forall_mem_cons.mpr ⟨lw_p27, List.forall_mem_cons.mpr ⟨lw_p28, List.forall_mem_cons.mpr ⟨lw_p29, List.forall_mem_cons.mpr ⟨lw_p30, List.forall_mem_cons.mpr ⟨lw_p31, fun _ h => absurd h List.not_mem_nil⟩⟩⟩⟩⟩⟩⟩⟩⟩⟩⟩⟩⟩⟩⟩⟩
theorem lw_p32 : lw_okq (⟨"SleptWitnessModel", "runs", "()V"⟩, 34) := ⟨⟨by decide +kernel, by decide +kernel⟩, List.mem_of_getElem? (i := 726) (by decide +kernel), List.mem_of_getElem? (i := 933) (by decide +kernel), List.mem_of_getElem? (i := 934) (by decide +kernel)⟩
theorem lw_p33 : lw_okq (⟨"SleptWitnessModel", "sleeps", "(I)V"⟩, 34) := ⟨⟨by decide +kernel, by decide +kernel⟩, List.mem_of_getElem? (i := 726) (by decide +kernel), List.mem_of_getElem? (i := 937) (by decide +kernel), List.mem_of_getElem? (i := 938) (by decide +kernel)⟩
theorem lw_p34 : lw_okq (⟨"SleptWitnessModel", "deepNow", "(II)I"⟩, 34) := ⟨⟨by decide +kernel, by decide +kernel⟩, List.mem_of_getElem? (i := 726) (by decide +kernel), List.mem_of_getElem? (i := 941) (by decide +kernel), List.mem_of_getElem? (i := 942) (by decide +kernel)⟩
theorem lw_p35 : lw_okq (⟨"SleptWitnessModel", "loudOf", "(II)I"⟩, 34) := ⟨⟨by decide +kernel, by decide +kernel⟩, List.mem_of_getElem? (i := 726) (by decide +kernel), List.mem_of_getElem? (i := 951) (by decide +kernel), List.mem_of_getElem? (i := 952) (by decide +kernel)⟩
theorem lw_p36 : lw_okq (⟨"SleptWitnessModel", "hearsOf", "(III)I"⟩, 34) := ⟨⟨by decide +kernel, by decide +kernel⟩, List.mem_of_getElem? (i := 726) (by decide +kernel), List.mem_of_getElem? (i := 959) (by decide +kernel), List.mem_of_getElem? (i := 960) (by decide +kernel)⟩
theorem lw_p37 : lw_okq (⟨"SleptWitnessModel", "proofOf", "(II)I"⟩, 34) := ⟨⟨by decide +kernel, by decide +kernel⟩, List.mem_of_getElem? (i := 726) (by decide +kernel), List.mem_of_getElem? (i := 967) (by decide +kernel), List.mem_of_getElem? (i := 968) (by decide +kernel)⟩
theorem lw_p38 : lw_okq (⟨"SleptWitnessModel", "whoNow", "(I)I"⟩, 34) := ⟨⟨by decide +kernel, by decide +kernel⟩, List.mem_of_getElem? (i := 726) (by decide +kernel), List.mem_of_getElem? (i := 971) (by decide +kernel), List.mem_of_getElem? (i := 972) (by decide +kernel)⟩
theorem lw_p39 : lw_okq (⟨"SleptWitnessModel", "nightsOf", "(II)I"⟩, 34) := ⟨⟨by decide +kernel, by decide +kernel⟩, List.mem_of_getElem? (i := 726) (by decide +kernel), List.mem_of_getElem? (i := 982) (by decide +kernel), List.mem_of_getElem? (i := 983) (by decide +kernel)⟩
theorem lw_p40 : lw_okq (⟨"SleptWitnessModel", "manyOf", "(I)I"⟩, 34) := ⟨⟨by decide +kernel, by decide +kernel⟩, List.mem_of_getElem? (i := 726) (by decide +kernel), List.mem_of_getElem? (i := 986) (by decide +kernel), List.mem_of_getElem? (i := 987) (by decide +kernel)⟩
theorem lw_p41 : lw_okq (⟨"SleptWitnessModel", "bestNow", "()I"⟩, 34) := ⟨⟨by decide +kernel, by decide +kernel⟩, List.mem_of_getElem? (i := 726) (by decide +kernel), List.mem_of_getElem? (i := 994) (by decide +kernel), List.mem_of_getElem? (i := 995) (by decide +kernel)⟩
theorem lw_p42 : lw_okq (⟨"SleptWitnessModel", "byAllNow", "()I"⟩, 34) := ⟨⟨by decide +kernel, by decide +kernel⟩, List.mem_of_getElem? (i := 726) (by decide +kernel), List.mem_of_getElem? (i := 1002) (by decide +kernel), List.mem_of_getElem? (i := 1003) (by decide +kernel)⟩
theorem lw_p43 : lw_okq (⟨"SleptWitnessModel", "quietOf", "(III)I"⟩, 34) := ⟨⟨by decide +kernel, by decide +kernel⟩, List.mem_of_getElem? (i := 726) (by decide +kernel), List.mem_of_getElem? (i := 1010) (by decide +kernel), List.mem_of_getElem? (i := 1011) (by decide +kernel)⟩
theorem lw_p44 : lw_okq (⟨"SleptWitnessModel", "isProven", "(I)Z"⟩, 34) := ⟨⟨by decide +kernel, by decide +kernel⟩, List.mem_of_getElem? (i := 726) (by decide +kernel), List.mem_of_getElem? (i := 1014) (by decide +kernel), List.mem_of_getElem? (i := 1015) (by decide +kernel)⟩
theorem lw_p45 : lw_okq (⟨"SleptWitnessModel", "moveOf", "(II)I"⟩, 34) := ⟨⟨by decide +kernel, by decide +kernel⟩, List.mem_of_getElem? (i := 726) (by decide +kernel), List.mem_of_getElem? (i := 1022) (by decide +kernel), List.mem_of_getElem? (i := 1023) (by decide +kernel)⟩
theorem lw_p46 : lw_okq (⟨"SleptWitnessModel", "provenNow", "()I"⟩, 34) := ⟨⟨by decide +kernel, by decide +kernel⟩, List.mem_of_getElem? (i := 726) (by decide +kernel), List.mem_of_getElem? (i := 1026) (by decide +kernel), List.mem_of_getElem? (i := 1027) (by decide +kernel)⟩
theorem lw_p47 : lw_okq (⟨"SleptWitnessModel", "needBy", "(I)I"⟩, 34) := ⟨⟨by decide +kernel, by decide +kernel⟩, List.mem_of_getElem? (i := 726) (by decide +kernel), List.mem_of_getElem? (i := 1034) (by decide +kernel), List.mem_of_getElem? (i := 1035) (by decide +kernel)⟩
def lw_privs_3 : List (MethodName × Nat) := [(⟨"SleptWitnessModel", "runs", "()V"⟩, 34), (⟨"SleptWitnessModel", "sleeps", "(I)V"⟩, 34), (⟨"SleptWitnessModel", "deepNow", "(II)I"⟩, 34), (⟨"SleptWitnessModel", "loudOf", "(II)I"⟩, 34), (⟨"SleptWitnessModel", "hearsOf", "(III)I"⟩, 34), (⟨"SleptWitnessModel", "proofOf", "(II)I"⟩, 34), (⟨"SleptWitnessModel", "whoNow", "(I)I"⟩, 34), (⟨"SleptWitnessModel", "nightsOf", "(II)I"⟩, 34), (⟨"SleptWitnessModel", "manyOf", "(I)I"⟩, 34), (⟨"SleptWitnessModel", "bestNow", "()I"⟩, 34), (⟨"SleptWitnessModel", "byAllNow", "()I"⟩, 34), (⟨"SleptWitnessModel", "quietOf", "(III)I"⟩, 34), (⟨"SleptWitnessModel", "isProven", "(I)Z"⟩, 34), (⟨"SleptWitnessModel", "moveOf", "(II)I"⟩, 34), (⟨"SleptWitnessModel", "provenNow", "()I"⟩, 34), (⟨"SleptWitnessModel", "needBy", "(I)I"⟩, 34)]
theorem lw_r3 : ∀ q ∈ lw_privs_3, lw_okq q := List.forall_mem_cons.mpr ⟨lw_p32, List.forall_mem_cons.mpr ⟨lw_p33, List.forall_mem_cons.mpr ⟨lw_p34, List.forall_mem_cons.mpr ⟨lw_p35, List.forall_mem_cons.mpr ⟨lw_p36, List.forall_mem_cons.mpr ⟨lw_p37, List.forall_mem_cons.mpr ⟨lw_p38, List.forall_mem_cons.mpr ⟨lw_p39, List.forall_mem_cons.mpr ⟨lw_p40, List.forall_mem_cons.mpr ⟨lw_p41, List.forall_mem_cons.mpr ⟨lw_p42, List.forall_mem_cons.mpr ⟨lw_p43, List.forall_mem_cons.mpr ⟨lw_p44, List.forall_mem_cons.mpr ⟨lw_p45, List.forall_mem_cons.mpr ⟨lw_p46, List.forall_mem_cons.mpr ⟨lw_p47, fun _ h => absurd h List.not_mem_nil⟩⟩⟩⟩⟩⟩⟩⟩⟩⟩⟩⟩⟩⟩⟩⟩
theorem lw_p48 : lw_okq (⟨"SleptWitnessModel", "isUnproven", "(II)Z"⟩, 34) := ⟨⟨by decide +kernel, by decide +kernel⟩, List.mem_of_getElem? (i := 726) (by decide +kernel), List.mem_of_getElem? (i := 1038) (by decide +kernel), List.mem_of_getElem? (i := 1039) (by decide +kernel)⟩
theorem lw_p49 : lw_okq (⟨"SleptWitnessModel", "ofRow", "(II)I"⟩, 34) := ⟨⟨by decide +kernel, by decide +kernel⟩, List.mem_of_getElem? (i := 726) (by decide +kernel), List.mem_of_getElem? (i := 1042) (by decide +kernel), List.mem_of_getElem? (i := 1043) (by decide +kernel)⟩
theorem lw_p50 : lw_okq (⟨"SleptWitnessModel", "feedOf", "(II)I"⟩, 34) := ⟨⟨by decide +kernel, by decide +kernel⟩, List.mem_of_getElem? (i := 726) (by decide +kernel), List.mem_of_getElem? (i := 1050) (by decide +kernel), List.mem_of_getElem? (i := 1051) (by decide +kernel)⟩
theorem lw_p51 : lw_okq (⟨"SleptWitnessModel", "meets", "(I)I"⟩, 34) := ⟨⟨by decide +kernel, by decide +kernel⟩, List.mem_of_getElem? (i := 726) (by decide +kernel), List.mem_of_getElem? (i := 1069) (by decide +kernel), List.mem_of_getElem? (i := 1070) (by decide +kernel)⟩
theorem lw_p52 : lw_okq (⟨"SleptWitnessModel", "neverNow", "()I"⟩, 34) := ⟨⟨by decide +kernel, by decide +kernel⟩, List.mem_of_getElem? (i := 726) (by decide +kernel), List.mem_of_getElem? (i := 1078) (by decide +kernel), List.mem_of_getElem? (i := 1079) (by decide +kernel)⟩
theorem lw_p53 : lw_okq (⟨"SleptWitnessModel", "isTold", "()Z"⟩, 34) := ⟨⟨by decide +kernel, by decide +kernel⟩, List.mem_of_getElem? (i := 726) (by decide +kernel), List.mem_of_getElem? (i := 1082) (by decide +kernel), List.mem_of_getElem? (i := 1083) (by decide +kernel)⟩
theorem lw_p54 : lw_okq (⟨"SleptWitnessModel", "marksOf", "(II)I"⟩, 34) := ⟨⟨by decide +kernel, by decide +kernel⟩, List.mem_of_getElem? (i := 726) (by decide +kernel), List.mem_of_getElem? (i := 1086) (by decide +kernel), List.mem_of_getElem? (i := 1087) (by decide +kernel)⟩
theorem lw_p55 : lw_okq (⟨"SleptWitnessModel", "placeOf", "(I)I"⟩, 34) := ⟨⟨by decide +kernel, by decide +kernel⟩, List.mem_of_getElem? (i := 726) (by decide +kernel), List.mem_of_getElem? (i := 1094) (by decide +kernel), List.mem_of_getElem? (i := 1095) (by decide +kernel)⟩
theorem lw_p56 : lw_okq (⟨"SleptWitnessModel", "askNow", "()I"⟩, 34) := ⟨⟨by decide +kernel, by decide +kernel⟩, List.mem_of_getElem? (i := 726) (by decide +kernel), List.mem_of_getElem? (i := 1102) (by decide +kernel), List.mem_of_getElem? (i := 1103) (by decide +kernel)⟩
theorem lw_p57 : lw_okq (⟨"SleptWitnessModel", "feignOf", "(III)J"⟩, 34) := ⟨⟨by decide +kernel, by decide +kernel⟩, List.mem_of_getElem? (i := 726) (by decide +kernel), List.mem_of_getElem? (i := 1110) (by decide +kernel), List.mem_of_getElem? (i := 1111) (by decide +kernel)⟩
theorem lw_p58 : lw_okq (⟨"SleptWitnessModel", "courtOf", "(III)I"⟩, 34) := ⟨⟨by decide +kernel, by decide +kernel⟩, List.mem_of_getElem? (i := 726) (by decide +kernel), List.mem_of_getElem? (i := 1125) (by decide +kernel), List.mem_of_getElem? (i := 1126) (by decide +kernel)⟩
theorem lw_p59 : lw_okq (⟨"SleptWitnessModel", "marksNow", "()I"⟩, 34) := ⟨⟨by decide +kernel, by decide +kernel⟩, List.mem_of_getElem? (i := 726) (by decide +kernel), List.mem_of_getElem? (i := 1130) (by decide +kernel), List.mem_of_getElem? (i := 1131) (by decide +kernel)⟩
theorem lw_p60 : lw_okq (⟨"SleptWitnessModel", "lacks", "(III)I"⟩, 34) := ⟨⟨by decide +kernel, by decide +kernel⟩, List.mem_of_getElem? (i := 726) (by decide +kernel), List.mem_of_getElem? (i := 1146) (by decide +kernel), List.mem_of_getElem? (i := 1147) (by decide +kernel)⟩
theorem lw_p61 : lw_okq (⟨"SleptWitnessModel", "keep", "(III)V"⟩, 34) := ⟨⟨by decide +kernel, by decide +kernel⟩, List.mem_of_getElem? (i := 726) (by decide +kernel), List.mem_of_getElem? (i := 1150) (by decide +kernel), List.mem_of_getElem? (i := 1151) (by decide +kernel)⟩
theorem lw_p62 : lw_okq (⟨"SleptWitnessModel", "sumOf", "(I)I"⟩, 34) := ⟨⟨by decide +kernel, by decide +kernel⟩, List.mem_of_getElem? (i := 726) (by decide +kernel), List.mem_of_getElem? (i := 1171) (by decide +kernel), List.mem_of_getElem? (i := 1172) (by decide +kernel)⟩
theorem lw_p63 : lw_okq (⟨"SleptWitnessModel", "wakingsNow", "()I"⟩, 34) := ⟨⟨by decide +kernel, by decide +kernel⟩, List.mem_of_getElem? (i := 726) (by decide +kernel), List.mem_of_getElem? (i := 1175) (by decide +kernel), List.mem_of_getElem? (i := 1176) (by decide +kernel)⟩
def lw_privs_4 : List (MethodName × Nat) := [(⟨"SleptWitnessModel", "isUnproven", "(II)Z"⟩, 34), (⟨"SleptWitnessModel", "ofRow", "(II)I"⟩, 34), (⟨"SleptWitnessModel", "feedOf", "(II)I"⟩, 34), (⟨"SleptWitnessModel", "meets", "(I)I"⟩, 34), (⟨"SleptWitnessModel", "neverNow", "()I"⟩, 34), (⟨"SleptWitnessModel", "isTold", "()Z"⟩, 34), (⟨"SleptWitnessModel", "marksOf", "(II)I"⟩, 34), (⟨"SleptWitnessModel", "placeOf", "(I)I"⟩, 34), (⟨"SleptWitnessModel", "askNow", "()I"⟩, 34), (⟨"SleptWitnessModel", "feignOf", "(III)J"⟩, 34), (⟨"SleptWitnessModel", "courtOf", "(III)I"⟩, 34), (⟨"SleptWitnessModel", "marksNow", "()I"⟩, 34), (⟨"SleptWitnessModel", "lacks", "(III)I"⟩, 34), (⟨"SleptWitnessModel", "keep", "(III)V"⟩, 34), (⟨"SleptWitnessModel", "sumOf", "(I)I"⟩, 34), (⟨"SleptWitnessModel", "wakingsNow", "()I"⟩, 34)]
theorem lw_r4 : ∀ q ∈ lw_privs_4, lw_okq q := List.forall_mem_cons.mpr ⟨lw_p48, List.forall_mem_cons.mpr ⟨lw_p49, List.forall_mem_cons.mpr ⟨lw_p50, List.forall_mem_cons.mpr ⟨lw_p51, List.forall_mem_cons.mpr ⟨lw_p52, List.forall_mem_cons.mpr ⟨lw_p53, List.forall_mem_cons.mpr ⟨lw_p54, List.forall_mem_cons.mpr ⟨lw_p55, List.forall_mem_cons.mpr ⟨lw_p56, List.forall_mem_cons.mpr ⟨lw_p57, List.forall_mem_cons.mpr ⟨lw_p58, List.forall_mem_cons.mpr ⟨lw_p59, List.forall_mem_cons.mpr ⟨lw_p60, List.forall_mem_cons.mpr ⟨lw_p61, List.forall_mem_cons.mpr ⟨lw_p62, List.forall_mem_cons.mpr ⟨lw_p63, fun _ h => absurd h List.not_mem_nil⟩⟩⟩⟩⟩⟩⟩⟩⟩⟩⟩⟩⟩⟩⟩⟩
theorem lw_p64 : lw_okq (⟨"SleptWitnessModel", "sleeperDigest", "(JI)J"⟩, 34) := ⟨⟨by decide +kernel, by decide +kernel⟩, List.mem_of_getElem? (i := 726) (by decide +kernel), List.mem_of_getElem? (i := 1186) (by decide +kernel), List.mem_of_getElem? (i := 1187) (by decide +kernel)⟩
theorem lw_p65 : lw_okq (⟨"SleptWitnessModel", "deedDigest", "(JI)J"⟩, 34) := ⟨⟨by decide +kernel, by decide +kernel⟩, List.mem_of_getElem? (i := 726) (by decide +kernel), List.mem_of_getElem? (i := 1190) (by decide +kernel), List.mem_of_getElem? (i := 1191) (by decide +kernel)⟩
def lw_privs_5 : List (MethodName × Nat) := [(⟨"SleptWitnessModel", "sleeperDigest", "(JI)J"⟩, 34), (⟨"SleptWitnessModel", "deedDigest", "(JI)J"⟩, 34)]
theorem lw_r5 : ∀ q ∈ lw_privs_5, lw_okq q := List.forall_mem_cons.mpr ⟨lw_p64, List.forall_mem_cons.mpr ⟨lw_p65, fun _ h => absurd h List.not_mem_nil⟩⟩
def lw_privs : List (MethodName × Nat) := lw_privs_1 ++ (lw_privs_2 ++ (lw_privs_3 ++ (lw_privs_4 ++ (lw_privs_5))))
def lw_tbl : List Cond := k2_sels lw_privs ++ tables_1
theorem lw_privs_ok : ∀ q ∈ lw_privs, lw_okq q := by
  show ∀ q ∈ lw_privs_1 ++ (lw_privs_2 ++ (lw_privs_3 ++ (lw_privs_4 ++ (lw_privs_5)))), lw_okq q
  exact List.forall_mem_append.mpr ⟨lw_r1, List.forall_mem_append.mpr ⟨lw_r2, List.forall_mem_append.mpr ⟨lw_r3, List.forall_mem_append.mpr ⟨lw_r4, lw_r5⟩⟩⟩⟩
-- ===== end of PART A; then your names; then what follows =====
/-! ===== BEGIN printed: names, fields, word lists, decode rows ===== -/
def RX0 : String := "SleptWitness$Deeds"
def TX0 : u_T := fun k => match k with
  | 0 => ("SleptWitness$Deeds", "hour", "[I", true)
  | 1 => ("SleptWitness$Deeds", "house", "[I", true)
  | 2 => ("SleptWitness$Deeds", "sound", "[I", true)
  | 3 => ("SleptWitness$Deeds", "order", "[I", true)
  | _ => ("SleptWitness$Deeds", "size", "I", false)
def tyX0 : Nat → FieldType := fun k => match k with
  | 0 => .array .int
  | 1 => .array .int
  | 2 => .array .int
  | 3 => .array .int
  | _ => .int
theorem nmX0 : ∀ a, a < 5 → ∀ b, b < 5 → a ≠ b → (TX0 a).2.1 ≠ (TX0 b).2.1 := by decide +kernel
theorem tyX0_ok : ∀ k, k < 5 → parseFieldDescriptor (TX0 k).2.2.1 = some (tyX0 k) := by decide +kernel
abbrev cX0_init : ByteArray := prog_2_method_1_code
def yX0_init : MethodName := ⟨RX0, "<init>", "()V"⟩
abbrev cX0_add : ByteArray := prog_2_method_2_code
def yX0_add : MethodName := ⟨RX0, "add", "(III)V"⟩
abbrev cX0_become : ByteArray := prog_2_method_3_code
def yX0_become : MethodName := ⟨RX0, "become", "(LSleptWitness$Deeds;I)V"⟩
def RX1 : String := "SleptWitness$Hearing"
def TX1 : u_T := fun k => match k with
  | 0 => ("SleptWitness$Hearing", "testimonies", "[I", true)
  | 1 => ("SleptWitness$Hearing", "size", "I", false)
  | 2 => ("SleptWitness$Hearing", "marks", "I", false)
  | _ => ("SleptWitness$Hearing", "wakings", "I", false)
def tyX1 : Nat → FieldType := fun k => match k with
  | 0 => .array .int
  | 1 => .int
  | 2 => .int
  | _ => .int
theorem nmX1 : ∀ a, a < 4 → ∀ b, b < 4 → a ≠ b → (TX1 a).2.1 ≠ (TX1 b).2.1 := by decide +kernel
theorem tyX1_ok : ∀ k, k < 4 → parseFieldDescriptor (TX1 k).2.2.1 = some (tyX1 k) := by decide +kernel
abbrev cX1_init : ByteArray := prog_3_method_1_code
def yX1_init : MethodName := ⟨RX1, "<init>", "()V"⟩
abbrev cX1_open : ByteArray := prog_3_method_2_code
def yX1_open : MethodName := ⟨RX1, "open", "()V"⟩
abbrev cX1_add : ByteArray := prog_3_method_3_code
def yX1_add : MethodName := ⟨RX1, "add", "(LSleptWitness$Night;)V"⟩
abbrev cX1_witnesses : ByteArray := prog_3_method_4_code
def yX1_witnesses : MethodName := ⟨RX1, "witnesses", "(I)I"⟩
abbrev cX1_provenOf : ByteArray := prog_3_method_5_code
def yX1_provenOf : MethodName := ⟨RX1, "provenOf", "(II)I"⟩
def RX2 : String := "SleptWitness$Night"
def TX2 : u_T := fun k => match k with
  | 0 => ("SleptWitness$Night", "loud", "[I", true)
  | 1 => ("SleptWitness$Night", "deep", "[I", true)
  | 2 => ("SleptWitness$Night", "fate", "[I", true)
  | 3 => ("SleptWitness$Night", "marksOf", "[I", true)
  | 4 => ("SleptWitness$Night", "marks", "I", false)
  | 5 => ("SleptWitness$Night", "wakings", "I", false)
  | 6 => ("SleptWitness$Night", "testimony", "I", false)
  | 7 => ("SleptWitness$Night", "lain", "I", false)
  | _ => ("SleptWitness$Night", "wokenIn", "J", false)
def tyX2 : Nat → FieldType := fun k => match k with
  | 0 => .array .int
  | 1 => .array .int
  | 2 => .array .int
  | 3 => .array .int
  | 4 => .int
  | 5 => .int
  | 6 => .int
  | 7 => .int
  | _ => .long
theorem nmX2 : ∀ a, a < 9 → ∀ b, b < 9 → a ≠ b → (TX2 a).2.1 ≠ (TX2 b).2.1 := by decide +kernel
theorem tyX2_ok : ∀ k, k < 9 → parseFieldDescriptor (TX2 k).2.2.1 = some (tyX2 k) := by decide +kernel
abbrev cX2_init : ByteArray := prog_4_method_1_code
def yX2_init : MethodName := ⟨RX2, "<init>", "()V"⟩
abbrev cX2_pass : ByteArray := prog_4_method_2_code
def yX2_pass : MethodName := ⟨RX2, "pass", "(LSleptWitness$Sleeper;LSleptWitness$Deeds;[I)V"⟩
abbrev cX2_hoursFor : ByteArray := prog_4_method_3_code
def yX2_hoursFor : MethodName := ⟨RX2, "hoursFor", "(LSleptWitness$Sleeper;LSleptWitness$Deeds;II[I)J"⟩
abbrev cX2_deepIn : ByteArray := prog_4_method_4_code
def yX2_deepIn : MethodName := ⟨RX2, "deepIn", "(ILSleptWitness$Sleeper;LSleptWitness$Deeds;)I"⟩
abbrev cX2_lieDown : ByteArray := prog_4_method_5_code
def yX2_lieDown : MethodName := ⟨RX2, "lieDown", "(LSleptWitness$Sleeper;)V"⟩
abbrev cX2_meet : ByteArray := prog_4_method_6_code
def yX2_meet : MethodName := ⟨RX2, "meet", "(LSleptWitness$Sleeper;LSleptWitness$Deeds;I)V"⟩
abbrev cX2_loudAt : ByteArray := prog_4_method_7_code
def yX2_loudAt : MethodName := ⟨RX2, "loudAt", "(III)I"⟩
abbrev cX2_fateBy : ByteArray := prog_4_method_8_code
def yX2_fateBy : MethodName := ⟨RX2, "fateBy", "(II)I"⟩
abbrev cX2_testifies : ByteArray := prog_4_method_9_code
def yX2_testifies : MethodName := ⟨RX2, "testifies", "(III[I)Z"⟩
abbrev cX2_wokenOfLate : ByteArray := prog_4_method_10_code
def yX2_wokenOfLate : MethodName := ⟨RX2, "wokenOfLate", "(II)Z"⟩
def RX3 : String := "SleptWitness$Sheet"
def TX3 : u_T := fun k => match k with
  | 0 => ("SleptWitness$Sheet", "items", "[I", true)
  | 1 => ("SleptWitness$Sheet", "lost", "Z", false)
  | 2 => ("SleptWitness$Sheet", "form", "I", false)
  | _ => ("SleptWitness$Sheet", "size", "I", false)
def tyX3 : Nat → FieldType := fun k => match k with
  | 0 => .array .int
  | 1 => .boolean
  | 2 => .int
  | _ => .int
theorem nmX3 : ∀ a, a < 4 → ∀ b, b < 4 → a ≠ b → (TX3 a).2.1 ≠ (TX3 b).2.1 := by decide +kernel
theorem tyX3_ok : ∀ k, k < 4 → parseFieldDescriptor (TX3 k).2.2.1 = some (tyX3 k) := by decide +kernel
abbrev cX3_init : ByteArray := prog_5_method_1_code
def yX3_init : MethodName := ⟨RX3, "<init>", "()V"⟩
abbrev cX3_renew : ByteArray := prog_5_method_2_code
def yX3_renew : MethodName := ⟨RX3, "renew", "(II)V"⟩
abbrev cX3_enter : ByteArray := prog_5_method_3_code
def yX3_enter : MethodName := ⟨RX3, "enter", "(II)V"⟩
def RX4 : String := "SleptWitness$Sleeper"
def TX4 : u_T := fun k => match k with
  | 0 => ("SleptWitness$Sleeper", "house", "I", false)
  | 1 => ("SleptWitness$Sleeper", "bedtime", "I", false)
  | 2 => ("SleptWitness$Sleeper", "supper", "I", false)
  | _ => ("SleptWitness$Sleeper", "kind", "I", false)
def tyX4 : Nat → FieldType := fun k => match k with
  | 0 => .int
  | 1 => .int
  | 2 => .int
  | _ => .int
theorem nmX4 : ∀ a, a < 4 → ∀ b, b < 4 → a ≠ b → (TX4 a).2.1 ≠ (TX4 b).2.1 := by decide +kernel
theorem tyX4_ok : ∀ k, k < 4 → parseFieldDescriptor (TX4 k).2.2.1 = some (tyX4 k) := by decide +kernel
abbrev cX4_init : ByteArray := prog_6_method_1_code
def yX4_init : MethodName := ⟨RX4, "<init>", "()V"⟩
abbrev cX4_become : ByteArray := prog_6_method_2_code
def yX4_become : MethodName := ⟨RX4, "become", "(LSleptWitness$Sleeper;)V"⟩
abbrev cX4_deepAfter : ByteArray := prog_6_method_3_code
def yX4_deepAfter : MethodName := ⟨RX4, "deepAfter", "(I)I"⟩
def RX5 : String := "SleptWitness$Tales"
def TX5 : u_T := fun k => match k with
  | 0 => ("SleptWitness$Tales", "who", "[I", true)
  | 1 => ("SleptWitness$Tales", "sound", "[I", true)
  | 2 => ("SleptWitness$Tales", "marks", "[I", true)
  | _ => ("SleptWitness$Tales", "size", "I", false)
def tyX5 : Nat → FieldType := fun k => match k with
  | 0 => .array .int
  | 1 => .array .int
  | 2 => .array .int
  | _ => .int
theorem nmX5 : ∀ a, a < 4 → ∀ b, b < 4 → a ≠ b → (TX5 a).2.1 ≠ (TX5 b).2.1 := by decide +kernel
theorem tyX5_ok : ∀ k, k < 4 → parseFieldDescriptor (TX5 k).2.2.1 = some (tyX5 k) := by decide +kernel
abbrev cX5_init : ByteArray := prog_7_method_1_code
def yX5_init : MethodName := ⟨RX5, "<init>", "()V"⟩
abbrev cX5_mayBe : ByteArray := prog_7_method_2_code
def yX5_mayBe : MethodName := ⟨RX5, "mayBe", "(III)Z"⟩
abbrev cX5_add : ByteArray := prog_7_method_3_code
def yX5_add : MethodName := ⟨RX5, "add", "(III)V"⟩
def RX6 : String := "SleptWitness$Text"
def TX6 : u_T := fun k => match k with
  | 0 => ("SleptWitness$Text", "bytes", "[I", true)
  | 1 => ("SleptWitness$Text", "greatest", "[I", true)
  | 2 => ("SleptWitness$Text", "letters", "Ljava/lang/String;", true)
  | _ => ("SleptWitness$Text", "size", "I", false)
def tyX6 : Nat → FieldType := fun k => match k with
  | 0 => .array .int
  | 1 => .array .int
  | 2 => .object "java/lang/String"
  | _ => .int
theorem nmX6 : ∀ a, a < 4 → ∀ b, b < 4 → a ≠ b → (TX6 a).2.1 ≠ (TX6 b).2.1 := by decide +kernel
theorem tyX6_ok : ∀ k, k < 4 → parseFieldDescriptor (TX6 k).2.2.1 = some (tyX6 k) := by decide +kernel
abbrev cX6_init : ByteArray := prog_8_method_1_code
def yX6_init : MethodName := ⟨RX6, "<init>", "(IIILjava/lang/String;)V"⟩
abbrev cX6_fits : ByteArray := prog_8_method_2_code
def yX6_fits : MethodName := ⟨RX6, "fits", "(I)Z"⟩
abbrev cX6_firstFault : ByteArray := prog_8_method_3_code
def yX6_firstFault : MethodName := ⟨RX6, "firstFault", "()I"⟩
abbrev cX6_units : ByteArray := prog_8_method_4_code
def yX6_units : MethodName := ⟨RX6, "units", "()I"⟩
abbrev cX6_figure : ByteArray := prog_8_method_5_code
def yX6_figure : MethodName := ⟨RX6, "figure", "(II)I"⟩
abbrev cX6_letter : ByteArray := prog_8_method_6_code
def yX6_letter : MethodName := ⟨RX6, "letter", "(I)I"⟩
def RX7 : String := "SleptWitness"
def TX7 : u_T := fun k => match k with
  | 0 => ("SleptWitness", "texts", "[LSleptWitness$Text;", true)
  | 1 => ("SleptWitness", "beds", "[LSleptWitness$Sleeper;", true)
  | 2 => ("SleptWitness", "sleepers", "I", false)
  | 3 => ("SleptWitness", "deeds", "LSleptWitness$Deeds;", true)
  | 4 => ("SleptWitness", "rules", "[I", true)
  | 5 => ("SleptWitness", "tales", "LSleptWitness$Tales;", true)
  | 6 => ("SleptWitness", "sheets", "[LSleptWitness$Sheet;", true)
  | 7 => ("SleptWitness", "finding", "I", false)
  | 8 => ("SleptWitness", "guess", "LSleptWitness$Sleeper;", true)
  | 9 => ("SleptWitness", "others", "LSleptWitness$Deeds;", true)
  | 10 => ("SleptWitness", "night", "LSleptWitness$Night;", true)
  | 11 => ("SleptWitness", "hearing", "LSleptWitness$Hearing;", true)
  | 12 => ("SleptWitness", "hoursFor", "[J", true)
  | 13 => ("SleptWitness", "alike", "[I", true)
  | _ => ("SleptWitness", "ways", "[J", true)
def tyX7 : Nat → FieldType := fun k => match k with
  | 0 => .array (.object "SleptWitness$Text")
  | 1 => .array (.object "SleptWitness$Sleeper")
  | 2 => .int
  | 3 => .object "SleptWitness$Deeds"
  | 4 => .array .int
  | 5 => .object "SleptWitness$Tales"
  | 6 => .array (.object "SleptWitness$Sheet")
  | 7 => .int
  | 8 => .object "SleptWitness$Sleeper"
  | 9 => .object "SleptWitness$Deeds"
  | 10 => .object "SleptWitness$Night"
  | 11 => .object "SleptWitness$Hearing"
  | 12 => .array .long
  | 13 => .array .int
  | _ => .array .long
theorem nmX7 : ∀ a, a < 15 → ∀ b, b < 15 → a ≠ b → (TX7 a).2.1 ≠ (TX7 b).2.1 := by decide +kernel
theorem tyX7_ok : ∀ k, k < 15 → parseFieldDescriptor (TX7 k).2.2.1 = some (tyX7 k) := by decide +kernel
abbrev cX7_init : ByteArray := prog_1_method_1_code
def yX7_init : MethodName := ⟨RX7, "<init>", "()V"⟩
abbrev cX7_within : ByteArray := prog_1_method_2_code
def yX7_within : MethodName := ⟨RX7, "within", "(II)Z"⟩
abbrev cX7_longRefusal : ByteArray := prog_1_method_3_code
def yX7_longRefusal : MethodName := ⟨RX7, "longRefusal", "(I)J"⟩
abbrev cX7_type : ByteArray := prog_1_method_4_code
def yX7_type : MethodName := ⟨RX7, "type", "(II)I"⟩
abbrev cX7_wipe : ByteArray := prog_1_method_5_code
def yX7_wipe : MethodName := ⟨RX7, "wipe", "(I)I"⟩
abbrev cX7_undo : ByteArray := prog_1_method_6_code
def yX7_undo : MethodName := ⟨RX7, "undo", "(I)I"⟩
abbrev cX7_fault : ByteArray := prog_1_method_7_code
def yX7_fault : MethodName := ⟨RX7, "fault", "(I)I"⟩
abbrev cX7_resize : ByteArray := prog_1_method_8_code
def yX7_resize : MethodName := ⟨RX7, "resize", "(II)I"⟩
abbrev cX7_makeBeds : ByteArray := prog_1_method_9_code
def yX7_makeBeds : MethodName := ⟨RX7, "makeBeds", "(LSleptWitness$Text;)V"⟩
abbrev cX7_tellDeeds : ByteArray := prog_1_method_10_code
def yX7_tellDeeds : MethodName := ⟨RX7, "tellDeeds", "(LSleptWitness$Text;)V"⟩
abbrev cX7_sleeper : ByteArray := prog_1_method_11_code
def yX7_sleeper : MethodName := ⟨RX7, "sleeper", "(II)I"⟩
abbrev cX7_deed : ByteArray := prog_1_method_12_code
def yX7_deed : MethodName := ⟨RX7, "deed", "(II)I"⟩
abbrev cX7_law : ByteArray := prog_1_method_13_code
def yX7_law : MethodName := ⟨RX7, "law", "(II)I"⟩
abbrev cX7_hearAll : ByteArray := prog_1_method_14_code
def yX7_hearAll : MethodName := ⟨RX7, "hearAll", "(LSleptWitness$Deeds;)V"⟩
abbrev cX7_provenOf : ByteArray := prog_1_method_15_code
def yX7_provenOf : MethodName := ⟨RX7, "provenOf", "(LSleptWitness$Deeds;)I"⟩
abbrev cX7_depth : ByteArray := prog_1_method_16_code
def yX7_depth : MethodName := ⟨RX7, "depth", "(II)I"⟩
abbrev cX7_hears : ByteArray := prog_1_method_17_code
def yX7_hears : MethodName := ⟨RX7, "hears", "(III)I"⟩
abbrev cX7_proof : ByteArray := prog_1_method_18_code
def yX7_proof : MethodName := ⟨RX7, "proof", "(II)I"⟩
abbrev cX7_nights : ByteArray := prog_1_method_19_code
def yX7_nights : MethodName := ⟨RX7, "nights", "(II)I"⟩
abbrev cX7_best : ByteArray := prog_1_method_20_code
def yX7_best : MethodName := ⟨RX7, "best", "()I"⟩
abbrev cX7_byAll : ByteArray := prog_1_method_21_code
def yX7_byAll : MethodName := ⟨RX7, "byAll", "()I"⟩
abbrev cX7_seenBy : ByteArray := prog_1_method_22_code
def yX7_seenBy : MethodName := ⟨RX7, "seenBy", "(I)I"⟩
abbrev cX7_quiet : ByteArray := prog_1_method_23_code
def yX7_quiet : MethodName := ⟨RX7, "quiet", "(III)I"⟩
abbrev cX7_testifyingIn : ByteArray := prog_1_method_24_code
def yX7_testifyingIn : MethodName := ⟨RX7, "testifyingIn", "(I)I"⟩
abbrev cX7_move : ByteArray := prog_1_method_25_code
def yX7_move : MethodName := ⟨RX7, "move", "(II)I"⟩
abbrev cX7_need : ByteArray := prog_1_method_26_code
def yX7_need : MethodName := ⟨RX7, "need", "(II)I"⟩
abbrev cX7_bitOf : ByteArray := prog_1_method_27_code
def yX7_bitOf : MethodName := ⟨RX7, "bitOf", "(II)I"⟩
abbrev cX7_feed : ByteArray := prog_1_method_28_code
def yX7_feed : MethodName := ⟨RX7, "feed", "(II)I"⟩
abbrev cX7_told : ByteArray := prog_1_method_29_code
def yX7_told : MethodName := ⟨RX7, "told", "(III)I"⟩
abbrev cX7_forget : ByteArray := prog_1_method_30_code
def yX7_forget : MethodName := ⟨RX7, "forget", "()I"⟩
abbrev cX7_read : ByteArray := prog_1_method_31_code
def yX7_read : MethodName := ⟨RX7, "read", "(I)I"⟩
abbrev cX7_comesOut : ByteArray := prog_1_method_32_code
def yX7_comesOut : MethodName := ⟨RX7, "comesOut", "()Z"⟩
abbrev cX7_never : ByteArray := prog_1_method_33_code
def yX7_never : MethodName := ⟨RX7, "never", "()I"⟩
abbrev cX7_place : ByteArray := prog_1_method_34_code
def yX7_place : MethodName := ⟨RX7, "place", "(I)I"⟩
abbrev cX7_ask : ByteArray := prog_1_method_35_code
def yX7_ask : MethodName := ⟨RX7, "ask", "()I"⟩
abbrev cX7_mostAlike : ByteArray := prog_1_method_36_code
def yX7_mostAlike : MethodName := ⟨RX7, "mostAlike", "(II)I"⟩
abbrev cX7_feign : ByteArray := prog_1_method_37_code
def yX7_feign : MethodName := ⟨RX7, "feign", "(III)J"⟩
abbrev cX7_spreadWays : ByteArray := prog_1_method_38_code
def yX7_spreadWays : MethodName := ⟨RX7, "spreadWays", "(II)V"⟩
abbrev cX7_court : ByteArray := prog_1_method_39_code
def yX7_court : MethodName := ⟨RX7, "court", "(III)I"⟩
abbrev cX7_nextSeed : ByteArray := prog_1_method_40_code
def yX7_nextSeed : MethodName := ⟨RX7, "nextSeed", "(I)I"⟩
abbrev cX7_lot : ByteArray := prog_1_method_41_code
def yX7_lot : MethodName := ⟨RX7, "lot", "(II)I"⟩
abbrev cX7_found : ByteArray := prog_1_method_42_code
def yX7_found : MethodName := ⟨RX7, "found", "(I)I"⟩
abbrev cX7_sheet : ByteArray := prog_1_method_43_code
def yX7_sheet : MethodName := ⟨RX7, "sheet", "(III)I"⟩
abbrev cX7_lose : ByteArray := prog_1_method_44_code
def yX7_lose : MethodName := ⟨RX7, "lose", "(I)I"⟩
abbrev cX7_findingAt : ByteArray := prog_1_method_45_code
def yX7_findingAt : MethodName := ⟨RX7, "findingAt", "(LSleptWitness$Sheet;II)I"⟩
abbrev cX7_put : ByteArray := prog_1_method_46_code
def yX7_put : MethodName := ⟨RX7, "put", "(IIII)I"⟩
abbrev cX7_get : ByteArray := prog_1_method_47_code
def yX7_get : MethodName := ⟨RX7, "get", "(III)I"⟩
abbrev cX7_copy : ByteArray := prog_1_method_48_code
def yX7_copy : MethodName := ⟨RX7, "copy", "(IIIII)I"⟩
abbrev cX7_holds : ByteArray := prog_1_method_49_code
def yX7_holds : MethodName := ⟨RX7, "holds", "(LSleptWitness$Sheet;II)Z"⟩
abbrev cX7_write : ByteArray := prog_1_method_50_code
def yX7_write : MethodName := ⟨RX7, "write", "(II)I"⟩
abbrev cX7_count : ByteArray := prog_1_method_51_code
def yX7_count : MethodName := ⟨RX7, "count", "(I)I"⟩
abbrev cX7_digest : ByteArray := prog_1_method_52_code
def yX7_digest : MethodName := ⟨RX7, "digest", "()J"⟩
abbrev cX7_digestSleeper : ByteArray := prog_1_method_53_code
def yX7_digestSleeper : MethodName := ⟨RX7, "digestSleeper", "(JI)J"⟩
abbrev cX7_digestDeed : ByteArray := prog_1_method_54_code
def yX7_digestDeed : MethodName := ⟨RX7, "digestDeed", "(JI)J"⟩
def RX8 : String := "SleptWitnessModel"
def TX8 : u_T := fun k => match k with
  | 0 => ("SleptWitnessModel", "typed", "[I", true)
  | 1 => ("SleptWitnessModel", "texts", "[I", true)
  | 2 => ("SleptWitnessModel", "sleepers", "I", false)
  | 3 => ("SleptWitnessModel", "beds", "[I", true)
  | 4 => ("SleptWitnessModel", "bedtimes", "[I", true)
  | 5 => ("SleptWitnessModel", "suppers", "[I", true)
  | 6 => ("SleptWitnessModel", "kinds", "[I", true)
  | 7 => ("SleptWitnessModel", "deeds", "I", false)
  | 8 => ("SleptWitnessModel", "hours", "[I", true)
  | 9 => ("SleptWitnessModel", "scenes", "[I", true)
  | 10 => ("SleptWitnessModel", "sounds", "[I", true)
  | 11 => ("SleptWitnessModel", "leastNow", "I", false)
  | 12 => ("SleptWitnessModel", "sinceNow", "I", false)
  | 13 => ("SleptWitnessModel", "proofNow", "I", false)
  | 14 => ("SleptWitnessModel", "notDeeds", "I", false)
  | 15 => ("SleptWitnessModel", "away", "I", false)
  | 16 => ("SleptWitnessModel", "deepAt", "[I", true)
  | 17 => ("SleptWitnessModel", "isWoken", "[Z", true)
  | 18 => ("SleptWitnessModel", "became", "[I", true)
  | 19 => ("SleptWitnessModel", "testifies", "[Z", true)
  | 20 => ("SleptWitnessModel", "wakings", "[I", true)
  | 21 => ("SleptWitnessModel", "planRow", "[I", true)
  | 22 => ("SleptWitnessModel", "tales", "I", false)
  | 23 => ("SleptWitnessModel", "taleWho", "[I", true)
  | 24 => ("SleptWitnessModel", "taleSound", "[I", true)
  | 25 => ("SleptWitnessModel", "taleMany", "[I", true)
  | 26 => ("SleptWitnessModel", "marksWithout", "[I", true)
  | 27 => ("SleptWitnessModel", "kindTold", "[I", true)
  | 28 => ("SleptWitnessModel", "isThere", "[Z", true)
  | 29 => ("SleptWitnessModel", "forms", "[I", true)
  | 30 => ("SleptWitnessModel", "sizes", "[I", true)
  | 31 => ("SleptWitnessModel", "items", "[I", true)
  | 32 => ("SleptWitnessModel", "moved", "[I", true)
  | _ => ("SleptWitnessModel", "finding", "I", false)
def tyX8 : Nat → FieldType := fun k => match k with
  | 0 => .array .int
  | 1 => .array .int
  | 2 => .int
  | 3 => .array .int
  | 4 => .array .int
  | 5 => .array .int
  | 6 => .array .int
  | 7 => .int
  | 8 => .array .int
  | 9 => .array .int
  | 10 => .array .int
  | 11 => .int
  | 12 => .int
  | 13 => .int
  | 14 => .int
  | 15 => .int
  | 16 => .array .int
  | 17 => .array .boolean
  | 18 => .array .int
  | 19 => .array .boolean
  | 20 => .array .int
  | 21 => .array .int
  | 22 => .int
  | 23 => .array .int
  | 24 => .array .int
  | 25 => .array .int
  | 26 => .array .int
  | 27 => .array .int
  | 28 => .array .boolean
  | 29 => .array .int
  | 30 => .array .int
  | 31 => .array .int
  | 32 => .array .int
  | _ => .int
theorem nmX8 : ∀ a, a < 34 → ∀ b, b < 34 → a ≠ b → (TX8 a).2.1 ≠ (TX8 b).2.1 := by decide +kernel
theorem tyX8_ok : ∀ k, k < 34 → parseFieldDescriptor (TX8 k).2.2.1 = some (tyX8 k) := by decide +kernel
abbrev cX8_init : ByteArray := prog_10_method_1_code
def yX8_init : MethodName := ⟨RX8, "<init>", "()V"⟩
abbrev cX8_in : ByteArray := prog_10_method_3_code
def yX8_in : MethodName := ⟨RX8, "in", "(III)Z"⟩
abbrev cX8_isIn : ByteArray := prog_10_method_4_code
def yX8_isIn : MethodName := ⟨RX8, "isIn", "(II)Z"⟩
abbrev cX8_ones : ByteArray := prog_10_method_5_code
def yX8_ones : MethodName := ⟨RX8, "ones", "(I)I"⟩
abbrev cX8_no : ByteArray := prog_10_method_6_code
def yX8_no : MethodName := ⟨RX8, "no", "(I)J"⟩
abbrev cX8_lowest : ByteArray := prog_10_method_7_code
def yX8_lowest : MethodName := ⟨RX8, "lowest", "(JJI)J"⟩
abbrev cX8_isText : ByteArray := prog_10_method_8_code
def yX8_isText : MethodName := ⟨RX8, "isText", "(I)Z"⟩
abbrev cX8_isHour : ByteArray := prog_10_method_9_code
def yX8_isHour : MethodName := ⟨RX8, "isHour", "(I)Z"⟩
abbrev cX8_type : ByteArray := prog_10_method_10_code
def yX8_type : MethodName := ⟨RX8, "type", "(II)I"⟩
abbrev cX8_wipe : ByteArray := prog_10_method_11_code
def yX8_wipe : MethodName := ⟨RX8, "wipe", "(I)I"⟩
abbrev cX8_undo : ByteArray := prog_10_method_12_code
def yX8_undo : MethodName := ⟨RX8, "undo", "(I)I"⟩
abbrev cX8_byteAt : ByteArray := prog_10_method_13_code
def yX8_byteAt : MethodName := ⟨RX8, "byteAt", "(II)I"⟩
abbrev cX8_figureAt : ByteArray := prog_10_method_14_code
def yX8_figureAt : MethodName := ⟨RX8, "figureAt", "(III)I"⟩
abbrev cX8_readsSleeper : ByteArray := prog_10_method_15_code
def yX8_readsSleeper : MethodName := ⟨RX8, "readsSleeper", "(II)I"⟩
abbrev cX8_readsDeed : ByteArray := prog_10_method_16_code
def yX8_readsDeed : MethodName := ⟨RX8, "readsDeed", "(II)I"⟩
abbrev cX8_readsParts : ByteArray := prog_10_method_17_code
def yX8_readsParts : MethodName := ⟨RX8, "readsParts", "(I)I"⟩
abbrev cX8_faultOf : ByteArray := prog_10_method_18_code
def yX8_faultOf : MethodName := ⟨RX8, "faultOf", "(I)I"⟩
abbrev cX8_reads : ByteArray := prog_10_method_19_code
def yX8_reads : MethodName := ⟨RX8, "reads", "()V"⟩
abbrev cX8_fault : ByteArray := prog_10_method_20_code
def yX8_fault : MethodName := ⟨RX8, "fault", "(I)I"⟩
abbrev cX8_isSleeper : ByteArray := prog_10_method_21_code
def yX8_isSleeper : MethodName := ⟨RX8, "isSleeper", "(I)Z"⟩
abbrev cX8_isDeed : ByteArray := prog_10_method_22_code
def yX8_isDeed : MethodName := ⟨RX8, "isDeed", "(I)Z"⟩
abbrev cX8_sleeperOf : ByteArray := prog_10_method_23_code
def yX8_sleeperOf : MethodName := ⟨RX8, "sleeperOf", "(II)I"⟩
abbrev cX8_sleeper : ByteArray := prog_10_method_24_code
def yX8_sleeper : MethodName := ⟨RX8, "sleeper", "(II)I"⟩
abbrev cX8_deedOf : ByteArray := prog_10_method_25_code
def yX8_deedOf : MethodName := ⟨RX8, "deedOf", "(II)I"⟩
abbrev cX8_deed : ByteArray := prog_10_method_26_code
def yX8_deed : MethodName := ⟨RX8, "deed", "(II)I"⟩
abbrev cX8_law : ByteArray := prog_10_method_27_code
def yX8_law : MethodName := ⟨RX8, "law", "(II)I"⟩
abbrev cX8_rowOf : ByteArray := prog_10_method_28_code
def yX8_rowOf : MethodName := ⟨RX8, "rowOf", "(I)I"⟩
abbrev cX8_deepNow : ByteArray := prog_10_method_29_code
def yX8_deepNow : MethodName := ⟨RX8, "deepNow", "(II)I"⟩
abbrev cX8_loudOf : ByteArray := prog_10_method_30_code
def yX8_loudOf : MethodName := ⟨RX8, "loudOf", "(II)I"⟩
abbrev cX8_sleeps : ByteArray := prog_10_method_31_code
def yX8_sleeps : MethodName := ⟨RX8, "sleeps", "(I)V"⟩
abbrev cX8_runs : ByteArray := prog_10_method_32_code
def yX8_runs : MethodName := ⟨RX8, "runs", "()V"⟩
abbrev cX8_asTold : ByteArray := prog_10_method_33_code
def yX8_asTold : MethodName := ⟨RX8, "asTold", "()V"⟩
abbrev cX8_runsTold : ByteArray := prog_10_method_34_code
def yX8_runsTold : MethodName := ⟨RX8, "runsTold", "()V"⟩
abbrev cX8_depthOf : ByteArray := prog_10_method_35_code
def yX8_depthOf : MethodName := ⟨RX8, "depthOf", "(II)I"⟩
abbrev cX8_depth : ByteArray := prog_10_method_36_code
def yX8_depth : MethodName := ⟨RX8, "depth", "(II)I"⟩
abbrev cX8_hearsOf : ByteArray := prog_10_method_37_code
def yX8_hearsOf : MethodName := ⟨RX8, "hearsOf", "(III)I"⟩
abbrev cX8_hears : ByteArray := prog_10_method_38_code
def yX8_hears : MethodName := ⟨RX8, "hears", "(III)I"⟩
abbrev cX8_whoNow : ByteArray := prog_10_method_39_code
def yX8_whoNow : MethodName := ⟨RX8, "whoNow", "(I)I"⟩
abbrev cX8_isProven : ByteArray := prog_10_method_40_code
def yX8_isProven : MethodName := ⟨RX8, "isProven", "(I)Z"⟩
abbrev cX8_proofOf : ByteArray := prog_10_method_41_code
def yX8_proofOf : MethodName := ⟨RX8, "proofOf", "(II)I"⟩
abbrev cX8_proof : ByteArray := prog_10_method_42_code
def yX8_proof : MethodName := ⟨RX8, "proof", "(II)I"⟩
abbrev cX8_manyOf : ByteArray := prog_10_method_43_code
def yX8_manyOf : MethodName := ⟨RX8, "manyOf", "(I)I"⟩
abbrev cX8_nightsOf : ByteArray := prog_10_method_44_code
def yX8_nightsOf : MethodName := ⟨RX8, "nightsOf", "(II)I"⟩
abbrev cX8_nights : ByteArray := prog_10_method_45_code
def yX8_nights : MethodName := ⟨RX8, "nights", "(II)I"⟩
abbrev cX8_bestNow : ByteArray := prog_10_method_46_code
def yX8_bestNow : MethodName := ⟨RX8, "bestNow", "()I"⟩
abbrev cX8_best : ByteArray := prog_10_method_47_code
def yX8_best : MethodName := ⟨RX8, "best", "()I"⟩
abbrev cX8_byAllNow : ByteArray := prog_10_method_48_code
def yX8_byAllNow : MethodName := ⟨RX8, "byAllNow", "()I"⟩
abbrev cX8_byAll : ByteArray := prog_10_method_49_code
def yX8_byAll : MethodName := ⟨RX8, "byAll", "()I"⟩
abbrev cX8_quietOf : ByteArray := prog_10_method_50_code
def yX8_quietOf : MethodName := ⟨RX8, "quietOf", "(III)I"⟩
abbrev cX8_quiet : ByteArray := prog_10_method_51_code
def yX8_quiet : MethodName := ⟨RX8, "quiet", "(III)I"⟩
abbrev cX8_provenNow : ByteArray := prog_10_method_52_code
def yX8_provenNow : MethodName := ⟨RX8, "provenNow", "()I"⟩
abbrev cX8_moveOf : ByteArray := prog_10_method_53_code
def yX8_moveOf : MethodName := ⟨RX8, "moveOf", "(II)I"⟩
abbrev cX8_move : ByteArray := prog_10_method_54_code
def yX8_move : MethodName := ⟨RX8, "move", "(II)I"⟩
abbrev cX8_isUnproven : ByteArray := prog_10_method_55_code
def yX8_isUnproven : MethodName := ⟨RX8, "isUnproven", "(II)Z"⟩
abbrev cX8_needBy : ByteArray := prog_10_method_56_code
def yX8_needBy : MethodName := ⟨RX8, "needBy", "(I)I"⟩
abbrev cX8_ofRow : ByteArray := prog_10_method_57_code
def yX8_ofRow : MethodName := ⟨RX8, "ofRow", "(II)I"⟩
abbrev cX8_need : ByteArray := prog_10_method_58_code
def yX8_need : MethodName := ⟨RX8, "need", "(II)I"⟩
abbrev cX8_feedOf : ByteArray := prog_10_method_59_code
def yX8_feedOf : MethodName := ⟨RX8, "feedOf", "(II)I"⟩
abbrev cX8_feed : ByteArray := prog_10_method_60_code
def yX8_feed : MethodName := ⟨RX8, "feed", "(II)I"⟩
abbrev cX8_told : ByteArray := prog_10_method_61_code
def yX8_told : MethodName := ⟨RX8, "told", "(III)I"⟩
abbrev cX8_forget : ByteArray := prog_10_method_62_code
def yX8_forget : MethodName := ⟨RX8, "forget", "()I"⟩
abbrev cX8_read : ByteArray := prog_10_method_63_code
def yX8_read : MethodName := ⟨RX8, "read", "(I)I"⟩
abbrev cX8_marksOf : ByteArray := prog_10_method_64_code
def yX8_marksOf : MethodName := ⟨RX8, "marksOf", "(II)I"⟩
abbrev cX8_isTold : ByteArray := prog_10_method_65_code
def yX8_isTold : MethodName := ⟨RX8, "isTold", "()Z"⟩
abbrev cX8_neverNow : ByteArray := prog_10_method_66_code
def yX8_neverNow : MethodName := ⟨RX8, "neverNow", "()I"⟩
abbrev cX8_never : ByteArray := prog_10_method_67_code
def yX8_never : MethodName := ⟨RX8, "never", "()I"⟩
abbrev cX8_placeOf : ByteArray := prog_10_method_68_code
def yX8_placeOf : MethodName := ⟨RX8, "placeOf", "(I)I"⟩
abbrev cX8_place : ByteArray := prog_10_method_69_code
def yX8_place : MethodName := ⟨RX8, "place", "(I)I"⟩
abbrev cX8_askNow : ByteArray := prog_10_method_70_code
def yX8_askNow : MethodName := ⟨RX8, "askNow", "()I"⟩
abbrev cX8_ask : ByteArray := prog_10_method_71_code
def yX8_ask : MethodName := ⟨RX8, "ask", "()I"⟩
abbrev cX8_feignOf : ByteArray := prog_10_method_72_code
def yX8_feignOf : MethodName := ⟨RX8, "feignOf", "(III)J"⟩
abbrev cX8_feign : ByteArray := prog_10_method_73_code
def yX8_feign : MethodName := ⟨RX8, "feign", "(III)J"⟩
abbrev cX8_marksNow : ByteArray := prog_10_method_74_code
def yX8_marksNow : MethodName := ⟨RX8, "marksNow", "()I"⟩
abbrev cX8_courtOf : ByteArray := prog_10_method_75_code
def yX8_courtOf : MethodName := ⟨RX8, "courtOf", "(III)I"⟩
abbrev cX8_court : ByteArray := prog_10_method_76_code
def yX8_court : MethodName := ⟨RX8, "court", "(III)I"⟩
abbrev cX8_meets : ByteArray := prog_10_method_77_code
def yX8_meets : MethodName := ⟨RX8, "meets", "(I)I"⟩
abbrev cX8_isSheet : ByteArray := prog_10_method_78_code
def yX8_isSheet : MethodName := ⟨RX8, "isSheet", "(I)Z"⟩
abbrev cX8_sheet : ByteArray := prog_10_method_79_code
def yX8_sheet : MethodName := ⟨RX8, "sheet", "(III)I"⟩
abbrev cX8_lose : ByteArray := prog_10_method_80_code
def yX8_lose : MethodName := ⟨RX8, "lose", "(I)I"⟩
abbrev cX8_lacks : ByteArray := prog_10_method_81_code
def yX8_lacks : MethodName := ⟨RX8, "lacks", "(III)I"⟩
abbrev cX8_keep : ByteArray := prog_10_method_82_code
def yX8_keep : MethodName := ⟨RX8, "keep", "(III)V"⟩
abbrev cX8_put : ByteArray := prog_10_method_83_code
def yX8_put : MethodName := ⟨RX8, "put", "(IIII)I"⟩
abbrev cX8_get : ByteArray := prog_10_method_84_code
def yX8_get : MethodName := ⟨RX8, "get", "(III)I"⟩
abbrev cX8_copy : ByteArray := prog_10_method_85_code
def yX8_copy : MethodName := ⟨RX8, "copy", "(IIIII)I"⟩
abbrev cX8_write : ByteArray := prog_10_method_86_code
def yX8_write : MethodName := ⟨RX8, "write", "(II)I"⟩
abbrev cX8_wakingsNow : ByteArray := prog_10_method_87_code
def yX8_wakingsNow : MethodName := ⟨RX8, "wakingsNow", "()I"⟩
abbrev cX8_sumOf : ByteArray := prog_10_method_88_code
def yX8_sumOf : MethodName := ⟨RX8, "sumOf", "(I)I"⟩
abbrev cX8_count : ByteArray := prog_10_method_89_code
def yX8_count : MethodName := ⟨RX8, "count", "(I)I"⟩
abbrev cX8_sleeperDigest : ByteArray := prog_10_method_90_code
def yX8_sleeperDigest : MethodName := ⟨RX8, "sleeperDigest", "(JI)J"⟩
abbrev cX8_deedDigest : ByteArray := prog_10_method_91_code
def yX8_deedDigest : MethodName := ⟨RX8, "deedDigest", "(JI)J"⟩
abbrev cX8_digest : ByteArray := prog_10_method_92_code
def yX8_digest : MethodName := ⟨RX8, "digest", "()J"⟩
def RJx145de : String := "java/io/Serializable"
def TJx145de : u_T := fun k => match k with
  | _ => ("", "", "", false)
def tyJx145de : Nat → FieldType := fun k => match k with
  | _ => .int
theorem nmJx145de : ∀ a, a < 0 → ∀ b, b < 0 → a ≠ b → (TJx145de a).2.1 ≠ (TJx145de b).2.1 := by decide +kernel
theorem tyJx145de_ok : ∀ k, k < 0 → parseFieldDescriptor (TJx145de k).2.2.1 = some (tyJx145de k) := by decide +kernel
def RJx9f9b0 : String := "java/lang/CharSequence"
def TJx9f9b0 : u_T := fun k => match k with
  | _ => ("", "", "", false)
def tyJx9f9b0 : Nat → FieldType := fun k => match k with
  | _ => .int
theorem nmJx9f9b0 : ∀ a, a < 0 → ∀ b, b < 0 → a ≠ b → (TJx9f9b0 a).2.1 ≠ (TJx9f9b0 b).2.1 := by decide +kernel
theorem tyJx9f9b0_ok : ∀ k, k < 0 → parseFieldDescriptor (TJx9f9b0 k).2.2.1 = some (tyJx9f9b0 k) := by decide +kernel
def RJ11 : String := "java/lang/Character"
def TJ11 : u_T := fun k => match k with
  | _ => ("", "", "", false)
def tyJ11 : Nat → FieldType := fun k => match k with
  | _ => .int
theorem nmJ11 : ∀ a, a < 0 → ∀ b, b < 0 → a ≠ b → (TJ11 a).2.1 ≠ (TJ11 b).2.1 := by decide +kernel
theorem tyJ11_ok : ∀ k, k < 0 → parseFieldDescriptor (TJ11 k).2.2.1 = some (tyJ11 k) := by decide +kernel
abbrev cJ11_isValidCodePoint_9a6ad : ByteArray := prog_11_method_11_code
def yJ11_isValidCodePoint_9a6ad : MethodName := ⟨RJ11, "isValidCodePoint", "(I)Z"⟩
abbrev cJ11_highSurrogate_5068e : ByteArray := prog_11_method_28_code
def yJ11_highSurrogate_5068e : MethodName := ⟨RJ11, "highSurrogate", "(I)C"⟩
abbrev cJ11_lowSurrogate_5068e : ByteArray := prog_11_method_29_code
def yJ11_lowSurrogate_5068e : MethodName := ⟨RJ11, "lowSurrogate", "(I)C"⟩
def RJxb160c : String := "java/lang/Comparable"
def TJxb160c : u_T := fun k => match k with
  | _ => ("", "", "", false)
def tyJxb160c : Nat → FieldType := fun k => match k with
  | _ => .int
theorem nmJxb160c : ∀ a, a < 0 → ∀ b, b < 0 → a ≠ b → (TJxb160c a).2.1 ≠ (TJxb160c b).2.1 := by decide +kernel
theorem tyJxb160c_ok : ∀ k, k < 0 → parseFieldDescriptor (TJxb160c k).2.2.1 = some (tyJxb160c k) := by decide +kernel
def RJ6 : String := "java/lang/Integer"
def TJ6 : u_T := fun k => match k with
  | _ => ("", "", "", false)
def tyJ6 : Nat → FieldType := fun k => match k with
  | _ => .int
theorem nmJ6 : ∀ a, a < 0 → ∀ b, b < 0 → a ≠ b → (TJ6 a).2.1 ≠ (TJ6 b).2.1 := by decide +kernel
theorem tyJ6_ok : ∀ k, k < 0 → parseFieldDescriptor (TJ6 k).2.2.1 = some (tyJ6 k) := by decide +kernel
abbrev cJ6_bitCount_0f7a4 : ByteArray := prog_12_method_49_code
def yJ6_bitCount_0f7a4 : MethodName := ⟨RJ6, "bitCount", "(I)I"⟩
def RJ9 : String := "java/lang/Math"
def TJ9 : u_T := fun k => match k with
  | _ => ("", "", "", false)
def tyJ9 : Nat → FieldType := fun k => match k with
  | _ => .int
theorem nmJ9 : ∀ a, a < 0 → ∀ b, b < 0 → a ≠ b → (TJ9 a).2.1 ≠ (TJ9 b).2.1 := by decide +kernel
theorem tyJ9_ok : ∀ k, k < 0 → parseFieldDescriptor (TJ9 k).2.2.1 = some (tyJ9 k) := by decide +kernel
abbrev cJ9_abs_0f7a4 : ByteArray := prog_13_method_59_code
def yJ9_abs_0f7a4 : MethodName := ⟨RJ9, "abs", "(I)I"⟩
abbrev cJ9_max_7cf53 : ByteArray := prog_13_method_65_code
def yJ9_max_7cf53 : MethodName := ⟨RJ9, "max", "(II)I"⟩
abbrev cJ9_min_7cf53 : ByteArray := prog_13_method_69_code
def yJ9_min_7cf53 : MethodName := ⟨RJ9, "min", "(II)I"⟩
def RJ0 : String := "java/lang/String"
def TJ0 : u_T := fun k => match k with
  | _ => ("", "", "", false)
def tyJ0 : Nat → FieldType := fun k => match k with
  | _ => .int
theorem nmJ0 : ∀ a, a < 0 → ∀ b, b < 0 → a ≠ b → (TJ0 a).2.1 ≠ (TJ0 b).2.1 := by decide +kernel
theorem tyJ0_ok : ∀ k, k < 0 → parseFieldDescriptor (TJ0 k).2.2.1 = some (tyJ0 k) := by decide +kernel
abbrev cJ0_length_8abf5 : ByteArray := prog_14_method_54_code
def yJ0_length_8abf5 : MethodName := ⟨RJ0, "length", "()I"⟩
abbrev cJ0_indexOf_0f7a4 : ByteArray := prog_14_method_79_code
def yJ0_indexOf_0f7a4 : MethodName := ⟨RJ0, "indexOf", "(I)I"⟩
abbrev cJ0_indexOf_7cf53 : ByteArray := prog_14_method_80_code
def yJ0_indexOf_7cf53 : MethodName := ⟨RJ0, "indexOf", "(II)I"⟩
abbrev cJ0_coder_7d493 : ByteArray := prog_14_method_152_code
def yJ0_coder_7d493 : MethodName := ⟨RJ0, "coder", "()B"⟩
abbrev cJ0_isLatin1_aae02 : ByteArray := prog_14_method_154_code
def yJ0_isLatin1_aae02 : MethodName := ⟨RJ0, "isLatin1", "()Z"⟩
abbrev cJ0_checkBoundsBeginEnd_23922 : ByteArray := prog_14_method_158_code
def yJ0_checkBoundsBeginEnd_23922 : MethodName := ⟨RJ0, "checkBoundsBeginEnd", "(III)V"⟩
def RJ1 : String := "java/lang/StringLatin1"
def TJ1 : u_T := fun k => match k with
  | _ => ("", "", "", false)
def tyJ1 : Nat → FieldType := fun k => match k with
  | _ => .int
theorem nmJ1 : ∀ a, a < 0 → ∀ b, b < 0 → a ≠ b → (TJ1 a).2.1 ≠ (TJ1 b).2.1 := by decide +kernel
theorem tyJ1_ok : ∀ k, k < 0 → parseFieldDescriptor (TJ1 k).2.2.1 = some (tyJ1 k) := by decide +kernel
abbrev cJ1_canEncode_9a6ad : ByteArray := prog_15_method_4_code
def yJ1_canEncode_9a6ad : MethodName := ⟨RJ1, "canEncode", "(I)Z"⟩
abbrev cJ1_indexOf_4cfef : ByteArray := prog_15_method_22_code
def yJ1_indexOf_4cfef : MethodName := ⟨RJ1, "indexOf", "([BIII)I"⟩
abbrev cJ1_indexOfChar_4cfef : ByteArray := prog_15_method_23_code
def yJ1_indexOfChar_4cfef : MethodName := ⟨RJ1, "indexOfChar", "([BIII)I"⟩
def RJ2 : String := "java/lang/StringUTF16"
def TJ2 : u_T := fun k => match k with
  | _ => ("", "", "", false)
def tyJ2 : Nat → FieldType := fun k => match k with
  | _ => .int
theorem nmJ2 : ∀ a, a < 0 → ∀ b, b < 0 → a ≠ b → (TJ2 a).2.1 ≠ (TJ2 b).2.1 := by decide +kernel
theorem tyJ2_ok : ∀ k, k < 0 → parseFieldDescriptor (TJ2 k).2.2.1 = some (tyJ2 k) := by decide +kernel
abbrev cJ2_getChar_3b067 : ByteArray := prog_16_method_5_code
def yJ2_getChar_3b067 : MethodName := ⟨RJ2, "getChar", "([BI)C"⟩
abbrev cJ2_length_9d52b : ByteArray := prog_16_method_6_code
def yJ2_length_9d52b : MethodName := ⟨RJ2, "length", "([B)I"⟩
abbrev cJ2_indexOf_4cfef : ByteArray := prog_16_method_40_code
def yJ2_indexOf_4cfef : MethodName := ⟨RJ2, "indexOf", "([BIII)I"⟩
abbrev cJ2_indexOfChar_4cfef : ByteArray := prog_16_method_47_code
def yJ2_indexOfChar_4cfef : MethodName := ⟨RJ2, "indexOfChar", "([BIII)I"⟩
abbrev cJ2_indexOfCharUnsafe_4cfef : ByteArray := prog_16_method_48_code
def yJ2_indexOfCharUnsafe_4cfef : MethodName := ⟨RJ2, "indexOfCharUnsafe", "([BIII)I"⟩
abbrev cJ2_indexOfSupplementary_4cfef : ByteArray := prog_16_method_49_code
def yJ2_indexOfSupplementary_4cfef : MethodName := ⟨RJ2, "indexOfSupplementary", "([BIII)I"⟩
abbrev cJ2_checkBoundsBeginEnd_d044e : ByteArray := prog_16_method_93_code
def yJ2_checkBoundsBeginEnd_d044e : MethodName := ⟨RJ2, "checkBoundsBeginEnd", "(II[B)V"⟩
def RJ10 : String := "java/lang/System"
def TJ10 : u_T := fun k => match k with
  | _ => ("", "", "", false)
def tyJ10 : Nat → FieldType := fun k => match k with
  | _ => .int
theorem nmJ10 : ∀ a, a < 0 → ∀ b, b < 0 → a ≠ b → (TJ10 a).2.1 ≠ (TJ10 b).2.1 := by decide +kernel
theorem tyJ10_ok : ∀ k, k < 0 → parseFieldDescriptor (TJ10 k).2.2.1 = some (tyJ10 k) := by decide +kernel
def RJxfd54e : String := "java/lang/constant/Constable"
def TJxfd54e : u_T := fun k => match k with
  | _ => ("", "", "", false)
def tyJxfd54e : Nat → FieldType := fun k => match k with
  | _ => .int
theorem nmJxfd54e : ∀ a, a < 0 → ∀ b, b < 0 → a ≠ b → (TJxfd54e a).2.1 ≠ (TJxfd54e b).2.1 := by decide +kernel
theorem tyJxfd54e_ok : ∀ k, k < 0 → parseFieldDescriptor (TJxfd54e k).2.2.1 = some (tyJxfd54e k) := by decide +kernel
def RJx3cf43 : String := "java/lang/constant/ConstantDesc"
def TJx3cf43 : u_T := fun k => match k with
  | _ => ("", "", "", false)
def tyJx3cf43 : Nat → FieldType := fun k => match k with
  | _ => .int
theorem nmJx3cf43 : ∀ a, a < 0 → ∀ b, b < 0 → a ≠ b → (TJx3cf43 a).2.1 ≠ (TJx3cf43 b).2.1 := by decide +kernel
theorem tyJx3cf43_ok : ∀ k, k < 0 → parseFieldDescriptor (TJx3cf43 k).2.2.1 = some (tyJx3cf43 k) := by decide +kernel
def RJ7 : String := "java/util/Arrays"
def TJ7 : u_T := fun k => match k with
  | _ => ("", "", "", false)
def tyJ7 : Nat → FieldType := fun k => match k with
  | _ => .int
theorem nmJ7 : ∀ a, a < 0 → ∀ b, b < 0 → a ≠ b → (TJ7 a).2.1 ≠ (TJ7 b).2.1 := by decide +kernel
theorem tyJ7_ok : ∀ k, k < 0 → parseFieldDescriptor (TJ7 k).2.2.1 = some (tyJ7 k) := by decide +kernel
abbrev cJ7_fill_d0a16 : ByteArray := prog_18_method_101_code
def yJ7_fill_d0a16 : MethodName := ⟨RJ7, "fill", "([JJ)V"⟩
abbrev cJ7_fill_53178 : ByteArray := prog_18_method_103_code
def yJ7_fill_53178 : MethodName := ⟨RJ7, "fill", "([II)V"⟩
def RJ3 : String := "jdk/internal/util/Preconditions"
def TJ3 : u_T := fun k => match k with
  | _ => ("", "", "", false)
def tyJ3 : Nat → FieldType := fun k => match k with
  | _ => .int
theorem nmJ3 : ∀ a, a < 0 → ∀ b, b < 0 → a ≠ b → (TJ3 a).2.1 ≠ (TJ3 b).2.1 := by decide +kernel
theorem tyJ3_ok : ∀ k, k < 0 → parseFieldDescriptor (TJ3 k).2.2.1 = some (tyJ3 k) := by decide +kernel
abbrev cJ3_checkFromToIndex_8c36e : ByteArray := prog_19_method_12_code
def yJ3_checkFromToIndex_8c36e : MethodName := ⟨RJ3, "checkFromToIndex", "(IIILjava/util/function/BiFunction;)I"⟩
def RL : String := "SleptWitnessLaw"
abbrev cL_law : ByteArray := code
def yL_law : MethodName := ⟨RL, "law", "([I)Z"⟩
end
section
theorem dX0_init_0 : decode cX0_init 0 = .ok (.aload_n 0, 1) := by decide +kernel
theorem dX0_init_1 : decode cX0_init 1 = .ok (.invokespecial 3, 3) := by decide +kernel
theorem dX0_init_4 : decode cX0_init 4 = .ok (.aload_n 0, 1) := by decide +kernel
theorem dX0_init_5 : decode cX0_init 5 = .ok (.bipush 8, 2) := by decide +kernel
theorem dX0_init_7 : decode cX0_init 7 = .ok (.newarray .int, 2) := by decide +kernel
theorem dX0_init_9 : decode cX0_init 9 = .ok (.putfield 9, 3) := by decide +kernel
theorem dX0_init_12 : decode cX0_init 12 = .ok (.aload_n 0, 1) := by decide +kernel
theorem dX0_init_13 : decode cX0_init 13 = .ok (.bipush 8, 2) := by decide +kernel
theorem dX0_init_15 : decode cX0_init 15 = .ok (.newarray .int, 2) := by decide +kernel
theorem dX0_init_17 : decode cX0_init 17 = .ok (.putfield 15, 3) := by decide +kernel
theorem dX0_init_20 : decode cX0_init 20 = .ok (.aload_n 0, 1) := by decide +kernel
theorem dX0_init_21 : decode cX0_init 21 = .ok (.bipush 8, 2) := by decide +kernel
theorem dX0_init_23 : decode cX0_init 23 = .ok (.newarray .int, 2) := by decide +kernel
theorem dX0_init_25 : decode cX0_init 25 = .ok (.putfield 18, 3) := by decide +kernel
theorem dX0_init_28 : decode cX0_init 28 = .ok (.aload_n 0, 1) := by decide +kernel
theorem dX0_init_29 : decode cX0_init 29 = .ok (.bipush 8, 2) := by decide +kernel
theorem dX0_init_31 : decode cX0_init 31 = .ok (.newarray .int, 2) := by decide +kernel
theorem dX0_init_33 : decode cX0_init 33 = .ok (.putfield 21, 3) := by decide +kernel
theorem dX0_init_36 : decode cX0_init 36 = .ok (.return_, 1) := by decide +kernel
theorem dX0_add_0 : decode cX0_add 0 = .ok (.aload_n 0, 1) := by decide +kernel
theorem dX0_add_1 : decode cX0_add 1 = .ok (.getfield 24, 3) := by decide +kernel
theorem dX0_add_4 : decode cX0_add 4 = .ok (.bipush 8, 2) := by decide +kernel
theorem dX0_add_6 : decode cX0_add 6 = .ok (.if_icmp .lt 4, 3) := by decide +kernel
theorem dX0_add_9 : decode cX0_add 9 = .ok (.return_, 1) := by decide +kernel
theorem dX0_add_10 : decode cX0_add 10 = .ok (.aload_n 0, 1) := by decide +kernel
theorem dX0_add_11 : decode cX0_add 11 = .ok (.getfield 9, 3) := by decide +kernel
theorem dX0_add_14 : decode cX0_add 14 = .ok (.aload_n 0, 1) := by decide +kernel
theorem dX0_add_15 : decode cX0_add 15 = .ok (.getfield 24, 3) := by decide +kernel
theorem dX0_add_18 : decode cX0_add 18 = .ok (.iload_n 1, 1) := by decide +kernel
theorem dX0_add_19 : decode cX0_add 19 = .ok (.iastore, 1) := by decide +kernel
theorem dX0_add_20 : decode cX0_add 20 = .ok (.aload_n 0, 1) := by decide +kernel
theorem dX0_add_21 : decode cX0_add 21 = .ok (.getfield 15, 3) := by decide +kernel
theorem dX0_add_24 : decode cX0_add 24 = .ok (.aload_n 0, 1) := by decide +kernel
theorem dX0_add_25 : decode cX0_add 25 = .ok (.getfield 24, 3) := by decide +kernel
theorem dX0_add_28 : decode cX0_add 28 = .ok (.iload_n 2, 1) := by decide +kernel
theorem dX0_add_29 : decode cX0_add 29 = .ok (.iastore, 1) := by decide +kernel
theorem dX0_add_30 : decode cX0_add 30 = .ok (.aload_n 0, 1) := by decide +kernel
theorem dX0_add_31 : decode cX0_add 31 = .ok (.getfield 18, 3) := by decide +kernel
theorem dX0_add_34 : decode cX0_add 34 = .ok (.aload_n 0, 1) := by decide +kernel
theorem dX0_add_35 : decode cX0_add 35 = .ok (.getfield 24, 3) := by decide +kernel
theorem dX0_add_38 : decode cX0_add 38 = .ok (.iload_n 3, 1) := by decide +kernel
theorem dX0_add_39 : decode cX0_add 39 = .ok (.iastore, 1) := by decide +kernel
theorem dX0_add_40 : decode cX0_add 40 = .ok (.aload_n 0, 1) := by decide +kernel
theorem dX0_add_41 : decode cX0_add 41 = .ok (.getfield 24, 3) := by decide +kernel
theorem dX0_add_44 : decode cX0_add 44 = .ok (.istore 4, 2) := by decide +kernel
theorem dX0_add_46 : decode cX0_add 46 = .ok (.iload 4, 2) := by decide +kernel
theorem dX0_add_48 : decode cX0_add 48 = .ok (.ifCond .le 43, 3) := by decide +kernel
theorem dX0_add_51 : decode cX0_add 51 = .ok (.aload_n 0, 1) := by decide +kernel
theorem dX0_add_52 : decode cX0_add 52 = .ok (.getfield 9, 3) := by decide +kernel
theorem dX0_add_55 : decode cX0_add 55 = .ok (.aload_n 0, 1) := by decide +kernel
theorem dX0_add_56 : decode cX0_add 56 = .ok (.getfield 21, 3) := by decide +kernel
theorem dX0_add_59 : decode cX0_add 59 = .ok (.iload 4, 2) := by decide +kernel
theorem dX0_add_61 : decode cX0_add 61 = .ok (.iconst 1, 1) := by decide +kernel
theorem dX0_add_62 : decode cX0_add 62 = .ok (.isub, 1) := by decide +kernel
theorem dX0_add_63 : decode cX0_add 63 = .ok (.iaload, 1) := by decide +kernel
theorem dX0_add_64 : decode cX0_add 64 = .ok (.iaload, 1) := by decide +kernel
theorem dX0_add_65 : decode cX0_add 65 = .ok (.iload_n 1, 1) := by decide +kernel
theorem dX0_add_66 : decode cX0_add 66 = .ok (.if_icmp .le 25, 3) := by decide +kernel
theorem dX0_add_69 : decode cX0_add 69 = .ok (.aload_n 0, 1) := by decide +kernel
theorem dX0_add_70 : decode cX0_add 70 = .ok (.getfield 21, 3) := by decide +kernel
theorem dX0_add_73 : decode cX0_add 73 = .ok (.iload 4, 2) := by decide +kernel
theorem dX0_add_75 : decode cX0_add 75 = .ok (.aload_n 0, 1) := by decide +kernel
theorem dX0_add_76 : decode cX0_add 76 = .ok (.getfield 21, 3) := by decide +kernel
theorem dX0_add_79 : decode cX0_add 79 = .ok (.iload 4, 2) := by decide +kernel
theorem dX0_add_81 : decode cX0_add 81 = .ok (.iconst 1, 1) := by decide +kernel
theorem dX0_add_82 : decode cX0_add 82 = .ok (.isub, 1) := by decide +kernel
theorem dX0_add_83 : decode cX0_add 83 = .ok (.iaload, 1) := by decide +kernel
theorem dX0_add_84 : decode cX0_add 84 = .ok (.iastore, 1) := by decide +kernel
theorem dX0_add_85 : decode cX0_add 85 = .ok (.iinc 4 (-1), 3) := by decide +kernel
theorem dX0_add_88 : decode cX0_add 88 = .ok (.goto (-42), 3) := by decide +kernel
theorem dX0_add_91 : decode cX0_add 91 = .ok (.aload_n 0, 1) := by decide +kernel
theorem dX0_add_92 : decode cX0_add 92 = .ok (.getfield 21, 3) := by decide +kernel
theorem dX0_add_95 : decode cX0_add 95 = .ok (.iload 4, 2) := by decide +kernel
theorem dX0_add_97 : decode cX0_add 97 = .ok (.aload_n 0, 1) := by decide +kernel
theorem dX0_add_98 : decode cX0_add 98 = .ok (.getfield 24, 3) := by decide +kernel
theorem dX0_add_101 : decode cX0_add 101 = .ok (.iastore, 1) := by decide +kernel
theorem dX0_add_102 : decode cX0_add 102 = .ok (.aload_n 0, 1) := by decide +kernel
theorem dX0_add_103 : decode cX0_add 103 = .ok (.dup, 1) := by decide +kernel
theorem dX0_add_104 : decode cX0_add 104 = .ok (.getfield 24, 3) := by decide +kernel
theorem dX0_add_107 : decode cX0_add 107 = .ok (.iconst 1, 1) := by decide +kernel
theorem dX0_add_108 : decode cX0_add 108 = .ok (.iadd, 1) := by decide +kernel
theorem dX0_add_109 : decode cX0_add 109 = .ok (.putfield 24, 3) := by decide +kernel
theorem dX0_add_112 : decode cX0_add 112 = .ok (.return_, 1) := by decide +kernel
theorem dX0_become_0 : decode cX0_become 0 = .ok (.aload_n 0, 1) := by decide +kernel
theorem dX0_become_1 : decode cX0_become 1 = .ok (.iconst 0, 1) := by decide +kernel
theorem dX0_become_2 : decode cX0_become 2 = .ok (.putfield 24, 3) := by decide +kernel
theorem dX0_become_5 : decode cX0_become 5 = .ok (.iconst 0, 1) := by decide +kernel
theorem dX0_become_6 : decode cX0_become 6 = .ok (.istore_n 3, 1) := by decide +kernel
theorem dX0_become_7 : decode cX0_become 7 = .ok (.iload_n 3, 1) := by decide +kernel
theorem dX0_become_8 : decode cX0_become 8 = .ok (.aload_n 1, 1) := by decide +kernel
theorem dX0_become_9 : decode cX0_become 9 = .ok (.getfield 24, 3) := by decide +kernel
theorem dX0_become_12 : decode cX0_become 12 = .ok (.if_icmp .ge 36, 3) := by decide +kernel
theorem dX0_become_15 : decode cX0_become 15 = .ok (.iload_n 3, 1) := by decide +kernel
theorem dX0_become_16 : decode cX0_become 16 = .ok (.iload_n 2, 1) := by decide +kernel
theorem dX0_become_17 : decode cX0_become 17 = .ok (.if_icmp .eq 25, 3) := by decide +kernel
theorem dX0_become_20 : decode cX0_become 20 = .ok (.aload_n 0, 1) := by decide +kernel
theorem dX0_become_21 : decode cX0_become 21 = .ok (.aload_n 1, 1) := by decide +kernel
theorem dX0_become_22 : decode cX0_become 22 = .ok (.getfield 9, 3) := by decide +kernel
theorem dX0_become_25 : decode cX0_become 25 = .ok (.iload_n 3, 1) := by decide +kernel
theorem dX0_become_26 : decode cX0_become 26 = .ok (.iaload, 1) := by decide +kernel
theorem dX0_become_27 : decode cX0_become 27 = .ok (.aload_n 1, 1) := by decide +kernel
theorem dX0_become_28 : decode cX0_become 28 = .ok (.getfield 15, 3) := by decide +kernel
theorem dX0_become_31 : decode cX0_become 31 = .ok (.iload_n 3, 1) := by decide +kernel
theorem dX0_become_32 : decode cX0_become 32 = .ok (.iaload, 1) := by decide +kernel
theorem dX0_become_33 : decode cX0_become 33 = .ok (.aload_n 1, 1) := by decide +kernel
theorem dX0_become_34 : decode cX0_become 34 = .ok (.getfield 18, 3) := by decide +kernel
theorem dX0_become_37 : decode cX0_become 37 = .ok (.iload_n 3, 1) := by decide +kernel
theorem dX0_become_38 : decode cX0_become 38 = .ok (.iaload, 1) := by decide +kernel
theorem dX0_become_39 : decode cX0_become 39 = .ok (.invokevirtual 28, 3) := by decide +kernel
theorem dX0_become_42 : decode cX0_become 42 = .ok (.iinc 3 1, 3) := by decide +kernel
theorem dX0_become_45 : decode cX0_become 45 = .ok (.goto (-38), 3) := by decide +kernel
theorem dX0_become_48 : decode cX0_become 48 = .ok (.return_, 1) := by decide +kernel
theorem dX1_init_0 : decode cX1_init 0 = .ok (.aload_n 0, 1) := by decide +kernel
theorem dX1_init_1 : decode cX1_init 1 = .ok (.invokespecial 3, 3) := by decide +kernel
theorem dX1_init_4 : decode cX1_init 4 = .ok (.aload_n 0, 1) := by decide +kernel
theorem dX1_init_5 : decode cX1_init 5 = .ok (.bipush 8, 2) := by decide +kernel
theorem dX1_init_7 : decode cX1_init 7 = .ok (.newarray .int, 2) := by decide +kernel
theorem dX1_init_9 : decode cX1_init 9 = .ok (.putfield 9, 3) := by decide +kernel
theorem dX1_init_12 : decode cX1_init 12 = .ok (.return_, 1) := by decide +kernel
theorem dX1_open_0 : decode cX1_open 0 = .ok (.aload_n 0, 1) := by decide +kernel
theorem dX1_open_1 : decode cX1_open 1 = .ok (.iconst 0, 1) := by decide +kernel
theorem dX1_open_2 : decode cX1_open 2 = .ok (.putfield 15, 3) := by decide +kernel
theorem dX1_open_5 : decode cX1_open 5 = .ok (.aload_n 0, 1) := by decide +kernel
theorem dX1_open_6 : decode cX1_open 6 = .ok (.iconst 0, 1) := by decide +kernel
theorem dX1_open_7 : decode cX1_open 7 = .ok (.putfield 19, 3) := by decide +kernel
theorem dX1_open_10 : decode cX1_open 10 = .ok (.aload_n 0, 1) := by decide +kernel
theorem dX1_open_11 : decode cX1_open 11 = .ok (.iconst 0, 1) := by decide +kernel
theorem dX1_open_12 : decode cX1_open 12 = .ok (.putfield 22, 3) := by decide +kernel
theorem dX1_open_15 : decode cX1_open 15 = .ok (.return_, 1) := by decide +kernel
theorem dX1_add_0 : decode cX1_add 0 = .ok (.aload_n 0, 1) := by decide +kernel
theorem dX1_add_1 : decode cX1_add 1 = .ok (.getfield 15, 3) := by decide +kernel
theorem dX1_add_4 : decode cX1_add 4 = .ok (.bipush 8, 2) := by decide +kernel
theorem dX1_add_6 : decode cX1_add 6 = .ok (.if_icmp .ge 52, 3) := by decide +kernel
theorem dX1_add_9 : decode cX1_add 9 = .ok (.aload_n 0, 1) := by decide +kernel
theorem dX1_add_10 : decode cX1_add 10 = .ok (.getfield 9, 3) := by decide +kernel
theorem dX1_add_13 : decode cX1_add 13 = .ok (.aload_n 0, 1) := by decide +kernel
theorem dX1_add_14 : decode cX1_add 14 = .ok (.getfield 15, 3) := by decide +kernel
theorem dX1_add_17 : decode cX1_add 17 = .ok (.aload_n 1, 1) := by decide +kernel
theorem dX1_add_18 : decode cX1_add 18 = .ok (.getfield 25, 3) := by decide +kernel
theorem dX1_add_21 : decode cX1_add 21 = .ok (.iastore, 1) := by decide +kernel
theorem dX1_add_22 : decode cX1_add 22 = .ok (.aload_n 0, 1) := by decide +kernel
theorem dX1_add_23 : decode cX1_add 23 = .ok (.dup, 1) := by decide +kernel
theorem dX1_add_24 : decode cX1_add 24 = .ok (.getfield 19, 3) := by decide +kernel
theorem dX1_add_27 : decode cX1_add 27 = .ok (.aload_n 1, 1) := by decide +kernel
theorem dX1_add_28 : decode cX1_add 28 = .ok (.getfield 30, 3) := by decide +kernel
theorem dX1_add_31 : decode cX1_add 31 = .ok (.iadd, 1) := by decide +kernel
theorem dX1_add_32 : decode cX1_add 32 = .ok (.putfield 19, 3) := by decide +kernel
theorem dX1_add_35 : decode cX1_add 35 = .ok (.aload_n 0, 1) := by decide +kernel
theorem dX1_add_36 : decode cX1_add 36 = .ok (.dup, 1) := by decide +kernel
theorem dX1_add_37 : decode cX1_add 37 = .ok (.getfield 22, 3) := by decide +kernel
theorem dX1_add_40 : decode cX1_add 40 = .ok (.aload_n 1, 1) := by decide +kernel
theorem dX1_add_41 : decode cX1_add 41 = .ok (.getfield 31, 3) := by decide +kernel
theorem dX1_add_44 : decode cX1_add 44 = .ok (.iadd, 1) := by decide +kernel
theorem dX1_add_45 : decode cX1_add 45 = .ok (.putfield 22, 3) := by decide +kernel
theorem dX1_add_48 : decode cX1_add 48 = .ok (.aload_n 0, 1) := by decide +kernel
theorem dX1_add_49 : decode cX1_add 49 = .ok (.dup, 1) := by decide +kernel
theorem dX1_add_50 : decode cX1_add 50 = .ok (.getfield 15, 3) := by decide +kernel
theorem dX1_add_53 : decode cX1_add 53 = .ok (.iconst 1, 1) := by decide +kernel
theorem dX1_add_54 : decode cX1_add 54 = .ok (.iadd, 1) := by decide +kernel
theorem dX1_add_55 : decode cX1_add 55 = .ok (.putfield 15, 3) := by decide +kernel
theorem dX1_add_58 : decode cX1_add 58 = .ok (.return_, 1) := by decide +kernel
theorem dX1_witnesses_0 : decode cX1_witnesses 0 = .ok (.iconst 0, 1) := by decide +kernel
theorem dX1_witnesses_1 : decode cX1_witnesses 1 = .ok (.istore_n 2, 1) := by decide +kernel
theorem dX1_witnesses_2 : decode cX1_witnesses 2 = .ok (.iconst 0, 1) := by decide +kernel
theorem dX1_witnesses_3 : decode cX1_witnesses 3 = .ok (.istore_n 3, 1) := by decide +kernel
theorem dX1_witnesses_4 : decode cX1_witnesses 4 = .ok (.iload_n 3, 1) := by decide +kernel
theorem dX1_witnesses_5 : decode cX1_witnesses 5 = .ok (.aload_n 0, 1) := by decide +kernel
theorem dX1_witnesses_6 : decode cX1_witnesses 6 = .ok (.getfield 15, 3) := by decide +kernel
theorem dX1_witnesses_9 : decode cX1_witnesses 9 = .ok (.if_icmp .ge 24, 3) := by decide +kernel
theorem dX1_witnesses_12 : decode cX1_witnesses 12 = .ok (.iload_n 2, 1) := by decide +kernel
theorem dX1_witnesses_13 : decode cX1_witnesses 13 = .ok (.aload_n 0, 1) := by decide +kernel
theorem dX1_witnesses_14 : decode cX1_witnesses 14 = .ok (.getfield 9, 3) := by decide +kernel
theorem dX1_witnesses_17 : decode cX1_witnesses 17 = .ok (.iload_n 3, 1) := by decide +kernel
theorem dX1_witnesses_18 : decode cX1_witnesses 18 = .ok (.iaload, 1) := by decide +kernel
theorem dX1_witnesses_19 : decode cX1_witnesses 19 = .ok (.iload_n 1, 1) := by decide +kernel
theorem dX1_witnesses_20 : decode cX1_witnesses 20 = .ok (.ishr, 1) := by decide +kernel
theorem dX1_witnesses_21 : decode cX1_witnesses 21 = .ok (.iconst 1, 1) := by decide +kernel
theorem dX1_witnesses_22 : decode cX1_witnesses 22 = .ok (.iand, 1) := by decide +kernel
theorem dX1_witnesses_23 : decode cX1_witnesses 23 = .ok (.iload_n 3, 1) := by decide +kernel
theorem dX1_witnesses_24 : decode cX1_witnesses 24 = .ok (.ishl, 1) := by decide +kernel
theorem dX1_witnesses_25 : decode cX1_witnesses 25 = .ok (.ior, 1) := by decide +kernel
theorem dX1_witnesses_26 : decode cX1_witnesses 26 = .ok (.istore_n 2, 1) := by decide +kernel
theorem dX1_witnesses_27 : decode cX1_witnesses 27 = .ok (.iinc 3 1, 3) := by decide +kernel
theorem dX1_witnesses_30 : decode cX1_witnesses 30 = .ok (.goto (-26), 3) := by decide +kernel
theorem dX1_witnesses_33 : decode cX1_witnesses 33 = .ok (.iload_n 2, 1) := by decide +kernel
theorem dX1_witnesses_34 : decode cX1_witnesses 34 = .ok (.ireturn, 1) := by decide +kernel
theorem dX1_provenOf_0 : decode cX1_provenOf 0 = .ok (.iconst 0, 1) := by decide +kernel
theorem dX1_provenOf_1 : decode cX1_provenOf 1 = .ok (.istore_n 3, 1) := by decide +kernel
theorem dX1_provenOf_2 : decode cX1_provenOf 2 = .ok (.iconst 0, 1) := by decide +kernel
theorem dX1_provenOf_3 : decode cX1_provenOf 3 = .ok (.istore 4, 2) := by decide +kernel
theorem dX1_provenOf_5 : decode cX1_provenOf 5 = .ok (.iload 4, 2) := by decide +kernel
theorem dX1_provenOf_7 : decode cX1_provenOf 7 = .ok (.iload_n 1, 1) := by decide +kernel
theorem dX1_provenOf_8 : decode cX1_provenOf 8 = .ok (.if_icmp .ge 25, 3) := by decide +kernel
theorem dX1_provenOf_11 : decode cX1_provenOf 11 = .ok (.aload_n 0, 1) := by decide +kernel
theorem dX1_provenOf_12 : decode cX1_provenOf 12 = .ok (.iload 4, 2) := by decide +kernel
theorem dX1_provenOf_14 : decode cX1_provenOf 14 = .ok (.invokevirtual 32, 3) := by decide +kernel
theorem dX1_provenOf_17 : decode cX1_provenOf 17 = .ok (.invokestatic 36, 3) := by decide +kernel
theorem dX1_provenOf_20 : decode cX1_provenOf 20 = .ok (.iload_n 2, 1) := by decide +kernel
theorem dX1_provenOf_21 : decode cX1_provenOf 21 = .ok (.if_icmp .lt 6, 3) := by decide +kernel
theorem dX1_provenOf_24 : decode cX1_provenOf 24 = .ok (.iinc 3 1, 3) := by decide +kernel
theorem dX1_provenOf_27 : decode cX1_provenOf 27 = .ok (.iinc 4 1, 3) := by decide +kernel
theorem dX1_provenOf_30 : decode cX1_provenOf 30 = .ok (.goto (-25), 3) := by decide +kernel
theorem dX1_provenOf_33 : decode cX1_provenOf 33 = .ok (.iload_n 3, 1) := by decide +kernel
theorem dX1_provenOf_34 : decode cX1_provenOf 34 = .ok (.ireturn, 1) := by decide +kernel
theorem dX2_init_0 : decode cX2_init 0 = .ok (.aload_n 0, 1) := by decide +kernel
theorem dX2_init_1 : decode cX2_init 1 = .ok (.invokespecial 3, 3) := by decide +kernel
theorem dX2_init_4 : decode cX2_init 4 = .ok (.aload_n 0, 1) := by decide +kernel
theorem dX2_init_5 : decode cX2_init 5 = .ok (.bipush 8, 2) := by decide +kernel
theorem dX2_init_7 : decode cX2_init 7 = .ok (.newarray .int, 2) := by decide +kernel
theorem dX2_init_9 : decode cX2_init 9 = .ok (.putfield 9, 3) := by decide +kernel
theorem dX2_init_12 : decode cX2_init 12 = .ok (.aload_n 0, 1) := by decide +kernel
theorem dX2_init_13 : decode cX2_init 13 = .ok (.bipush 8, 2) := by decide +kernel
theorem dX2_init_15 : decode cX2_init 15 = .ok (.newarray .int, 2) := by decide +kernel
theorem dX2_init_17 : decode cX2_init 17 = .ok (.putfield 15, 3) := by decide +kernel
theorem dX2_init_20 : decode cX2_init 20 = .ok (.aload_n 0, 1) := by decide +kernel
theorem dX2_init_21 : decode cX2_init 21 = .ok (.bipush 8, 2) := by decide +kernel
theorem dX2_init_23 : decode cX2_init 23 = .ok (.newarray .int, 2) := by decide +kernel
theorem dX2_init_25 : decode cX2_init 25 = .ok (.putfield 18, 3) := by decide +kernel
theorem dX2_init_28 : decode cX2_init 28 = .ok (.aload_n 0, 1) := by decide +kernel
theorem dX2_init_29 : decode cX2_init 29 = .ok (.iconst 4, 1) := by decide +kernel
theorem dX2_init_30 : decode cX2_init 30 = .ok (.newarray .int, 2) := by decide +kernel
theorem dX2_init_32 : decode cX2_init 32 = .ok (.putfield 21, 3) := by decide +kernel
theorem dX2_init_35 : decode cX2_init 35 = .ok (.return_, 1) := by decide +kernel
theorem dX2_pass_0 : decode cX2_pass 0 = .ok (.aload_n 0, 1) := by decide +kernel
theorem dX2_pass_1 : decode cX2_pass 1 = .ok (.aload_n 1, 1) := by decide +kernel
theorem dX2_pass_2 : decode cX2_pass 2 = .ok (.invokevirtual 24, 3) := by decide +kernel
theorem dX2_pass_5 : decode cX2_pass 5 = .ok (.iconst 0, 1) := by decide +kernel
theorem dX2_pass_6 : decode cX2_pass 6 = .ok (.istore 4, 2) := by decide +kernel
theorem dX2_pass_8 : decode cX2_pass 8 = .ok (.iload 4, 2) := by decide +kernel
theorem dX2_pass_10 : decode cX2_pass 10 = .ok (.aload_n 2, 1) := by decide +kernel
theorem dX2_pass_11 : decode cX2_pass 11 = .ok (.getfield 28, 3) := by decide +kernel
theorem dX2_pass_14 : decode cX2_pass 14 = .ok (.if_icmp .ge 22, 3) := by decide +kernel
theorem dX2_pass_17 : decode cX2_pass 17 = .ok (.aload_n 0, 1) := by decide +kernel
theorem dX2_pass_18 : decode cX2_pass 18 = .ok (.aload_n 1, 1) := by decide +kernel
theorem dX2_pass_19 : decode cX2_pass 19 = .ok (.aload_n 2, 1) := by decide +kernel
theorem dX2_pass_20 : decode cX2_pass 20 = .ok (.aload_n 2, 1) := by decide +kernel
theorem dX2_pass_21 : decode cX2_pass 21 = .ok (.getfield 34, 3) := by decide +kernel
theorem dX2_pass_24 : decode cX2_pass 24 = .ok (.iload 4, 2) := by decide +kernel
theorem dX2_pass_26 : decode cX2_pass 26 = .ok (.iaload, 1) := by decide +kernel
theorem dX2_pass_27 : decode cX2_pass 27 = .ok (.invokevirtual 37, 3) := by decide +kernel
theorem dX2_pass_30 : decode cX2_pass 30 = .ok (.iinc 4 1, 3) := by decide +kernel
theorem dX2_pass_33 : decode cX2_pass 33 = .ok (.goto (-25), 3) := by decide +kernel
theorem dX2_pass_36 : decode cX2_pass 36 = .ok (.aload_n 0, 1) := by decide +kernel
theorem dX2_pass_37 : decode cX2_pass 37 = .ok (.iconst 0, 1) := by decide +kernel
theorem dX2_pass_38 : decode cX2_pass 38 = .ok (.putfield 41, 3) := by decide +kernel
theorem dX2_pass_41 : decode cX2_pass 41 = .ok (.iconst 0, 1) := by decide +kernel
theorem dX2_pass_42 : decode cX2_pass 42 = .ok (.istore 4, 2) := by decide +kernel
theorem dX2_pass_44 : decode cX2_pass 44 = .ok (.iload 4, 2) := by decide +kernel
theorem dX2_pass_46 : decode cX2_pass 46 = .ok (.aload_n 2, 1) := by decide +kernel
theorem dX2_pass_47 : decode cX2_pass 47 = .ok (.getfield 28, 3) := by decide +kernel
theorem dX2_pass_50 : decode cX2_pass 50 = .ok (.if_icmp .ge 51, 3) := by decide +kernel
theorem dX2_pass_53 : decode cX2_pass 53 = .ok (.aload_n 0, 1) := by decide +kernel
theorem dX2_pass_54 : decode cX2_pass 54 = .ok (.aload_n 0, 1) := by decide +kernel
theorem dX2_pass_55 : decode cX2_pass 55 = .ok (.getfield 18, 3) := by decide +kernel
theorem dX2_pass_58 : decode cX2_pass 58 = .ok (.iload 4, 2) := by decide +kernel
theorem dX2_pass_60 : decode cX2_pass 60 = .ok (.iaload, 1) := by decide +kernel
theorem dX2_pass_61 : decode cX2_pass 61 = .ok (.aload_n 0, 1) := by decide +kernel
theorem dX2_pass_62 : decode cX2_pass 62 = .ok (.getfield 15, 3) := by decide +kernel
theorem dX2_pass_65 : decode cX2_pass 65 = .ok (.iload 4, 2) := by decide +kernel
theorem dX2_pass_67 : decode cX2_pass 67 = .ok (.iaload, 1) := by decide +kernel
theorem dX2_pass_68 : decode cX2_pass 68 = .ok (.aload_n 2, 1) := by decide +kernel
theorem dX2_pass_69 : decode cX2_pass 69 = .ok (.getfield 44, 3) := by decide +kernel
theorem dX2_pass_72 : decode cX2_pass 72 = .ok (.iload 4, 2) := by decide +kernel
theorem dX2_pass_74 : decode cX2_pass 74 = .ok (.iaload, 1) := by decide +kernel
theorem dX2_pass_75 : decode cX2_pass 75 = .ok (.aload_n 3, 1) := by decide +kernel
theorem dX2_pass_76 : decode cX2_pass 76 = .ok (.invokevirtual 47, 3) := by decide +kernel
theorem dX2_pass_79 : decode cX2_pass 79 = .ok (.ifCond .eq 16, 3) := by decide +kernel
theorem dX2_pass_82 : decode cX2_pass 82 = .ok (.aload_n 0, 1) := by decide +kernel
theorem dX2_pass_83 : decode cX2_pass 83 = .ok (.dup, 1) := by decide +kernel
theorem dX2_pass_84 : decode cX2_pass 84 = .ok (.getfield 41, 3) := by decide +kernel
theorem dX2_pass_87 : decode cX2_pass 87 = .ok (.iconst 1, 1) := by decide +kernel
theorem dX2_pass_88 : decode cX2_pass 88 = .ok (.iload 4, 2) := by decide +kernel
theorem dX2_pass_90 : decode cX2_pass 90 = .ok (.ishl, 1) := by decide +kernel
theorem dX2_pass_91 : decode cX2_pass 91 = .ok (.ior, 1) := by decide +kernel
theorem dX2_pass_92 : decode cX2_pass 92 = .ok (.putfield 41, 3) := by decide +kernel
theorem dX2_pass_95 : decode cX2_pass 95 = .ok (.iinc 4 1, 3) := by decide +kernel
theorem dX2_pass_98 : decode cX2_pass 98 = .ok (.goto (-54), 3) := by decide +kernel
theorem dX2_pass_101 : decode cX2_pass 101 = .ok (.return_, 1) := by decide +kernel
theorem dX2_hoursFor_0 : decode cX2_hoursFor 0 = .ok (.aload_n 0, 1) := by decide +kernel
theorem dX2_hoursFor_1 : decode cX2_hoursFor 1 = .ok (.aload_n 1, 1) := by decide +kernel
theorem dX2_hoursFor_2 : decode cX2_hoursFor 2 = .ok (.invokevirtual 24, 3) := by decide +kernel
theorem dX2_hoursFor_5 : decode cX2_hoursFor 5 = .ok (.aload_n 1, 1) := by decide +kernel
theorem dX2_hoursFor_6 : decode cX2_hoursFor 6 = .ok (.getfield 51, 3) := by decide +kernel
theorem dX2_hoursFor_9 : decode cX2_hoursFor 9 = .ok (.iload_n 3, 1) := by decide +kernel
theorem dX2_hoursFor_10 : decode cX2_hoursFor 10 = .ok (.iload 4, 2) := by decide +kernel
theorem dX2_hoursFor_12 : decode cX2_hoursFor 12 = .ok (.invokestatic 56, 3) := by decide +kernel
theorem dX2_hoursFor_15 : decode cX2_hoursFor 15 = .ok (.istore 6, 2) := by decide +kernel
theorem dX2_hoursFor_17 : decode cX2_hoursFor 17 = .ok (.lconst 0, 1) := by decide +kernel
theorem dX2_hoursFor_18 : decode cX2_hoursFor 18 = .ok (.lstore 7, 2) := by decide +kernel
theorem dX2_hoursFor_20 : decode cX2_hoursFor 20 = .ok (.iconst 0, 1) := by decide +kernel
theorem dX2_hoursFor_21 : decode cX2_hoursFor 21 = .ok (.istore 9, 2) := by decide +kernel
theorem dX2_hoursFor_23 : decode cX2_hoursFor 23 = .ok (.iconst 0, 1) := by decide +kernel
theorem dX2_hoursFor_24 : decode cX2_hoursFor 24 = .ok (.istore 10, 2) := by decide +kernel
theorem dX2_hoursFor_26 : decode cX2_hoursFor 26 = .ok (.iload 10, 2) := by decide +kernel
theorem dX2_hoursFor_28 : decode cX2_hoursFor 28 = .ok (.bipush 50, 2) := by decide +kernel
theorem dX2_hoursFor_30 : decode cX2_hoursFor 30 = .ok (.if_icmp .ge 96, 3) := by decide +kernel
theorem dX2_hoursFor_33 : decode cX2_hoursFor 33 = .ok (.iload 9, 2) := by decide +kernel
theorem dX2_hoursFor_35 : decode cX2_hoursFor 35 = .ok (.aload_n 2, 1) := by decide +kernel
theorem dX2_hoursFor_36 : decode cX2_hoursFor 36 = .ok (.getfield 28, 3) := by decide +kernel
theorem dX2_hoursFor_39 : decode cX2_hoursFor 39 = .ok (.if_icmp .ge 39, 3) := by decide +kernel
theorem dX2_hoursFor_42 : decode cX2_hoursFor 42 = .ok (.aload_n 2, 1) := by decide +kernel
theorem dX2_hoursFor_43 : decode cX2_hoursFor 43 = .ok (.getfield 44, 3) := by decide +kernel
theorem dX2_hoursFor_46 : decode cX2_hoursFor 46 = .ok (.aload_n 2, 1) := by decide +kernel
theorem dX2_hoursFor_47 : decode cX2_hoursFor 47 = .ok (.getfield 34, 3) := by decide +kernel
theorem dX2_hoursFor_50 : decode cX2_hoursFor 50 = .ok (.iload 9, 2) := by decide +kernel
theorem dX2_hoursFor_52 : decode cX2_hoursFor 52 = .ok (.iaload, 1) := by decide +kernel
theorem dX2_hoursFor_53 : decode cX2_hoursFor 53 = .ok (.iaload, 1) := by decide +kernel
theorem dX2_hoursFor_54 : decode cX2_hoursFor 54 = .ok (.iload 10, 2) := by decide +kernel
theorem dX2_hoursFor_56 : decode cX2_hoursFor 56 = .ok (.if_icmp .ne 22, 3) := by decide +kernel
theorem dX2_hoursFor_59 : decode cX2_hoursFor 59 = .ok (.aload_n 0, 1) := by decide +kernel
theorem dX2_hoursFor_60 : decode cX2_hoursFor 60 = .ok (.aload_n 1, 1) := by decide +kernel
theorem dX2_hoursFor_61 : decode cX2_hoursFor 61 = .ok (.aload_n 2, 1) := by decide +kernel
theorem dX2_hoursFor_62 : decode cX2_hoursFor 62 = .ok (.aload_n 2, 1) := by decide +kernel
theorem dX2_hoursFor_63 : decode cX2_hoursFor 63 = .ok (.getfield 34, 3) := by decide +kernel
theorem dX2_hoursFor_66 : decode cX2_hoursFor 66 = .ok (.iload 9, 2) := by decide +kernel
theorem dX2_hoursFor_68 : decode cX2_hoursFor 68 = .ok (.iaload, 1) := by decide +kernel
theorem dX2_hoursFor_69 : decode cX2_hoursFor 69 = .ok (.invokevirtual 37, 3) := by decide +kernel
theorem dX2_hoursFor_72 : decode cX2_hoursFor 72 = .ok (.iinc 9 1, 3) := by decide +kernel
theorem dX2_hoursFor_75 : decode cX2_hoursFor 75 = .ok (.goto (-42), 3) := by decide +kernel
theorem dX2_hoursFor_78 : decode cX2_hoursFor 78 = .ok (.aload_n 1, 1) := by decide +kernel
theorem dX2_hoursFor_79 : decode cX2_hoursFor 79 = .ok (.iload 10, 2) := by decide +kernel
theorem dX2_hoursFor_81 : decode cX2_hoursFor 81 = .ok (.aload_n 0, 1) := by decide +kernel
theorem dX2_hoursFor_82 : decode cX2_hoursFor 82 = .ok (.getfield 60, 3) := by decide +kernel
theorem dX2_hoursFor_85 : decode cX2_hoursFor 85 = .ok (.isub, 1) := by decide +kernel
theorem dX2_hoursFor_86 : decode cX2_hoursFor 86 = .ok (.invokevirtual 63, 3) := by decide +kernel
theorem dX2_hoursFor_89 : decode cX2_hoursFor 89 = .ok (.istore 11, 2) := by decide +kernel
theorem dX2_hoursFor_91 : decode cX2_hoursFor 91 = .ok (.aload_n 0, 1) := by decide +kernel
theorem dX2_hoursFor_92 : decode cX2_hoursFor 92 = .ok (.iload 6, 2) := by decide +kernel
theorem dX2_hoursFor_94 : decode cX2_hoursFor 94 = .ok (.iload 11, 2) := by decide +kernel
theorem dX2_hoursFor_96 : decode cX2_hoursFor 96 = .ok (.invokestatic 67, 3) := by decide +kernel
theorem dX2_hoursFor_99 : decode cX2_hoursFor 99 = .ok (.iload 11, 2) := by decide +kernel
theorem dX2_hoursFor_101 : decode cX2_hoursFor 101 = .ok (.iload 10, 2) := by decide +kernel
theorem dX2_hoursFor_103 : decode cX2_hoursFor 103 = .ok (.aload 5, 2) := by decide +kernel
theorem dX2_hoursFor_105 : decode cX2_hoursFor 105 = .ok (.invokevirtual 47, 3) := by decide +kernel
theorem dX2_hoursFor_108 : decode cX2_hoursFor 108 = .ok (.ifCond .eq 12, 3) := by decide +kernel
theorem dX2_hoursFor_111 : decode cX2_hoursFor 111 = .ok (.lload 7, 2) := by decide +kernel
theorem dX2_hoursFor_113 : decode cX2_hoursFor 113 = .ok (.lconst 1, 1) := by decide +kernel
theorem dX2_hoursFor_114 : decode cX2_hoursFor 114 = .ok (.iload 10, 2) := by decide +kernel
theorem dX2_hoursFor_116 : decode cX2_hoursFor 116 = .ok (.lshl, 1) := by decide +kernel
theorem dX2_hoursFor_117 : decode cX2_hoursFor 117 = .ok (.lor, 1) := by decide +kernel
theorem dX2_hoursFor_118 : decode cX2_hoursFor 118 = .ok (.lstore 7, 2) := by decide +kernel
theorem dX2_hoursFor_120 : decode cX2_hoursFor 120 = .ok (.iinc 10 1, 3) := by decide +kernel
theorem dX2_hoursFor_123 : decode cX2_hoursFor 123 = .ok (.goto (-97), 3) := by decide +kernel
theorem dX2_hoursFor_126 : decode cX2_hoursFor 126 = .ok (.lload 7, 2) := by decide +kernel
theorem dX2_hoursFor_128 : decode cX2_hoursFor 128 = .ok (.lreturn, 1) := by decide +kernel
theorem dX2_deepIn_0 : decode cX2_deepIn 0 = .ok (.aload_n 0, 1) := by decide +kernel
theorem dX2_deepIn_1 : decode cX2_deepIn 1 = .ok (.aload_n 2, 1) := by decide +kernel
theorem dX2_deepIn_2 : decode cX2_deepIn 2 = .ok (.invokevirtual 24, 3) := by decide +kernel
theorem dX2_deepIn_5 : decode cX2_deepIn 5 = .ok (.iconst 0, 1) := by decide +kernel
theorem dX2_deepIn_6 : decode cX2_deepIn 6 = .ok (.istore 4, 2) := by decide +kernel
theorem dX2_deepIn_8 : decode cX2_deepIn 8 = .ok (.iload 4, 2) := by decide +kernel
theorem dX2_deepIn_10 : decode cX2_deepIn 10 = .ok (.aload_n 3, 1) := by decide +kernel
theorem dX2_deepIn_11 : decode cX2_deepIn 11 = .ok (.getfield 28, 3) := by decide +kernel
theorem dX2_deepIn_14 : decode cX2_deepIn 14 = .ok (.if_icmp .ge 38, 3) := by decide +kernel
theorem dX2_deepIn_17 : decode cX2_deepIn 17 = .ok (.aload_n 3, 1) := by decide +kernel
theorem dX2_deepIn_18 : decode cX2_deepIn 18 = .ok (.getfield 44, 3) := by decide +kernel
theorem dX2_deepIn_21 : decode cX2_deepIn 21 = .ok (.aload_n 3, 1) := by decide +kernel
theorem dX2_deepIn_22 : decode cX2_deepIn 22 = .ok (.getfield 34, 3) := by decide +kernel
theorem dX2_deepIn_25 : decode cX2_deepIn 25 = .ok (.iload 4, 2) := by decide +kernel
theorem dX2_deepIn_27 : decode cX2_deepIn 27 = .ok (.iaload, 1) := by decide +kernel
theorem dX2_deepIn_28 : decode cX2_deepIn 28 = .ok (.iaload, 1) := by decide +kernel
theorem dX2_deepIn_29 : decode cX2_deepIn 29 = .ok (.iload_n 1, 1) := by decide +kernel
theorem dX2_deepIn_30 : decode cX2_deepIn 30 = .ok (.if_icmp .ge 22, 3) := by decide +kernel
theorem dX2_deepIn_33 : decode cX2_deepIn 33 = .ok (.aload_n 0, 1) := by decide +kernel
theorem dX2_deepIn_34 : decode cX2_deepIn 34 = .ok (.aload_n 2, 1) := by decide +kernel
theorem dX2_deepIn_35 : decode cX2_deepIn 35 = .ok (.aload_n 3, 1) := by decide +kernel
theorem dX2_deepIn_36 : decode cX2_deepIn 36 = .ok (.aload_n 3, 1) := by decide +kernel
theorem dX2_deepIn_37 : decode cX2_deepIn 37 = .ok (.getfield 34, 3) := by decide +kernel
theorem dX2_deepIn_40 : decode cX2_deepIn 40 = .ok (.iload 4, 2) := by decide +kernel
theorem dX2_deepIn_42 : decode cX2_deepIn 42 = .ok (.iaload, 1) := by decide +kernel
theorem dX2_deepIn_43 : decode cX2_deepIn 43 = .ok (.invokevirtual 37, 3) := by decide +kernel
theorem dX2_deepIn_46 : decode cX2_deepIn 46 = .ok (.iinc 4 1, 3) := by decide +kernel
theorem dX2_deepIn_49 : decode cX2_deepIn 49 = .ok (.goto (-41), 3) := by decide +kernel
theorem dX2_deepIn_52 : decode cX2_deepIn 52 = .ok (.aload_n 2, 1) := by decide +kernel
theorem dX2_deepIn_53 : decode cX2_deepIn 53 = .ok (.iload_n 1, 1) := by decide +kernel
theorem dX2_deepIn_54 : decode cX2_deepIn 54 = .ok (.aload_n 0, 1) := by decide +kernel
theorem dX2_deepIn_55 : decode cX2_deepIn 55 = .ok (.getfield 60, 3) := by decide +kernel
theorem dX2_deepIn_58 : decode cX2_deepIn 58 = .ok (.isub, 1) := by decide +kernel
theorem dX2_deepIn_59 : decode cX2_deepIn 59 = .ok (.invokevirtual 63, 3) := by decide +kernel
theorem dX2_deepIn_62 : decode cX2_deepIn 62 = .ok (.ireturn, 1) := by decide +kernel
theorem dX2_lieDown_0 : decode cX2_lieDown 0 = .ok (.aload_n 0, 1) := by decide +kernel
theorem dX2_lieDown_1 : decode cX2_lieDown 1 = .ok (.aload_n 1, 1) := by decide +kernel
theorem dX2_lieDown_2 : decode cX2_lieDown 2 = .ok (.getfield 71, 3) := by decide +kernel
theorem dX2_lieDown_5 : decode cX2_lieDown 5 = .ok (.putfield 60, 3) := by decide +kernel
theorem dX2_lieDown_8 : decode cX2_lieDown 8 = .ok (.aload_n 0, 1) := by decide +kernel
theorem dX2_lieDown_9 : decode cX2_lieDown 9 = .ok (.lconst 0, 1) := by decide +kernel
theorem dX2_lieDown_10 : decode cX2_lieDown 10 = .ok (.putfield 74, 3) := by decide +kernel
theorem dX2_lieDown_13 : decode cX2_lieDown 13 = .ok (.aload_n 0, 1) := by decide +kernel
theorem dX2_lieDown_14 : decode cX2_lieDown 14 = .ok (.iconst 0, 1) := by decide +kernel
theorem dX2_lieDown_15 : decode cX2_lieDown 15 = .ok (.putfield 78, 3) := by decide +kernel
theorem dX2_lieDown_18 : decode cX2_lieDown 18 = .ok (.aload_n 0, 1) := by decide +kernel
theorem dX2_lieDown_19 : decode cX2_lieDown 19 = .ok (.iconst 0, 1) := by decide +kernel
theorem dX2_lieDown_20 : decode cX2_lieDown 20 = .ok (.putfield 81, 3) := by decide +kernel
theorem dX2_lieDown_23 : decode cX2_lieDown 23 = .ok (.aload_n 0, 1) := by decide +kernel
theorem dX2_lieDown_24 : decode cX2_lieDown 24 = .ok (.getfield 21, 3) := by decide +kernel
theorem dX2_lieDown_27 : decode cX2_lieDown 27 = .ok (.iconst 0, 1) := by decide +kernel
theorem dX2_lieDown_28 : decode cX2_lieDown 28 = .ok (.invokestatic 84, 3) := by decide +kernel
theorem dX2_lieDown_31 : decode cX2_lieDown 31 = .ok (.return_, 1) := by decide +kernel
theorem dX2_meet_0 : decode cX2_meet 0 = .ok (.aload_n 2, 1) := by decide +kernel
theorem dX2_meet_1 : decode cX2_meet 1 = .ok (.getfield 44, 3) := by decide +kernel
theorem dX2_meet_4 : decode cX2_meet 4 = .ok (.iload_n 3, 1) := by decide +kernel
theorem dX2_meet_5 : decode cX2_meet 5 = .ok (.iaload, 1) := by decide +kernel
theorem dX2_meet_6 : decode cX2_meet 6 = .ok (.istore 4, 2) := by decide +kernel
theorem dX2_meet_8 : decode cX2_meet 8 = .ok (.aload_n 0, 1) := by decide +kernel
theorem dX2_meet_9 : decode cX2_meet 9 = .ok (.getfield 9, 3) := by decide +kernel
theorem dX2_meet_12 : decode cX2_meet 12 = .ok (.iload_n 3, 1) := by decide +kernel
theorem dX2_meet_13 : decode cX2_meet 13 = .ok (.aload_n 1, 1) := by decide +kernel
theorem dX2_meet_14 : decode cX2_meet 14 = .ok (.getfield 51, 3) := by decide +kernel
theorem dX2_meet_17 : decode cX2_meet 17 = .ok (.aload_n 2, 1) := by decide +kernel
theorem dX2_meet_18 : decode cX2_meet 18 = .ok (.getfield 90, 3) := by decide +kernel
theorem dX2_meet_21 : decode cX2_meet 21 = .ok (.iload_n 3, 1) := by decide +kernel
theorem dX2_meet_22 : decode cX2_meet 22 = .ok (.iaload, 1) := by decide +kernel
theorem dX2_meet_23 : decode cX2_meet 23 = .ok (.aload_n 2, 1) := by decide +kernel
theorem dX2_meet_24 : decode cX2_meet 24 = .ok (.getfield 92, 3) := by decide +kernel
theorem dX2_meet_27 : decode cX2_meet 27 = .ok (.iload_n 3, 1) := by decide +kernel
theorem dX2_meet_28 : decode cX2_meet 28 = .ok (.iaload, 1) := by decide +kernel
theorem dX2_meet_29 : decode cX2_meet 29 = .ok (.invokestatic 56, 3) := by decide +kernel
theorem dX2_meet_32 : decode cX2_meet 32 = .ok (.iastore, 1) := by decide +kernel
theorem dX2_meet_33 : decode cX2_meet 33 = .ok (.aload_n 0, 1) := by decide +kernel
theorem dX2_meet_34 : decode cX2_meet 34 = .ok (.getfield 15, 3) := by decide +kernel
theorem dX2_meet_37 : decode cX2_meet 37 = .ok (.iload_n 3, 1) := by decide +kernel
theorem dX2_meet_38 : decode cX2_meet 38 = .ok (.aload_n 1, 1) := by decide +kernel
theorem dX2_meet_39 : decode cX2_meet 39 = .ok (.iload 4, 2) := by decide +kernel
theorem dX2_meet_41 : decode cX2_meet 41 = .ok (.aload_n 0, 1) := by decide +kernel
theorem dX2_meet_42 : decode cX2_meet 42 = .ok (.getfield 60, 3) := by decide +kernel
theorem dX2_meet_45 : decode cX2_meet 45 = .ok (.isub, 1) := by decide +kernel
theorem dX2_meet_46 : decode cX2_meet 46 = .ok (.invokevirtual 63, 3) := by decide +kernel
theorem dX2_meet_49 : decode cX2_meet 49 = .ok (.iastore, 1) := by decide +kernel
theorem dX2_meet_50 : decode cX2_meet 50 = .ok (.aload_n 0, 1) := by decide +kernel
theorem dX2_meet_51 : decode cX2_meet 51 = .ok (.getfield 18, 3) := by decide +kernel
theorem dX2_meet_54 : decode cX2_meet 54 = .ok (.iload_n 3, 1) := by decide +kernel
theorem dX2_meet_55 : decode cX2_meet 55 = .ok (.aload_n 0, 1) := by decide +kernel
theorem dX2_meet_56 : decode cX2_meet 56 = .ok (.getfield 9, 3) := by decide +kernel
theorem dX2_meet_59 : decode cX2_meet 59 = .ok (.iload_n 3, 1) := by decide +kernel
theorem dX2_meet_60 : decode cX2_meet 60 = .ok (.iaload, 1) := by decide +kernel
theorem dX2_meet_61 : decode cX2_meet 61 = .ok (.aload_n 0, 1) := by decide +kernel
theorem dX2_meet_62 : decode cX2_meet 62 = .ok (.getfield 15, 3) := by decide +kernel
theorem dX2_meet_65 : decode cX2_meet 65 = .ok (.iload_n 3, 1) := by decide +kernel
theorem dX2_meet_66 : decode cX2_meet 66 = .ok (.iaload, 1) := by decide +kernel
theorem dX2_meet_67 : decode cX2_meet 67 = .ok (.invokestatic 67, 3) := by decide +kernel
theorem dX2_meet_70 : decode cX2_meet 70 = .ok (.iastore, 1) := by decide +kernel
theorem dX2_meet_71 : decode cX2_meet 71 = .ok (.aload_n 0, 1) := by decide +kernel
theorem dX2_meet_72 : decode cX2_meet 72 = .ok (.getfield 18, 3) := by decide +kernel
theorem dX2_meet_75 : decode cX2_meet 75 = .ok (.iload_n 3, 1) := by decide +kernel
theorem dX2_meet_76 : decode cX2_meet 76 = .ok (.iaload, 1) := by decide +kernel
theorem dX2_meet_77 : decode cX2_meet 77 = .ok (.iconst 3, 1) := by decide +kernel
theorem dX2_meet_78 : decode cX2_meet 78 = .ok (.if_icmp .ne 28, 3) := by decide +kernel
theorem dX2_meet_81 : decode cX2_meet 81 = .ok (.aload_n 0, 1) := by decide +kernel
theorem dX2_meet_82 : decode cX2_meet 82 = .ok (.dup, 1) := by decide +kernel
theorem dX2_meet_83 : decode cX2_meet 83 = .ok (.getfield 78, 3) := by decide +kernel
theorem dX2_meet_86 : decode cX2_meet 86 = .ok (.iconst 1, 1) := by decide +kernel
theorem dX2_meet_87 : decode cX2_meet 87 = .ok (.iadd, 1) := by decide +kernel
theorem dX2_meet_88 : decode cX2_meet 88 = .ok (.putfield 78, 3) := by decide +kernel
theorem dX2_meet_91 : decode cX2_meet 91 = .ok (.aload_n 0, 1) := by decide +kernel
theorem dX2_meet_92 : decode cX2_meet 92 = .ok (.getfield 21, 3) := by decide +kernel
theorem dX2_meet_95 : decode cX2_meet 95 = .ok (.aload_n 2, 1) := by decide +kernel
theorem dX2_meet_96 : decode cX2_meet 96 = .ok (.getfield 92, 3) := by decide +kernel
theorem dX2_meet_99 : decode cX2_meet 99 = .ok (.iload_n 3, 1) := by decide +kernel
theorem dX2_meet_100 : decode cX2_meet 100 = .ok (.iaload, 1) := by decide +kernel
theorem dX2_meet_101 : decode cX2_meet 101 = .ok (.dup2, 1) := by decide +kernel
theorem dX2_meet_102 : decode cX2_meet 102 = .ok (.iaload, 1) := by decide +kernel
theorem dX2_meet_103 : decode cX2_meet 103 = .ok (.iconst 1, 1) := by decide +kernel
theorem dX2_meet_104 : decode cX2_meet 104 = .ok (.iadd, 1) := by decide +kernel
theorem dX2_meet_105 : decode cX2_meet 105 = .ok (.iastore, 1) := by decide +kernel
theorem dX2_meet_106 : decode cX2_meet 106 = .ok (.aload_n 0, 1) := by decide +kernel
theorem dX2_meet_107 : decode cX2_meet 107 = .ok (.getfield 18, 3) := by decide +kernel
theorem dX2_meet_110 : decode cX2_meet 110 = .ok (.iload_n 3, 1) := by decide +kernel
theorem dX2_meet_111 : decode cX2_meet 111 = .ok (.iaload, 1) := by decide +kernel
theorem dX2_meet_112 : decode cX2_meet 112 = .ok (.iconst 2, 1) := by decide +kernel
theorem dX2_meet_113 : decode cX2_meet 113 = .ok (.if_icmp .ne 34, 3) := by decide +kernel
theorem dX2_meet_116 : decode cX2_meet 116 = .ok (.aload_n 0, 1) := by decide +kernel
theorem dX2_meet_117 : decode cX2_meet 117 = .ok (.dup, 1) := by decide +kernel
theorem dX2_meet_118 : decode cX2_meet 118 = .ok (.getfield 81, 3) := by decide +kernel
theorem dX2_meet_121 : decode cX2_meet 121 = .ok (.iconst 1, 1) := by decide +kernel
theorem dX2_meet_122 : decode cX2_meet 122 = .ok (.iadd, 1) := by decide +kernel
theorem dX2_meet_123 : decode cX2_meet 123 = .ok (.putfield 81, 3) := by decide +kernel
theorem dX2_meet_126 : decode cX2_meet 126 = .ok (.aload_n 0, 1) := by decide +kernel
theorem dX2_meet_127 : decode cX2_meet 127 = .ok (.dup, 1) := by decide +kernel
theorem dX2_meet_128 : decode cX2_meet 128 = .ok (.getfield 74, 3) := by decide +kernel
theorem dX2_meet_131 : decode cX2_meet 131 = .ok (.lconst 1, 1) := by decide +kernel
theorem dX2_meet_132 : decode cX2_meet 132 = .ok (.iload 4, 2) := by decide +kernel
theorem dX2_meet_134 : decode cX2_meet 134 = .ok (.lshl, 1) := by decide +kernel
theorem dX2_meet_135 : decode cX2_meet 135 = .ok (.lor, 1) := by decide +kernel
theorem dX2_meet_136 : decode cX2_meet 136 = .ok (.putfield 74, 3) := by decide +kernel
theorem dX2_meet_139 : decode cX2_meet 139 = .ok (.aload_n 0, 1) := by decide +kernel
theorem dX2_meet_140 : decode cX2_meet 140 = .ok (.iload 4, 2) := by decide +kernel
theorem dX2_meet_142 : decode cX2_meet 142 = .ok (.iconst 3, 1) := by decide +kernel
theorem dX2_meet_143 : decode cX2_meet 143 = .ok (.iadd, 1) := by decide +kernel
theorem dX2_meet_144 : decode cX2_meet 144 = .ok (.putfield 60, 3) := by decide +kernel
theorem dX2_meet_147 : decode cX2_meet 147 = .ok (.return_, 1) := by decide +kernel
theorem dX2_loudAt_0 : decode cX2_loudAt 0 = .ok (.iconst 0, 1) := by decide +kernel
theorem dX2_loudAt_1 : decode cX2_loudAt 1 = .ok (.getstatic 95, 3) := by decide +kernel
theorem dX2_loudAt_4 : decode cX2_loudAt 4 = .ok (.iload_n 2, 1) := by decide +kernel
theorem dX2_loudAt_5 : decode cX2_loudAt 5 = .ok (.iaload, 1) := by decide +kernel
theorem dX2_loudAt_6 : decode cX2_loudAt 6 = .ok (.iload_n 0, 1) := by decide +kernel
theorem dX2_loudAt_7 : decode cX2_loudAt 7 = .ok (.iload_n 1, 1) := by decide +kernel
theorem dX2_loudAt_8 : decode cX2_loudAt 8 = .ok (.isub, 1) := by decide +kernel
theorem dX2_loudAt_9 : decode cX2_loudAt 9 = .ok (.invokestatic 98, 3) := by decide +kernel
theorem dX2_loudAt_12 : decode cX2_loudAt 12 = .ok (.isub, 1) := by decide +kernel
theorem dX2_loudAt_13 : decode cX2_loudAt 13 = .ok (.invokestatic 103, 3) := by decide +kernel
theorem dX2_loudAt_16 : decode cX2_loudAt 16 = .ok (.ireturn, 1) := by decide +kernel
theorem dX2_fateBy_0 : decode cX2_fateBy 0 = .ok (.iload_n 0, 1) := by decide +kernel
theorem dX2_fateBy_1 : decode cX2_fateBy 1 = .ok (.ifCond .ne 5, 3) := by decide +kernel
theorem dX2_fateBy_4 : decode cX2_fateBy 4 = .ok (.iconst 0, 1) := by decide +kernel
theorem dX2_fateBy_5 : decode cX2_fateBy 5 = .ok (.ireturn, 1) := by decide +kernel
theorem dX2_fateBy_6 : decode cX2_fateBy 6 = .ok (.iload_n 1, 1) := by decide +kernel
theorem dX2_fateBy_7 : decode cX2_fateBy 7 = .ok (.ifCond .ne 5, 3) := by decide +kernel
theorem dX2_fateBy_10 : decode cX2_fateBy 10 = .ok (.iconst 1, 1) := by decide +kernel
theorem dX2_fateBy_11 : decode cX2_fateBy 11 = .ok (.ireturn, 1) := by decide +kernel
theorem dX2_fateBy_12 : decode cX2_fateBy 12 = .ok (.iload_n 0, 1) := by decide +kernel
theorem dX2_fateBy_13 : decode cX2_fateBy 13 = .ok (.iload_n 1, 1) := by decide +kernel
theorem dX2_fateBy_14 : decode cX2_fateBy 14 = .ok (.iconst 3, 1) := by decide +kernel
theorem dX2_fateBy_15 : decode cX2_fateBy 15 = .ok (.iadd, 1) := by decide +kernel
theorem dX2_fateBy_16 : decode cX2_fateBy 16 = .ok (.if_icmp .lt 7, 3) := by decide +kernel
theorem dX2_fateBy_19 : decode cX2_fateBy 19 = .ok (.iconst 2, 1) := by decide +kernel
theorem dX2_fateBy_20 : decode cX2_fateBy 20 = .ok (.goto 4, 3) := by decide +kernel
theorem dX2_fateBy_23 : decode cX2_fateBy 23 = .ok (.iconst 3, 1) := by decide +kernel
theorem dX2_fateBy_24 : decode cX2_fateBy 24 = .ok (.ireturn, 1) := by decide +kernel
theorem dX2_testifies_0 : decode cX2_testifies 0 = .ok (.iload_n 1, 1) := by decide +kernel
theorem dX2_testifies_1 : decode cX2_testifies 1 = .ok (.iconst 3, 1) := by decide +kernel
theorem dX2_testifies_2 : decode cX2_testifies 2 = .ok (.if_icmp .ne 27, 3) := by decide +kernel
theorem dX2_testifies_5 : decode cX2_testifies 5 = .ok (.iload_n 2, 1) := by decide +kernel
theorem dX2_testifies_6 : decode cX2_testifies 6 = .ok (.aload 4, 2) := by decide +kernel
theorem dX2_testifies_8 : decode cX2_testifies 8 = .ok (.iconst 0, 1) := by decide +kernel
theorem dX2_testifies_9 : decode cX2_testifies 9 = .ok (.iaload, 1) := by decide +kernel
theorem dX2_testifies_10 : decode cX2_testifies 10 = .ok (.if_icmp .lt 19, 3) := by decide +kernel
theorem dX2_testifies_13 : decode cX2_testifies 13 = .ok (.aload_n 0, 1) := by decide +kernel
theorem dX2_testifies_14 : decode cX2_testifies 14 = .ok (.iload_n 3, 1) := by decide +kernel
theorem dX2_testifies_15 : decode cX2_testifies 15 = .ok (.aload 4, 2) := by decide +kernel
theorem dX2_testifies_17 : decode cX2_testifies 17 = .ok (.iconst 1, 1) := by decide +kernel
theorem dX2_testifies_18 : decode cX2_testifies 18 = .ok (.iaload, 1) := by decide +kernel
theorem dX2_testifies_19 : decode cX2_testifies 19 = .ok (.invokevirtual 106, 3) := by decide +kernel
theorem dX2_testifies_22 : decode cX2_testifies 22 = .ok (.ifCond .ne 7, 3) := by decide +kernel
theorem dX2_testifies_25 : decode cX2_testifies 25 = .ok (.iconst 1, 1) := by decide +kernel
theorem dX2_testifies_26 : decode cX2_testifies 26 = .ok (.goto 4, 3) := by decide +kernel
theorem dX2_testifies_29 : decode cX2_testifies 29 = .ok (.iconst 0, 1) := by decide +kernel
theorem dX2_testifies_30 : decode cX2_testifies 30 = .ok (.ireturn, 1) := by decide +kernel
theorem dX2_wokenOfLate_0 : decode cX2_wokenOfLate 0 = .ok (.iconst 0, 1) := by decide +kernel
theorem dX2_wokenOfLate_1 : decode cX2_wokenOfLate 1 = .ok (.iload_n 1, 1) := by decide +kernel
theorem dX2_wokenOfLate_2 : decode cX2_wokenOfLate 2 = .ok (.iload_n 2, 1) := by decide +kernel
theorem dX2_wokenOfLate_3 : decode cX2_wokenOfLate 3 = .ok (.isub, 1) := by decide +kernel
theorem dX2_wokenOfLate_4 : decode cX2_wokenOfLate 4 = .ok (.invokestatic 103, 3) := by decide +kernel
theorem dX2_wokenOfLate_7 : decode cX2_wokenOfLate 7 = .ok (.istore_n 3, 1) := by decide +kernel
theorem dX2_wokenOfLate_8 : decode cX2_wokenOfLate 8 = .ok (.lconst 1, 1) := by decide +kernel
theorem dX2_wokenOfLate_9 : decode cX2_wokenOfLate 9 = .ok (.iload_n 1, 1) := by decide +kernel
theorem dX2_wokenOfLate_10 : decode cX2_wokenOfLate 10 = .ok (.iload_n 3, 1) := by decide +kernel
theorem dX2_wokenOfLate_11 : decode cX2_wokenOfLate 11 = .ok (.isub, 1) := by decide +kernel
theorem dX2_wokenOfLate_12 : decode cX2_wokenOfLate 12 = .ok (.iconst 1, 1) := by decide +kernel
theorem dX2_wokenOfLate_13 : decode cX2_wokenOfLate 13 = .ok (.iadd, 1) := by decide +kernel
theorem dX2_wokenOfLate_14 : decode cX2_wokenOfLate 14 = .ok (.lshl, 1) := by decide +kernel
theorem dX2_wokenOfLate_15 : decode cX2_wokenOfLate 15 = .ok (.lconst 1, 1) := by decide +kernel
theorem dX2_wokenOfLate_16 : decode cX2_wokenOfLate 16 = .ok (.lsub, 1) := by decide +kernel
theorem dX2_wokenOfLate_17 : decode cX2_wokenOfLate 17 = .ok (.lstore 4, 2) := by decide +kernel
theorem dX2_wokenOfLate_19 : decode cX2_wokenOfLate 19 = .ok (.aload_n 0, 1) := by decide +kernel
theorem dX2_wokenOfLate_20 : decode cX2_wokenOfLate 20 = .ok (.getfield 74, 3) := by decide +kernel
theorem dX2_wokenOfLate_23 : decode cX2_wokenOfLate 23 = .ok (.iload_n 3, 1) := by decide +kernel
theorem dX2_wokenOfLate_24 : decode cX2_wokenOfLate 24 = .ok (.lshr, 1) := by decide +kernel
theorem dX2_wokenOfLate_25 : decode cX2_wokenOfLate 25 = .ok (.lload 4, 2) := by decide +kernel
theorem dX2_wokenOfLate_27 : decode cX2_wokenOfLate 27 = .ok (.land, 1) := by decide +kernel
theorem dX2_wokenOfLate_28 : decode cX2_wokenOfLate 28 = .ok (.lconst 0, 1) := by decide +kernel
theorem dX2_wokenOfLate_29 : decode cX2_wokenOfLate 29 = .ok (.lcmp, 1) := by decide +kernel
theorem dX2_wokenOfLate_30 : decode cX2_wokenOfLate 30 = .ok (.ifCond .eq 7, 3) := by decide +kernel
theorem dX2_wokenOfLate_33 : decode cX2_wokenOfLate 33 = .ok (.iconst 1, 1) := by decide +kernel
theorem dX2_wokenOfLate_34 : decode cX2_wokenOfLate 34 = .ok (.goto 4, 3) := by decide +kernel
theorem dX2_wokenOfLate_37 : decode cX2_wokenOfLate 37 = .ok (.iconst 0, 1) := by decide +kernel
theorem dX2_wokenOfLate_38 : decode cX2_wokenOfLate 38 = .ok (.ireturn, 1) := by decide +kernel
theorem dX3_init_0 : decode cX3_init 0 = .ok (.aload_n 0, 1) := by decide +kernel
theorem dX3_init_1 : decode cX3_init 1 = .ok (.invokespecial 3, 3) := by decide +kernel
theorem dX3_init_4 : decode cX3_init 4 = .ok (.aload_n 0, 1) := by decide +kernel
theorem dX3_init_5 : decode cX3_init 5 = .ok (.bipush 60, 2) := by decide +kernel
theorem dX3_init_7 : decode cX3_init 7 = .ok (.newarray .int, 2) := by decide +kernel
theorem dX3_init_9 : decode cX3_init 9 = .ok (.putfield 9, 3) := by decide +kernel
theorem dX3_init_12 : decode cX3_init 12 = .ok (.aload_n 0, 1) := by decide +kernel
theorem dX3_init_13 : decode cX3_init 13 = .ok (.iconst 1, 1) := by decide +kernel
theorem dX3_init_14 : decode cX3_init 14 = .ok (.putfield 15, 3) := by decide +kernel
theorem dX3_init_17 : decode cX3_init 17 = .ok (.return_, 1) := by decide +kernel
theorem dX3_renew_0 : decode cX3_renew 0 = .ok (.aload_n 0, 1) := by decide +kernel
theorem dX3_renew_1 : decode cX3_renew 1 = .ok (.iconst 0, 1) := by decide +kernel
theorem dX3_renew_2 : decode cX3_renew 2 = .ok (.putfield 15, 3) := by decide +kernel
theorem dX3_renew_5 : decode cX3_renew 5 = .ok (.aload_n 0, 1) := by decide +kernel
theorem dX3_renew_6 : decode cX3_renew 6 = .ok (.iload_n 1, 1) := by decide +kernel
theorem dX3_renew_7 : decode cX3_renew 7 = .ok (.putfield 19, 3) := by decide +kernel
theorem dX3_renew_10 : decode cX3_renew 10 = .ok (.aload_n 0, 1) := by decide +kernel
theorem dX3_renew_11 : decode cX3_renew 11 = .ok (.iload_n 2, 1) := by decide +kernel
theorem dX3_renew_12 : decode cX3_renew 12 = .ok (.putfield 23, 3) := by decide +kernel
theorem dX3_renew_15 : decode cX3_renew 15 = .ok (.aload_n 0, 1) := by decide +kernel
theorem dX3_renew_16 : decode cX3_renew 16 = .ok (.getfield 9, 3) := by decide +kernel
theorem dX3_renew_19 : decode cX3_renew 19 = .ok (.iconst 0, 1) := by decide +kernel
theorem dX3_renew_20 : decode cX3_renew 20 = .ok (.invokestatic 26, 3) := by decide +kernel
theorem dX3_renew_23 : decode cX3_renew 23 = .ok (.return_, 1) := by decide +kernel
theorem dX3_enter_0 : decode cX3_enter 0 = .ok (.aload_n 0, 1) := by decide +kernel
theorem dX3_enter_1 : decode cX3_enter 1 = .ok (.getfield 19, 3) := by decide +kernel
theorem dX3_enter_4 : decode cX3_enter 4 = .ok (.ifCond .ne 14, 3) := by decide +kernel
theorem dX3_enter_7 : decode cX3_enter 7 = .ok (.aload_n 0, 1) := by decide +kernel
theorem dX3_enter_8 : decode cX3_enter 8 = .ok (.getfield 9, 3) := by decide +kernel
theorem dX3_enter_11 : decode cX3_enter 11 = .ok (.iload_n 1, 1) := by decide +kernel
theorem dX3_enter_12 : decode cX3_enter 12 = .ok (.iload_n 2, 1) := by decide +kernel
theorem dX3_enter_13 : decode cX3_enter 13 = .ok (.i2b, 1) := by decide +kernel
theorem dX3_enter_14 : decode cX3_enter 14 = .ok (.iastore, 1) := by decide +kernel
theorem dX3_enter_15 : decode cX3_enter 15 = .ok (.goto 23, 3) := by decide +kernel
theorem dX3_enter_18 : decode cX3_enter 18 = .ok (.aload_n 0, 1) := by decide +kernel
theorem dX3_enter_19 : decode cX3_enter 19 = .ok (.getfield 9, 3) := by decide +kernel
theorem dX3_enter_22 : decode cX3_enter 22 = .ok (.iload_n 1, 1) := by decide +kernel
theorem dX3_enter_23 : decode cX3_enter 23 = .ok (.aload_n 0, 1) := by decide +kernel
theorem dX3_enter_24 : decode cX3_enter 24 = .ok (.getfield 19, 3) := by decide +kernel
theorem dX3_enter_27 : decode cX3_enter 27 = .ok (.iconst 1, 1) := by decide +kernel
theorem dX3_enter_28 : decode cX3_enter 28 = .ok (.if_icmp .ne 8, 3) := by decide +kernel
theorem dX3_enter_31 : decode cX3_enter 31 = .ok (.iload_n 2, 1) := by decide +kernel
theorem dX3_enter_32 : decode cX3_enter 32 = .ok (.i2s, 1) := by decide +kernel
theorem dX3_enter_33 : decode cX3_enter 33 = .ok (.goto 4, 3) := by decide +kernel
theorem dX3_enter_36 : decode cX3_enter 36 = .ok (.iload_n 2, 1) := by decide +kernel
theorem dX3_enter_37 : decode cX3_enter 37 = .ok (.iastore, 1) := by decide +kernel
theorem dX3_enter_38 : decode cX3_enter 38 = .ok (.return_, 1) := by decide +kernel
theorem dX4_init_0 : decode cX4_init 0 = .ok (.aload_n 0, 1) := by decide +kernel
theorem dX4_init_1 : decode cX4_init 1 = .ok (.invokespecial 3, 3) := by decide +kernel
theorem dX4_init_4 : decode cX4_init 4 = .ok (.return_, 1) := by decide +kernel
theorem dX4_become_0 : decode cX4_become 0 = .ok (.aload_n 0, 1) := by decide +kernel
theorem dX4_become_1 : decode cX4_become 1 = .ok (.aload_n 1, 1) := by decide +kernel
theorem dX4_become_2 : decode cX4_become 2 = .ok (.getfield 9, 3) := by decide +kernel
theorem dX4_become_5 : decode cX4_become 5 = .ok (.putfield 9, 3) := by decide +kernel
theorem dX4_become_8 : decode cX4_become 8 = .ok (.aload_n 0, 1) := by decide +kernel
theorem dX4_become_9 : decode cX4_become 9 = .ok (.aload_n 1, 1) := by decide +kernel
theorem dX4_become_10 : decode cX4_become 10 = .ok (.getfield 15, 3) := by decide +kernel
theorem dX4_become_13 : decode cX4_become 13 = .ok (.putfield 15, 3) := by decide +kernel
theorem dX4_become_16 : decode cX4_become 16 = .ok (.aload_n 0, 1) := by decide +kernel
theorem dX4_become_17 : decode cX4_become 17 = .ok (.aload_n 1, 1) := by decide +kernel
theorem dX4_become_18 : decode cX4_become 18 = .ok (.getfield 18, 3) := by decide +kernel
theorem dX4_become_21 : decode cX4_become 21 = .ok (.putfield 18, 3) := by decide +kernel
theorem dX4_become_24 : decode cX4_become 24 = .ok (.aload_n 0, 1) := by decide +kernel
theorem dX4_become_25 : decode cX4_become 25 = .ok (.aload_n 1, 1) := by decide +kernel
theorem dX4_become_26 : decode cX4_become 26 = .ok (.getfield 21, 3) := by decide +kernel
theorem dX4_become_29 : decode cX4_become 29 = .ok (.putfield 21, 3) := by decide +kernel
theorem dX4_become_32 : decode cX4_become 32 = .ok (.return_, 1) := by decide +kernel
theorem dX4_deepAfter_0 : decode cX4_deepAfter 0 = .ok (.iload_n 1, 1) := by decide +kernel
theorem dX4_deepAfter_1 : decode cX4_deepAfter 1 = .ok (.ifCond .lt 11, 3) := by decide +kernel
theorem dX4_deepAfter_4 : decode cX4_deepAfter 4 = .ok (.aload_n 0, 1) := by decide +kernel
theorem dX4_deepAfter_5 : decode cX4_deepAfter 5 = .ok (.getfield 21, 3) := by decide +kernel
theorem dX4_deepAfter_8 : decode cX4_deepAfter 8 = .ok (.iconst 3, 1) := by decide +kernel
theorem dX4_deepAfter_9 : decode cX4_deepAfter 9 = .ok (.if_icmp .ne 5, 3) := by decide +kernel
theorem dX4_deepAfter_12 : decode cX4_deepAfter 12 = .ok (.iconst 0, 1) := by decide +kernel
theorem dX4_deepAfter_13 : decode cX4_deepAfter 13 = .ok (.ireturn, 1) := by decide +kernel
theorem dX4_deepAfter_14 : decode cX4_deepAfter 14 = .ok (.getstatic 24, 3) := by decide +kernel
theorem dX4_deepAfter_17 : decode cX4_deepAfter 17 = .ok (.iload_n 1, 1) := by decide +kernel
theorem dX4_deepAfter_18 : decode cX4_deepAfter 18 = .ok (.getstatic 24, 3) := by decide +kernel
theorem dX4_deepAfter_21 : decode cX4_deepAfter 21 = .ok (.arraylength, 1) := by decide +kernel
theorem dX4_deepAfter_22 : decode cX4_deepAfter 22 = .ok (.irem, 1) := by decide +kernel
theorem dX4_deepAfter_23 : decode cX4_deepAfter 23 = .ok (.iaload, 1) := by decide +kernel
theorem dX4_deepAfter_24 : decode cX4_deepAfter 24 = .ok (.aload_n 0, 1) := by decide +kernel
theorem dX4_deepAfter_25 : decode cX4_deepAfter 25 = .ok (.getfield 18, 3) := by decide +kernel
theorem dX4_deepAfter_28 : decode cX4_deepAfter 28 = .ok (.iadd, 1) := by decide +kernel
theorem dX4_deepAfter_29 : decode cX4_deepAfter 29 = .ok (.istore_n 2, 1) := by decide +kernel
theorem dX4_deepAfter_30 : decode cX4_deepAfter 30 = .ok (.aload_n 0, 1) := by decide +kernel
theorem dX4_deepAfter_31 : decode cX4_deepAfter 31 = .ok (.getfield 21, 3) := by decide +kernel
theorem dX4_deepAfter_34 : decode cX4_deepAfter 34 = .ok (.tableswitch 44 0 2 #[26, 30, 38], 26) := by decide +kernel
theorem dX4_deepAfter_60 : decode cX4_deepAfter 60 = .ok (.iload_n 2, 1) := by decide +kernel
theorem dX4_deepAfter_61 : decode cX4_deepAfter 61 = .ok (.iconst 1, 1) := by decide +kernel
theorem dX4_deepAfter_62 : decode cX4_deepAfter 62 = .ok (.iadd, 1) := by decide +kernel
theorem dX4_deepAfter_63 : decode cX4_deepAfter 63 = .ok (.ireturn, 1) := by decide +kernel
theorem dX4_deepAfter_64 : decode cX4_deepAfter 64 = .ok (.iconst 1, 1) := by decide +kernel
theorem dX4_deepAfter_65 : decode cX4_deepAfter 65 = .ok (.iload_n 2, 1) := by decide +kernel
theorem dX4_deepAfter_66 : decode cX4_deepAfter 66 = .ok (.iconst 2, 1) := by decide +kernel
theorem dX4_deepAfter_67 : decode cX4_deepAfter 67 = .ok (.isub, 1) := by decide +kernel
theorem dX4_deepAfter_68 : decode cX4_deepAfter 68 = .ok (.invokestatic 28, 3) := by decide +kernel
theorem dX4_deepAfter_71 : decode cX4_deepAfter 71 = .ok (.ireturn, 1) := by decide +kernel
theorem dX4_deepAfter_72 : decode cX4_deepAfter 72 = .ok (.iconst 3, 1) := by decide +kernel
theorem dX4_deepAfter_73 : decode cX4_deepAfter 73 = .ok (.iload_n 2, 1) := by decide +kernel
theorem dX4_deepAfter_74 : decode cX4_deepAfter 74 = .ok (.invokestatic 34, 3) := by decide +kernel
theorem dX4_deepAfter_77 : decode cX4_deepAfter 77 = .ok (.ireturn, 1) := by decide +kernel
theorem dX4_deepAfter_78 : decode cX4_deepAfter 78 = .ok (.iload_n 2, 1) := by decide +kernel
theorem dX4_deepAfter_79 : decode cX4_deepAfter 79 = .ok (.ireturn, 1) := by decide +kernel
theorem dX5_init_0 : decode cX5_init 0 = .ok (.aload_n 0, 1) := by decide +kernel
theorem dX5_init_1 : decode cX5_init 1 = .ok (.invokespecial 3, 3) := by decide +kernel
theorem dX5_init_4 : decode cX5_init 4 = .ok (.aload_n 0, 1) := by decide +kernel
theorem dX5_init_5 : decode cX5_init 5 = .ok (.bipush 8, 2) := by decide +kernel
theorem dX5_init_7 : decode cX5_init 7 = .ok (.newarray .int, 2) := by decide +kernel
theorem dX5_init_9 : decode cX5_init 9 = .ok (.putfield 9, 3) := by decide +kernel
theorem dX5_init_12 : decode cX5_init 12 = .ok (.aload_n 0, 1) := by decide +kernel
theorem dX5_init_13 : decode cX5_init 13 = .ok (.bipush 8, 2) := by decide +kernel
theorem dX5_init_15 : decode cX5_init 15 = .ok (.newarray .int, 2) := by decide +kernel
theorem dX5_init_17 : decode cX5_init 17 = .ok (.putfield 15, 3) := by decide +kernel
theorem dX5_init_20 : decode cX5_init 20 = .ok (.aload_n 0, 1) := by decide +kernel
theorem dX5_init_21 : decode cX5_init 21 = .ok (.bipush 8, 2) := by decide +kernel
theorem dX5_init_23 : decode cX5_init 23 = .ok (.newarray .int, 2) := by decide +kernel
theorem dX5_init_25 : decode cX5_init 25 = .ok (.putfield 18, 3) := by decide +kernel
theorem dX5_init_28 : decode cX5_init 28 = .ok (.return_, 1) := by decide +kernel
theorem dX5_mayBe_0 : decode cX5_mayBe 0 = .ok (.iload_n 0, 1) := by decide +kernel
theorem dX5_mayBe_1 : decode cX5_mayBe 1 = .ok (.bipush 8, 2) := by decide +kernel
theorem dX5_mayBe_3 : decode cX5_mayBe 3 = .ok (.invokestatic 21, 3) := by decide +kernel
theorem dX5_mayBe_6 : decode cX5_mayBe 6 = .ok (.ifCond .eq 24, 3) := by decide +kernel
theorem dX5_mayBe_9 : decode cX5_mayBe 9 = .ok (.iload_n 1, 1) := by decide +kernel
theorem dX5_mayBe_10 : decode cX5_mayBe 10 = .ok (.iconst 4, 1) := by decide +kernel
theorem dX5_mayBe_11 : decode cX5_mayBe 11 = .ok (.invokestatic 21, 3) := by decide +kernel
theorem dX5_mayBe_14 : decode cX5_mayBe 14 = .ok (.ifCond .eq 16, 3) := by decide +kernel
theorem dX5_mayBe_17 : decode cX5_mayBe 17 = .ok (.iload_n 2, 1) := by decide +kernel
theorem dX5_mayBe_18 : decode cX5_mayBe 18 = .ok (.bipush 9, 2) := by decide +kernel
theorem dX5_mayBe_20 : decode cX5_mayBe 20 = .ok (.invokestatic 21, 3) := by decide +kernel
theorem dX5_mayBe_23 : decode cX5_mayBe 23 = .ok (.ifCond .eq 7, 3) := by decide +kernel
theorem dX5_mayBe_26 : decode cX5_mayBe 26 = .ok (.iconst 1, 1) := by decide +kernel
theorem dX5_mayBe_27 : decode cX5_mayBe 27 = .ok (.goto 4, 3) := by decide +kernel
theorem dX5_mayBe_30 : decode cX5_mayBe 30 = .ok (.iconst 0, 1) := by decide +kernel
theorem dX5_mayBe_31 : decode cX5_mayBe 31 = .ok (.ireturn, 1) := by decide +kernel
theorem dX5_add_0 : decode cX5_add 0 = .ok (.aload_n 0, 1) := by decide +kernel
theorem dX5_add_1 : decode cX5_add 1 = .ok (.getfield 25, 3) := by decide +kernel
theorem dX5_add_4 : decode cX5_add 4 = .ok (.bipush 8, 2) := by decide +kernel
theorem dX5_add_6 : decode cX5_add 6 = .ok (.if_icmp .ge 43, 3) := by decide +kernel
theorem dX5_add_9 : decode cX5_add 9 = .ok (.aload_n 0, 1) := by decide +kernel
theorem dX5_add_10 : decode cX5_add 10 = .ok (.getfield 9, 3) := by decide +kernel
theorem dX5_add_13 : decode cX5_add 13 = .ok (.aload_n 0, 1) := by decide +kernel
theorem dX5_add_14 : decode cX5_add 14 = .ok (.getfield 25, 3) := by decide +kernel
theorem dX5_add_17 : decode cX5_add 17 = .ok (.iload_n 1, 1) := by decide +kernel
theorem dX5_add_18 : decode cX5_add 18 = .ok (.iastore, 1) := by decide +kernel
theorem dX5_add_19 : decode cX5_add 19 = .ok (.aload_n 0, 1) := by decide +kernel
theorem dX5_add_20 : decode cX5_add 20 = .ok (.getfield 15, 3) := by decide +kernel
theorem dX5_add_23 : decode cX5_add 23 = .ok (.aload_n 0, 1) := by decide +kernel
theorem dX5_add_24 : decode cX5_add 24 = .ok (.getfield 25, 3) := by decide +kernel
theorem dX5_add_27 : decode cX5_add 27 = .ok (.iload_n 2, 1) := by decide +kernel
theorem dX5_add_28 : decode cX5_add 28 = .ok (.iastore, 1) := by decide +kernel
theorem dX5_add_29 : decode cX5_add 29 = .ok (.aload_n 0, 1) := by decide +kernel
theorem dX5_add_30 : decode cX5_add 30 = .ok (.getfield 18, 3) := by decide +kernel
theorem dX5_add_33 : decode cX5_add 33 = .ok (.aload_n 0, 1) := by decide +kernel
theorem dX5_add_34 : decode cX5_add 34 = .ok (.getfield 25, 3) := by decide +kernel
theorem dX5_add_37 : decode cX5_add 37 = .ok (.iload_n 3, 1) := by decide +kernel
theorem dX5_add_38 : decode cX5_add 38 = .ok (.iastore, 1) := by decide +kernel
theorem dX5_add_39 : decode cX5_add 39 = .ok (.aload_n 0, 1) := by decide +kernel
theorem dX5_add_40 : decode cX5_add 40 = .ok (.dup, 1) := by decide +kernel
theorem dX5_add_41 : decode cX5_add 41 = .ok (.getfield 25, 3) := by decide +kernel
theorem dX5_add_44 : decode cX5_add 44 = .ok (.iconst 1, 1) := by decide +kernel
theorem dX5_add_45 : decode cX5_add 45 = .ok (.iadd, 1) := by decide +kernel
theorem dX5_add_46 : decode cX5_add 46 = .ok (.putfield 25, 3) := by decide +kernel
theorem dX5_add_49 : decode cX5_add 49 = .ok (.return_, 1) := by decide +kernel
theorem dX6_init_0 : decode cX6_init 0 = .ok (.aload_n 0, 1) := by decide +kernel
theorem dX6_init_1 : decode cX6_init 1 = .ok (.invokespecial 3, 3) := by decide +kernel
theorem dX6_init_4 : decode cX6_init 4 = .ok (.aload_n 0, 1) := by decide +kernel
theorem dX6_init_5 : decode cX6_init 5 = .ok (.bipush 39, 2) := by decide +kernel
theorem dX6_init_7 : decode cX6_init 7 = .ok (.newarray .int, 2) := by decide +kernel
theorem dX6_init_9 : decode cX6_init 9 = .ok (.putfield 9, 3) := by decide +kernel
theorem dX6_init_12 : decode cX6_init 12 = .ok (.aload_n 0, 1) := by decide +kernel
theorem dX6_init_13 : decode cX6_init 13 = .ok (.iconst 3, 1) := by decide +kernel
theorem dX6_init_14 : decode cX6_init 14 = .ok (.newarray .int, 2) := by decide +kernel
theorem dX6_init_16 : decode cX6_init 16 = .ok (.putfield 15, 3) := by decide +kernel
theorem dX6_init_19 : decode cX6_init 19 = .ok (.aload_n 0, 1) := by decide +kernel
theorem dX6_init_20 : decode cX6_init 20 = .ok (.getfield 15, 3) := by decide +kernel
theorem dX6_init_23 : decode cX6_init 23 = .ok (.iconst 0, 1) := by decide +kernel
theorem dX6_init_24 : decode cX6_init 24 = .ok (.iload_n 1, 1) := by decide +kernel
theorem dX6_init_25 : decode cX6_init 25 = .ok (.iastore, 1) := by decide +kernel
theorem dX6_init_26 : decode cX6_init 26 = .ok (.aload_n 0, 1) := by decide +kernel
theorem dX6_init_27 : decode cX6_init 27 = .ok (.getfield 15, 3) := by decide +kernel
theorem dX6_init_30 : decode cX6_init 30 = .ok (.iconst 1, 1) := by decide +kernel
theorem dX6_init_31 : decode cX6_init 31 = .ok (.iload_n 2, 1) := by decide +kernel
theorem dX6_init_32 : decode cX6_init 32 = .ok (.iastore, 1) := by decide +kernel
theorem dX6_init_33 : decode cX6_init 33 = .ok (.aload_n 0, 1) := by decide +kernel
theorem dX6_init_34 : decode cX6_init 34 = .ok (.getfield 15, 3) := by decide +kernel
theorem dX6_init_37 : decode cX6_init 37 = .ok (.iconst 2, 1) := by decide +kernel
theorem dX6_init_38 : decode cX6_init 38 = .ok (.iload_n 3, 1) := by decide +kernel
theorem dX6_init_39 : decode cX6_init 39 = .ok (.iastore, 1) := by decide +kernel
theorem dX6_init_40 : decode cX6_init 40 = .ok (.aload_n 0, 1) := by decide +kernel
theorem dX6_init_41 : decode cX6_init 41 = .ok (.aload 4, 2) := by decide +kernel
theorem dX6_init_43 : decode cX6_init 43 = .ok (.putfield 18, 3) := by decide +kernel
theorem dX6_init_46 : decode cX6_init 46 = .ok (.return_, 1) := by decide +kernel
theorem dX6_fits_0 : decode cX6_fits 0 = .ok (.aload_n 0, 1) := by decide +kernel
theorem dX6_fits_1 : decode cX6_fits 1 = .ok (.getfield 9, 3) := by decide +kernel
theorem dX6_fits_4 : decode cX6_fits 4 = .ok (.iload_n 1, 1) := by decide +kernel
theorem dX6_fits_5 : decode cX6_fits 5 = .ok (.iaload, 1) := by decide +kernel
theorem dX6_fits_6 : decode cX6_fits 6 = .ok (.istore_n 2, 1) := by decide +kernel
theorem dX6_fits_7 : decode cX6_fits 7 = .ok (.iload_n 1, 1) := by decide +kernel
theorem dX6_fits_8 : decode cX6_fits 8 = .ok (.iconst 5, 1) := by decide +kernel
theorem dX6_fits_9 : decode cX6_fits 9 = .ok (.irem, 1) := by decide +kernel
theorem dX6_fits_10 : decode cX6_fits 10 = .ok (.istore_n 3, 1) := by decide +kernel
theorem dX6_fits_11 : decode cX6_fits 11 = .ok (.iload_n 3, 1) := by decide +kernel
theorem dX6_fits_12 : decode cX6_fits 12 = .ok (.iconst 3, 1) := by decide +kernel
theorem dX6_fits_13 : decode cX6_fits 13 = .ok (.if_icmp .ge 28, 3) := by decide +kernel
theorem dX6_fits_16 : decode cX6_fits 16 = .ok (.iload_n 2, 1) := by decide +kernel
theorem dX6_fits_17 : decode cX6_fits 17 = .ok (.bipush 48, 2) := by decide +kernel
theorem dX6_fits_19 : decode cX6_fits 19 = .ok (.if_icmp .lt 20, 3) := by decide +kernel
theorem dX6_fits_22 : decode cX6_fits 22 = .ok (.iload_n 2, 1) := by decide +kernel
theorem dX6_fits_23 : decode cX6_fits 23 = .ok (.bipush 48, 2) := by decide +kernel
theorem dX6_fits_25 : decode cX6_fits 25 = .ok (.aload_n 0, 1) := by decide +kernel
theorem dX6_fits_26 : decode cX6_fits 26 = .ok (.getfield 15, 3) := by decide +kernel
theorem dX6_fits_29 : decode cX6_fits 29 = .ok (.iload_n 3, 1) := by decide +kernel
theorem dX6_fits_30 : decode cX6_fits 30 = .ok (.iaload, 1) := by decide +kernel
theorem dX6_fits_31 : decode cX6_fits 31 = .ok (.iadd, 1) := by decide +kernel
theorem dX6_fits_32 : decode cX6_fits 32 = .ok (.if_icmp .gt 7, 3) := by decide +kernel
theorem dX6_fits_35 : decode cX6_fits 35 = .ok (.iconst 1, 1) := by decide +kernel
theorem dX6_fits_36 : decode cX6_fits 36 = .ok (.goto 4, 3) := by decide +kernel
theorem dX6_fits_39 : decode cX6_fits 39 = .ok (.iconst 0, 1) := by decide +kernel
theorem dX6_fits_40 : decode cX6_fits 40 = .ok (.ireturn, 1) := by decide +kernel
theorem dX6_fits_41 : decode cX6_fits 41 = .ok (.iload_n 3, 1) := by decide +kernel
theorem dX6_fits_42 : decode cX6_fits 42 = .ok (.iconst 3, 1) := by decide +kernel
theorem dX6_fits_43 : decode cX6_fits 43 = .ok (.if_icmp .ne 23, 3) := by decide +kernel
theorem dX6_fits_46 : decode cX6_fits 46 = .ok (.aload_n 0, 1) := by decide +kernel
theorem dX6_fits_47 : decode cX6_fits 47 = .ok (.getfield 18, 3) := by decide +kernel
theorem dX6_fits_50 : decode cX6_fits 50 = .ok (.iload_n 2, 1) := by decide +kernel
theorem dX6_fits_51 : decode cX6_fits 51 = .ok (.i2c, 1) := by decide +kernel
theorem dX6_fits_52 : decode cX6_fits 52 = .ok (.invokevirtual 22, 3) := by decide +kernel
theorem dX6_fits_55 : decode cX6_fits 55 = .ok (.ifCond .lt 7, 3) := by decide +kernel
theorem dX6_fits_58 : decode cX6_fits 58 = .ok (.iconst 1, 1) := by decide +kernel
theorem dX6_fits_59 : decode cX6_fits 59 = .ok (.goto 18, 3) := by decide +kernel
theorem dX6_fits_62 : decode cX6_fits 62 = .ok (.iconst 0, 1) := by decide +kernel
theorem dX6_fits_63 : decode cX6_fits 63 = .ok (.goto 14, 3) := by decide +kernel
theorem dX6_fits_66 : decode cX6_fits 66 = .ok (.iload_n 2, 1) := by decide +kernel
theorem dX6_fits_67 : decode cX6_fits 67 = .ok (.bipush 59, 2) := by decide +kernel
theorem dX6_fits_69 : decode cX6_fits 69 = .ok (.if_icmp .ne 7, 3) := by decide +kernel
theorem dX6_fits_72 : decode cX6_fits 72 = .ok (.iconst 1, 1) := by decide +kernel
theorem dX6_fits_73 : decode cX6_fits 73 = .ok (.goto 4, 3) := by decide +kernel
theorem dX6_fits_76 : decode cX6_fits 76 = .ok (.iconst 0, 1) := by decide +kernel
theorem dX6_fits_77 : decode cX6_fits 77 = .ok (.ireturn, 1) := by decide +kernel
theorem dX6_firstFault_0 : decode cX6_firstFault 0 = .ok (.iconst 0, 1) := by decide +kernel
theorem dX6_firstFault_1 : decode cX6_firstFault 1 = .ok (.istore_n 1, 1) := by decide +kernel
theorem dX6_firstFault_2 : decode cX6_firstFault 2 = .ok (.iload_n 1, 1) := by decide +kernel
theorem dX6_firstFault_3 : decode cX6_firstFault 3 = .ok (.aload_n 0, 1) := by decide +kernel
theorem dX6_firstFault_4 : decode cX6_firstFault 4 = .ok (.getfield 28, 3) := by decide +kernel
theorem dX6_firstFault_7 : decode cX6_firstFault 7 = .ok (.if_icmp .ge 25, 3) := by decide +kernel
theorem dX6_firstFault_10 : decode cX6_firstFault 10 = .ok (.iload_n 1, 1) := by decide +kernel
theorem dX6_firstFault_11 : decode cX6_firstFault 11 = .ok (.bipush 39, 2) := by decide +kernel
theorem dX6_firstFault_13 : decode cX6_firstFault 13 = .ok (.if_icmp .ge 19, 3) := by decide +kernel
theorem dX6_firstFault_16 : decode cX6_firstFault 16 = .ok (.aload_n 0, 1) := by decide +kernel
theorem dX6_firstFault_17 : decode cX6_firstFault 17 = .ok (.iload_n 1, 1) := by decide +kernel
theorem dX6_firstFault_18 : decode cX6_firstFault 18 = .ok (.invokevirtual 32, 3) := by decide +kernel
theorem dX6_firstFault_21 : decode cX6_firstFault 21 = .ok (.ifCond .ne 5, 3) := by decide +kernel
theorem dX6_firstFault_24 : decode cX6_firstFault 24 = .ok (.iload_n 1, 1) := by decide +kernel
theorem dX6_firstFault_25 : decode cX6_firstFault 25 = .ok (.ireturn, 1) := by decide +kernel
theorem dX6_firstFault_26 : decode cX6_firstFault 26 = .ok (.iinc 1 1, 3) := by decide +kernel
theorem dX6_firstFault_29 : decode cX6_firstFault 29 = .ok (.goto (-27), 3) := by decide +kernel
theorem dX6_firstFault_32 : decode cX6_firstFault 32 = .ok (.aload_n 0, 1) := by decide +kernel
theorem dX6_firstFault_33 : decode cX6_firstFault 33 = .ok (.getfield 28, 3) := by decide +kernel
theorem dX6_firstFault_36 : decode cX6_firstFault 36 = .ok (.ifCond .eq 13, 3) := by decide +kernel
theorem dX6_firstFault_39 : decode cX6_firstFault 39 = .ok (.aload_n 0, 1) := by decide +kernel
theorem dX6_firstFault_40 : decode cX6_firstFault 40 = .ok (.getfield 28, 3) := by decide +kernel
theorem dX6_firstFault_43 : decode cX6_firstFault 43 = .ok (.iconst 5, 1) := by decide +kernel
theorem dX6_firstFault_44 : decode cX6_firstFault 44 = .ok (.irem, 1) := by decide +kernel
theorem dX6_firstFault_45 : decode cX6_firstFault 45 = .ok (.iconst 4, 1) := by decide +kernel
theorem dX6_firstFault_46 : decode cX6_firstFault 46 = .ok (.if_icmp .ne 7, 3) := by decide +kernel
theorem dX6_firstFault_49 : decode cX6_firstFault 49 = .ok (.iconst (-1), 1) := by decide +kernel
theorem dX6_firstFault_50 : decode cX6_firstFault 50 = .ok (.goto 7, 3) := by decide +kernel
theorem dX6_firstFault_53 : decode cX6_firstFault 53 = .ok (.aload_n 0, 1) := by decide +kernel
theorem dX6_firstFault_54 : decode cX6_firstFault 54 = .ok (.getfield 28, 3) := by decide +kernel
theorem dX6_firstFault_57 : decode cX6_firstFault 57 = .ok (.ireturn, 1) := by decide +kernel
theorem dX6_units_0 : decode cX6_units 0 = .ok (.aload_n 0, 1) := by decide +kernel
theorem dX6_units_1 : decode cX6_units 1 = .ok (.invokevirtual 36, 3) := by decide +kernel
theorem dX6_units_4 : decode cX6_units 4 = .ok (.iconst (-1), 1) := by decide +kernel
theorem dX6_units_5 : decode cX6_units 5 = .ok (.if_icmp .ne 19, 3) := by decide +kernel
theorem dX6_units_8 : decode cX6_units 8 = .ok (.bipush 8, 2) := by decide +kernel
theorem dX6_units_10 : decode cX6_units 10 = .ok (.aload_n 0, 1) := by decide +kernel
theorem dX6_units_11 : decode cX6_units 11 = .ok (.getfield 28, 3) := by decide +kernel
theorem dX6_units_14 : decode cX6_units 14 = .ok (.iconst 1, 1) := by decide +kernel
theorem dX6_units_15 : decode cX6_units 15 = .ok (.iadd, 1) := by decide +kernel
theorem dX6_units_16 : decode cX6_units 16 = .ok (.iconst 5, 1) := by decide +kernel
theorem dX6_units_17 : decode cX6_units 17 = .ok (.idiv, 1) := by decide +kernel
theorem dX6_units_18 : decode cX6_units 18 = .ok (.invokestatic 40, 3) := by decide +kernel
theorem dX6_units_21 : decode cX6_units 21 = .ok (.goto 4, 3) := by decide +kernel
theorem dX6_units_24 : decode cX6_units 24 = .ok (.iconst 0, 1) := by decide +kernel
theorem dX6_units_25 : decode cX6_units 25 = .ok (.ireturn, 1) := by decide +kernel
theorem dX6_figure_0 : decode cX6_figure 0 = .ok (.aload_n 0, 1) := by decide +kernel
theorem dX6_figure_1 : decode cX6_figure 1 = .ok (.getfield 9, 3) := by decide +kernel
theorem dX6_figure_4 : decode cX6_figure 4 = .ok (.iload_n 1, 1) := by decide +kernel
theorem dX6_figure_5 : decode cX6_figure 5 = .ok (.iconst 5, 1) := by decide +kernel
theorem dX6_figure_6 : decode cX6_figure 6 = .ok (.imul, 1) := by decide +kernel
theorem dX6_figure_7 : decode cX6_figure 7 = .ok (.iload_n 2, 1) := by decide +kernel
theorem dX6_figure_8 : decode cX6_figure 8 = .ok (.iadd, 1) := by decide +kernel
theorem dX6_figure_9 : decode cX6_figure 9 = .ok (.iaload, 1) := by decide +kernel
theorem dX6_figure_10 : decode cX6_figure 10 = .ok (.bipush 48, 2) := by decide +kernel
theorem dX6_figure_12 : decode cX6_figure 12 = .ok (.isub, 1) := by decide +kernel
theorem dX6_figure_13 : decode cX6_figure 13 = .ok (.ireturn, 1) := by decide +kernel
theorem dX6_letter_0 : decode cX6_letter 0 = .ok (.aload_n 0, 1) := by decide +kernel
theorem dX6_letter_1 : decode cX6_letter 1 = .ok (.getfield 18, 3) := by decide +kernel
theorem dX6_letter_4 : decode cX6_letter 4 = .ok (.aload_n 0, 1) := by decide +kernel
theorem dX6_letter_5 : decode cX6_letter 5 = .ok (.getfield 9, 3) := by decide +kernel
theorem dX6_letter_8 : decode cX6_letter 8 = .ok (.iload_n 1, 1) := by decide +kernel
theorem dX6_letter_9 : decode cX6_letter 9 = .ok (.iconst 5, 1) := by decide +kernel
theorem dX6_letter_10 : decode cX6_letter 10 = .ok (.imul, 1) := by decide +kernel
theorem dX6_letter_11 : decode cX6_letter 11 = .ok (.iconst 3, 1) := by decide +kernel
theorem dX6_letter_12 : decode cX6_letter 12 = .ok (.iadd, 1) := by decide +kernel
theorem dX6_letter_13 : decode cX6_letter 13 = .ok (.iaload, 1) := by decide +kernel
theorem dX6_letter_14 : decode cX6_letter 14 = .ok (.i2c, 1) := by decide +kernel
theorem dX6_letter_15 : decode cX6_letter 15 = .ok (.invokevirtual 22, 3) := by decide +kernel
theorem dX6_letter_18 : decode cX6_letter 18 = .ok (.ireturn, 1) := by decide +kernel
theorem dJ11_isValidCodePoint_9a6ad_0 : decode cJ11_isValidCodePoint_9a6ad 0 = .ok (.iload_n 0, 1) := by decide +kernel
theorem dJ11_isValidCodePoint_9a6ad_1 : decode cJ11_isValidCodePoint_9a6ad 1 = .ok (.bipush 16, 2) := by decide +kernel
theorem dJ11_isValidCodePoint_9a6ad_3 : decode cJ11_isValidCodePoint_9a6ad 3 = .ok (.iushr, 1) := by decide +kernel
theorem dJ11_isValidCodePoint_9a6ad_4 : decode cJ11_isValidCodePoint_9a6ad 4 = .ok (.istore_n 1, 1) := by decide +kernel
theorem dJ11_isValidCodePoint_9a6ad_5 : decode cJ11_isValidCodePoint_9a6ad 5 = .ok (.iload_n 1, 1) := by decide +kernel
theorem dJ11_isValidCodePoint_9a6ad_6 : decode cJ11_isValidCodePoint_9a6ad 6 = .ok (.bipush 17, 2) := by decide +kernel
theorem dJ11_isValidCodePoint_9a6ad_8 : decode cJ11_isValidCodePoint_9a6ad 8 = .ok (.if_icmp .ge 7, 3) := by decide +kernel
theorem dJ11_isValidCodePoint_9a6ad_11 : decode cJ11_isValidCodePoint_9a6ad 11 = .ok (.iconst 1, 1) := by decide +kernel
theorem dJ11_isValidCodePoint_9a6ad_12 : decode cJ11_isValidCodePoint_9a6ad 12 = .ok (.goto 4, 3) := by decide +kernel
theorem dJ11_isValidCodePoint_9a6ad_15 : decode cJ11_isValidCodePoint_9a6ad 15 = .ok (.iconst 0, 1) := by decide +kernel
theorem dJ11_isValidCodePoint_9a6ad_16 : decode cJ11_isValidCodePoint_9a6ad 16 = .ok (.ireturn, 1) := by decide +kernel
theorem dJ11_highSurrogate_5068e_0 : decode cJ11_highSurrogate_5068e 0 = .ok (.iload_n 0, 1) := by decide +kernel
theorem dJ11_highSurrogate_5068e_1 : decode cJ11_highSurrogate_5068e 1 = .ok (.bipush 10, 2) := by decide +kernel
theorem dJ11_highSurrogate_5068e_3 : decode cJ11_highSurrogate_5068e 3 = .ok (.iushr, 1) := by decide +kernel
theorem dJ11_highSurrogate_5068e_4 : decode cJ11_highSurrogate_5068e 4 = .ok (.ldc 110, 2) := by decide +kernel
theorem dJ11_highSurrogate_5068e_6 : decode cJ11_highSurrogate_5068e 6 = .ok (.iadd, 1) := by decide +kernel
theorem dJ11_highSurrogate_5068e_7 : decode cJ11_highSurrogate_5068e 7 = .ok (.i2c, 1) := by decide +kernel
theorem dJ11_highSurrogate_5068e_8 : decode cJ11_highSurrogate_5068e 8 = .ok (.ireturn, 1) := by decide +kernel
theorem dJ11_lowSurrogate_5068e_0 : decode cJ11_lowSurrogate_5068e 0 = .ok (.iload_n 0, 1) := by decide +kernel
theorem dJ11_lowSurrogate_5068e_1 : decode cJ11_lowSurrogate_5068e 1 = .ok (.sipush 1023, 3) := by decide +kernel
theorem dJ11_lowSurrogate_5068e_4 : decode cJ11_lowSurrogate_5068e 4 = .ok (.iand, 1) := by decide +kernel
theorem dJ11_lowSurrogate_5068e_5 : decode cJ11_lowSurrogate_5068e 5 = .ok (.ldc 76, 2) := by decide +kernel
theorem dJ11_lowSurrogate_5068e_7 : decode cJ11_lowSurrogate_5068e 7 = .ok (.iadd, 1) := by decide +kernel
theorem dJ11_lowSurrogate_5068e_8 : decode cJ11_lowSurrogate_5068e 8 = .ok (.i2c, 1) := by decide +kernel
theorem dJ11_lowSurrogate_5068e_9 : decode cJ11_lowSurrogate_5068e 9 = .ok (.ireturn, 1) := by decide +kernel
theorem dJ6_bitCount_0f7a4_0 : decode cJ6_bitCount_0f7a4 0 = .ok (.iload_n 0, 1) := by decide +kernel
theorem dJ6_bitCount_0f7a4_1 : decode cJ6_bitCount_0f7a4 1 = .ok (.iload_n 0, 1) := by decide +kernel
theorem dJ6_bitCount_0f7a4_2 : decode cJ6_bitCount_0f7a4 2 = .ok (.iconst 1, 1) := by decide +kernel
theorem dJ6_bitCount_0f7a4_3 : decode cJ6_bitCount_0f7a4 3 = .ok (.iushr, 1) := by decide +kernel
theorem dJ6_bitCount_0f7a4_4 : decode cJ6_bitCount_0f7a4 4 = .ok (.ldc_w 265, 3) := by decide +kernel
theorem dJ6_bitCount_0f7a4_7 : decode cJ6_bitCount_0f7a4 7 = .ok (.iand, 1) := by decide +kernel
theorem dJ6_bitCount_0f7a4_8 : decode cJ6_bitCount_0f7a4 8 = .ok (.isub, 1) := by decide +kernel
theorem dJ6_bitCount_0f7a4_9 : decode cJ6_bitCount_0f7a4 9 = .ok (.istore_n 0, 1) := by decide +kernel
theorem dJ6_bitCount_0f7a4_10 : decode cJ6_bitCount_0f7a4 10 = .ok (.iload_n 0, 1) := by decide +kernel
theorem dJ6_bitCount_0f7a4_11 : decode cJ6_bitCount_0f7a4 11 = .ok (.ldc_w 266, 3) := by decide +kernel
theorem dJ6_bitCount_0f7a4_14 : decode cJ6_bitCount_0f7a4 14 = .ok (.iand, 1) := by decide +kernel
theorem dJ6_bitCount_0f7a4_15 : decode cJ6_bitCount_0f7a4 15 = .ok (.iload_n 0, 1) := by decide +kernel
theorem dJ6_bitCount_0f7a4_16 : decode cJ6_bitCount_0f7a4 16 = .ok (.iconst 2, 1) := by decide +kernel
theorem dJ6_bitCount_0f7a4_17 : decode cJ6_bitCount_0f7a4 17 = .ok (.iushr, 1) := by decide +kernel
theorem dJ6_bitCount_0f7a4_18 : decode cJ6_bitCount_0f7a4 18 = .ok (.ldc_w 266, 3) := by decide +kernel
theorem dJ6_bitCount_0f7a4_21 : decode cJ6_bitCount_0f7a4 21 = .ok (.iand, 1) := by decide +kernel
theorem dJ6_bitCount_0f7a4_22 : decode cJ6_bitCount_0f7a4 22 = .ok (.iadd, 1) := by decide +kernel
theorem dJ6_bitCount_0f7a4_23 : decode cJ6_bitCount_0f7a4 23 = .ok (.istore_n 0, 1) := by decide +kernel
theorem dJ6_bitCount_0f7a4_24 : decode cJ6_bitCount_0f7a4 24 = .ok (.iload_n 0, 1) := by decide +kernel
theorem dJ6_bitCount_0f7a4_25 : decode cJ6_bitCount_0f7a4 25 = .ok (.iload_n 0, 1) := by decide +kernel
theorem dJ6_bitCount_0f7a4_26 : decode cJ6_bitCount_0f7a4 26 = .ok (.iconst 4, 1) := by decide +kernel
theorem dJ6_bitCount_0f7a4_27 : decode cJ6_bitCount_0f7a4 27 = .ok (.iushr, 1) := by decide +kernel
theorem dJ6_bitCount_0f7a4_28 : decode cJ6_bitCount_0f7a4 28 = .ok (.iadd, 1) := by decide +kernel
theorem dJ6_bitCount_0f7a4_29 : decode cJ6_bitCount_0f7a4 29 = .ok (.ldc_w 267, 3) := by decide +kernel
theorem dJ6_bitCount_0f7a4_32 : decode cJ6_bitCount_0f7a4 32 = .ok (.iand, 1) := by decide +kernel
theorem dJ6_bitCount_0f7a4_33 : decode cJ6_bitCount_0f7a4 33 = .ok (.istore_n 0, 1) := by decide +kernel
theorem dJ6_bitCount_0f7a4_34 : decode cJ6_bitCount_0f7a4 34 = .ok (.iload_n 0, 1) := by decide +kernel
theorem dJ6_bitCount_0f7a4_35 : decode cJ6_bitCount_0f7a4 35 = .ok (.iload_n 0, 1) := by decide +kernel
theorem dJ6_bitCount_0f7a4_36 : decode cJ6_bitCount_0f7a4 36 = .ok (.bipush 8, 2) := by decide +kernel
theorem dJ6_bitCount_0f7a4_38 : decode cJ6_bitCount_0f7a4 38 = .ok (.iushr, 1) := by decide +kernel
theorem dJ6_bitCount_0f7a4_39 : decode cJ6_bitCount_0f7a4 39 = .ok (.iadd, 1) := by decide +kernel
theorem dJ6_bitCount_0f7a4_40 : decode cJ6_bitCount_0f7a4 40 = .ok (.istore_n 0, 1) := by decide +kernel
theorem dJ6_bitCount_0f7a4_41 : decode cJ6_bitCount_0f7a4 41 = .ok (.iload_n 0, 1) := by decide +kernel
theorem dJ6_bitCount_0f7a4_42 : decode cJ6_bitCount_0f7a4 42 = .ok (.iload_n 0, 1) := by decide +kernel
theorem dJ6_bitCount_0f7a4_43 : decode cJ6_bitCount_0f7a4 43 = .ok (.bipush 16, 2) := by decide +kernel
theorem dJ6_bitCount_0f7a4_45 : decode cJ6_bitCount_0f7a4 45 = .ok (.iushr, 1) := by decide +kernel
theorem dJ6_bitCount_0f7a4_46 : decode cJ6_bitCount_0f7a4 46 = .ok (.iadd, 1) := by decide +kernel
theorem dJ6_bitCount_0f7a4_47 : decode cJ6_bitCount_0f7a4 47 = .ok (.istore_n 0, 1) := by decide +kernel
theorem dJ6_bitCount_0f7a4_48 : decode cJ6_bitCount_0f7a4 48 = .ok (.iload_n 0, 1) := by decide +kernel
theorem dJ6_bitCount_0f7a4_49 : decode cJ6_bitCount_0f7a4 49 = .ok (.bipush 63, 2) := by decide +kernel
theorem dJ6_bitCount_0f7a4_51 : decode cJ6_bitCount_0f7a4 51 = .ok (.iand, 1) := by decide +kernel
theorem dJ6_bitCount_0f7a4_52 : decode cJ6_bitCount_0f7a4 52 = .ok (.ireturn, 1) := by decide +kernel
theorem dJ9_abs_0f7a4_0 : decode cJ9_abs_0f7a4 0 = .ok (.iload_n 0, 1) := by decide +kernel
theorem dJ9_abs_0f7a4_1 : decode cJ9_abs_0f7a4 1 = .ok (.ifCond .ge 8, 3) := by decide +kernel
theorem dJ9_abs_0f7a4_4 : decode cJ9_abs_0f7a4 4 = .ok (.iload_n 0, 1) := by decide +kernel
theorem dJ9_abs_0f7a4_5 : decode cJ9_abs_0f7a4 5 = .ok (.ineg, 1) := by decide +kernel
theorem dJ9_abs_0f7a4_6 : decode cJ9_abs_0f7a4 6 = .ok (.goto 4, 3) := by decide +kernel
theorem dJ9_abs_0f7a4_9 : decode cJ9_abs_0f7a4 9 = .ok (.iload_n 0, 1) := by decide +kernel
theorem dJ9_abs_0f7a4_10 : decode cJ9_abs_0f7a4 10 = .ok (.ireturn, 1) := by decide +kernel
theorem dJ9_max_7cf53_0 : decode cJ9_max_7cf53 0 = .ok (.iload_n 0, 1) := by decide +kernel
theorem dJ9_max_7cf53_1 : decode cJ9_max_7cf53 1 = .ok (.iload_n 1, 1) := by decide +kernel
theorem dJ9_max_7cf53_2 : decode cJ9_max_7cf53 2 = .ok (.if_icmp .lt 7, 3) := by decide +kernel
theorem dJ9_max_7cf53_5 : decode cJ9_max_7cf53 5 = .ok (.iload_n 0, 1) := by decide +kernel
theorem dJ9_max_7cf53_6 : decode cJ9_max_7cf53 6 = .ok (.goto 4, 3) := by decide +kernel
theorem dJ9_max_7cf53_9 : decode cJ9_max_7cf53 9 = .ok (.iload_n 1, 1) := by decide +kernel
theorem dJ9_max_7cf53_10 : decode cJ9_max_7cf53 10 = .ok (.ireturn, 1) := by decide +kernel
theorem dJ9_min_7cf53_0 : decode cJ9_min_7cf53 0 = .ok (.iload_n 0, 1) := by decide +kernel
theorem dJ9_min_7cf53_1 : decode cJ9_min_7cf53 1 = .ok (.iload_n 1, 1) := by decide +kernel
theorem dJ9_min_7cf53_2 : decode cJ9_min_7cf53 2 = .ok (.if_icmp .gt 7, 3) := by decide +kernel
theorem dJ9_min_7cf53_5 : decode cJ9_min_7cf53 5 = .ok (.iload_n 0, 1) := by decide +kernel
theorem dJ9_min_7cf53_6 : decode cJ9_min_7cf53 6 = .ok (.goto 4, 3) := by decide +kernel
theorem dJ9_min_7cf53_9 : decode cJ9_min_7cf53 9 = .ok (.iload_n 1, 1) := by decide +kernel
theorem dJ9_min_7cf53_10 : decode cJ9_min_7cf53 10 = .ok (.ireturn, 1) := by decide +kernel
theorem dJ0_length_8abf5_0 : decode cJ0_length_8abf5 0 = .ok (.aload_n 0, 1) := by decide +kernel
theorem dJ0_length_8abf5_1 : decode cJ0_length_8abf5 1 = .ok (.getfield 9, 3) := by decide +kernel
theorem dJ0_length_8abf5_4 : decode cJ0_length_8abf5 4 = .ok (.arraylength, 1) := by decide +kernel
theorem dJ0_length_8abf5_5 : decode cJ0_length_8abf5 5 = .ok (.aload_n 0, 1) := by decide +kernel
theorem dJ0_length_8abf5_6 : decode cJ0_length_8abf5 6 = .ok (.invokevirtual 335, 3) := by decide +kernel
theorem dJ0_length_8abf5_9 : decode cJ0_length_8abf5 9 = .ok (.ishr, 1) := by decide +kernel
theorem dJ0_length_8abf5_10 : decode cJ0_length_8abf5 10 = .ok (.ireturn, 1) := by decide +kernel
theorem dJ0_indexOf_0f7a4_0 : decode cJ0_indexOf_0f7a4 0 = .ok (.aload_n 0, 1) := by decide +kernel
theorem dJ0_indexOf_0f7a4_1 : decode cJ0_indexOf_0f7a4 1 = .ok (.iload_n 1, 1) := by decide +kernel
theorem dJ0_indexOf_0f7a4_2 : decode cJ0_indexOf_0f7a4 2 = .ok (.iconst 0, 1) := by decide +kernel
theorem dJ0_indexOf_0f7a4_3 : decode cJ0_indexOf_0f7a4 3 = .ok (.invokevirtual 633, 3) := by decide +kernel
theorem dJ0_indexOf_0f7a4_6 : decode cJ0_indexOf_0f7a4 6 = .ok (.ireturn, 1) := by decide +kernel
theorem dJ0_indexOf_7cf53_0 : decode cJ0_indexOf_7cf53 0 = .ok (.aload_n 0, 1) := by decide +kernel
theorem dJ0_indexOf_7cf53_1 : decode cJ0_indexOf_7cf53 1 = .ok (.invokevirtual 492, 3) := by decide +kernel
theorem dJ0_indexOf_7cf53_4 : decode cJ0_indexOf_7cf53 4 = .ok (.ifCond .eq 19, 3) := by decide +kernel
theorem dJ0_indexOf_7cf53_7 : decode cJ0_indexOf_7cf53 7 = .ok (.aload_n 0, 1) := by decide +kernel
theorem dJ0_indexOf_7cf53_8 : decode cJ0_indexOf_7cf53 8 = .ok (.getfield 9, 3) := by decide +kernel
theorem dJ0_indexOf_7cf53_11 : decode cJ0_indexOf_7cf53 11 = .ok (.iload_n 1, 1) := by decide +kernel
theorem dJ0_indexOf_7cf53_12 : decode cJ0_indexOf_7cf53 12 = .ok (.iload_n 2, 1) := by decide +kernel
theorem dJ0_indexOf_7cf53_13 : decode cJ0_indexOf_7cf53 13 = .ok (.aload_n 0, 1) := by decide +kernel
theorem dJ0_indexOf_7cf53_14 : decode cJ0_indexOf_7cf53 14 = .ok (.invokevirtual 505, 3) := by decide +kernel
theorem dJ0_indexOf_7cf53_17 : decode cJ0_indexOf_7cf53 17 = .ok (.invokestatic 637, 3) := by decide +kernel
theorem dJ0_indexOf_7cf53_20 : decode cJ0_indexOf_7cf53 20 = .ok (.goto 16, 3) := by decide +kernel
theorem dJ0_indexOf_7cf53_23 : decode cJ0_indexOf_7cf53 23 = .ok (.aload_n 0, 1) := by decide +kernel
theorem dJ0_indexOf_7cf53_24 : decode cJ0_indexOf_7cf53 24 = .ok (.getfield 9, 3) := by decide +kernel
theorem dJ0_indexOf_7cf53_27 : decode cJ0_indexOf_7cf53 27 = .ok (.iload_n 1, 1) := by decide +kernel
theorem dJ0_indexOf_7cf53_28 : decode cJ0_indexOf_7cf53 28 = .ok (.iload_n 2, 1) := by decide +kernel
theorem dJ0_indexOf_7cf53_29 : decode cJ0_indexOf_7cf53 29 = .ok (.aload_n 0, 1) := by decide +kernel
theorem dJ0_indexOf_7cf53_30 : decode cJ0_indexOf_7cf53 30 = .ok (.invokevirtual 505, 3) := by decide +kernel
theorem dJ0_indexOf_7cf53_33 : decode cJ0_indexOf_7cf53 33 = .ok (.invokestatic 640, 3) := by decide +kernel
theorem dJ0_indexOf_7cf53_36 : decode cJ0_indexOf_7cf53 36 = .ok (.ireturn, 1) := by decide +kernel
theorem dJ0_coder_7d493_0 : decode cJ0_coder_7d493 0 = .ok (.getstatic 38, 3) := by decide +kernel
theorem dJ0_coder_7d493_3 : decode cJ0_coder_7d493 3 = .ok (.ifCond .eq 10, 3) := by decide +kernel
theorem dJ0_coder_7d493_6 : decode cJ0_coder_7d493 6 = .ok (.aload_n 0, 1) := by decide +kernel
theorem dJ0_coder_7d493_7 : decode cJ0_coder_7d493 7 = .ok (.getfield 15, 3) := by decide +kernel
theorem dJ0_coder_7d493_10 : decode cJ0_coder_7d493 10 = .ok (.goto 4, 3) := by decide +kernel
theorem dJ0_coder_7d493_13 : decode cJ0_coder_7d493 13 = .ok (.iconst 1, 1) := by decide +kernel
theorem dJ0_coder_7d493_14 : decode cJ0_coder_7d493 14 = .ok (.ireturn, 1) := by decide +kernel
theorem dJ0_isLatin1_aae02_0 : decode cJ0_isLatin1_aae02 0 = .ok (.getstatic 38, 3) := by decide +kernel
theorem dJ0_isLatin1_aae02_3 : decode cJ0_isLatin1_aae02 3 = .ok (.ifCond .eq 14, 3) := by decide +kernel
theorem dJ0_isLatin1_aae02_6 : decode cJ0_isLatin1_aae02 6 = .ok (.aload_n 0, 1) := by decide +kernel
theorem dJ0_isLatin1_aae02_7 : decode cJ0_isLatin1_aae02 7 = .ok (.getfield 15, 3) := by decide +kernel
theorem dJ0_isLatin1_aae02_10 : decode cJ0_isLatin1_aae02 10 = .ok (.ifCond .ne 7, 3) := by decide +kernel
theorem dJ0_isLatin1_aae02_13 : decode cJ0_isLatin1_aae02 13 = .ok (.iconst 1, 1) := by decide +kernel
theorem dJ0_isLatin1_aae02_14 : decode cJ0_isLatin1_aae02 14 = .ok (.goto 4, 3) := by decide +kernel
theorem dJ0_isLatin1_aae02_17 : decode cJ0_isLatin1_aae02 17 = .ok (.iconst 0, 1) := by decide +kernel
theorem dJ0_isLatin1_aae02_18 : decode cJ0_isLatin1_aae02 18 = .ok (.ireturn, 1) := by decide +kernel
theorem dJ0_checkBoundsBeginEnd_23922_0 : decode cJ0_checkBoundsBeginEnd_23922 0 = .ok (.iload_n 0, 1) := by decide +kernel
theorem dJ0_checkBoundsBeginEnd_23922_1 : decode cJ0_checkBoundsBeginEnd_23922 1 = .ok (.iload_n 1, 1) := by decide +kernel
theorem dJ0_checkBoundsBeginEnd_23922_2 : decode cJ0_checkBoundsBeginEnd_23922 2 = .ok (.iload_n 2, 1) := by decide +kernel
theorem dJ0_checkBoundsBeginEnd_23922_3 : decode cJ0_checkBoundsBeginEnd_23922 3 = .ok (.getstatic 1053, 3) := by decide +kernel
theorem dJ0_checkBoundsBeginEnd_23922_6 : decode cJ0_checkBoundsBeginEnd_23922 6 = .ok (.invokestatic 1062, 3) := by decide +kernel
theorem dJ0_checkBoundsBeginEnd_23922_9 : decode cJ0_checkBoundsBeginEnd_23922 9 = .ok (.pop, 1) := by decide +kernel
theorem dJ0_checkBoundsBeginEnd_23922_10 : decode cJ0_checkBoundsBeginEnd_23922 10 = .ok (.return_, 1) := by decide +kernel
theorem dJ1_canEncode_9a6ad_0 : decode cJ1_canEncode_9a6ad 0 = .ok (.iload_n 0, 1) := by decide +kernel
theorem dJ1_canEncode_9a6ad_1 : decode cJ1_canEncode_9a6ad 1 = .ok (.ifCond .lt 14, 3) := by decide +kernel
theorem dJ1_canEncode_9a6ad_4 : decode cJ1_canEncode_9a6ad 4 = .ok (.iload_n 0, 1) := by decide +kernel
theorem dJ1_canEncode_9a6ad_5 : decode cJ1_canEncode_9a6ad 5 = .ok (.sipush 255, 3) := by decide +kernel
theorem dJ1_canEncode_9a6ad_8 : decode cJ1_canEncode_9a6ad 8 = .ok (.if_icmp .gt 7, 3) := by decide +kernel
theorem dJ1_canEncode_9a6ad_11 : decode cJ1_canEncode_9a6ad 11 = .ok (.iconst 1, 1) := by decide +kernel
theorem dJ1_canEncode_9a6ad_12 : decode cJ1_canEncode_9a6ad 12 = .ok (.goto 4, 3) := by decide +kernel
theorem dJ1_canEncode_9a6ad_15 : decode cJ1_canEncode_9a6ad 15 = .ok (.iconst 0, 1) := by decide +kernel
theorem dJ1_canEncode_9a6ad_16 : decode cJ1_canEncode_9a6ad 16 = .ok (.ireturn, 1) := by decide +kernel
theorem dJ1_indexOf_4cfef_0 : decode cJ1_indexOf_4cfef 0 = .ok (.iload_n 1, 1) := by decide +kernel
theorem dJ1_indexOf_4cfef_1 : decode cJ1_indexOf_4cfef 1 = .ok (.invokestatic 88, 3) := by decide +kernel
theorem dJ1_indexOf_4cfef_4 : decode cJ1_indexOf_4cfef 4 = .ok (.ifCond .ne 5, 3) := by decide +kernel
theorem dJ1_indexOf_4cfef_7 : decode cJ1_indexOf_4cfef 7 = .ok (.iconst (-1), 1) := by decide +kernel
theorem dJ1_indexOf_4cfef_8 : decode cJ1_indexOf_4cfef 8 = .ok (.ireturn, 1) := by decide +kernel
theorem dJ1_indexOf_4cfef_9 : decode cJ1_indexOf_4cfef 9 = .ok (.iload_n 2, 1) := by decide +kernel
theorem dJ1_indexOf_4cfef_10 : decode cJ1_indexOf_4cfef 10 = .ok (.iconst 0, 1) := by decide +kernel
theorem dJ1_indexOf_4cfef_11 : decode cJ1_indexOf_4cfef 11 = .ok (.invokestatic 92, 3) := by decide +kernel
theorem dJ1_indexOf_4cfef_14 : decode cJ1_indexOf_4cfef 14 = .ok (.istore_n 2, 1) := by decide +kernel
theorem dJ1_indexOf_4cfef_15 : decode cJ1_indexOf_4cfef 15 = .ok (.iload_n 3, 1) := by decide +kernel
theorem dJ1_indexOf_4cfef_16 : decode cJ1_indexOf_4cfef 16 = .ok (.aload_n 0, 1) := by decide +kernel
theorem dJ1_indexOf_4cfef_17 : decode cJ1_indexOf_4cfef 17 = .ok (.arraylength, 1) := by decide +kernel
theorem dJ1_indexOf_4cfef_18 : decode cJ1_indexOf_4cfef 18 = .ok (.invokestatic 38, 3) := by decide +kernel
theorem dJ1_indexOf_4cfef_21 : decode cJ1_indexOf_4cfef 21 = .ok (.istore_n 3, 1) := by decide +kernel
theorem dJ1_indexOf_4cfef_22 : decode cJ1_indexOf_4cfef 22 = .ok (.iload_n 2, 1) := by decide +kernel
theorem dJ1_indexOf_4cfef_23 : decode cJ1_indexOf_4cfef 23 = .ok (.iload_n 3, 1) := by decide +kernel
theorem dJ1_indexOf_4cfef_24 : decode cJ1_indexOf_4cfef 24 = .ok (.if_icmp .lt 5, 3) := by decide +kernel
theorem dJ1_indexOf_4cfef_27 : decode cJ1_indexOf_4cfef 27 = .ok (.iconst (-1), 1) := by decide +kernel
theorem dJ1_indexOf_4cfef_28 : decode cJ1_indexOf_4cfef 28 = .ok (.ireturn, 1) := by decide +kernel
theorem dJ1_indexOf_4cfef_29 : decode cJ1_indexOf_4cfef 29 = .ok (.aload_n 0, 1) := by decide +kernel
theorem dJ1_indexOf_4cfef_30 : decode cJ1_indexOf_4cfef 30 = .ok (.iload_n 1, 1) := by decide +kernel
theorem dJ1_indexOf_4cfef_31 : decode cJ1_indexOf_4cfef 31 = .ok (.iload_n 2, 1) := by decide +kernel
theorem dJ1_indexOf_4cfef_32 : decode cJ1_indexOf_4cfef 32 = .ok (.iload_n 3, 1) := by decide +kernel
theorem dJ1_indexOf_4cfef_33 : decode cJ1_indexOf_4cfef 33 = .ok (.invokestatic 95, 3) := by decide +kernel
theorem dJ1_indexOf_4cfef_36 : decode cJ1_indexOf_4cfef 36 = .ok (.ireturn, 1) := by decide +kernel
theorem dJ1_indexOfChar_4cfef_0 : decode cJ1_indexOfChar_4cfef 0 = .ok (.iload_n 1, 1) := by decide +kernel
theorem dJ1_indexOfChar_4cfef_1 : decode cJ1_indexOfChar_4cfef 1 = .ok (.i2b, 1) := by decide +kernel
theorem dJ1_indexOfChar_4cfef_2 : decode cJ1_indexOfChar_4cfef 2 = .ok (.istore 4, 2) := by decide +kernel
theorem dJ1_indexOfChar_4cfef_4 : decode cJ1_indexOfChar_4cfef 4 = .ok (.iload_n 2, 1) := by decide +kernel
theorem dJ1_indexOfChar_4cfef_5 : decode cJ1_indexOfChar_4cfef 5 = .ok (.istore 5, 2) := by decide +kernel
theorem dJ1_indexOfChar_4cfef_7 : decode cJ1_indexOfChar_4cfef 7 = .ok (.iload 5, 2) := by decide +kernel
theorem dJ1_indexOfChar_4cfef_9 : decode cJ1_indexOfChar_4cfef 9 = .ok (.iload_n 3, 1) := by decide +kernel
theorem dJ1_indexOfChar_4cfef_10 : decode cJ1_indexOfChar_4cfef 10 = .ok (.if_icmp .ge 21, 3) := by decide +kernel
theorem dJ1_indexOfChar_4cfef_13 : decode cJ1_indexOfChar_4cfef 13 = .ok (.aload_n 0, 1) := by decide +kernel
theorem dJ1_indexOfChar_4cfef_14 : decode cJ1_indexOfChar_4cfef 14 = .ok (.iload 5, 2) := by decide +kernel
theorem dJ1_indexOfChar_4cfef_16 : decode cJ1_indexOfChar_4cfef 16 = .ok (.baload, 1) := by decide +kernel
theorem dJ1_indexOfChar_4cfef_17 : decode cJ1_indexOfChar_4cfef 17 = .ok (.iload 4, 2) := by decide +kernel
theorem dJ1_indexOfChar_4cfef_19 : decode cJ1_indexOfChar_4cfef 19 = .ok (.if_icmp .ne 6, 3) := by decide +kernel
theorem dJ1_indexOfChar_4cfef_22 : decode cJ1_indexOfChar_4cfef 22 = .ok (.iload 5, 2) := by decide +kernel
theorem dJ1_indexOfChar_4cfef_24 : decode cJ1_indexOfChar_4cfef 24 = .ok (.ireturn, 1) := by decide +kernel
theorem dJ1_indexOfChar_4cfef_25 : decode cJ1_indexOfChar_4cfef 25 = .ok (.iinc 5 1, 3) := by decide +kernel
theorem dJ1_indexOfChar_4cfef_28 : decode cJ1_indexOfChar_4cfef 28 = .ok (.goto (-21), 3) := by decide +kernel
theorem dJ1_indexOfChar_4cfef_31 : decode cJ1_indexOfChar_4cfef 31 = .ok (.iconst (-1), 1) := by decide +kernel
theorem dJ1_indexOfChar_4cfef_32 : decode cJ1_indexOfChar_4cfef 32 = .ok (.ireturn, 1) := by decide +kernel
theorem dJ2_getChar_3b067_0 : decode cJ2_getChar_3b067 0 = .ok (.getstatic 44, 3) := by decide +kernel
theorem dJ2_getChar_3b067_3 : decode cJ2_getChar_3b067 3 = .ok (.ifCond .ne 25, 3) := by decide +kernel
theorem dJ2_getChar_3b067_6 : decode cJ2_getChar_3b067 6 = .ok (.iload_n 1, 1) := by decide +kernel
theorem dJ2_getChar_3b067_7 : decode cJ2_getChar_3b067 7 = .ok (.ifCond .lt 11, 3) := by decide +kernel
theorem dJ2_getChar_3b067_10 : decode cJ2_getChar_3b067 10 = .ok (.iload_n 1, 1) := by decide +kernel
theorem dJ2_getChar_3b067_11 : decode cJ2_getChar_3b067 11 = .ok (.aload_n 0, 1) := by decide +kernel
theorem dJ2_getChar_3b067_12 : decode cJ2_getChar_3b067 12 = .ok (.invokestatic 48, 3) := by decide +kernel
theorem dJ2_getChar_3b067_15 : decode cJ2_getChar_3b067 15 = .ok (.if_icmp .lt 13, 3) := by decide +kernel
theorem dJ2_getChar_3b067_18 : decode cJ2_getChar_3b067 18 = .ok (.new 52, 3) := by decide +kernel
theorem dJ2_getChar_3b067_21 : decode cJ2_getChar_3b067 21 = .ok (.dup, 1) := by decide +kernel
theorem dJ2_getChar_3b067_22 : decode cJ2_getChar_3b067 22 = .ok (.ldc 54, 2) := by decide +kernel
theorem dJ2_getChar_3b067_24 : decode cJ2_getChar_3b067 24 = .ok (.invokespecial 56, 3) := by decide +kernel
theorem dJ2_getChar_3b067_27 : decode cJ2_getChar_3b067 27 = .ok (.athrow, 1) := by decide +kernel
theorem dJ2_getChar_3b067_28 : decode cJ2_getChar_3b067 28 = .ok (.iload_n 1, 1) := by decide +kernel
theorem dJ2_getChar_3b067_29 : decode cJ2_getChar_3b067 29 = .ok (.iconst 1, 1) := by decide +kernel
theorem dJ2_getChar_3b067_30 : decode cJ2_getChar_3b067 30 = .ok (.ishl, 1) := by decide +kernel
theorem dJ2_getChar_3b067_31 : decode cJ2_getChar_3b067 31 = .ok (.istore_n 1, 1) := by decide +kernel
theorem dJ2_getChar_3b067_32 : decode cJ2_getChar_3b067 32 = .ok (.aload_n 0, 1) := by decide +kernel
theorem dJ2_getChar_3b067_33 : decode cJ2_getChar_3b067 33 = .ok (.iload_n 1, 1) := by decide +kernel
theorem dJ2_getChar_3b067_34 : decode cJ2_getChar_3b067 34 = .ok (.iinc 1 1, 3) := by decide +kernel
theorem dJ2_getChar_3b067_37 : decode cJ2_getChar_3b067 37 = .ok (.baload, 1) := by decide +kernel
theorem dJ2_getChar_3b067_38 : decode cJ2_getChar_3b067 38 = .ok (.sipush 255, 3) := by decide +kernel
theorem dJ2_getChar_3b067_41 : decode cJ2_getChar_3b067 41 = .ok (.iand, 1) := by decide +kernel
theorem dJ2_getChar_3b067_42 : decode cJ2_getChar_3b067 42 = .ok (.getstatic 59, 3) := by decide +kernel
theorem dJ2_getChar_3b067_45 : decode cJ2_getChar_3b067 45 = .ok (.ishl, 1) := by decide +kernel
theorem dJ2_getChar_3b067_46 : decode cJ2_getChar_3b067 46 = .ok (.aload_n 0, 1) := by decide +kernel
theorem dJ2_getChar_3b067_47 : decode cJ2_getChar_3b067 47 = .ok (.iload_n 1, 1) := by decide +kernel
theorem dJ2_getChar_3b067_48 : decode cJ2_getChar_3b067 48 = .ok (.baload, 1) := by decide +kernel
theorem dJ2_getChar_3b067_49 : decode cJ2_getChar_3b067 49 = .ok (.sipush 255, 3) := by decide +kernel
theorem dJ2_getChar_3b067_52 : decode cJ2_getChar_3b067 52 = .ok (.iand, 1) := by decide +kernel
theorem dJ2_getChar_3b067_53 : decode cJ2_getChar_3b067 53 = .ok (.getstatic 63, 3) := by decide +kernel
theorem dJ2_getChar_3b067_56 : decode cJ2_getChar_3b067 56 = .ok (.ishl, 1) := by decide +kernel
theorem dJ2_getChar_3b067_57 : decode cJ2_getChar_3b067 57 = .ok (.ior, 1) := by decide +kernel
theorem dJ2_getChar_3b067_58 : decode cJ2_getChar_3b067 58 = .ok (.i2c, 1) := by decide +kernel
theorem dJ2_getChar_3b067_59 : decode cJ2_getChar_3b067 59 = .ok (.ireturn, 1) := by decide +kernel
theorem dJ2_length_9d52b_0 : decode cJ2_length_9d52b 0 = .ok (.aload_n 0, 1) := by decide +kernel
theorem dJ2_length_9d52b_1 : decode cJ2_length_9d52b 1 = .ok (.arraylength, 1) := by decide +kernel
theorem dJ2_length_9d52b_2 : decode cJ2_length_9d52b 2 = .ok (.iconst 1, 1) := by decide +kernel
theorem dJ2_length_9d52b_3 : decode cJ2_length_9d52b 3 = .ok (.ishr, 1) := by decide +kernel
theorem dJ2_length_9d52b_4 : decode cJ2_length_9d52b 4 = .ok (.ireturn, 1) := by decide +kernel
theorem dJ2_indexOf_4cfef_0 : decode cJ2_indexOf_4cfef 0 = .ok (.iload_n 2, 1) := by decide +kernel
theorem dJ2_indexOf_4cfef_1 : decode cJ2_indexOf_4cfef 1 = .ok (.iconst 0, 1) := by decide +kernel
theorem dJ2_indexOf_4cfef_2 : decode cJ2_indexOf_4cfef 2 = .ok (.invokestatic 224, 3) := by decide +kernel
theorem dJ2_indexOf_4cfef_5 : decode cJ2_indexOf_4cfef 5 = .ok (.istore_n 2, 1) := by decide +kernel
theorem dJ2_indexOf_4cfef_6 : decode cJ2_indexOf_4cfef 6 = .ok (.iload_n 3, 1) := by decide +kernel
theorem dJ2_indexOf_4cfef_7 : decode cJ2_indexOf_4cfef 7 = .ok (.aload_n 0, 1) := by decide +kernel
theorem dJ2_indexOf_4cfef_8 : decode cJ2_indexOf_4cfef 8 = .ok (.arraylength, 1) := by decide +kernel
theorem dJ2_indexOf_4cfef_9 : decode cJ2_indexOf_4cfef 9 = .ok (.iconst 1, 1) := by decide +kernel
theorem dJ2_indexOf_4cfef_10 : decode cJ2_indexOf_4cfef 10 = .ok (.ishr, 1) := by decide +kernel
theorem dJ2_indexOf_4cfef_11 : decode cJ2_indexOf_4cfef 11 = .ok (.invokestatic 183, 3) := by decide +kernel
theorem dJ2_indexOf_4cfef_14 : decode cJ2_indexOf_4cfef 14 = .ok (.istore_n 3, 1) := by decide +kernel
theorem dJ2_indexOf_4cfef_15 : decode cJ2_indexOf_4cfef 15 = .ok (.iload_n 2, 1) := by decide +kernel
theorem dJ2_indexOf_4cfef_16 : decode cJ2_indexOf_4cfef 16 = .ok (.iload_n 3, 1) := by decide +kernel
theorem dJ2_indexOf_4cfef_17 : decode cJ2_indexOf_4cfef 17 = .ok (.if_icmp .lt 5, 3) := by decide +kernel
theorem dJ2_indexOf_4cfef_20 : decode cJ2_indexOf_4cfef 20 = .ok (.iconst (-1), 1) := by decide +kernel
theorem dJ2_indexOf_4cfef_21 : decode cJ2_indexOf_4cfef 21 = .ok (.ireturn, 1) := by decide +kernel
theorem dJ2_indexOf_4cfef_22 : decode cJ2_indexOf_4cfef 22 = .ok (.iload_n 1, 1) := by decide +kernel
theorem dJ2_indexOf_4cfef_23 : decode cJ2_indexOf_4cfef 23 = .ok (.ldc 227, 2) := by decide +kernel
theorem dJ2_indexOf_4cfef_25 : decode cJ2_indexOf_4cfef 25 = .ok (.if_icmp .ge 11, 3) := by decide +kernel
theorem dJ2_indexOf_4cfef_28 : decode cJ2_indexOf_4cfef 28 = .ok (.aload_n 0, 1) := by decide +kernel
theorem dJ2_indexOf_4cfef_29 : decode cJ2_indexOf_4cfef 29 = .ok (.iload_n 1, 1) := by decide +kernel
theorem dJ2_indexOf_4cfef_30 : decode cJ2_indexOf_4cfef 30 = .ok (.iload_n 2, 1) := by decide +kernel
theorem dJ2_indexOf_4cfef_31 : decode cJ2_indexOf_4cfef 31 = .ok (.iload_n 3, 1) := by decide +kernel
theorem dJ2_indexOf_4cfef_32 : decode cJ2_indexOf_4cfef 32 = .ok (.invokestatic 228, 3) := by decide +kernel
theorem dJ2_indexOf_4cfef_35 : decode cJ2_indexOf_4cfef 35 = .ok (.ireturn, 1) := by decide +kernel
theorem dJ2_indexOf_4cfef_36 : decode cJ2_indexOf_4cfef 36 = .ok (.aload_n 0, 1) := by decide +kernel
theorem dJ2_indexOf_4cfef_37 : decode cJ2_indexOf_4cfef 37 = .ok (.iload_n 1, 1) := by decide +kernel
theorem dJ2_indexOf_4cfef_38 : decode cJ2_indexOf_4cfef 38 = .ok (.iload_n 2, 1) := by decide +kernel
theorem dJ2_indexOf_4cfef_39 : decode cJ2_indexOf_4cfef 39 = .ok (.iload_n 3, 1) := by decide +kernel
theorem dJ2_indexOf_4cfef_40 : decode cJ2_indexOf_4cfef 40 = .ok (.invokestatic 232, 3) := by decide +kernel
theorem dJ2_indexOf_4cfef_43 : decode cJ2_indexOf_4cfef 43 = .ok (.ireturn, 1) := by decide +kernel
theorem dJ2_indexOfChar_4cfef_0 : decode cJ2_indexOfChar_4cfef 0 = .ok (.iload_n 2, 1) := by decide +kernel
theorem dJ2_indexOfChar_4cfef_1 : decode cJ2_indexOfChar_4cfef 1 = .ok (.iload_n 3, 1) := by decide +kernel
theorem dJ2_indexOfChar_4cfef_2 : decode cJ2_indexOfChar_4cfef 2 = .ok (.aload_n 0, 1) := by decide +kernel
theorem dJ2_indexOfChar_4cfef_3 : decode cJ2_indexOfChar_4cfef 3 = .ok (.invokestatic 96, 3) := by decide +kernel
theorem dJ2_indexOfChar_4cfef_6 : decode cJ2_indexOfChar_4cfef 6 = .ok (.aload_n 0, 1) := by decide +kernel
theorem dJ2_indexOfChar_4cfef_7 : decode cJ2_indexOfChar_4cfef 7 = .ok (.iload_n 1, 1) := by decide +kernel
theorem dJ2_indexOfChar_4cfef_8 : decode cJ2_indexOfChar_4cfef 8 = .ok (.iload_n 2, 1) := by decide +kernel
theorem dJ2_indexOfChar_4cfef_9 : decode cJ2_indexOfChar_4cfef 9 = .ok (.iload_n 3, 1) := by decide +kernel
theorem dJ2_indexOfChar_4cfef_10 : decode cJ2_indexOfChar_4cfef 10 = .ok (.invokestatic 244, 3) := by decide +kernel
theorem dJ2_indexOfChar_4cfef_13 : decode cJ2_indexOfChar_4cfef 13 = .ok (.ireturn, 1) := by decide +kernel
theorem dJ2_indexOfCharUnsafe_4cfef_0 : decode cJ2_indexOfCharUnsafe_4cfef 0 = .ok (.iload_n 2, 1) := by decide +kernel
theorem dJ2_indexOfCharUnsafe_4cfef_1 : decode cJ2_indexOfCharUnsafe_4cfef 1 = .ok (.istore 4, 2) := by decide +kernel
theorem dJ2_indexOfCharUnsafe_4cfef_3 : decode cJ2_indexOfCharUnsafe_4cfef 3 = .ok (.iload 4, 2) := by decide +kernel
theorem dJ2_indexOfCharUnsafe_4cfef_5 : decode cJ2_indexOfCharUnsafe_4cfef 5 = .ok (.iload_n 3, 1) := by decide +kernel
theorem dJ2_indexOfCharUnsafe_4cfef_6 : decode cJ2_indexOfCharUnsafe_4cfef 6 = .ok (.if_icmp .ge 22, 3) := by decide +kernel
theorem dJ2_indexOfCharUnsafe_4cfef_9 : decode cJ2_indexOfCharUnsafe_4cfef 9 = .ok (.aload_n 0, 1) := by decide +kernel
theorem dJ2_indexOfCharUnsafe_4cfef_10 : decode cJ2_indexOfCharUnsafe_4cfef 10 = .ok (.iload 4, 2) := by decide +kernel
theorem dJ2_indexOfCharUnsafe_4cfef_12 : decode cJ2_indexOfCharUnsafe_4cfef 12 = .ok (.invokestatic 71, 3) := by decide +kernel
theorem dJ2_indexOfCharUnsafe_4cfef_15 : decode cJ2_indexOfCharUnsafe_4cfef 15 = .ok (.iload_n 1, 1) := by decide +kernel
theorem dJ2_indexOfCharUnsafe_4cfef_16 : decode cJ2_indexOfCharUnsafe_4cfef 16 = .ok (.if_icmp .ne 6, 3) := by decide +kernel
theorem dJ2_indexOfCharUnsafe_4cfef_19 : decode cJ2_indexOfCharUnsafe_4cfef 19 = .ok (.iload 4, 2) := by decide +kernel
theorem dJ2_indexOfCharUnsafe_4cfef_21 : decode cJ2_indexOfCharUnsafe_4cfef 21 = .ok (.ireturn, 1) := by decide +kernel
theorem dJ2_indexOfCharUnsafe_4cfef_22 : decode cJ2_indexOfCharUnsafe_4cfef 22 = .ok (.iinc 4 1, 3) := by decide +kernel
theorem dJ2_indexOfCharUnsafe_4cfef_25 : decode cJ2_indexOfCharUnsafe_4cfef 25 = .ok (.goto (-22), 3) := by decide +kernel
theorem dJ2_indexOfCharUnsafe_4cfef_28 : decode cJ2_indexOfCharUnsafe_4cfef 28 = .ok (.iconst (-1), 1) := by decide +kernel
theorem dJ2_indexOfCharUnsafe_4cfef_29 : decode cJ2_indexOfCharUnsafe_4cfef 29 = .ok (.ireturn, 1) := by decide +kernel
theorem dJ2_indexOfSupplementary_4cfef_0 : decode cJ2_indexOfSupplementary_4cfef 0 = .ok (.iload_n 1, 1) := by decide +kernel
theorem dJ2_indexOfSupplementary_4cfef_1 : decode cJ2_indexOfSupplementary_4cfef 1 = .ok (.invokestatic 164, 3) := by decide +kernel
theorem dJ2_indexOfSupplementary_4cfef_4 : decode cJ2_indexOfSupplementary_4cfef 4 = .ok (.ifCond .eq 65, 3) := by decide +kernel
theorem dJ2_indexOfSupplementary_4cfef_7 : decode cJ2_indexOfSupplementary_4cfef 7 = .ok (.iload_n 1, 1) := by decide +kernel
theorem dJ2_indexOfSupplementary_4cfef_8 : decode cJ2_indexOfSupplementary_4cfef 8 = .ok (.invokestatic 157, 3) := by decide +kernel
theorem dJ2_indexOfSupplementary_4cfef_11 : decode cJ2_indexOfSupplementary_4cfef 11 = .ok (.istore 4, 2) := by decide +kernel
theorem dJ2_indexOfSupplementary_4cfef_13 : decode cJ2_indexOfSupplementary_4cfef 13 = .ok (.iload_n 1, 1) := by decide +kernel
theorem dJ2_indexOfSupplementary_4cfef_14 : decode cJ2_indexOfSupplementary_4cfef 14 = .ok (.invokestatic 161, 3) := by decide +kernel
theorem dJ2_indexOfSupplementary_4cfef_17 : decode cJ2_indexOfSupplementary_4cfef 17 = .ok (.istore 5, 2) := by decide +kernel
theorem dJ2_indexOfSupplementary_4cfef_19 : decode cJ2_indexOfSupplementary_4cfef 19 = .ok (.iload_n 2, 1) := by decide +kernel
theorem dJ2_indexOfSupplementary_4cfef_20 : decode cJ2_indexOfSupplementary_4cfef 20 = .ok (.iload_n 3, 1) := by decide +kernel
theorem dJ2_indexOfSupplementary_4cfef_21 : decode cJ2_indexOfSupplementary_4cfef 21 = .ok (.aload_n 0, 1) := by decide +kernel
theorem dJ2_indexOfSupplementary_4cfef_22 : decode cJ2_indexOfSupplementary_4cfef 22 = .ok (.invokestatic 96, 3) := by decide +kernel
theorem dJ2_indexOfSupplementary_4cfef_25 : decode cJ2_indexOfSupplementary_4cfef 25 = .ok (.iload_n 2, 1) := by decide +kernel
theorem dJ2_indexOfSupplementary_4cfef_26 : decode cJ2_indexOfSupplementary_4cfef 26 = .ok (.istore 6, 2) := by decide +kernel
theorem dJ2_indexOfSupplementary_4cfef_28 : decode cJ2_indexOfSupplementary_4cfef 28 = .ok (.iload 6, 2) := by decide +kernel
theorem dJ2_indexOfSupplementary_4cfef_30 : decode cJ2_indexOfSupplementary_4cfef 30 = .ok (.iload_n 3, 1) := by decide +kernel
theorem dJ2_indexOfSupplementary_4cfef_31 : decode cJ2_indexOfSupplementary_4cfef 31 = .ok (.iconst 1, 1) := by decide +kernel
theorem dJ2_indexOfSupplementary_4cfef_32 : decode cJ2_indexOfSupplementary_4cfef 32 = .ok (.isub, 1) := by decide +kernel
theorem dJ2_indexOfSupplementary_4cfef_33 : decode cJ2_indexOfSupplementary_4cfef 33 = .ok (.if_icmp .ge 36, 3) := by decide +kernel
theorem dJ2_indexOfSupplementary_4cfef_36 : decode cJ2_indexOfSupplementary_4cfef 36 = .ok (.aload_n 0, 1) := by decide +kernel
theorem dJ2_indexOfSupplementary_4cfef_37 : decode cJ2_indexOfSupplementary_4cfef 37 = .ok (.iload 6, 2) := by decide +kernel
theorem dJ2_indexOfSupplementary_4cfef_39 : decode cJ2_indexOfSupplementary_4cfef 39 = .ok (.invokestatic 71, 3) := by decide +kernel
theorem dJ2_indexOfSupplementary_4cfef_42 : decode cJ2_indexOfSupplementary_4cfef 42 = .ok (.iload 4, 2) := by decide +kernel
theorem dJ2_indexOfSupplementary_4cfef_44 : decode cJ2_indexOfSupplementary_4cfef 44 = .ok (.if_icmp .ne 19, 3) := by decide +kernel
theorem dJ2_indexOfSupplementary_4cfef_47 : decode cJ2_indexOfSupplementary_4cfef 47 = .ok (.aload_n 0, 1) := by decide +kernel
theorem dJ2_indexOfSupplementary_4cfef_48 : decode cJ2_indexOfSupplementary_4cfef 48 = .ok (.iload 6, 2) := by decide +kernel
theorem dJ2_indexOfSupplementary_4cfef_50 : decode cJ2_indexOfSupplementary_4cfef 50 = .ok (.iconst 1, 1) := by decide +kernel
theorem dJ2_indexOfSupplementary_4cfef_51 : decode cJ2_indexOfSupplementary_4cfef 51 = .ok (.iadd, 1) := by decide +kernel
theorem dJ2_indexOfSupplementary_4cfef_52 : decode cJ2_indexOfSupplementary_4cfef 52 = .ok (.invokestatic 71, 3) := by decide +kernel
theorem dJ2_indexOfSupplementary_4cfef_55 : decode cJ2_indexOfSupplementary_4cfef 55 = .ok (.iload 5, 2) := by decide +kernel
theorem dJ2_indexOfSupplementary_4cfef_57 : decode cJ2_indexOfSupplementary_4cfef 57 = .ok (.if_icmp .ne 6, 3) := by decide +kernel
end
section
theorem dJ2_indexOfSupplementary_4cfef_60 : decode cJ2_indexOfSupplementary_4cfef 60 = .ok (.iload 6, 2) := by decide +kernel
theorem dJ2_indexOfSupplementary_4cfef_62 : decode cJ2_indexOfSupplementary_4cfef 62 = .ok (.ireturn, 1) := by decide +kernel
theorem dJ2_indexOfSupplementary_4cfef_63 : decode cJ2_indexOfSupplementary_4cfef 63 = .ok (.iinc 6 1, 3) := by decide +kernel
theorem dJ2_indexOfSupplementary_4cfef_66 : decode cJ2_indexOfSupplementary_4cfef 66 = .ok (.goto (-38), 3) := by decide +kernel
theorem dJ2_indexOfSupplementary_4cfef_69 : decode cJ2_indexOfSupplementary_4cfef 69 = .ok (.iconst (-1), 1) := by decide +kernel
theorem dJ2_indexOfSupplementary_4cfef_70 : decode cJ2_indexOfSupplementary_4cfef 70 = .ok (.ireturn, 1) := by decide +kernel
theorem dJ2_checkBoundsBeginEnd_d044e_0 : decode cJ2_checkBoundsBeginEnd_d044e 0 = .ok (.iload_n 0, 1) := by decide +kernel
theorem dJ2_checkBoundsBeginEnd_d044e_1 : decode cJ2_checkBoundsBeginEnd_d044e 1 = .ok (.iload_n 1, 1) := by decide +kernel
theorem dJ2_checkBoundsBeginEnd_d044e_2 : decode cJ2_checkBoundsBeginEnd_d044e 2 = .ok (.aload_n 2, 1) := by decide +kernel
theorem dJ2_checkBoundsBeginEnd_d044e_3 : decode cJ2_checkBoundsBeginEnd_d044e 3 = .ok (.invokestatic 48, 3) := by decide +kernel
theorem dJ2_checkBoundsBeginEnd_d044e_6 : decode cJ2_checkBoundsBeginEnd_d044e 6 = .ok (.invokestatic 241, 3) := by decide +kernel
theorem dJ2_checkBoundsBeginEnd_d044e_9 : decode cJ2_checkBoundsBeginEnd_d044e 9 = .ok (.return_, 1) := by decide +kernel
theorem dJ7_fill_d0a16_0 : decode cJ7_fill_d0a16 0 = .ok (.iconst 0, 1) := by decide +kernel
theorem dJ7_fill_d0a16_1 : decode cJ7_fill_d0a16 1 = .ok (.istore_n 3, 1) := by decide +kernel
theorem dJ7_fill_d0a16_2 : decode cJ7_fill_d0a16 2 = .ok (.aload_n 0, 1) := by decide +kernel
theorem dJ7_fill_d0a16_3 : decode cJ7_fill_d0a16 3 = .ok (.arraylength, 1) := by decide +kernel
theorem dJ7_fill_d0a16_4 : decode cJ7_fill_d0a16 4 = .ok (.istore 4, 2) := by decide +kernel
theorem dJ7_fill_d0a16_6 : decode cJ7_fill_d0a16 6 = .ok (.iload_n 3, 1) := by decide +kernel
theorem dJ7_fill_d0a16_7 : decode cJ7_fill_d0a16 7 = .ok (.iload 4, 2) := by decide +kernel
theorem dJ7_fill_d0a16_9 : decode cJ7_fill_d0a16 9 = .ok (.if_icmp .ge 13, 3) := by decide +kernel
theorem dJ7_fill_d0a16_12 : decode cJ7_fill_d0a16 12 = .ok (.aload_n 0, 1) := by decide +kernel
theorem dJ7_fill_d0a16_13 : decode cJ7_fill_d0a16 13 = .ok (.iload_n 3, 1) := by decide +kernel
theorem dJ7_fill_d0a16_14 : decode cJ7_fill_d0a16 14 = .ok (.lload_n 1, 1) := by decide +kernel
theorem dJ7_fill_d0a16_15 : decode cJ7_fill_d0a16 15 = .ok (.lastore, 1) := by decide +kernel
theorem dJ7_fill_d0a16_16 : decode cJ7_fill_d0a16 16 = .ok (.iinc 3 1, 3) := by decide +kernel
theorem dJ7_fill_d0a16_19 : decode cJ7_fill_d0a16 19 = .ok (.goto (-13), 3) := by decide +kernel
theorem dJ7_fill_d0a16_22 : decode cJ7_fill_d0a16 22 = .ok (.return_, 1) := by decide +kernel
theorem dJ7_fill_53178_0 : decode cJ7_fill_53178 0 = .ok (.iconst 0, 1) := by decide +kernel
theorem dJ7_fill_53178_1 : decode cJ7_fill_53178 1 = .ok (.istore_n 2, 1) := by decide +kernel
theorem dJ7_fill_53178_2 : decode cJ7_fill_53178 2 = .ok (.aload_n 0, 1) := by decide +kernel
theorem dJ7_fill_53178_3 : decode cJ7_fill_53178 3 = .ok (.arraylength, 1) := by decide +kernel
theorem dJ7_fill_53178_4 : decode cJ7_fill_53178 4 = .ok (.istore_n 3, 1) := by decide +kernel
theorem dJ7_fill_53178_5 : decode cJ7_fill_53178 5 = .ok (.iload_n 2, 1) := by decide +kernel
theorem dJ7_fill_53178_6 : decode cJ7_fill_53178 6 = .ok (.iload_n 3, 1) := by decide +kernel
theorem dJ7_fill_53178_7 : decode cJ7_fill_53178 7 = .ok (.if_icmp .ge 13, 3) := by decide +kernel
theorem dJ7_fill_53178_10 : decode cJ7_fill_53178 10 = .ok (.aload_n 0, 1) := by decide +kernel
theorem dJ7_fill_53178_11 : decode cJ7_fill_53178 11 = .ok (.iload_n 2, 1) := by decide +kernel
theorem dJ7_fill_53178_12 : decode cJ7_fill_53178 12 = .ok (.iload_n 1, 1) := by decide +kernel
theorem dJ7_fill_53178_13 : decode cJ7_fill_53178 13 = .ok (.iastore, 1) := by decide +kernel
theorem dJ7_fill_53178_14 : decode cJ7_fill_53178 14 = .ok (.iinc 2 1, 3) := by decide +kernel
theorem dJ7_fill_53178_17 : decode cJ7_fill_53178 17 = .ok (.goto (-12), 3) := by decide +kernel
theorem dJ7_fill_53178_20 : decode cJ7_fill_53178 20 = .ok (.return_, 1) := by decide +kernel
theorem dJ3_checkFromToIndex_8c36e_0 : decode cJ3_checkFromToIndex_8c36e 0 = .ok (.iload_n 0, 1) := by decide +kernel
theorem dJ3_checkFromToIndex_8c36e_1 : decode cJ3_checkFromToIndex_8c36e 1 = .ok (.ifCond .lt 13, 3) := by decide +kernel
theorem dJ3_checkFromToIndex_8c36e_4 : decode cJ3_checkFromToIndex_8c36e 4 = .ok (.iload_n 0, 1) := by decide +kernel
theorem dJ3_checkFromToIndex_8c36e_5 : decode cJ3_checkFromToIndex_8c36e 5 = .ok (.iload_n 1, 1) := by decide +kernel
theorem dJ3_checkFromToIndex_8c36e_6 : decode cJ3_checkFromToIndex_8c36e 6 = .ok (.if_icmp .gt 8, 3) := by decide +kernel
theorem dJ3_checkFromToIndex_8c36e_9 : decode cJ3_checkFromToIndex_8c36e 9 = .ok (.iload_n 1, 1) := by decide +kernel
theorem dJ3_checkFromToIndex_8c36e_10 : decode cJ3_checkFromToIndex_8c36e 10 = .ok (.iload_n 2, 1) := by decide +kernel
theorem dJ3_checkFromToIndex_8c36e_11 : decode cJ3_checkFromToIndex_8c36e 11 = .ok (.if_icmp .le 11, 3) := by decide +kernel
theorem dJ3_checkFromToIndex_8c36e_14 : decode cJ3_checkFromToIndex_8c36e 14 = .ok (.aload_n 3, 1) := by decide +kernel
theorem dJ3_checkFromToIndex_8c36e_15 : decode cJ3_checkFromToIndex_8c36e 15 = .ok (.iload_n 0, 1) := by decide +kernel
theorem dJ3_checkFromToIndex_8c36e_16 : decode cJ3_checkFromToIndex_8c36e 16 = .ok (.iload_n 1, 1) := by decide +kernel
theorem dJ3_checkFromToIndex_8c36e_17 : decode cJ3_checkFromToIndex_8c36e 17 = .ok (.iload_n 2, 1) := by decide +kernel
theorem dJ3_checkFromToIndex_8c36e_18 : decode cJ3_checkFromToIndex_8c36e 18 = .ok (.invokestatic 99, 3) := by decide +kernel
theorem dJ3_checkFromToIndex_8c36e_21 : decode cJ3_checkFromToIndex_8c36e 21 = .ok (.athrow, 1) := by decide +kernel
theorem dJ3_checkFromToIndex_8c36e_22 : decode cJ3_checkFromToIndex_8c36e 22 = .ok (.iload_n 0, 1) := by decide +kernel
theorem dJ3_checkFromToIndex_8c36e_23 : decode cJ3_checkFromToIndex_8c36e 23 = .ok (.ireturn, 1) := by decide +kernel
end
section
theorem dX7_init_0 : decode cX7_init 0 = .ok (.aload_n 0, 1) := by decide +kernel
theorem dX7_init_1 : decode cX7_init 1 = .ok (.invokespecial 1, 3) := by decide +kernel
theorem dX7_init_4 : decode cX7_init 4 = .ok (.aload_n 0, 1) := by decide +kernel
theorem dX7_init_5 : decode cX7_init 5 = .ok (.iconst 2, 1) := by decide +kernel
theorem dX7_init_6 : decode cX7_init 6 = .ok (.anewarray 7, 3) := by decide +kernel
theorem dX7_init_9 : decode cX7_init 9 = .ok (.putfield 9, 3) := by decide +kernel
theorem dX7_init_12 : decode cX7_init 12 = .ok (.aload_n 0, 1) := by decide +kernel
theorem dX7_init_13 : decode cX7_init 13 = .ok (.bipush 8, 2) := by decide +kernel
theorem dX7_init_15 : decode cX7_init 15 = .ok (.anewarray 15, 3) := by decide +kernel
theorem dX7_init_18 : decode cX7_init 18 = .ok (.putfield 17, 3) := by decide +kernel
theorem dX7_init_21 : decode cX7_init 21 = .ok (.aload_n 0, 1) := by decide +kernel
theorem dX7_init_22 : decode cX7_init 22 = .ok (.new 21, 3) := by decide +kernel
theorem dX7_init_25 : decode cX7_init 25 = .ok (.dup, 1) := by decide +kernel
theorem dX7_init_26 : decode cX7_init 26 = .ok (.invokespecial 23, 3) := by decide +kernel
theorem dX7_init_29 : decode cX7_init 29 = .ok (.putfield 24, 3) := by decide +kernel
theorem dX7_init_32 : decode cX7_init 32 = .ok (.aload_n 0, 1) := by decide +kernel
theorem dX7_init_33 : decode cX7_init 33 = .ok (.iconst 3, 1) := by decide +kernel
theorem dX7_init_34 : decode cX7_init 34 = .ok (.newarray .int, 2) := by decide +kernel
theorem dX7_init_36 : decode cX7_init 36 = .ok (.dup, 1) := by decide +kernel
theorem dX7_init_37 : decode cX7_init 37 = .ok (.iconst 0, 1) := by decide +kernel
theorem dX7_init_38 : decode cX7_init 38 = .ok (.iconst 1, 1) := by decide +kernel
theorem dX7_init_39 : decode cX7_init 39 = .ok (.iastore, 1) := by decide +kernel
theorem dX7_init_40 : decode cX7_init 40 = .ok (.dup, 1) := by decide +kernel
theorem dX7_init_41 : decode cX7_init 41 = .ok (.iconst 1, 1) := by decide +kernel
theorem dX7_init_42 : decode cX7_init 42 = .ok (.iconst 2, 1) := by decide +kernel
theorem dX7_init_43 : decode cX7_init 43 = .ok (.iastore, 1) := by decide +kernel
theorem dX7_init_44 : decode cX7_init 44 = .ok (.dup, 1) := by decide +kernel
theorem dX7_init_45 : decode cX7_init 45 = .ok (.iconst 2, 1) := by decide +kernel
theorem dX7_init_46 : decode cX7_init 46 = .ok (.iconst 2, 1) := by decide +kernel
theorem dX7_init_47 : decode cX7_init 47 = .ok (.iastore, 1) := by decide +kernel
theorem dX7_init_48 : decode cX7_init 48 = .ok (.putfield 28, 3) := by decide +kernel
theorem dX7_init_51 : decode cX7_init 51 = .ok (.aload_n 0, 1) := by decide +kernel
theorem dX7_init_52 : decode cX7_init 52 = .ok (.new 32, 3) := by decide +kernel
theorem dX7_init_55 : decode cX7_init 55 = .ok (.dup, 1) := by decide +kernel
theorem dX7_init_56 : decode cX7_init 56 = .ok (.invokespecial 34, 3) := by decide +kernel
theorem dX7_init_59 : decode cX7_init 59 = .ok (.putfield 35, 3) := by decide +kernel
theorem dX7_init_62 : decode cX7_init 62 = .ok (.aload_n 0, 1) := by decide +kernel
theorem dX7_init_63 : decode cX7_init 63 = .ok (.iconst 4, 1) := by decide +kernel
theorem dX7_init_64 : decode cX7_init 64 = .ok (.anewarray 39, 3) := by decide +kernel
theorem dX7_init_67 : decode cX7_init 67 = .ok (.putfield 41, 3) := by decide +kernel
theorem dX7_init_70 : decode cX7_init 70 = .ok (.aload_n 0, 1) := by decide +kernel
theorem dX7_init_71 : decode cX7_init 71 = .ok (.new 15, 3) := by decide +kernel
theorem dX7_init_74 : decode cX7_init 74 = .ok (.dup, 1) := by decide +kernel
theorem dX7_init_75 : decode cX7_init 75 = .ok (.invokespecial 45, 3) := by decide +kernel
theorem dX7_init_78 : decode cX7_init 78 = .ok (.putfield 46, 3) := by decide +kernel
theorem dX7_init_81 : decode cX7_init 81 = .ok (.aload_n 0, 1) := by decide +kernel
theorem dX7_init_82 : decode cX7_init 82 = .ok (.new 21, 3) := by decide +kernel
theorem dX7_init_85 : decode cX7_init 85 = .ok (.dup, 1) := by decide +kernel
theorem dX7_init_86 : decode cX7_init 86 = .ok (.invokespecial 23, 3) := by decide +kernel
theorem dX7_init_89 : decode cX7_init 89 = .ok (.putfield 50, 3) := by decide +kernel
theorem dX7_init_92 : decode cX7_init 92 = .ok (.aload_n 0, 1) := by decide +kernel
theorem dX7_init_93 : decode cX7_init 93 = .ok (.new 53, 3) := by decide +kernel
theorem dX7_init_96 : decode cX7_init 96 = .ok (.dup, 1) := by decide +kernel
theorem dX7_init_97 : decode cX7_init 97 = .ok (.invokespecial 55, 3) := by decide +kernel
theorem dX7_init_100 : decode cX7_init 100 = .ok (.putfield 56, 3) := by decide +kernel
theorem dX7_init_103 : decode cX7_init 103 = .ok (.aload_n 0, 1) := by decide +kernel
theorem dX7_init_104 : decode cX7_init 104 = .ok (.new 60, 3) := by decide +kernel
theorem dX7_init_107 : decode cX7_init 107 = .ok (.dup, 1) := by decide +kernel
theorem dX7_init_108 : decode cX7_init 108 = .ok (.invokespecial 62, 3) := by decide +kernel
theorem dX7_init_111 : decode cX7_init 111 = .ok (.putfield 63, 3) := by decide +kernel
theorem dX7_init_114 : decode cX7_init 114 = .ok (.aload_n 0, 1) := by decide +kernel
theorem dX7_init_115 : decode cX7_init 115 = .ok (.bipush 8, 2) := by decide +kernel
theorem dX7_init_117 : decode cX7_init 117 = .ok (.newarray .long, 2) := by decide +kernel
theorem dX7_init_119 : decode cX7_init 119 = .ok (.putfield 67, 3) := by decide +kernel
theorem dX7_init_122 : decode cX7_init 122 = .ok (.aload_n 0, 1) := by decide +kernel
theorem dX7_init_123 : decode cX7_init 123 = .ok (.bipush 9, 2) := by decide +kernel
theorem dX7_init_125 : decode cX7_init 125 = .ok (.newarray .int, 2) := by decide +kernel
theorem dX7_init_127 : decode cX7_init 127 = .ok (.putfield 71, 3) := by decide +kernel
theorem dX7_init_130 : decode cX7_init 130 = .ok (.aload_n 0, 1) := by decide +kernel
theorem dX7_init_131 : decode cX7_init 131 = .ok (.bipush 9, 2) := by decide +kernel
theorem dX7_init_133 : decode cX7_init 133 = .ok (.newarray .long, 2) := by decide +kernel
theorem dX7_init_135 : decode cX7_init 135 = .ok (.putfield 74, 3) := by decide +kernel
theorem dX7_init_138 : decode cX7_init 138 = .ok (.aload_n 0, 1) := by decide +kernel
theorem dX7_init_139 : decode cX7_init 139 = .ok (.getfield 9, 3) := by decide +kernel
theorem dX7_init_142 : decode cX7_init 142 = .ok (.iconst 0, 1) := by decide +kernel
theorem dX7_init_143 : decode cX7_init 143 = .ok (.new 7, 3) := by decide +kernel
theorem dX7_init_146 : decode cX7_init 146 = .ok (.dup, 1) := by decide +kernel
theorem dX7_init_147 : decode cX7_init 147 = .ok (.bipush 9, 2) := by decide +kernel
theorem dX7_init_149 : decode cX7_init 149 = .ok (.bipush 9, 2) := by decide +kernel
theorem dX7_init_151 : decode cX7_init 151 = .ok (.iconst 3, 1) := by decide +kernel
theorem dX7_init_152 : decode cX7_init 152 = .ok (.ldc 77, 2) := by decide +kernel
theorem dX7_init_154 : decode cX7_init 154 = .ok (.invokespecial 79, 3) := by decide +kernel
theorem dX7_init_157 : decode cX7_init 157 = .ok (.aastore, 1) := by decide +kernel
theorem dX7_init_158 : decode cX7_init 158 = .ok (.aload_n 0, 1) := by decide +kernel
theorem dX7_init_159 : decode cX7_init 159 = .ok (.getfield 9, 3) := by decide +kernel
theorem dX7_init_162 : decode cX7_init 162 = .ok (.iconst 1, 1) := by decide +kernel
theorem dX7_init_163 : decode cX7_init 163 = .ok (.new 7, 3) := by decide +kernel
theorem dX7_init_166 : decode cX7_init 166 = .ok (.dup, 1) := by decide +kernel
theorem dX7_init_167 : decode cX7_init 167 = .ok (.iconst 4, 1) := by decide +kernel
theorem dX7_init_168 : decode cX7_init 168 = .ok (.bipush 9, 2) := by decide +kernel
theorem dX7_init_170 : decode cX7_init 170 = .ok (.bipush 9, 2) := by decide +kernel
theorem dX7_init_172 : decode cX7_init 172 = .ok (.ldc 82, 2) := by decide +kernel
theorem dX7_init_174 : decode cX7_init 174 = .ok (.invokespecial 79, 3) := by decide +kernel
theorem dX7_init_177 : decode cX7_init 177 = .ok (.aastore, 1) := by decide +kernel
theorem dX7_init_178 : decode cX7_init 178 = .ok (.iconst 0, 1) := by decide +kernel
theorem dX7_init_179 : decode cX7_init 179 = .ok (.istore_n 1, 1) := by decide +kernel
theorem dX7_init_180 : decode cX7_init 180 = .ok (.iload_n 1, 1) := by decide +kernel
theorem dX7_init_181 : decode cX7_init 181 = .ok (.bipush 8, 2) := by decide +kernel
theorem dX7_init_183 : decode cX7_init 183 = .ok (.if_icmp .ge 22, 3) := by decide +kernel
theorem dX7_init_186 : decode cX7_init 186 = .ok (.aload_n 0, 1) := by decide +kernel
theorem dX7_init_187 : decode cX7_init 187 = .ok (.getfield 17, 3) := by decide +kernel
theorem dX7_init_190 : decode cX7_init 190 = .ok (.iload_n 1, 1) := by decide +kernel
theorem dX7_init_191 : decode cX7_init 191 = .ok (.new 15, 3) := by decide +kernel
theorem dX7_init_194 : decode cX7_init 194 = .ok (.dup, 1) := by decide +kernel
theorem dX7_init_195 : decode cX7_init 195 = .ok (.invokespecial 45, 3) := by decide +kernel
theorem dX7_init_198 : decode cX7_init 198 = .ok (.aastore, 1) := by decide +kernel
theorem dX7_init_199 : decode cX7_init 199 = .ok (.iinc 1 1, 3) := by decide +kernel
theorem dX7_init_202 : decode cX7_init 202 = .ok (.goto (-22), 3) := by decide +kernel
theorem dX7_init_205 : decode cX7_init 205 = .ok (.iconst 0, 1) := by decide +kernel
theorem dX7_init_206 : decode cX7_init 206 = .ok (.istore_n 1, 1) := by decide +kernel
theorem dX7_init_207 : decode cX7_init 207 = .ok (.iload_n 1, 1) := by decide +kernel
theorem dX7_init_208 : decode cX7_init 208 = .ok (.iconst 4, 1) := by decide +kernel
theorem dX7_init_209 : decode cX7_init 209 = .ok (.if_icmp .ge 22, 3) := by decide +kernel
theorem dX7_init_212 : decode cX7_init 212 = .ok (.aload_n 0, 1) := by decide +kernel
theorem dX7_init_213 : decode cX7_init 213 = .ok (.getfield 41, 3) := by decide +kernel
theorem dX7_init_216 : decode cX7_init 216 = .ok (.iload_n 1, 1) := by decide +kernel
theorem dX7_init_217 : decode cX7_init 217 = .ok (.new 39, 3) := by decide +kernel
theorem dX7_init_220 : decode cX7_init 220 = .ok (.dup, 1) := by decide +kernel
theorem dX7_init_221 : decode cX7_init 221 = .ok (.invokespecial 84, 3) := by decide +kernel
theorem dX7_init_224 : decode cX7_init 224 = .ok (.aastore, 1) := by decide +kernel
theorem dX7_init_225 : decode cX7_init 225 = .ok (.iinc 1 1, 3) := by decide +kernel
theorem dX7_init_228 : decode cX7_init 228 = .ok (.goto (-21), 3) := by decide +kernel
theorem dX7_init_231 : decode cX7_init 231 = .ok (.return_, 1) := by decide +kernel
theorem dX7_within_0 : decode cX7_within 0 = .ok (.iload_n 0, 1) := by decide +kernel
theorem dX7_within_1 : decode cX7_within 1 = .ok (.ifCond .lt 12, 3) := by decide +kernel
theorem dX7_within_4 : decode cX7_within 4 = .ok (.iload_n 0, 1) := by decide +kernel
theorem dX7_within_5 : decode cX7_within 5 = .ok (.iload_n 1, 1) := by decide +kernel
theorem dX7_within_6 : decode cX7_within 6 = .ok (.if_icmp .ge 7, 3) := by decide +kernel
theorem dX7_within_9 : decode cX7_within 9 = .ok (.iconst 1, 1) := by decide +kernel
theorem dX7_within_10 : decode cX7_within 10 = .ok (.goto 4, 3) := by decide +kernel
theorem dX7_within_13 : decode cX7_within 13 = .ok (.iconst 0, 1) := by decide +kernel
theorem dX7_within_14 : decode cX7_within 14 = .ok (.ireturn, 1) := by decide +kernel
theorem dX7_longRefusal_0 : decode cX7_longRefusal 0 = .ok (.ldc2_w 87, 3) := by decide +kernel
theorem dX7_longRefusal_3 : decode cX7_longRefusal 3 = .ok (.iload_n 0, 1) := by decide +kernel
theorem dX7_longRefusal_4 : decode cX7_longRefusal 4 = .ok (.i2l, 1) := by decide +kernel
theorem dX7_longRefusal_5 : decode cX7_longRefusal 5 = .ok (.lsub, 1) := by decide +kernel
theorem dX7_longRefusal_6 : decode cX7_longRefusal 6 = .ok (.lreturn, 1) := by decide +kernel
theorem dX7_type_0 : decode cX7_type 0 = .ok (.iload_n 1, 1) := by decide +kernel
theorem dX7_type_1 : decode cX7_type 1 = .ok (.aload_n 0, 1) := by decide +kernel
theorem dX7_type_2 : decode cX7_type 2 = .ok (.getfield 9, 3) := by decide +kernel
theorem dX7_type_5 : decode cX7_type 5 = .ok (.arraylength, 1) := by decide +kernel
theorem dX7_type_6 : decode cX7_type 6 = .ok (.invokestatic 89, 3) := by decide +kernel
theorem dX7_type_9 : decode cX7_type 9 = .ok (.ifCond .eq 13, 3) := by decide +kernel
theorem dX7_type_12 : decode cX7_type 12 = .ok (.iload_n 2, 1) := by decide +kernel
theorem dX7_type_13 : decode cX7_type 13 = .ok (.sipush 256, 3) := by decide +kernel
theorem dX7_type_16 : decode cX7_type 16 = .ok (.invokestatic 89, 3) := by decide +kernel
theorem dX7_type_19 : decode cX7_type 19 = .ok (.ifCond .ne 6, 3) := by decide +kernel
theorem dX7_type_22 : decode cX7_type 22 = .ok (.bipush (-2), 2) := by decide +kernel
theorem dX7_type_24 : decode cX7_type 24 = .ok (.ireturn, 1) := by decide +kernel
theorem dX7_type_25 : decode cX7_type 25 = .ok (.aload_n 0, 1) := by decide +kernel
theorem dX7_type_26 : decode cX7_type 26 = .ok (.getfield 9, 3) := by decide +kernel
theorem dX7_type_29 : decode cX7_type 29 = .ok (.iload_n 1, 1) := by decide +kernel
theorem dX7_type_30 : decode cX7_type 30 = .ok (.aaload, 1) := by decide +kernel
theorem dX7_type_31 : decode cX7_type 31 = .ok (.astore_n 3, 1) := by decide +kernel
theorem dX7_type_32 : decode cX7_type 32 = .ok (.aload_n 3, 1) := by decide +kernel
theorem dX7_type_33 : decode cX7_type 33 = .ok (.getfield 93, 3) := by decide +kernel
theorem dX7_type_36 : decode cX7_type 36 = .ok (.bipush 39, 2) := by decide +kernel
theorem dX7_type_38 : decode cX7_type 38 = .ok (.if_icmp .lt 6, 3) := by decide +kernel
theorem dX7_type_41 : decode cX7_type 41 = .ok (.bipush (-4), 2) := by decide +kernel
theorem dX7_type_43 : decode cX7_type 43 = .ok (.ireturn, 1) := by decide +kernel
theorem dX7_type_44 : decode cX7_type 44 = .ok (.aload_n 3, 1) := by decide +kernel
theorem dX7_type_45 : decode cX7_type 45 = .ok (.getfield 97, 3) := by decide +kernel
theorem dX7_type_48 : decode cX7_type 48 = .ok (.aload_n 3, 1) := by decide +kernel
theorem dX7_type_49 : decode cX7_type 49 = .ok (.getfield 93, 3) := by decide +kernel
theorem dX7_type_52 : decode cX7_type 52 = .ok (.iload_n 2, 1) := by decide +kernel
theorem dX7_type_53 : decode cX7_type 53 = .ok (.iastore, 1) := by decide +kernel
theorem dX7_type_54 : decode cX7_type 54 = .ok (.aload_n 0, 1) := by decide +kernel
theorem dX7_type_55 : decode cX7_type 55 = .ok (.iload_n 1, 1) := by decide +kernel
theorem dX7_type_56 : decode cX7_type 56 = .ok (.aload_n 3, 1) := by decide +kernel
theorem dX7_type_57 : decode cX7_type 57 = .ok (.getfield 93, 3) := by decide +kernel
theorem dX7_type_60 : decode cX7_type 60 = .ok (.iconst 1, 1) := by decide +kernel
theorem dX7_type_61 : decode cX7_type 61 = .ok (.iadd, 1) := by decide +kernel
theorem dX7_type_62 : decode cX7_type 62 = .ok (.invokevirtual 100, 3) := by decide +kernel
theorem dX7_type_65 : decode cX7_type 65 = .ok (.ireturn, 1) := by decide +kernel
theorem dX7_wipe_0 : decode cX7_wipe 0 = .ok (.iload_n 1, 1) := by decide +kernel
theorem dX7_wipe_1 : decode cX7_wipe 1 = .ok (.aload_n 0, 1) := by decide +kernel
theorem dX7_wipe_2 : decode cX7_wipe 2 = .ok (.getfield 9, 3) := by decide +kernel
theorem dX7_wipe_5 : decode cX7_wipe 5 = .ok (.arraylength, 1) := by decide +kernel
theorem dX7_wipe_6 : decode cX7_wipe 6 = .ok (.invokestatic 89, 3) := by decide +kernel
theorem dX7_wipe_9 : decode cX7_wipe 9 = .ok (.ifCond .ne 6, 3) := by decide +kernel
theorem dX7_wipe_12 : decode cX7_wipe 12 = .ok (.bipush (-2), 2) := by decide +kernel
theorem dX7_wipe_14 : decode cX7_wipe 14 = .ok (.ireturn, 1) := by decide +kernel
theorem dX7_wipe_15 : decode cX7_wipe 15 = .ok (.aload_n 0, 1) := by decide +kernel
theorem dX7_wipe_16 : decode cX7_wipe 16 = .ok (.getfield 9, 3) := by decide +kernel
theorem dX7_wipe_19 : decode cX7_wipe 19 = .ok (.iload_n 1, 1) := by decide +kernel
theorem dX7_wipe_20 : decode cX7_wipe 20 = .ok (.aaload, 1) := by decide +kernel
theorem dX7_wipe_21 : decode cX7_wipe 21 = .ok (.getfield 93, 3) := by decide +kernel
theorem dX7_wipe_24 : decode cX7_wipe 24 = .ok (.istore_n 2, 1) := by decide +kernel
theorem dX7_wipe_25 : decode cX7_wipe 25 = .ok (.aload_n 0, 1) := by decide +kernel
theorem dX7_wipe_26 : decode cX7_wipe 26 = .ok (.iload_n 1, 1) := by decide +kernel
theorem dX7_wipe_27 : decode cX7_wipe 27 = .ok (.iconst 0, 1) := by decide +kernel
theorem dX7_wipe_28 : decode cX7_wipe 28 = .ok (.invokevirtual 100, 3) := by decide +kernel
theorem dX7_wipe_31 : decode cX7_wipe 31 = .ok (.pop, 1) := by decide +kernel
theorem dX7_wipe_32 : decode cX7_wipe 32 = .ok (.iload_n 2, 1) := by decide +kernel
theorem dX7_wipe_33 : decode cX7_wipe 33 = .ok (.ireturn, 1) := by decide +kernel
theorem dX7_undo_0 : decode cX7_undo 0 = .ok (.iload_n 1, 1) := by decide +kernel
theorem dX7_undo_1 : decode cX7_undo 1 = .ok (.aload_n 0, 1) := by decide +kernel
theorem dX7_undo_2 : decode cX7_undo 2 = .ok (.getfield 9, 3) := by decide +kernel
theorem dX7_undo_5 : decode cX7_undo 5 = .ok (.arraylength, 1) := by decide +kernel
theorem dX7_undo_6 : decode cX7_undo 6 = .ok (.invokestatic 89, 3) := by decide +kernel
theorem dX7_undo_9 : decode cX7_undo 9 = .ok (.ifCond .ne 6, 3) := by decide +kernel
theorem dX7_undo_12 : decode cX7_undo 12 = .ok (.bipush (-2), 2) := by decide +kernel
theorem dX7_undo_14 : decode cX7_undo 14 = .ok (.ireturn, 1) := by decide +kernel
theorem dX7_undo_15 : decode cX7_undo 15 = .ok (.aload_n 0, 1) := by decide +kernel
theorem dX7_undo_16 : decode cX7_undo 16 = .ok (.getfield 9, 3) := by decide +kernel
theorem dX7_undo_19 : decode cX7_undo 19 = .ok (.iload_n 1, 1) := by decide +kernel
theorem dX7_undo_20 : decode cX7_undo 20 = .ok (.aaload, 1) := by decide +kernel
theorem dX7_undo_21 : decode cX7_undo 21 = .ok (.getfield 93, 3) := by decide +kernel
theorem dX7_undo_24 : decode cX7_undo 24 = .ok (.istore_n 2, 1) := by decide +kernel
theorem dX7_undo_25 : decode cX7_undo 25 = .ok (.iload_n 2, 1) := by decide +kernel
theorem dX7_undo_26 : decode cX7_undo 26 = .ok (.ifCond .ne 8, 3) := by decide +kernel
theorem dX7_undo_29 : decode cX7_undo 29 = .ok (.bipush (-3), 2) := by decide +kernel
theorem dX7_undo_31 : decode cX7_undo 31 = .ok (.goto 11, 3) := by decide +kernel
theorem dX7_undo_34 : decode cX7_undo 34 = .ok (.aload_n 0, 1) := by decide +kernel
theorem dX7_undo_35 : decode cX7_undo 35 = .ok (.iload_n 1, 1) := by decide +kernel
theorem dX7_undo_36 : decode cX7_undo 36 = .ok (.iload_n 2, 1) := by decide +kernel
theorem dX7_undo_37 : decode cX7_undo 37 = .ok (.iconst 1, 1) := by decide +kernel
theorem dX7_undo_38 : decode cX7_undo 38 = .ok (.isub, 1) := by decide +kernel
theorem dX7_undo_39 : decode cX7_undo 39 = .ok (.invokevirtual 100, 3) := by decide +kernel
theorem dX7_undo_42 : decode cX7_undo 42 = .ok (.ireturn, 1) := by decide +kernel
theorem dX7_fault_0 : decode cX7_fault 0 = .ok (.iload_n 1, 1) := by decide +kernel
theorem dX7_fault_1 : decode cX7_fault 1 = .ok (.aload_n 0, 1) := by decide +kernel
theorem dX7_fault_2 : decode cX7_fault 2 = .ok (.getfield 9, 3) := by decide +kernel
theorem dX7_fault_5 : decode cX7_fault 5 = .ok (.arraylength, 1) := by decide +kernel
theorem dX7_fault_6 : decode cX7_fault 6 = .ok (.invokestatic 89, 3) := by decide +kernel
theorem dX7_fault_9 : decode cX7_fault 9 = .ok (.ifCond .eq 15, 3) := by decide +kernel
theorem dX7_fault_12 : decode cX7_fault 12 = .ok (.aload_n 0, 1) := by decide +kernel
theorem dX7_fault_13 : decode cX7_fault 13 = .ok (.getfield 9, 3) := by decide +kernel
theorem dX7_fault_16 : decode cX7_fault 16 = .ok (.iload_n 1, 1) := by decide +kernel
theorem dX7_fault_17 : decode cX7_fault 17 = .ok (.aaload, 1) := by decide +kernel
theorem dX7_fault_18 : decode cX7_fault 18 = .ok (.invokevirtual 104, 3) := by decide +kernel
theorem dX7_fault_21 : decode cX7_fault 21 = .ok (.goto 5, 3) := by decide +kernel
theorem dX7_fault_24 : decode cX7_fault 24 = .ok (.bipush (-2), 2) := by decide +kernel
theorem dX7_fault_26 : decode cX7_fault 26 = .ok (.ireturn, 1) := by decide +kernel
theorem dX7_resize_0 : decode cX7_resize 0 = .ok (.aload_n 0, 1) := by decide +kernel
theorem dX7_resize_1 : decode cX7_resize 1 = .ok (.getfield 9, 3) := by decide +kernel
theorem dX7_resize_4 : decode cX7_resize 4 = .ok (.iload_n 1, 1) := by decide +kernel
theorem dX7_resize_5 : decode cX7_resize 5 = .ok (.aaload, 1) := by decide +kernel
theorem dX7_resize_6 : decode cX7_resize 6 = .ok (.iload_n 2, 1) := by decide +kernel
theorem dX7_resize_7 : decode cX7_resize 7 = .ok (.putfield 93, 3) := by decide +kernel
theorem dX7_resize_10 : decode cX7_resize 10 = .ok (.iload_n 1, 1) := by decide +kernel
theorem dX7_resize_11 : decode cX7_resize 11 = .ok (.ifCond .ne 16, 3) := by decide +kernel
theorem dX7_resize_14 : decode cX7_resize 14 = .ok (.aload_n 0, 1) := by decide +kernel
theorem dX7_resize_15 : decode cX7_resize 15 = .ok (.aload_n 0, 1) := by decide +kernel
theorem dX7_resize_16 : decode cX7_resize 16 = .ok (.getfield 9, 3) := by decide +kernel
theorem dX7_resize_19 : decode cX7_resize 19 = .ok (.iload_n 1, 1) := by decide +kernel
theorem dX7_resize_20 : decode cX7_resize 20 = .ok (.aaload, 1) := by decide +kernel
theorem dX7_resize_21 : decode cX7_resize 21 = .ok (.invokevirtual 108, 3) := by decide +kernel
theorem dX7_resize_24 : decode cX7_resize 24 = .ok (.goto 13, 3) := by decide +kernel
theorem dX7_resize_27 : decode cX7_resize 27 = .ok (.aload_n 0, 1) := by decide +kernel
theorem dX7_resize_28 : decode cX7_resize 28 = .ok (.aload_n 0, 1) := by decide +kernel
theorem dX7_resize_29 : decode cX7_resize 29 = .ok (.getfield 9, 3) := by decide +kernel
theorem dX7_resize_32 : decode cX7_resize 32 = .ok (.iload_n 1, 1) := by decide +kernel
theorem dX7_resize_33 : decode cX7_resize 33 = .ok (.aaload, 1) := by decide +kernel
theorem dX7_resize_34 : decode cX7_resize 34 = .ok (.invokevirtual 112, 3) := by decide +kernel
theorem dX7_resize_37 : decode cX7_resize 37 = .ok (.iload_n 2, 1) := by decide +kernel
theorem dX7_resize_38 : decode cX7_resize 38 = .ok (.ireturn, 1) := by decide +kernel
theorem dX7_makeBeds_0 : decode cX7_makeBeds 0 = .ok (.aload_n 0, 1) := by decide +kernel
theorem dX7_makeBeds_1 : decode cX7_makeBeds 1 = .ok (.aload_n 1, 1) := by decide +kernel
theorem dX7_makeBeds_2 : decode cX7_makeBeds 2 = .ok (.invokevirtual 115, 3) := by decide +kernel
theorem dX7_makeBeds_5 : decode cX7_makeBeds 5 = .ok (.putfield 118, 3) := by decide +kernel
theorem dX7_makeBeds_8 : decode cX7_makeBeds 8 = .ok (.iconst 0, 1) := by decide +kernel
theorem dX7_makeBeds_9 : decode cX7_makeBeds 9 = .ok (.istore_n 2, 1) := by decide +kernel
theorem dX7_makeBeds_10 : decode cX7_makeBeds 10 = .ok (.iload_n 2, 1) := by decide +kernel
theorem dX7_makeBeds_11 : decode cX7_makeBeds 11 = .ok (.aload_n 0, 1) := by decide +kernel
theorem dX7_makeBeds_12 : decode cX7_makeBeds 12 = .ok (.getfield 118, 3) := by decide +kernel
theorem dX7_makeBeds_15 : decode cX7_makeBeds 15 = .ok (.if_icmp .ge 68, 3) := by decide +kernel
theorem dX7_makeBeds_18 : decode cX7_makeBeds 18 = .ok (.aload_n 0, 1) := by decide +kernel
theorem dX7_makeBeds_19 : decode cX7_makeBeds 19 = .ok (.getfield 17, 3) := by decide +kernel
theorem dX7_makeBeds_22 : decode cX7_makeBeds 22 = .ok (.iload_n 2, 1) := by decide +kernel
theorem dX7_makeBeds_23 : decode cX7_makeBeds 23 = .ok (.aaload, 1) := by decide +kernel
theorem dX7_makeBeds_24 : decode cX7_makeBeds 24 = .ok (.aload_n 1, 1) := by decide +kernel
theorem dX7_makeBeds_25 : decode cX7_makeBeds 25 = .ok (.iload_n 2, 1) := by decide +kernel
theorem dX7_makeBeds_26 : decode cX7_makeBeds 26 = .ok (.iconst 0, 1) := by decide +kernel
theorem dX7_makeBeds_27 : decode cX7_makeBeds 27 = .ok (.invokevirtual 121, 3) := by decide +kernel
theorem dX7_makeBeds_30 : decode cX7_makeBeds 30 = .ok (.putfield 124, 3) := by decide +kernel
theorem dX7_makeBeds_33 : decode cX7_makeBeds 33 = .ok (.aload_n 0, 1) := by decide +kernel
theorem dX7_makeBeds_34 : decode cX7_makeBeds 34 = .ok (.getfield 17, 3) := by decide +kernel
theorem dX7_makeBeds_37 : decode cX7_makeBeds 37 = .ok (.iload_n 2, 1) := by decide +kernel
theorem dX7_makeBeds_38 : decode cX7_makeBeds 38 = .ok (.aaload, 1) := by decide +kernel
theorem dX7_makeBeds_39 : decode cX7_makeBeds 39 = .ok (.aload_n 1, 1) := by decide +kernel
theorem dX7_makeBeds_40 : decode cX7_makeBeds 40 = .ok (.iload_n 2, 1) := by decide +kernel
theorem dX7_makeBeds_41 : decode cX7_makeBeds 41 = .ok (.iconst 1, 1) := by decide +kernel
theorem dX7_makeBeds_42 : decode cX7_makeBeds 42 = .ok (.invokevirtual 121, 3) := by decide +kernel
theorem dX7_makeBeds_45 : decode cX7_makeBeds 45 = .ok (.putfield 127, 3) := by decide +kernel
theorem dX7_makeBeds_48 : decode cX7_makeBeds 48 = .ok (.aload_n 0, 1) := by decide +kernel
theorem dX7_makeBeds_49 : decode cX7_makeBeds 49 = .ok (.getfield 17, 3) := by decide +kernel
theorem dX7_makeBeds_52 : decode cX7_makeBeds 52 = .ok (.iload_n 2, 1) := by decide +kernel
theorem dX7_makeBeds_53 : decode cX7_makeBeds 53 = .ok (.aaload, 1) := by decide +kernel
theorem dX7_makeBeds_54 : decode cX7_makeBeds 54 = .ok (.aload_n 1, 1) := by decide +kernel
theorem dX7_makeBeds_55 : decode cX7_makeBeds 55 = .ok (.iload_n 2, 1) := by decide +kernel
theorem dX7_makeBeds_56 : decode cX7_makeBeds 56 = .ok (.iconst 2, 1) := by decide +kernel
theorem dX7_makeBeds_57 : decode cX7_makeBeds 57 = .ok (.invokevirtual 121, 3) := by decide +kernel
theorem dX7_makeBeds_60 : decode cX7_makeBeds 60 = .ok (.putfield 130, 3) := by decide +kernel
theorem dX7_makeBeds_63 : decode cX7_makeBeds 63 = .ok (.aload_n 0, 1) := by decide +kernel
theorem dX7_makeBeds_64 : decode cX7_makeBeds 64 = .ok (.getfield 17, 3) := by decide +kernel
theorem dX7_makeBeds_67 : decode cX7_makeBeds 67 = .ok (.iload_n 2, 1) := by decide +kernel
theorem dX7_makeBeds_68 : decode cX7_makeBeds 68 = .ok (.aaload, 1) := by decide +kernel
theorem dX7_makeBeds_69 : decode cX7_makeBeds 69 = .ok (.aload_n 1, 1) := by decide +kernel
theorem dX7_makeBeds_70 : decode cX7_makeBeds 70 = .ok (.iload_n 2, 1) := by decide +kernel
theorem dX7_makeBeds_71 : decode cX7_makeBeds 71 = .ok (.invokevirtual 133, 3) := by decide +kernel
theorem dX7_makeBeds_74 : decode cX7_makeBeds 74 = .ok (.putfield 137, 3) := by decide +kernel
theorem dX7_makeBeds_77 : decode cX7_makeBeds 77 = .ok (.iinc 2 1, 3) := by decide +kernel
theorem dX7_makeBeds_80 : decode cX7_makeBeds 80 = .ok (.goto (-70), 3) := by decide +kernel
theorem dX7_makeBeds_83 : decode cX7_makeBeds 83 = .ok (.return_, 1) := by decide +kernel
theorem dX7_tellDeeds_0 : decode cX7_tellDeeds 0 = .ok (.aload_n 1, 1) := by decide +kernel
theorem dX7_tellDeeds_1 : decode cX7_tellDeeds 1 = .ok (.invokevirtual 115, 3) := by decide +kernel
theorem dX7_tellDeeds_4 : decode cX7_tellDeeds 4 = .ok (.istore_n 2, 1) := by decide +kernel
theorem dX7_tellDeeds_5 : decode cX7_tellDeeds 5 = .ok (.aload_n 0, 1) := by decide +kernel
theorem dX7_tellDeeds_6 : decode cX7_tellDeeds 6 = .ok (.getfield 24, 3) := by decide +kernel
theorem dX7_tellDeeds_9 : decode cX7_tellDeeds 9 = .ok (.iconst 0, 1) := by decide +kernel
theorem dX7_tellDeeds_10 : decode cX7_tellDeeds 10 = .ok (.putfield 140, 3) := by decide +kernel
theorem dX7_tellDeeds_13 : decode cX7_tellDeeds 13 = .ok (.iconst 0, 1) := by decide +kernel
theorem dX7_tellDeeds_14 : decode cX7_tellDeeds 14 = .ok (.istore_n 3, 1) := by decide +kernel
theorem dX7_tellDeeds_15 : decode cX7_tellDeeds 15 = .ok (.iload_n 3, 1) := by decide +kernel
theorem dX7_tellDeeds_16 : decode cX7_tellDeeds 16 = .ok (.iload_n 2, 1) := by decide +kernel
theorem dX7_tellDeeds_17 : decode cX7_tellDeeds 17 = .ok (.if_icmp .ge 43, 3) := by decide +kernel
theorem dX7_tellDeeds_20 : decode cX7_tellDeeds 20 = .ok (.aload_n 0, 1) := by decide +kernel
theorem dX7_tellDeeds_21 : decode cX7_tellDeeds 21 = .ok (.getfield 24, 3) := by decide +kernel
theorem dX7_tellDeeds_24 : decode cX7_tellDeeds 24 = .ok (.bipush 10, 2) := by decide +kernel
theorem dX7_tellDeeds_26 : decode cX7_tellDeeds 26 = .ok (.aload_n 1, 1) := by decide +kernel
theorem dX7_tellDeeds_27 : decode cX7_tellDeeds 27 = .ok (.iload_n 3, 1) := by decide +kernel
theorem dX7_tellDeeds_28 : decode cX7_tellDeeds 28 = .ok (.iconst 0, 1) := by decide +kernel
theorem dX7_tellDeeds_29 : decode cX7_tellDeeds 29 = .ok (.invokevirtual 121, 3) := by decide +kernel
theorem dX7_tellDeeds_32 : decode cX7_tellDeeds 32 = .ok (.imul, 1) := by decide +kernel
theorem dX7_tellDeeds_33 : decode cX7_tellDeeds 33 = .ok (.aload_n 1, 1) := by decide +kernel
theorem dX7_tellDeeds_34 : decode cX7_tellDeeds 34 = .ok (.iload_n 3, 1) := by decide +kernel
theorem dX7_tellDeeds_35 : decode cX7_tellDeeds 35 = .ok (.iconst 1, 1) := by decide +kernel
theorem dX7_tellDeeds_36 : decode cX7_tellDeeds 36 = .ok (.invokevirtual 121, 3) := by decide +kernel
theorem dX7_tellDeeds_39 : decode cX7_tellDeeds 39 = .ok (.iadd, 1) := by decide +kernel
theorem dX7_tellDeeds_40 : decode cX7_tellDeeds 40 = .ok (.aload_n 1, 1) := by decide +kernel
theorem dX7_tellDeeds_41 : decode cX7_tellDeeds 41 = .ok (.iload_n 3, 1) := by decide +kernel
theorem dX7_tellDeeds_42 : decode cX7_tellDeeds 42 = .ok (.iconst 2, 1) := by decide +kernel
theorem dX7_tellDeeds_43 : decode cX7_tellDeeds 43 = .ok (.invokevirtual 121, 3) := by decide +kernel
theorem dX7_tellDeeds_46 : decode cX7_tellDeeds 46 = .ok (.aload_n 1, 1) := by decide +kernel
theorem dX7_tellDeeds_47 : decode cX7_tellDeeds 47 = .ok (.iload_n 3, 1) := by decide +kernel
theorem dX7_tellDeeds_48 : decode cX7_tellDeeds 48 = .ok (.invokevirtual 133, 3) := by decide +kernel
theorem dX7_tellDeeds_51 : decode cX7_tellDeeds 51 = .ok (.invokevirtual 141, 3) := by decide +kernel
theorem dX7_tellDeeds_54 : decode cX7_tellDeeds 54 = .ok (.iinc 3 1, 3) := by decide +kernel
theorem dX7_tellDeeds_57 : decode cX7_tellDeeds 57 = .ok (.goto (-42), 3) := by decide +kernel
theorem dX7_tellDeeds_60 : decode cX7_tellDeeds 60 = .ok (.return_, 1) := by decide +kernel
theorem dX7_sleeper_0 : decode cX7_sleeper 0 = .ok (.iload_n 1, 1) := by decide +kernel
theorem dX7_sleeper_1 : decode cX7_sleeper 1 = .ok (.aload_n 0, 1) := by decide +kernel
theorem dX7_sleeper_2 : decode cX7_sleeper 2 = .ok (.getfield 118, 3) := by decide +kernel
theorem dX7_sleeper_5 : decode cX7_sleeper 5 = .ok (.invokestatic 89, 3) := by decide +kernel
theorem dX7_sleeper_8 : decode cX7_sleeper 8 = .ok (.ifCond .ne 6, 3) := by decide +kernel
theorem dX7_sleeper_11 : decode cX7_sleeper 11 = .ok (.bipush (-2), 2) := by decide +kernel
theorem dX7_sleeper_13 : decode cX7_sleeper 13 = .ok (.ireturn, 1) := by decide +kernel
theorem dX7_sleeper_14 : decode cX7_sleeper 14 = .ok (.iload_n 2, 1) := by decide +kernel
theorem dX7_sleeper_15 : decode cX7_sleeper 15 = .ok (.tableswitch 69 0 3 #[29, 39, 49, 59], 29) := by decide +kernel
theorem dX7_sleeper_44 : decode cX7_sleeper 44 = .ok (.aload_n 0, 1) := by decide +kernel
theorem dX7_sleeper_45 : decode cX7_sleeper 45 = .ok (.getfield 17, 3) := by decide +kernel
theorem dX7_sleeper_48 : decode cX7_sleeper 48 = .ok (.iload_n 1, 1) := by decide +kernel
theorem dX7_sleeper_49 : decode cX7_sleeper 49 = .ok (.aaload, 1) := by decide +kernel
theorem dX7_sleeper_50 : decode cX7_sleeper 50 = .ok (.getfield 124, 3) := by decide +kernel
theorem dX7_sleeper_53 : decode cX7_sleeper 53 = .ok (.ireturn, 1) := by decide +kernel
theorem dX7_sleeper_54 : decode cX7_sleeper 54 = .ok (.aload_n 0, 1) := by decide +kernel
theorem dX7_sleeper_55 : decode cX7_sleeper 55 = .ok (.getfield 17, 3) := by decide +kernel
theorem dX7_sleeper_58 : decode cX7_sleeper 58 = .ok (.iload_n 1, 1) := by decide +kernel
theorem dX7_sleeper_59 : decode cX7_sleeper 59 = .ok (.aaload, 1) := by decide +kernel
theorem dX7_sleeper_60 : decode cX7_sleeper 60 = .ok (.getfield 127, 3) := by decide +kernel
theorem dX7_sleeper_63 : decode cX7_sleeper 63 = .ok (.ireturn, 1) := by decide +kernel
theorem dX7_sleeper_64 : decode cX7_sleeper 64 = .ok (.aload_n 0, 1) := by decide +kernel
theorem dX7_sleeper_65 : decode cX7_sleeper 65 = .ok (.getfield 17, 3) := by decide +kernel
theorem dX7_sleeper_68 : decode cX7_sleeper 68 = .ok (.iload_n 1, 1) := by decide +kernel
theorem dX7_sleeper_69 : decode cX7_sleeper 69 = .ok (.aaload, 1) := by decide +kernel
theorem dX7_sleeper_70 : decode cX7_sleeper 70 = .ok (.getfield 130, 3) := by decide +kernel
theorem dX7_sleeper_73 : decode cX7_sleeper 73 = .ok (.ireturn, 1) := by decide +kernel
theorem dX7_sleeper_74 : decode cX7_sleeper 74 = .ok (.aload_n 0, 1) := by decide +kernel
theorem dX7_sleeper_75 : decode cX7_sleeper 75 = .ok (.getfield 17, 3) := by decide +kernel
theorem dX7_sleeper_78 : decode cX7_sleeper 78 = .ok (.iload_n 1, 1) := by decide +kernel
theorem dX7_sleeper_79 : decode cX7_sleeper 79 = .ok (.aaload, 1) := by decide +kernel
theorem dX7_sleeper_80 : decode cX7_sleeper 80 = .ok (.getfield 137, 3) := by decide +kernel
theorem dX7_sleeper_83 : decode cX7_sleeper 83 = .ok (.ireturn, 1) := by decide +kernel
theorem dX7_sleeper_84 : decode cX7_sleeper 84 = .ok (.bipush (-2), 2) := by decide +kernel
theorem dX7_sleeper_86 : decode cX7_sleeper 86 = .ok (.ireturn, 1) := by decide +kernel
theorem dX7_deed_0 : decode cX7_deed 0 = .ok (.iload_n 1, 1) := by decide +kernel
theorem dX7_deed_1 : decode cX7_deed 1 = .ok (.aload_n 0, 1) := by decide +kernel
theorem dX7_deed_2 : decode cX7_deed 2 = .ok (.getfield 24, 3) := by decide +kernel
theorem dX7_deed_5 : decode cX7_deed 5 = .ok (.getfield 140, 3) := by decide +kernel
theorem dX7_deed_8 : decode cX7_deed 8 = .ok (.invokestatic 89, 3) := by decide +kernel
theorem dX7_deed_11 : decode cX7_deed 11 = .ok (.ifCond .ne 6, 3) := by decide +kernel
theorem dX7_deed_14 : decode cX7_deed 14 = .ok (.bipush (-2), 2) := by decide +kernel
theorem dX7_deed_16 : decode cX7_deed 16 = .ok (.ireturn, 1) := by decide +kernel
theorem dX7_deed_17 : decode cX7_deed 17 = .ok (.iload_n 2, 1) := by decide +kernel
theorem dX7_deed_18 : decode cX7_deed 18 = .ok (.tableswitch 56 0 2 #[26, 36, 46], 26) := by decide +kernel
theorem dX7_deed_44 : decode cX7_deed 44 = .ok (.aload_n 0, 1) := by decide +kernel
theorem dX7_deed_45 : decode cX7_deed 45 = .ok (.getfield 24, 3) := by decide +kernel
theorem dX7_deed_48 : decode cX7_deed 48 = .ok (.getfield 145, 3) := by decide +kernel
theorem dX7_deed_51 : decode cX7_deed 51 = .ok (.iload_n 1, 1) := by decide +kernel
theorem dX7_deed_52 : decode cX7_deed 52 = .ok (.iaload, 1) := by decide +kernel
theorem dX7_deed_53 : decode cX7_deed 53 = .ok (.ireturn, 1) := by decide +kernel
theorem dX7_deed_54 : decode cX7_deed 54 = .ok (.aload_n 0, 1) := by decide +kernel
theorem dX7_deed_55 : decode cX7_deed 55 = .ok (.getfield 24, 3) := by decide +kernel
theorem dX7_deed_58 : decode cX7_deed 58 = .ok (.getfield 148, 3) := by decide +kernel
theorem dX7_deed_61 : decode cX7_deed 61 = .ok (.iload_n 1, 1) := by decide +kernel
theorem dX7_deed_62 : decode cX7_deed 62 = .ok (.iaload, 1) := by decide +kernel
theorem dX7_deed_63 : decode cX7_deed 63 = .ok (.ireturn, 1) := by decide +kernel
theorem dX7_deed_64 : decode cX7_deed 64 = .ok (.aload_n 0, 1) := by decide +kernel
theorem dX7_deed_65 : decode cX7_deed 65 = .ok (.getfield 24, 3) := by decide +kernel
theorem dX7_deed_68 : decode cX7_deed 68 = .ok (.getfield 150, 3) := by decide +kernel
theorem dX7_deed_71 : decode cX7_deed 71 = .ok (.iload_n 1, 1) := by decide +kernel
theorem dX7_deed_72 : decode cX7_deed 72 = .ok (.iaload, 1) := by decide +kernel
theorem dX7_deed_73 : decode cX7_deed 73 = .ok (.ireturn, 1) := by decide +kernel
theorem dX7_deed_74 : decode cX7_deed 74 = .ok (.bipush (-2), 2) := by decide +kernel
theorem dX7_deed_76 : decode cX7_deed 76 = .ok (.ireturn, 1) := by decide +kernel
theorem dX7_law_0 : decode cX7_law 0 = .ok (.iload_n 1, 1) := by decide +kernel
theorem dX7_law_1 : decode cX7_law 1 = .ok (.aload_n 0, 1) := by decide +kernel
theorem dX7_law_2 : decode cX7_law 2 = .ok (.getfield 28, 3) := by decide +kernel
theorem dX7_law_5 : decode cX7_law 5 = .ok (.arraylength, 1) := by decide +kernel
theorem dX7_law_6 : decode cX7_law 6 = .ok (.invokestatic 89, 3) := by decide +kernel
theorem dX7_law_9 : decode cX7_law 9 = .ok (.ifCond .eq 21, 3) := by decide +kernel
theorem dX7_law_12 : decode cX7_law 12 = .ok (.iload_n 2, 1) := by decide +kernel
theorem dX7_law_13 : decode cX7_law 13 = .ok (.getstatic 153, 3) := by decide +kernel
theorem dX7_law_16 : decode cX7_law 16 = .ok (.iload_n 1, 1) := by decide +kernel
theorem dX7_law_17 : decode cX7_law 17 = .ok (.iaload, 1) := by decide +kernel
theorem dX7_law_18 : decode cX7_law 18 = .ok (.if_icmp .lt 12, 3) := by decide +kernel
theorem dX7_law_21 : decode cX7_law 21 = .ok (.iload_n 2, 1) := by decide +kernel
theorem dX7_law_22 : decode cX7_law 22 = .ok (.getstatic 156, 3) := by decide +kernel
theorem dX7_law_25 : decode cX7_law 25 = .ok (.iload_n 1, 1) := by decide +kernel
theorem dX7_law_26 : decode cX7_law 26 = .ok (.iaload, 1) := by decide +kernel
theorem dX7_law_27 : decode cX7_law 27 = .ok (.if_icmp .le 6, 3) := by decide +kernel
theorem dX7_law_30 : decode cX7_law 30 = .ok (.bipush (-2), 2) := by decide +kernel
theorem dX7_law_32 : decode cX7_law 32 = .ok (.ireturn, 1) := by decide +kernel
theorem dX7_law_33 : decode cX7_law 33 = .ok (.aload_n 0, 1) := by decide +kernel
theorem dX7_law_34 : decode cX7_law 34 = .ok (.getfield 28, 3) := by decide +kernel
theorem dX7_law_37 : decode cX7_law 37 = .ok (.iload_n 1, 1) := by decide +kernel
theorem dX7_law_38 : decode cX7_law 38 = .ok (.iaload, 1) := by decide +kernel
theorem dX7_law_39 : decode cX7_law 39 = .ok (.istore_n 3, 1) := by decide +kernel
theorem dX7_law_40 : decode cX7_law 40 = .ok (.aload_n 0, 1) := by decide +kernel
theorem dX7_law_41 : decode cX7_law 41 = .ok (.getfield 28, 3) := by decide +kernel
theorem dX7_law_44 : decode cX7_law 44 = .ok (.iload_n 1, 1) := by decide +kernel
theorem dX7_law_45 : decode cX7_law 45 = .ok (.iload_n 2, 1) := by decide +kernel
theorem dX7_law_46 : decode cX7_law 46 = .ok (.iastore, 1) := by decide +kernel
theorem dX7_law_47 : decode cX7_law 47 = .ok (.iload_n 3, 1) := by decide +kernel
theorem dX7_law_48 : decode cX7_law 48 = .ok (.ireturn, 1) := by decide +kernel
theorem dX7_hearAll_0 : decode cX7_hearAll 0 = .ok (.aload_n 0, 1) := by decide +kernel
theorem dX7_hearAll_1 : decode cX7_hearAll 1 = .ok (.getfield 63, 3) := by decide +kernel
theorem dX7_hearAll_4 : decode cX7_hearAll 4 = .ok (.invokevirtual 159, 3) := by decide +kernel
theorem dX7_hearAll_7 : decode cX7_hearAll 7 = .ok (.iconst 0, 1) := by decide +kernel
theorem dX7_hearAll_8 : decode cX7_hearAll 8 = .ok (.istore_n 2, 1) := by decide +kernel
theorem dX7_hearAll_9 : decode cX7_hearAll 9 = .ok (.iload_n 2, 1) := by decide +kernel
theorem dX7_hearAll_10 : decode cX7_hearAll 10 = .ok (.aload_n 0, 1) := by decide +kernel
theorem dX7_hearAll_11 : decode cX7_hearAll 11 = .ok (.getfield 118, 3) := by decide +kernel
theorem dX7_hearAll_14 : decode cX7_hearAll 14 = .ok (.if_icmp .ge 38, 3) := by decide +kernel
theorem dX7_hearAll_17 : decode cX7_hearAll 17 = .ok (.aload_n 0, 1) := by decide +kernel
theorem dX7_hearAll_18 : decode cX7_hearAll 18 = .ok (.getfield 56, 3) := by decide +kernel
theorem dX7_hearAll_21 : decode cX7_hearAll 21 = .ok (.aload_n 0, 1) := by decide +kernel
theorem dX7_hearAll_22 : decode cX7_hearAll 22 = .ok (.getfield 17, 3) := by decide +kernel
theorem dX7_hearAll_25 : decode cX7_hearAll 25 = .ok (.iload_n 2, 1) := by decide +kernel
theorem dX7_hearAll_26 : decode cX7_hearAll 26 = .ok (.aaload, 1) := by decide +kernel
theorem dX7_hearAll_27 : decode cX7_hearAll 27 = .ok (.aload_n 1, 1) := by decide +kernel
theorem dX7_hearAll_28 : decode cX7_hearAll 28 = .ok (.aload_n 0, 1) := by decide +kernel
theorem dX7_hearAll_29 : decode cX7_hearAll 29 = .ok (.getfield 28, 3) := by decide +kernel
theorem dX7_hearAll_32 : decode cX7_hearAll 32 = .ok (.invokevirtual 162, 3) := by decide +kernel
theorem dX7_hearAll_35 : decode cX7_hearAll 35 = .ok (.aload_n 0, 1) := by decide +kernel
theorem dX7_hearAll_36 : decode cX7_hearAll 36 = .ok (.getfield 63, 3) := by decide +kernel
theorem dX7_hearAll_39 : decode cX7_hearAll 39 = .ok (.aload_n 0, 1) := by decide +kernel
theorem dX7_hearAll_40 : decode cX7_hearAll 40 = .ok (.getfield 56, 3) := by decide +kernel
theorem dX7_hearAll_43 : decode cX7_hearAll 43 = .ok (.invokevirtual 166, 3) := by decide +kernel
theorem dX7_hearAll_46 : decode cX7_hearAll 46 = .ok (.iinc 2 1, 3) := by decide +kernel
theorem dX7_hearAll_49 : decode cX7_hearAll 49 = .ok (.goto (-40), 3) := by decide +kernel
theorem dX7_hearAll_52 : decode cX7_hearAll 52 = .ok (.return_, 1) := by decide +kernel
theorem dX7_provenOf_0 : decode cX7_provenOf 0 = .ok (.aload_n 0, 1) := by decide +kernel
theorem dX7_provenOf_1 : decode cX7_provenOf 1 = .ok (.getfield 63, 3) := by decide +kernel
theorem dX7_provenOf_4 : decode cX7_provenOf 4 = .ok (.aload_n 1, 1) := by decide +kernel
theorem dX7_provenOf_5 : decode cX7_provenOf 5 = .ok (.getfield 140, 3) := by decide +kernel
theorem dX7_provenOf_8 : decode cX7_provenOf 8 = .ok (.aload_n 0, 1) := by decide +kernel
theorem dX7_provenOf_9 : decode cX7_provenOf 9 = .ok (.getfield 28, 3) := by decide +kernel
theorem dX7_provenOf_12 : decode cX7_provenOf 12 = .ok (.iconst 2, 1) := by decide +kernel
theorem dX7_provenOf_13 : decode cX7_provenOf 13 = .ok (.iaload, 1) := by decide +kernel
theorem dX7_provenOf_14 : decode cX7_provenOf 14 = .ok (.invokevirtual 169, 3) := by decide +kernel
theorem dX7_provenOf_17 : decode cX7_provenOf 17 = .ok (.ireturn, 1) := by decide +kernel
theorem dX7_depth_0 : decode cX7_depth 0 = .ok (.iload_n 1, 1) := by decide +kernel
theorem dX7_depth_1 : decode cX7_depth 1 = .ok (.bipush 50, 2) := by decide +kernel
theorem dX7_depth_3 : decode cX7_depth 3 = .ok (.invokestatic 89, 3) := by decide +kernel
theorem dX7_depth_6 : decode cX7_depth 6 = .ok (.ifCond .eq 14, 3) := by decide +kernel
theorem dX7_depth_9 : decode cX7_depth 9 = .ok (.iload_n 2, 1) := by decide +kernel
theorem dX7_depth_10 : decode cX7_depth 10 = .ok (.aload_n 0, 1) := by decide +kernel
theorem dX7_depth_11 : decode cX7_depth 11 = .ok (.getfield 118, 3) := by decide +kernel
theorem dX7_depth_14 : decode cX7_depth 14 = .ok (.invokestatic 89, 3) := by decide +kernel
theorem dX7_depth_17 : decode cX7_depth 17 = .ok (.ifCond .ne 6, 3) := by decide +kernel
theorem dX7_depth_20 : decode cX7_depth 20 = .ok (.bipush (-2), 2) := by decide +kernel
theorem dX7_depth_22 : decode cX7_depth 22 = .ok (.ireturn, 1) := by decide +kernel
theorem dX7_depth_23 : decode cX7_depth 23 = .ok (.aload_n 0, 1) := by decide +kernel
theorem dX7_depth_24 : decode cX7_depth 24 = .ok (.getfield 56, 3) := by decide +kernel
theorem dX7_depth_27 : decode cX7_depth 27 = .ok (.iload_n 1, 1) := by decide +kernel
theorem dX7_depth_28 : decode cX7_depth 28 = .ok (.aload_n 0, 1) := by decide +kernel
theorem dX7_depth_29 : decode cX7_depth 29 = .ok (.getfield 17, 3) := by decide +kernel
theorem dX7_depth_32 : decode cX7_depth 32 = .ok (.iload_n 2, 1) := by decide +kernel
theorem dX7_depth_33 : decode cX7_depth 33 = .ok (.aaload, 1) := by decide +kernel
theorem dX7_depth_34 : decode cX7_depth 34 = .ok (.aload_n 0, 1) := by decide +kernel
theorem dX7_depth_35 : decode cX7_depth 35 = .ok (.getfield 24, 3) := by decide +kernel
theorem dX7_depth_38 : decode cX7_depth 38 = .ok (.invokevirtual 172, 3) := by decide +kernel
theorem dX7_depth_41 : decode cX7_depth 41 = .ok (.ireturn, 1) := by decide +kernel
theorem dX7_hears_0 : decode cX7_hears 0 = .ok (.iload_n 1, 1) := by decide +kernel
theorem dX7_hears_1 : decode cX7_hears 1 = .ok (.aload_n 0, 1) := by decide +kernel
theorem dX7_hears_2 : decode cX7_hears 2 = .ok (.getfield 24, 3) := by decide +kernel
theorem dX7_hears_5 : decode cX7_hears 5 = .ok (.getfield 140, 3) := by decide +kernel
theorem dX7_hears_8 : decode cX7_hears 8 = .ok (.invokestatic 89, 3) := by decide +kernel
theorem dX7_hears_11 : decode cX7_hears 11 = .ok (.ifCond .eq 14, 3) := by decide +kernel
theorem dX7_hears_14 : decode cX7_hears 14 = .ok (.iload_n 2, 1) := by decide +kernel
theorem dX7_hears_15 : decode cX7_hears 15 = .ok (.aload_n 0, 1) := by decide +kernel
theorem dX7_hears_16 : decode cX7_hears 16 = .ok (.getfield 118, 3) := by decide +kernel
theorem dX7_hears_19 : decode cX7_hears 19 = .ok (.invokestatic 89, 3) := by decide +kernel
theorem dX7_hears_22 : decode cX7_hears 22 = .ok (.ifCond .ne 6, 3) := by decide +kernel
theorem dX7_hears_25 : decode cX7_hears 25 = .ok (.bipush (-2), 2) := by decide +kernel
theorem dX7_hears_27 : decode cX7_hears 27 = .ok (.ireturn, 1) := by decide +kernel
theorem dX7_hears_28 : decode cX7_hears 28 = .ok (.aload_n 0, 1) := by decide +kernel
theorem dX7_hears_29 : decode cX7_hears 29 = .ok (.getfield 56, 3) := by decide +kernel
theorem dX7_hears_32 : decode cX7_hears 32 = .ok (.aload_n 0, 1) := by decide +kernel
theorem dX7_hears_33 : decode cX7_hears 33 = .ok (.getfield 17, 3) := by decide +kernel
theorem dX7_hears_36 : decode cX7_hears 36 = .ok (.iload_n 2, 1) := by decide +kernel
theorem dX7_hears_37 : decode cX7_hears 37 = .ok (.aaload, 1) := by decide +kernel
theorem dX7_hears_38 : decode cX7_hears 38 = .ok (.aload_n 0, 1) := by decide +kernel
theorem dX7_hears_39 : decode cX7_hears 39 = .ok (.getfield 24, 3) := by decide +kernel
theorem dX7_hears_42 : decode cX7_hears 42 = .ok (.aload_n 0, 1) := by decide +kernel
theorem dX7_hears_43 : decode cX7_hears 43 = .ok (.getfield 28, 3) := by decide +kernel
theorem dX7_hears_46 : decode cX7_hears 46 = .ok (.invokevirtual 162, 3) := by decide +kernel
theorem dX7_hears_49 : decode cX7_hears 49 = .ok (.iload_n 3, 1) := by decide +kernel
theorem dX7_hears_50 : decode cX7_hears 50 = .ok (.tableswitch 58 0 2 #[26, 36, 46], 26) := by decide +kernel
theorem dX7_hears_76 : decode cX7_hears 76 = .ok (.aload_n 0, 1) := by decide +kernel
theorem dX7_hears_77 : decode cX7_hears 77 = .ok (.getfield 56, 3) := by decide +kernel
theorem dX7_hears_80 : decode cX7_hears 80 = .ok (.getfield 176, 3) := by decide +kernel
theorem dX7_hears_83 : decode cX7_hears 83 = .ok (.iload_n 1, 1) := by decide +kernel
theorem dX7_hears_84 : decode cX7_hears 84 = .ok (.iaload, 1) := by decide +kernel
theorem dX7_hears_85 : decode cX7_hears 85 = .ok (.ireturn, 1) := by decide +kernel
theorem dX7_hears_86 : decode cX7_hears 86 = .ok (.aload_n 0, 1) := by decide +kernel
theorem dX7_hears_87 : decode cX7_hears 87 = .ok (.getfield 56, 3) := by decide +kernel
theorem dX7_hears_90 : decode cX7_hears 90 = .ok (.getfield 179, 3) := by decide +kernel
theorem dX7_hears_93 : decode cX7_hears 93 = .ok (.iload_n 1, 1) := by decide +kernel
theorem dX7_hears_94 : decode cX7_hears 94 = .ok (.iaload, 1) := by decide +kernel
theorem dX7_hears_95 : decode cX7_hears 95 = .ok (.ireturn, 1) := by decide +kernel
theorem dX7_hears_96 : decode cX7_hears 96 = .ok (.aload_n 0, 1) := by decide +kernel
theorem dX7_hears_97 : decode cX7_hears 97 = .ok (.getfield 56, 3) := by decide +kernel
theorem dX7_hears_100 : decode cX7_hears 100 = .ok (.getfield 182, 3) := by decide +kernel
theorem dX7_hears_103 : decode cX7_hears 103 = .ok (.iload_n 1, 1) := by decide +kernel
theorem dX7_hears_104 : decode cX7_hears 104 = .ok (.ishr, 1) := by decide +kernel
theorem dX7_hears_105 : decode cX7_hears 105 = .ok (.iconst 1, 1) := by decide +kernel
theorem dX7_hears_106 : decode cX7_hears 106 = .ok (.iand, 1) := by decide +kernel
theorem dX7_hears_107 : decode cX7_hears 107 = .ok (.ireturn, 1) := by decide +kernel
theorem dX7_hears_108 : decode cX7_hears 108 = .ok (.bipush (-2), 2) := by decide +kernel
theorem dX7_hears_110 : decode cX7_hears 110 = .ok (.ireturn, 1) := by decide +kernel
theorem dX7_proof_0 : decode cX7_proof 0 = .ok (.iload_n 1, 1) := by decide +kernel
theorem dX7_proof_1 : decode cX7_proof 1 = .ok (.aload_n 0, 1) := by decide +kernel
theorem dX7_proof_2 : decode cX7_proof 2 = .ok (.getfield 24, 3) := by decide +kernel
theorem dX7_proof_5 : decode cX7_proof 5 = .ok (.getfield 140, 3) := by decide +kernel
theorem dX7_proof_8 : decode cX7_proof 8 = .ok (.invokestatic 89, 3) := by decide +kernel
theorem dX7_proof_11 : decode cX7_proof 11 = .ok (.ifCond .ne 6, 3) := by decide +kernel
theorem dX7_proof_14 : decode cX7_proof 14 = .ok (.bipush (-2), 2) := by decide +kernel
theorem dX7_proof_16 : decode cX7_proof 16 = .ok (.ireturn, 1) := by decide +kernel
theorem dX7_proof_17 : decode cX7_proof 17 = .ok (.aload_n 0, 1) := by decide +kernel
theorem dX7_proof_18 : decode cX7_proof 18 = .ok (.aload_n 0, 1) := by decide +kernel
theorem dX7_proof_19 : decode cX7_proof 19 = .ok (.getfield 24, 3) := by decide +kernel
theorem dX7_proof_22 : decode cX7_proof 22 = .ok (.invokevirtual 185, 3) := by decide +kernel
theorem dX7_proof_25 : decode cX7_proof 25 = .ok (.aload_n 0, 1) := by decide +kernel
theorem dX7_proof_26 : decode cX7_proof 26 = .ok (.getfield 63, 3) := by decide +kernel
theorem dX7_proof_29 : decode cX7_proof 29 = .ok (.iload_n 1, 1) := by decide +kernel
theorem dX7_proof_30 : decode cX7_proof 30 = .ok (.invokevirtual 189, 3) := by decide +kernel
theorem dX7_proof_33 : decode cX7_proof 33 = .ok (.istore_n 3, 1) := by decide +kernel
theorem dX7_proof_34 : decode cX7_proof 34 = .ok (.iconst 0, 1) := by decide +kernel
theorem dX7_proof_35 : decode cX7_proof 35 = .ok (.aload_n 0, 1) := by decide +kernel
theorem dX7_proof_36 : decode cX7_proof 36 = .ok (.getfield 28, 3) := by decide +kernel
theorem dX7_proof_39 : decode cX7_proof 39 = .ok (.iconst 2, 1) := by decide +kernel
theorem dX7_proof_40 : decode cX7_proof 40 = .ok (.iaload, 1) := by decide +kernel
theorem dX7_proof_41 : decode cX7_proof 41 = .ok (.iload_n 3, 1) := by decide +kernel
theorem dX7_proof_42 : decode cX7_proof 42 = .ok (.invokestatic 192, 3) := by decide +kernel
theorem dX7_proof_45 : decode cX7_proof 45 = .ok (.isub, 1) := by decide +kernel
theorem dX7_proof_46 : decode cX7_proof 46 = .ok (.invokestatic 197, 3) := by decide +kernel
theorem dX7_proof_49 : decode cX7_proof 49 = .ok (.istore 4, 2) := by decide +kernel
theorem dX7_proof_51 : decode cX7_proof 51 = .ok (.iload_n 2, 1) := by decide +kernel
theorem dX7_proof_52 : decode cX7_proof 52 = .ok (.tableswitch 44 0 2 #[28, 30, 41], 28) := by decide +kernel
theorem dX7_proof_80 : decode cX7_proof 80 = .ok (.iload_n 3, 1) := by decide +kernel
theorem dX7_proof_81 : decode cX7_proof 81 = .ok (.ireturn, 1) := by decide +kernel
theorem dX7_proof_82 : decode cX7_proof 82 = .ok (.iload 4, 2) := by decide +kernel
theorem dX7_proof_84 : decode cX7_proof 84 = .ok (.ifCond .ne 7, 3) := by decide +kernel
theorem dX7_proof_87 : decode cX7_proof 87 = .ok (.iconst 1, 1) := by decide +kernel
theorem dX7_proof_88 : decode cX7_proof 88 = .ok (.goto 4, 3) := by decide +kernel
theorem dX7_proof_91 : decode cX7_proof 91 = .ok (.iconst 0, 1) := by decide +kernel
theorem dX7_proof_92 : decode cX7_proof 92 = .ok (.ireturn, 1) := by decide +kernel
theorem dX7_proof_93 : decode cX7_proof 93 = .ok (.iload 4, 2) := by decide +kernel
theorem dX7_proof_95 : decode cX7_proof 95 = .ok (.ireturn, 1) := by decide +kernel
theorem dX7_proof_96 : decode cX7_proof 96 = .ok (.bipush (-2), 2) := by decide +kernel
theorem dX7_proof_98 : decode cX7_proof 98 = .ok (.ireturn, 1) := by decide +kernel
theorem dX7_nights_0 : decode cX7_nights 0 = .ok (.iload_n 1, 1) := by decide +kernel
theorem dX7_nights_1 : decode cX7_nights 1 = .ok (.aload_n 0, 1) := by decide +kernel
theorem dX7_nights_2 : decode cX7_nights 2 = .ok (.getfield 118, 3) := by decide +kernel
theorem dX7_nights_5 : decode cX7_nights 5 = .ok (.invokestatic 89, 3) := by decide +kernel
theorem dX7_nights_8 : decode cX7_nights 8 = .ok (.ifCond .ne 6, 3) := by decide +kernel
theorem dX7_nights_11 : decode cX7_nights 11 = .ok (.bipush (-2), 2) := by decide +kernel
theorem dX7_nights_13 : decode cX7_nights 13 = .ok (.ireturn, 1) := by decide +kernel
theorem dX7_nights_14 : decode cX7_nights 14 = .ok (.aload_n 0, 1) := by decide +kernel
theorem dX7_nights_15 : decode cX7_nights 15 = .ok (.getfield 56, 3) := by decide +kernel
theorem dX7_nights_18 : decode cX7_nights 18 = .ok (.aload_n 0, 1) := by decide +kernel
theorem dX7_nights_19 : decode cX7_nights 19 = .ok (.getfield 17, 3) := by decide +kernel
theorem dX7_nights_22 : decode cX7_nights 22 = .ok (.iload_n 1, 1) := by decide +kernel
theorem dX7_nights_23 : decode cX7_nights 23 = .ok (.aaload, 1) := by decide +kernel
theorem dX7_nights_24 : decode cX7_nights 24 = .ok (.aload_n 0, 1) := by decide +kernel
theorem dX7_nights_25 : decode cX7_nights 25 = .ok (.getfield 24, 3) := by decide +kernel
theorem dX7_nights_28 : decode cX7_nights 28 = .ok (.aload_n 0, 1) := by decide +kernel
theorem dX7_nights_29 : decode cX7_nights 29 = .ok (.getfield 28, 3) := by decide +kernel
theorem dX7_nights_32 : decode cX7_nights 32 = .ok (.invokevirtual 162, 3) := by decide +kernel
theorem dX7_nights_35 : decode cX7_nights 35 = .ok (.iload_n 2, 1) := by decide +kernel
theorem dX7_nights_36 : decode cX7_nights 36 = .ok (.lookupswitch 47 #[(0, 28), (1, 36)], 28) := by decide +kernel
theorem dX7_nights_64 : decode cX7_nights 64 = .ok (.aload_n 0, 1) := by decide +kernel
theorem dX7_nights_65 : decode cX7_nights 65 = .ok (.getfield 56, 3) := by decide +kernel
theorem dX7_nights_68 : decode cX7_nights 68 = .ok (.getfield 202, 3) := by decide +kernel
theorem dX7_nights_71 : decode cX7_nights 71 = .ok (.ireturn, 1) := by decide +kernel
theorem dX7_nights_72 : decode cX7_nights 72 = .ok (.aload_n 0, 1) := by decide +kernel
theorem dX7_nights_73 : decode cX7_nights 73 = .ok (.getfield 56, 3) := by decide +kernel
theorem dX7_nights_76 : decode cX7_nights 76 = .ok (.getfield 182, 3) := by decide +kernel
theorem dX7_nights_79 : decode cX7_nights 79 = .ok (.invokestatic 192, 3) := by decide +kernel
theorem dX7_nights_82 : decode cX7_nights 82 = .ok (.ireturn, 1) := by decide +kernel
theorem dX7_nights_83 : decode cX7_nights 83 = .ok (.bipush (-2), 2) := by decide +kernel
theorem dX7_nights_85 : decode cX7_nights 85 = .ok (.ireturn, 1) := by decide +kernel
theorem dX7_best_0 : decode cX7_best 0 = .ok (.iconst (-1), 1) := by decide +kernel
theorem dX7_best_1 : decode cX7_best 1 = .ok (.istore_n 1, 1) := by decide +kernel
theorem dX7_best_2 : decode cX7_best 2 = .ok (.iconst (-1), 1) := by decide +kernel
theorem dX7_best_3 : decode cX7_best 3 = .ok (.istore_n 2, 1) := by decide +kernel
theorem dX7_best_4 : decode cX7_best 4 = .ok (.iconst 0, 1) := by decide +kernel
theorem dX7_best_5 : decode cX7_best 5 = .ok (.istore_n 3, 1) := by decide +kernel
theorem dX7_best_6 : decode cX7_best 6 = .ok (.iload_n 3, 1) := by decide +kernel
theorem dX7_best_7 : decode cX7_best 7 = .ok (.aload_n 0, 1) := by decide +kernel
theorem dX7_best_8 : decode cX7_best 8 = .ok (.getfield 118, 3) := by decide +kernel
theorem dX7_best_11 : decode cX7_best 11 = .ok (.if_icmp .ge 53, 3) := by decide +kernel
theorem dX7_best_14 : decode cX7_best 14 = .ok (.aload_n 0, 1) := by decide +kernel
theorem dX7_best_15 : decode cX7_best 15 = .ok (.getfield 56, 3) := by decide +kernel
theorem dX7_best_18 : decode cX7_best 18 = .ok (.aload_n 0, 1) := by decide +kernel
theorem dX7_best_19 : decode cX7_best 19 = .ok (.getfield 17, 3) := by decide +kernel
theorem dX7_best_22 : decode cX7_best 22 = .ok (.iload_n 3, 1) := by decide +kernel
theorem dX7_best_23 : decode cX7_best 23 = .ok (.aaload, 1) := by decide +kernel
theorem dX7_best_24 : decode cX7_best 24 = .ok (.aload_n 0, 1) := by decide +kernel
theorem dX7_best_25 : decode cX7_best 25 = .ok (.getfield 24, 3) := by decide +kernel
theorem dX7_best_28 : decode cX7_best 28 = .ok (.aload_n 0, 1) := by decide +kernel
theorem dX7_best_29 : decode cX7_best 29 = .ok (.getfield 28, 3) := by decide +kernel
theorem dX7_best_32 : decode cX7_best 32 = .ok (.invokevirtual 162, 3) := by decide +kernel
theorem dX7_best_35 : decode cX7_best 35 = .ok (.aload_n 0, 1) := by decide +kernel
theorem dX7_best_36 : decode cX7_best 36 = .ok (.getfield 56, 3) := by decide +kernel
theorem dX7_best_39 : decode cX7_best 39 = .ok (.getfield 182, 3) := by decide +kernel
theorem dX7_best_42 : decode cX7_best 42 = .ok (.invokestatic 192, 3) := by decide +kernel
theorem dX7_best_45 : decode cX7_best 45 = .ok (.istore 4, 2) := by decide +kernel
theorem dX7_best_47 : decode cX7_best 47 = .ok (.iload 4, 2) := by decide +kernel
theorem dX7_best_49 : decode cX7_best 49 = .ok (.iload_n 2, 1) := by decide +kernel
theorem dX7_best_50 : decode cX7_best 50 = .ok (.if_icmp .le 8, 3) := by decide +kernel
theorem dX7_best_53 : decode cX7_best 53 = .ok (.iload 4, 2) := by decide +kernel
theorem dX7_best_55 : decode cX7_best 55 = .ok (.istore_n 2, 1) := by decide +kernel
theorem dX7_best_56 : decode cX7_best 56 = .ok (.iload_n 3, 1) := by decide +kernel
theorem dX7_best_57 : decode cX7_best 57 = .ok (.istore_n 1, 1) := by decide +kernel
theorem dX7_best_58 : decode cX7_best 58 = .ok (.iinc 3 1, 3) := by decide +kernel
theorem dX7_best_61 : decode cX7_best 61 = .ok (.goto (-55), 3) := by decide +kernel
theorem dX7_best_64 : decode cX7_best 64 = .ok (.iload_n 1, 1) := by decide +kernel
theorem dX7_best_65 : decode cX7_best 65 = .ok (.ireturn, 1) := by decide +kernel
theorem dX7_byAll_0 : decode cX7_byAll 0 = .ok (.aload_n 0, 1) := by decide +kernel
theorem dX7_byAll_1 : decode cX7_byAll 1 = .ok (.getfield 118, 3) := by decide +kernel
theorem dX7_byAll_4 : decode cX7_byAll 4 = .ok (.ifCond .ne 5, 3) := by decide +kernel
theorem dX7_byAll_7 : decode cX7_byAll 7 = .ok (.iconst (-1), 1) := by decide +kernel
theorem dX7_byAll_8 : decode cX7_byAll 8 = .ok (.ireturn, 1) := by decide +kernel
theorem dX7_byAll_9 : decode cX7_byAll 9 = .ok (.iconst 1, 1) := by decide +kernel
theorem dX7_byAll_10 : decode cX7_byAll 10 = .ok (.aload_n 0, 1) := by decide +kernel
theorem dX7_byAll_11 : decode cX7_byAll 11 = .ok (.getfield 24, 3) := by decide +kernel
theorem dX7_byAll_14 : decode cX7_byAll 14 = .ok (.getfield 140, 3) := by decide +kernel
theorem dX7_byAll_17 : decode cX7_byAll 17 = .ok (.ishl, 1) := by decide +kernel
theorem dX7_byAll_18 : decode cX7_byAll 18 = .ok (.iconst 1, 1) := by decide +kernel
theorem dX7_byAll_19 : decode cX7_byAll 19 = .ok (.isub, 1) := by decide +kernel
theorem dX7_byAll_20 : decode cX7_byAll 20 = .ok (.istore_n 1, 1) := by decide +kernel
theorem dX7_byAll_21 : decode cX7_byAll 21 = .ok (.iconst 0, 1) := by decide +kernel
theorem dX7_byAll_22 : decode cX7_byAll 22 = .ok (.istore_n 2, 1) := by decide +kernel
theorem dX7_byAll_23 : decode cX7_byAll 23 = .ok (.iload_n 2, 1) := by decide +kernel
theorem dX7_byAll_24 : decode cX7_byAll 24 = .ok (.aload_n 0, 1) := by decide +kernel
theorem dX7_byAll_25 : decode cX7_byAll 25 = .ok (.getfield 118, 3) := by decide +kernel
theorem dX7_byAll_28 : decode cX7_byAll 28 = .ok (.if_icmp .ge 17, 3) := by decide +kernel
theorem dX7_byAll_31 : decode cX7_byAll 31 = .ok (.iload_n 1, 1) := by decide +kernel
theorem dX7_byAll_32 : decode cX7_byAll 32 = .ok (.aload_n 0, 1) := by decide +kernel
theorem dX7_byAll_33 : decode cX7_byAll 33 = .ok (.iload_n 2, 1) := by decide +kernel
theorem dX7_byAll_34 : decode cX7_byAll 34 = .ok (.invokevirtual 205, 3) := by decide +kernel
theorem dX7_byAll_37 : decode cX7_byAll 37 = .ok (.iand, 1) := by decide +kernel
theorem dX7_byAll_38 : decode cX7_byAll 38 = .ok (.istore_n 1, 1) := by decide +kernel
theorem dX7_byAll_39 : decode cX7_byAll 39 = .ok (.iinc 2 1, 3) := by decide +kernel
theorem dX7_byAll_42 : decode cX7_byAll 42 = .ok (.goto (-19), 3) := by decide +kernel
theorem dX7_byAll_45 : decode cX7_byAll 45 = .ok (.iconst 0, 1) := by decide +kernel
theorem dX7_byAll_46 : decode cX7_byAll 46 = .ok (.istore_n 2, 1) := by decide +kernel
theorem dX7_byAll_47 : decode cX7_byAll 47 = .ok (.iload_n 2, 1) := by decide +kernel
theorem dX7_byAll_48 : decode cX7_byAll 48 = .ok (.aload_n 0, 1) := by decide +kernel
theorem dX7_byAll_49 : decode cX7_byAll 49 = .ok (.getfield 24, 3) := by decide +kernel
theorem dX7_byAll_52 : decode cX7_byAll 52 = .ok (.getfield 140, 3) := by decide +kernel
theorem dX7_byAll_55 : decode cX7_byAll 55 = .ok (.if_icmp .ge 19, 3) := by decide +kernel
theorem dX7_byAll_58 : decode cX7_byAll 58 = .ok (.iload_n 1, 1) := by decide +kernel
theorem dX7_byAll_59 : decode cX7_byAll 59 = .ok (.iload_n 2, 1) := by decide +kernel
theorem dX7_byAll_60 : decode cX7_byAll 60 = .ok (.ishr, 1) := by decide +kernel
theorem dX7_byAll_61 : decode cX7_byAll 61 = .ok (.iconst 1, 1) := by decide +kernel
theorem dX7_byAll_62 : decode cX7_byAll 62 = .ok (.iand, 1) := by decide +kernel
theorem dX7_byAll_63 : decode cX7_byAll 63 = .ok (.ifCond .eq 5, 3) := by decide +kernel
theorem dX7_byAll_66 : decode cX7_byAll 66 = .ok (.iload_n 2, 1) := by decide +kernel
theorem dX7_byAll_67 : decode cX7_byAll 67 = .ok (.ireturn, 1) := by decide +kernel
theorem dX7_byAll_68 : decode cX7_byAll 68 = .ok (.iinc 2 1, 3) := by decide +kernel
theorem dX7_byAll_71 : decode cX7_byAll 71 = .ok (.goto (-24), 3) := by decide +kernel
theorem dX7_byAll_74 : decode cX7_byAll 74 = .ok (.iconst (-1), 1) := by decide +kernel
theorem dX7_byAll_75 : decode cX7_byAll 75 = .ok (.ireturn, 1) := by decide +kernel
theorem dX7_seenBy_0 : decode cX7_seenBy 0 = .ok (.aload_n 0, 1) := by decide +kernel
theorem dX7_seenBy_1 : decode cX7_seenBy 1 = .ok (.getfield 56, 3) := by decide +kernel
theorem dX7_seenBy_4 : decode cX7_seenBy 4 = .ok (.aload_n 0, 1) := by decide +kernel
theorem dX7_seenBy_5 : decode cX7_seenBy 5 = .ok (.getfield 17, 3) := by decide +kernel
theorem dX7_seenBy_8 : decode cX7_seenBy 8 = .ok (.iload_n 1, 1) := by decide +kernel
theorem dX7_seenBy_9 : decode cX7_seenBy 9 = .ok (.aaload, 1) := by decide +kernel
theorem dX7_seenBy_10 : decode cX7_seenBy 10 = .ok (.aload_n 0, 1) := by decide +kernel
theorem dX7_seenBy_11 : decode cX7_seenBy 11 = .ok (.getfield 24, 3) := by decide +kernel
theorem dX7_seenBy_14 : decode cX7_seenBy 14 = .ok (.aload_n 0, 1) := by decide +kernel
theorem dX7_seenBy_15 : decode cX7_seenBy 15 = .ok (.getfield 28, 3) := by decide +kernel
theorem dX7_seenBy_18 : decode cX7_seenBy 18 = .ok (.invokevirtual 162, 3) := by decide +kernel
theorem dX7_seenBy_21 : decode cX7_seenBy 21 = .ok (.iconst 0, 1) := by decide +kernel
theorem dX7_seenBy_22 : decode cX7_seenBy 22 = .ok (.istore_n 2, 1) := by decide +kernel
theorem dX7_seenBy_23 : decode cX7_seenBy 23 = .ok (.iconst 0, 1) := by decide +kernel
theorem dX7_seenBy_24 : decode cX7_seenBy 24 = .ok (.istore_n 3, 1) := by decide +kernel
theorem dX7_seenBy_25 : decode cX7_seenBy 25 = .ok (.iload_n 3, 1) := by decide +kernel
theorem dX7_seenBy_26 : decode cX7_seenBy 26 = .ok (.aload_n 0, 1) := by decide +kernel
theorem dX7_seenBy_27 : decode cX7_seenBy 27 = .ok (.getfield 24, 3) := by decide +kernel
theorem dX7_seenBy_30 : decode cX7_seenBy 30 = .ok (.getfield 140, 3) := by decide +kernel
theorem dX7_seenBy_33 : decode cX7_seenBy 33 = .ok (.if_icmp .ge 41, 3) := by decide +kernel
theorem dX7_seenBy_36 : decode cX7_seenBy 36 = .ok (.aload_n 0, 1) := by decide +kernel
theorem dX7_seenBy_37 : decode cX7_seenBy 37 = .ok (.getfield 56, 3) := by decide +kernel
theorem dX7_seenBy_40 : decode cX7_seenBy 40 = .ok (.getfield 179, 3) := by decide +kernel
theorem dX7_seenBy_43 : decode cX7_seenBy 43 = .ok (.iload_n 3, 1) := by decide +kernel
theorem dX7_seenBy_44 : decode cX7_seenBy 44 = .ok (.iaload, 1) := by decide +kernel
theorem dX7_seenBy_45 : decode cX7_seenBy 45 = .ok (.iconst 1, 1) := by decide +kernel
theorem dX7_seenBy_46 : decode cX7_seenBy 46 = .ok (.if_icmp .eq 16, 3) := by decide +kernel
theorem dX7_seenBy_49 : decode cX7_seenBy 49 = .ok (.aload_n 0, 1) := by decide +kernel
theorem dX7_seenBy_50 : decode cX7_seenBy 50 = .ok (.getfield 56, 3) := by decide +kernel
theorem dX7_seenBy_53 : decode cX7_seenBy 53 = .ok (.getfield 179, 3) := by decide +kernel
theorem dX7_seenBy_56 : decode cX7_seenBy 56 = .ok (.iload_n 3, 1) := by decide +kernel
theorem dX7_seenBy_57 : decode cX7_seenBy 57 = .ok (.iaload, 1) := by decide +kernel
theorem dX7_seenBy_58 : decode cX7_seenBy 58 = .ok (.iconst 2, 1) := by decide +kernel
theorem dX7_seenBy_59 : decode cX7_seenBy 59 = .ok (.if_icmp .ne 9, 3) := by decide +kernel
theorem dX7_seenBy_62 : decode cX7_seenBy 62 = .ok (.iload_n 2, 1) := by decide +kernel
theorem dX7_seenBy_63 : decode cX7_seenBy 63 = .ok (.iconst 1, 1) := by decide +kernel
theorem dX7_seenBy_64 : decode cX7_seenBy 64 = .ok (.iload_n 3, 1) := by decide +kernel
theorem dX7_seenBy_65 : decode cX7_seenBy 65 = .ok (.ishl, 1) := by decide +kernel
theorem dX7_seenBy_66 : decode cX7_seenBy 66 = .ok (.ior, 1) := by decide +kernel
theorem dX7_seenBy_67 : decode cX7_seenBy 67 = .ok (.istore_n 2, 1) := by decide +kernel
theorem dX7_seenBy_68 : decode cX7_seenBy 68 = .ok (.iinc 3 1, 3) := by decide +kernel
theorem dX7_seenBy_71 : decode cX7_seenBy 71 = .ok (.goto (-46), 3) := by decide +kernel
theorem dX7_seenBy_74 : decode cX7_seenBy 74 = .ok (.iload_n 2, 1) := by decide +kernel
theorem dX7_seenBy_75 : decode cX7_seenBy 75 = .ok (.ireturn, 1) := by decide +kernel
theorem dX7_quiet_0 : decode cX7_quiet 0 = .ok (.iload_n 1, 1) := by decide +kernel
theorem dX7_quiet_1 : decode cX7_quiet 1 = .ok (.bipush 10, 2) := by decide +kernel
theorem dX7_quiet_3 : decode cX7_quiet 3 = .ok (.invokestatic 89, 3) := by decide +kernel
theorem dX7_quiet_6 : decode cX7_quiet 6 = .ok (.ifCond .eq 25, 3) := by decide +kernel
theorem dX7_quiet_9 : decode cX7_quiet 9 = .ok (.iload_n 2, 1) := by decide +kernel
theorem dX7_quiet_10 : decode cX7_quiet 10 = .ok (.iconst 4, 1) := by decide +kernel
theorem dX7_quiet_11 : decode cX7_quiet 11 = .ok (.invokestatic 89, 3) := by decide +kernel
theorem dX7_quiet_14 : decode cX7_quiet 14 = .ok (.ifCond .eq 17, 3) := by decide +kernel
theorem dX7_quiet_17 : decode cX7_quiet 17 = .ok (.iload_n 3, 1) := by decide +kernel
theorem dX7_quiet_18 : decode cX7_quiet 18 = .ok (.iconst (-1), 1) := by decide +kernel
theorem dX7_quiet_19 : decode cX7_quiet 19 = .ok (.if_icmp .eq 15, 3) := by decide +kernel
theorem dX7_quiet_22 : decode cX7_quiet 22 = .ok (.iload_n 3, 1) := by decide +kernel
theorem dX7_quiet_23 : decode cX7_quiet 23 = .ok (.bipush 50, 2) := by decide +kernel
theorem dX7_quiet_25 : decode cX7_quiet 25 = .ok (.invokestatic 89, 3) := by decide +kernel
theorem dX7_quiet_28 : decode cX7_quiet 28 = .ok (.ifCond .ne 6, 3) := by decide +kernel
theorem dX7_quiet_31 : decode cX7_quiet 31 = .ok (.bipush (-2), 2) := by decide +kernel
theorem dX7_quiet_33 : decode cX7_quiet 33 = .ok (.ireturn, 1) := by decide +kernel
theorem dX7_quiet_34 : decode cX7_quiet 34 = .ok (.aload_n 0, 1) := by decide +kernel
theorem dX7_quiet_35 : decode cX7_quiet 35 = .ok (.getfield 24, 3) := by decide +kernel
theorem dX7_quiet_38 : decode cX7_quiet 38 = .ok (.getfield 140, 3) := by decide +kernel
theorem dX7_quiet_41 : decode cX7_quiet 41 = .ok (.bipush 8, 2) := by decide +kernel
theorem dX7_quiet_43 : decode cX7_quiet 43 = .ok (.if_icmp .lt 6, 3) := by decide +kernel
theorem dX7_quiet_46 : decode cX7_quiet 46 = .ok (.bipush (-3), 2) := by decide +kernel
theorem dX7_quiet_48 : decode cX7_quiet 48 = .ok (.ireturn, 1) := by decide +kernel
theorem dX7_quiet_49 : decode cX7_quiet 49 = .ok (.iconst 0, 1) := by decide +kernel
theorem dX7_quiet_50 : decode cX7_quiet 50 = .ok (.istore 4, 2) := by decide +kernel
theorem dX7_quiet_52 : decode cX7_quiet 52 = .ok (.iload 4, 2) := by decide +kernel
theorem dX7_quiet_54 : decode cX7_quiet 54 = .ok (.aload_n 0, 1) := by decide +kernel
theorem dX7_quiet_55 : decode cX7_quiet 55 = .ok (.getfield 118, 3) := by decide +kernel
theorem dX7_quiet_58 : decode cX7_quiet 58 = .ok (.if_icmp .ge 40, 3) := by decide +kernel
theorem dX7_quiet_61 : decode cX7_quiet 61 = .ok (.aload_n 0, 1) := by decide +kernel
theorem dX7_quiet_62 : decode cX7_quiet 62 = .ok (.getfield 67, 3) := by decide +kernel
theorem dX7_quiet_65 : decode cX7_quiet 65 = .ok (.iload 4, 2) := by decide +kernel
theorem dX7_quiet_67 : decode cX7_quiet 67 = .ok (.aload_n 0, 1) := by decide +kernel
theorem dX7_quiet_68 : decode cX7_quiet 68 = .ok (.getfield 56, 3) := by decide +kernel
theorem dX7_quiet_71 : decode cX7_quiet 71 = .ok (.aload_n 0, 1) := by decide +kernel
theorem dX7_quiet_72 : decode cX7_quiet 72 = .ok (.getfield 17, 3) := by decide +kernel
theorem dX7_quiet_75 : decode cX7_quiet 75 = .ok (.iload 4, 2) := by decide +kernel
theorem dX7_quiet_77 : decode cX7_quiet 77 = .ok (.aaload, 1) := by decide +kernel
theorem dX7_quiet_78 : decode cX7_quiet 78 = .ok (.aload_n 0, 1) := by decide +kernel
theorem dX7_quiet_79 : decode cX7_quiet 79 = .ok (.getfield 24, 3) := by decide +kernel
theorem dX7_quiet_82 : decode cX7_quiet 82 = .ok (.iload_n 1, 1) := by decide +kernel
theorem dX7_quiet_83 : decode cX7_quiet 83 = .ok (.iload_n 2, 1) := by decide +kernel
theorem dX7_quiet_84 : decode cX7_quiet 84 = .ok (.aload_n 0, 1) := by decide +kernel
theorem dX7_quiet_85 : decode cX7_quiet 85 = .ok (.getfield 28, 3) := by decide +kernel
theorem dX7_quiet_88 : decode cX7_quiet 88 = .ok (.invokevirtual 208, 3) := by decide +kernel
theorem dX7_quiet_91 : decode cX7_quiet 91 = .ok (.lastore, 1) := by decide +kernel
theorem dX7_quiet_92 : decode cX7_quiet 92 = .ok (.iinc 4 1, 3) := by decide +kernel
theorem dX7_quiet_95 : decode cX7_quiet 95 = .ok (.goto (-43), 3) := by decide +kernel
theorem dX7_quiet_98 : decode cX7_quiet 98 = .ok (.iconst 0, 1) := by decide +kernel
theorem dX7_quiet_99 : decode cX7_quiet 99 = .ok (.istore 4, 2) := by decide +kernel
theorem dX7_quiet_101 : decode cX7_quiet 101 = .ok (.iconst 0, 1) := by decide +kernel
theorem dX7_quiet_102 : decode cX7_quiet 102 = .ok (.istore 5, 2) := by decide +kernel
theorem dX7_quiet_104 : decode cX7_quiet 104 = .ok (.iload 5, 2) := by decide +kernel
theorem dX7_quiet_106 : decode cX7_quiet 106 = .ok (.bipush 50, 2) := by decide +kernel
theorem dX7_quiet_108 : decode cX7_quiet 108 = .ok (.if_icmp .ge 36, 3) := by decide +kernel
theorem dX7_quiet_111 : decode cX7_quiet 111 = .ok (.aload_n 0, 1) := by decide +kernel
theorem dX7_quiet_112 : decode cX7_quiet 112 = .ok (.iload 5, 2) := by decide +kernel
theorem dX7_quiet_114 : decode cX7_quiet 114 = .ok (.invokevirtual 211, 3) := by decide +kernel
theorem dX7_quiet_117 : decode cX7_quiet 117 = .ok (.aload_n 0, 1) := by decide +kernel
theorem dX7_quiet_118 : decode cX7_quiet 118 = .ok (.getfield 28, 3) := by decide +kernel
theorem dX7_quiet_121 : decode cX7_quiet 121 = .ok (.iconst 2, 1) := by decide +kernel
theorem dX7_quiet_122 : decode cX7_quiet 122 = .ok (.iaload, 1) := by decide +kernel
theorem dX7_quiet_123 : decode cX7_quiet 123 = .ok (.if_icmp .ge 15, 3) := by decide +kernel
theorem dX7_quiet_126 : decode cX7_quiet 126 = .ok (.iload 4, 2) := by decide +kernel
theorem dX7_quiet_128 : decode cX7_quiet 128 = .ok (.iload_n 3, 1) := by decide +kernel
theorem dX7_quiet_129 : decode cX7_quiet 129 = .ok (.if_icmp .ne 6, 3) := by decide +kernel
theorem dX7_quiet_132 : decode cX7_quiet 132 = .ok (.iload 5, 2) := by decide +kernel
theorem dX7_quiet_134 : decode cX7_quiet 134 = .ok (.ireturn, 1) := by decide +kernel
theorem dX7_quiet_135 : decode cX7_quiet 135 = .ok (.iinc 4 1, 3) := by decide +kernel
theorem dX7_quiet_138 : decode cX7_quiet 138 = .ok (.iinc 5 1, 3) := by decide +kernel
theorem dX7_quiet_141 : decode cX7_quiet 141 = .ok (.goto (-37), 3) := by decide +kernel
theorem dX7_quiet_144 : decode cX7_quiet 144 = .ok (.iload_n 3, 1) := by decide +kernel
theorem dX7_quiet_145 : decode cX7_quiet 145 = .ok (.iconst (-1), 1) := by decide +kernel
theorem dX7_quiet_146 : decode cX7_quiet 146 = .ok (.if_icmp .ne 8, 3) := by decide +kernel
theorem dX7_quiet_149 : decode cX7_quiet 149 = .ok (.iload 4, 2) := by decide +kernel
theorem dX7_quiet_151 : decode cX7_quiet 151 = .ok (.goto 4, 3) := by decide +kernel
theorem dX7_quiet_154 : decode cX7_quiet 154 = .ok (.iconst (-1), 1) := by decide +kernel
theorem dX7_quiet_155 : decode cX7_quiet 155 = .ok (.ireturn, 1) := by decide +kernel
theorem dX7_testifyingIn_0 : decode cX7_testifyingIn 0 = .ok (.iconst 0, 1) := by decide +kernel
theorem dX7_testifyingIn_1 : decode cX7_testifyingIn 1 = .ok (.istore_n 2, 1) := by decide +kernel
theorem dX7_testifyingIn_2 : decode cX7_testifyingIn 2 = .ok (.iconst 0, 1) := by decide +kernel
theorem dX7_testifyingIn_3 : decode cX7_testifyingIn 3 = .ok (.istore_n 3, 1) := by decide +kernel
theorem dX7_testifyingIn_4 : decode cX7_testifyingIn 4 = .ok (.iload_n 3, 1) := by decide +kernel
theorem dX7_testifyingIn_5 : decode cX7_testifyingIn 5 = .ok (.aload_n 0, 1) := by decide +kernel
theorem dX7_testifyingIn_6 : decode cX7_testifyingIn 6 = .ok (.getfield 118, 3) := by decide +kernel
theorem dX7_testifyingIn_9 : decode cX7_testifyingIn 9 = .ok (.if_icmp .ge 23, 3) := by decide +kernel
theorem dX7_testifyingIn_12 : decode cX7_testifyingIn 12 = .ok (.iload_n 2, 1) := by decide +kernel
theorem dX7_testifyingIn_13 : decode cX7_testifyingIn 13 = .ok (.aload_n 0, 1) := by decide +kernel
theorem dX7_testifyingIn_14 : decode cX7_testifyingIn 14 = .ok (.getfield 67, 3) := by decide +kernel
theorem dX7_testifyingIn_17 : decode cX7_testifyingIn 17 = .ok (.iload_n 3, 1) := by decide +kernel
theorem dX7_testifyingIn_18 : decode cX7_testifyingIn 18 = .ok (.laload, 1) := by decide +kernel
theorem dX7_testifyingIn_19 : decode cX7_testifyingIn 19 = .ok (.iload_n 1, 1) := by decide +kernel
theorem dX7_testifyingIn_20 : decode cX7_testifyingIn 20 = .ok (.lshr, 1) := by decide +kernel
theorem dX7_testifyingIn_21 : decode cX7_testifyingIn 21 = .ok (.lconst 1, 1) := by decide +kernel
theorem dX7_testifyingIn_22 : decode cX7_testifyingIn 22 = .ok (.land, 1) := by decide +kernel
theorem dX7_testifyingIn_23 : decode cX7_testifyingIn 23 = .ok (.l2i, 1) := by decide +kernel
theorem dX7_testifyingIn_24 : decode cX7_testifyingIn 24 = .ok (.iadd, 1) := by decide +kernel
theorem dX7_testifyingIn_25 : decode cX7_testifyingIn 25 = .ok (.istore_n 2, 1) := by decide +kernel
theorem dX7_testifyingIn_26 : decode cX7_testifyingIn 26 = .ok (.iinc 3 1, 3) := by decide +kernel
theorem dX7_testifyingIn_29 : decode cX7_testifyingIn 29 = .ok (.goto (-25), 3) := by decide +kernel
theorem dX7_testifyingIn_32 : decode cX7_testifyingIn 32 = .ok (.iload_n 2, 1) := by decide +kernel
theorem dX7_testifyingIn_33 : decode cX7_testifyingIn 33 = .ok (.ireturn, 1) := by decide +kernel
theorem dX7_move_0 : decode cX7_move 0 = .ok (.iload_n 1, 1) := by decide +kernel
theorem dX7_move_1 : decode cX7_move 1 = .ok (.aload_n 0, 1) := by decide +kernel
theorem dX7_move_2 : decode cX7_move 2 = .ok (.getfield 118, 3) := by decide +kernel
theorem dX7_move_5 : decode cX7_move 5 = .ok (.invokestatic 89, 3) := by decide +kernel
theorem dX7_move_8 : decode cX7_move 8 = .ok (.ifCond .eq 11, 3) := by decide +kernel
theorem dX7_move_11 : decode cX7_move 11 = .ok (.iload_n 2, 1) := by decide +kernel
theorem dX7_move_12 : decode cX7_move 12 = .ok (.iconst 2, 1) := by decide +kernel
theorem dX7_move_13 : decode cX7_move 13 = .ok (.invokestatic 89, 3) := by decide +kernel
theorem dX7_move_16 : decode cX7_move 16 = .ok (.ifCond .ne 6, 3) := by decide +kernel
theorem dX7_move_19 : decode cX7_move 19 = .ok (.bipush (-2), 2) := by decide +kernel
theorem dX7_move_21 : decode cX7_move 21 = .ok (.ireturn, 1) := by decide +kernel
theorem dX7_move_22 : decode cX7_move 22 = .ok (.aload_n 0, 1) := by decide +kernel
theorem dX7_move_23 : decode cX7_move 23 = .ok (.aload_n 0, 1) := by decide +kernel
theorem dX7_move_24 : decode cX7_move 24 = .ok (.getfield 24, 3) := by decide +kernel
theorem dX7_move_27 : decode cX7_move 27 = .ok (.invokevirtual 185, 3) := by decide +kernel
theorem dX7_move_30 : decode cX7_move 30 = .ok (.aload_n 0, 1) := by decide +kernel
theorem dX7_move_31 : decode cX7_move 31 = .ok (.getfield 46, 3) := by decide +kernel
theorem dX7_move_34 : decode cX7_move 34 = .ok (.aload_n 0, 1) := by decide +kernel
theorem dX7_move_35 : decode cX7_move 35 = .ok (.getfield 17, 3) := by decide +kernel
theorem dX7_move_38 : decode cX7_move 38 = .ok (.iload_n 1, 1) := by decide +kernel
theorem dX7_move_39 : decode cX7_move 39 = .ok (.aaload, 1) := by decide +kernel
theorem dX7_move_40 : decode cX7_move 40 = .ok (.invokevirtual 214, 3) := by decide +kernel
theorem dX7_move_43 : decode cX7_move 43 = .ok (.iconst 0, 1) := by decide +kernel
theorem dX7_move_44 : decode cX7_move 44 = .ok (.istore_n 3, 1) := by decide +kernel
theorem dX7_move_45 : decode cX7_move 45 = .ok (.iconst (-1), 1) := by decide +kernel
theorem dX7_move_46 : decode cX7_move 46 = .ok (.istore 4, 2) := by decide +kernel
theorem dX7_move_48 : decode cX7_move 48 = .ok (.iconst 0, 1) := by decide +kernel
theorem dX7_move_49 : decode cX7_move 49 = .ok (.istore 5, 2) := by decide +kernel
theorem dX7_move_51 : decode cX7_move 51 = .ok (.iload 5, 2) := by decide +kernel
theorem dX7_move_53 : decode cX7_move 53 = .ok (.bipush 10, 2) := by decide +kernel
theorem dX7_move_55 : decode cX7_move 55 = .ok (.if_icmp .ge 77, 3) := by decide +kernel
theorem dX7_move_58 : decode cX7_move 58 = .ok (.aload_n 0, 1) := by decide +kernel
theorem dX7_move_59 : decode cX7_move 59 = .ok (.getfield 46, 3) := by decide +kernel
theorem dX7_move_62 : decode cX7_move 62 = .ok (.iload 5, 2) := by decide +kernel
theorem dX7_move_64 : decode cX7_move 64 = .ok (.putfield 124, 3) := by decide +kernel
theorem dX7_move_67 : decode cX7_move 67 = .ok (.aload_n 0, 1) := by decide +kernel
theorem dX7_move_68 : decode cX7_move 68 = .ok (.getfield 56, 3) := by decide +kernel
theorem dX7_move_71 : decode cX7_move 71 = .ok (.aload_n 0, 1) := by decide +kernel
theorem dX7_move_72 : decode cX7_move 72 = .ok (.getfield 46, 3) := by decide +kernel
theorem dX7_move_75 : decode cX7_move 75 = .ok (.aload_n 0, 1) := by decide +kernel
theorem dX7_move_76 : decode cX7_move 76 = .ok (.getfield 24, 3) := by decide +kernel
theorem dX7_move_79 : decode cX7_move 79 = .ok (.aload_n 0, 1) := by decide +kernel
theorem dX7_move_80 : decode cX7_move 80 = .ok (.getfield 28, 3) := by decide +kernel
theorem dX7_move_83 : decode cX7_move 83 = .ok (.invokevirtual 162, 3) := by decide +kernel
theorem dX7_move_86 : decode cX7_move 86 = .ok (.aload_n 0, 1) := by decide +kernel
theorem dX7_move_87 : decode cX7_move 87 = .ok (.getfield 63, 3) := by decide +kernel
theorem dX7_move_90 : decode cX7_move 90 = .ok (.getfield 218, 3) := by decide +kernel
theorem dX7_move_93 : decode cX7_move 93 = .ok (.iload_n 1, 1) := by decide +kernel
theorem dX7_move_94 : decode cX7_move 94 = .ok (.aload_n 0, 1) := by decide +kernel
theorem dX7_move_95 : decode cX7_move 95 = .ok (.getfield 56, 3) := by decide +kernel
theorem dX7_move_98 : decode cX7_move 98 = .ok (.getfield 182, 3) := by decide +kernel
theorem dX7_move_101 : decode cX7_move 101 = .ok (.iastore, 1) := by decide +kernel
theorem dX7_move_102 : decode cX7_move 102 = .ok (.aload_n 0, 1) := by decide +kernel
theorem dX7_move_103 : decode cX7_move 103 = .ok (.aload_n 0, 1) := by decide +kernel
theorem dX7_move_104 : decode cX7_move 104 = .ok (.getfield 24, 3) := by decide +kernel
theorem dX7_move_107 : decode cX7_move 107 = .ok (.invokevirtual 221, 3) := by decide +kernel
theorem dX7_move_110 : decode cX7_move 110 = .ok (.istore 6, 2) := by decide +kernel
theorem dX7_move_112 : decode cX7_move 112 = .ok (.iload 6, 2) := by decide +kernel
theorem dX7_move_114 : decode cX7_move 114 = .ok (.iload 4, 2) := by decide +kernel
theorem dX7_move_116 : decode cX7_move 116 = .ok (.if_icmp .le 10, 3) := by decide +kernel
theorem dX7_move_119 : decode cX7_move 119 = .ok (.iload 6, 2) := by decide +kernel
theorem dX7_move_121 : decode cX7_move 121 = .ok (.istore 4, 2) := by decide +kernel
theorem dX7_move_123 : decode cX7_move 123 = .ok (.iload 5, 2) := by decide +kernel
theorem dX7_move_125 : decode cX7_move 125 = .ok (.istore_n 3, 1) := by decide +kernel
theorem dX7_move_126 : decode cX7_move 126 = .ok (.iinc 5 1, 3) := by decide +kernel
theorem dX7_move_129 : decode cX7_move 129 = .ok (.goto (-78), 3) := by decide +kernel
theorem dX7_move_132 : decode cX7_move 132 = .ok (.iload_n 2, 1) := by decide +kernel
theorem dX7_move_133 : decode cX7_move 133 = .ok (.ifCond .ne 7, 3) := by decide +kernel
theorem dX7_move_136 : decode cX7_move 136 = .ok (.iload_n 3, 1) := by decide +kernel
theorem dX7_move_137 : decode cX7_move 137 = .ok (.goto 5, 3) := by decide +kernel
theorem dX7_move_140 : decode cX7_move 140 = .ok (.iload 4, 2) := by decide +kernel
theorem dX7_move_142 : decode cX7_move 142 = .ok (.ireturn, 1) := by decide +kernel
theorem dX7_need_0 : decode cX7_need 0 = .ok (.iload_n 1, 1) := by decide +kernel
theorem dX7_need_1 : decode cX7_need 1 = .ok (.aload_n 0, 1) := by decide +kernel
theorem dX7_need_2 : decode cX7_need 2 = .ok (.getfield 24, 3) := by decide +kernel
theorem dX7_need_5 : decode cX7_need 5 = .ok (.getfield 140, 3) := by decide +kernel
theorem dX7_need_8 : decode cX7_need 8 = .ok (.invokestatic 89, 3) := by decide +kernel
theorem dX7_need_11 : decode cX7_need 11 = .ok (.ifCond .eq 16, 3) := by decide +kernel
theorem dX7_need_14 : decode cX7_need 14 = .ok (.iload_n 2, 1) := by decide +kernel
theorem dX7_need_15 : decode cX7_need 15 = .ok (.iconst (-1), 1) := by decide +kernel
theorem dX7_need_16 : decode cX7_need 16 = .ok (.if_icmp .eq 14, 3) := by decide +kernel
theorem dX7_need_19 : decode cX7_need 19 = .ok (.iload_n 2, 1) := by decide +kernel
theorem dX7_need_20 : decode cX7_need 20 = .ok (.iconst 2, 1) := by decide +kernel
theorem dX7_need_21 : decode cX7_need 21 = .ok (.invokestatic 89, 3) := by decide +kernel
theorem dX7_need_24 : decode cX7_need 24 = .ok (.ifCond .ne 6, 3) := by decide +kernel
theorem dX7_need_27 : decode cX7_need 27 = .ok (.bipush (-2), 2) := by decide +kernel
theorem dX7_need_29 : decode cX7_need 29 = .ok (.ireturn, 1) := by decide +kernel
theorem dX7_need_30 : decode cX7_need 30 = .ok (.aload_n 0, 1) := by decide +kernel
theorem dX7_need_31 : decode cX7_need 31 = .ok (.aload_n 0, 1) := by decide +kernel
theorem dX7_need_32 : decode cX7_need 32 = .ok (.getfield 24, 3) := by decide +kernel
theorem dX7_need_35 : decode cX7_need 35 = .ok (.invokevirtual 185, 3) := by decide +kernel
theorem dX7_need_38 : decode cX7_need 38 = .ok (.aload_n 0, 1) := by decide +kernel
theorem dX7_need_39 : decode cX7_need 39 = .ok (.getfield 63, 3) := by decide +kernel
theorem dX7_need_42 : decode cX7_need 42 = .ok (.iload_n 1, 1) := by decide +kernel
theorem dX7_need_43 : decode cX7_need 43 = .ok (.invokevirtual 189, 3) := by decide +kernel
theorem dX7_need_46 : decode cX7_need 46 = .ok (.istore_n 3, 1) := by decide +kernel
theorem dX7_need_47 : decode cX7_need 47 = .ok (.iconst 0, 1) := by decide +kernel
theorem dX7_need_48 : decode cX7_need 48 = .ok (.iload_n 3, 1) := by decide +kernel
theorem dX7_need_49 : decode cX7_need 49 = .ok (.invokestatic 192, 3) := by decide +kernel
theorem dX7_need_52 : decode cX7_need 52 = .ok (.aload_n 0, 1) := by decide +kernel
theorem dX7_need_53 : decode cX7_need 53 = .ok (.getfield 28, 3) := by decide +kernel
theorem dX7_need_56 : decode cX7_need 56 = .ok (.iconst 2, 1) := by decide +kernel
theorem dX7_need_57 : decode cX7_need 57 = .ok (.iaload, 1) := by decide +kernel
theorem dX7_need_58 : decode cX7_need 58 = .ok (.isub, 1) := by decide +kernel
theorem dX7_need_59 : decode cX7_need 59 = .ok (.iconst 1, 1) := by decide +kernel
theorem dX7_need_60 : decode cX7_need 60 = .ok (.iadd, 1) := by decide +kernel
theorem dX7_need_61 : decode cX7_need 61 = .ok (.invokestatic 197, 3) := by decide +kernel
theorem dX7_need_64 : decode cX7_need 64 = .ok (.istore 4, 2) := by decide +kernel
theorem dX7_need_66 : decode cX7_need 66 = .ok (.iload 4, 2) := by decide +kernel
theorem dX7_need_68 : decode cX7_need 68 = .ok (.iconst 2, 1) := by decide +kernel
theorem dX7_need_69 : decode cX7_need 69 = .ok (.if_icmp .le 5, 3) := by decide +kernel
theorem dX7_need_72 : decode cX7_need 72 = .ok (.iconst (-1), 1) := by decide +kernel
theorem dX7_need_73 : decode cX7_need 73 = .ok (.ireturn, 1) := by decide +kernel
theorem dX7_need_74 : decode cX7_need 74 = .ok (.iload_n 2, 1) := by decide +kernel
theorem dX7_need_75 : decode cX7_need 75 = .ok (.iconst (-1), 1) := by decide +kernel
theorem dX7_need_76 : decode cX7_need 76 = .ok (.if_icmp .ne 6, 3) := by decide +kernel
theorem dX7_need_79 : decode cX7_need 79 = .ok (.iload 4, 2) := by decide +kernel
theorem dX7_need_81 : decode cX7_need 81 = .ok (.ireturn, 1) := by decide +kernel
theorem dX7_need_82 : decode cX7_need 82 = .ok (.iload_n 2, 1) := by decide +kernel
theorem dX7_need_83 : decode cX7_need 83 = .ok (.iload 4, 2) := by decide +kernel
theorem dX7_need_85 : decode cX7_need 85 = .ok (.if_icmp .ge 11, 3) := by decide +kernel
theorem dX7_need_88 : decode cX7_need 88 = .ok (.iload_n 3, 1) := by decide +kernel
theorem dX7_need_89 : decode cX7_need 89 = .ok (.iload_n 2, 1) := by decide +kernel
theorem dX7_need_90 : decode cX7_need 90 = .ok (.invokestatic 224, 3) := by decide +kernel
theorem dX7_need_93 : decode cX7_need 93 = .ok (.goto 4, 3) := by decide +kernel
theorem dX7_need_96 : decode cX7_need 96 = .ok (.iconst (-1), 1) := by decide +kernel
theorem dX7_need_97 : decode cX7_need 97 = .ok (.ireturn, 1) := by decide +kernel
theorem dX7_bitOf_0 : decode cX7_bitOf 0 = .ok (.iload_n 1, 1) := by decide +kernel
theorem dX7_bitOf_1 : decode cX7_bitOf 1 = .ok (.istore_n 2, 1) := by decide +kernel
theorem dX7_bitOf_2 : decode cX7_bitOf 2 = .ok (.iconst 0, 1) := by decide +kernel
theorem dX7_bitOf_3 : decode cX7_bitOf 3 = .ok (.istore_n 3, 1) := by decide +kernel
theorem dX7_bitOf_4 : decode cX7_bitOf 4 = .ok (.iload_n 3, 1) := by decide +kernel
theorem dX7_bitOf_5 : decode cX7_bitOf 5 = .ok (.bipush 8, 2) := by decide +kernel
theorem dX7_bitOf_7 : decode cX7_bitOf 7 = .ok (.if_icmp .ge 26, 3) := by decide +kernel
theorem dX7_bitOf_10 : decode cX7_bitOf 10 = .ok (.iload_n 0, 1) := by decide +kernel
theorem dX7_bitOf_11 : decode cX7_bitOf 11 = .ok (.iload_n 3, 1) := by decide +kernel
theorem dX7_bitOf_12 : decode cX7_bitOf 12 = .ok (.ishr, 1) := by decide +kernel
theorem dX7_bitOf_13 : decode cX7_bitOf 13 = .ok (.iconst 1, 1) := by decide +kernel
theorem dX7_bitOf_14 : decode cX7_bitOf 14 = .ok (.iand, 1) := by decide +kernel
theorem dX7_bitOf_15 : decode cX7_bitOf 15 = .ok (.ifCond .eq 12, 3) := by decide +kernel
theorem dX7_bitOf_18 : decode cX7_bitOf 18 = .ok (.iload_n 2, 1) := by decide +kernel
theorem dX7_bitOf_19 : decode cX7_bitOf 19 = .ok (.ifCond .ne 5, 3) := by decide +kernel
theorem dX7_bitOf_22 : decode cX7_bitOf 22 = .ok (.iload_n 3, 1) := by decide +kernel
theorem dX7_bitOf_23 : decode cX7_bitOf 23 = .ok (.ireturn, 1) := by decide +kernel
theorem dX7_bitOf_24 : decode cX7_bitOf 24 = .ok (.iinc 2 (-1), 3) := by decide +kernel
theorem dX7_bitOf_27 : decode cX7_bitOf 27 = .ok (.iinc 3 1, 3) := by decide +kernel
theorem dX7_bitOf_30 : decode cX7_bitOf 30 = .ok (.goto (-26), 3) := by decide +kernel
theorem dX7_bitOf_33 : decode cX7_bitOf 33 = .ok (.iconst (-1), 1) := by decide +kernel
theorem dX7_bitOf_34 : decode cX7_bitOf 34 = .ok (.ireturn, 1) := by decide +kernel
theorem dX7_feed_0 : decode cX7_feed 0 = .ok (.iload_n 1, 1) := by decide +kernel
theorem dX7_feed_1 : decode cX7_feed 1 = .ok (.aload_n 0, 1) := by decide +kernel
theorem dX7_feed_2 : decode cX7_feed 2 = .ok (.getfield 118, 3) := by decide +kernel
theorem dX7_feed_5 : decode cX7_feed 5 = .ok (.invokestatic 89, 3) := by decide +kernel
theorem dX7_feed_8 : decode cX7_feed 8 = .ok (.ifCond .eq 11, 3) := by decide +kernel
theorem dX7_feed_11 : decode cX7_feed 11 = .ok (.iload_n 2, 1) := by decide +kernel
theorem dX7_feed_12 : decode cX7_feed 12 = .ok (.iconst 2, 1) := by decide +kernel
theorem dX7_feed_13 : decode cX7_feed 13 = .ok (.invokestatic 89, 3) := by decide +kernel
theorem dX7_feed_16 : decode cX7_feed 16 = .ok (.ifCond .ne 6, 3) := by decide +kernel
theorem dX7_feed_19 : decode cX7_feed 19 = .ok (.bipush (-2), 2) := by decide +kernel
theorem dX7_feed_21 : decode cX7_feed 21 = .ok (.ireturn, 1) := by decide +kernel
theorem dX7_feed_22 : decode cX7_feed 22 = .ok (.aload_n 0, 1) := by decide +kernel
theorem dX7_feed_23 : decode cX7_feed 23 = .ok (.getfield 46, 3) := by decide +kernel
theorem dX7_feed_26 : decode cX7_feed 26 = .ok (.aload_n 0, 1) := by decide +kernel
theorem dX7_feed_27 : decode cX7_feed 27 = .ok (.getfield 17, 3) := by decide +kernel
theorem dX7_feed_30 : decode cX7_feed 30 = .ok (.iload_n 1, 1) := by decide +kernel
theorem dX7_feed_31 : decode cX7_feed 31 = .ok (.aaload, 1) := by decide +kernel
theorem dX7_feed_32 : decode cX7_feed 32 = .ok (.invokevirtual 214, 3) := by decide +kernel
theorem dX7_feed_35 : decode cX7_feed 35 = .ok (.iconst 0, 1) := by decide +kernel
theorem dX7_feed_36 : decode cX7_feed 36 = .ok (.istore_n 3, 1) := by decide +kernel
theorem dX7_feed_37 : decode cX7_feed 37 = .ok (.iconst (-1), 1) := by decide +kernel
theorem dX7_feed_38 : decode cX7_feed 38 = .ok (.istore 4, 2) := by decide +kernel
theorem dX7_feed_40 : decode cX7_feed 40 = .ok (.iconst 0, 1) := by decide +kernel
theorem dX7_feed_41 : decode cX7_feed 41 = .ok (.istore 5, 2) := by decide +kernel
theorem dX7_feed_43 : decode cX7_feed 43 = .ok (.iload 5, 2) := by decide +kernel
theorem dX7_feed_45 : decode cX7_feed 45 = .ok (.iconst 4, 1) := by decide +kernel
theorem dX7_feed_46 : decode cX7_feed 46 = .ok (.if_icmp .ge 63, 3) := by decide +kernel
theorem dX7_feed_49 : decode cX7_feed 49 = .ok (.aload_n 0, 1) := by decide +kernel
theorem dX7_feed_50 : decode cX7_feed 50 = .ok (.getfield 46, 3) := by decide +kernel
theorem dX7_feed_53 : decode cX7_feed 53 = .ok (.iload 5, 2) := by decide +kernel
theorem dX7_feed_55 : decode cX7_feed 55 = .ok (.putfield 130, 3) := by decide +kernel
theorem dX7_feed_58 : decode cX7_feed 58 = .ok (.aload_n 0, 1) := by decide +kernel
theorem dX7_feed_59 : decode cX7_feed 59 = .ok (.getfield 56, 3) := by decide +kernel
theorem dX7_feed_62 : decode cX7_feed 62 = .ok (.aload_n 0, 1) := by decide +kernel
theorem dX7_feed_63 : decode cX7_feed 63 = .ok (.getfield 46, 3) := by decide +kernel
theorem dX7_feed_66 : decode cX7_feed 66 = .ok (.aload_n 0, 1) := by decide +kernel
theorem dX7_feed_67 : decode cX7_feed 67 = .ok (.getfield 24, 3) := by decide +kernel
theorem dX7_feed_70 : decode cX7_feed 70 = .ok (.aload_n 0, 1) := by decide +kernel
theorem dX7_feed_71 : decode cX7_feed 71 = .ok (.getfield 28, 3) := by decide +kernel
theorem dX7_feed_74 : decode cX7_feed 74 = .ok (.invokevirtual 162, 3) := by decide +kernel
theorem dX7_feed_77 : decode cX7_feed 77 = .ok (.aload_n 0, 1) := by decide +kernel
theorem dX7_feed_78 : decode cX7_feed 78 = .ok (.getfield 56, 3) := by decide +kernel
theorem dX7_feed_81 : decode cX7_feed 81 = .ok (.getfield 182, 3) := by decide +kernel
theorem dX7_feed_84 : decode cX7_feed 84 = .ok (.invokestatic 192, 3) := by decide +kernel
theorem dX7_feed_87 : decode cX7_feed 87 = .ok (.istore 6, 2) := by decide +kernel
theorem dX7_feed_89 : decode cX7_feed 89 = .ok (.iload 6, 2) := by decide +kernel
theorem dX7_feed_91 : decode cX7_feed 91 = .ok (.iload 4, 2) := by decide +kernel
theorem dX7_feed_93 : decode cX7_feed 93 = .ok (.if_icmp .le 10, 3) := by decide +kernel
theorem dX7_feed_96 : decode cX7_feed 96 = .ok (.iload 6, 2) := by decide +kernel
theorem dX7_feed_98 : decode cX7_feed 98 = .ok (.istore 4, 2) := by decide +kernel
theorem dX7_feed_100 : decode cX7_feed 100 = .ok (.iload 5, 2) := by decide +kernel
theorem dX7_feed_102 : decode cX7_feed 102 = .ok (.istore_n 3, 1) := by decide +kernel
theorem dX7_feed_103 : decode cX7_feed 103 = .ok (.iinc 5 1, 3) := by decide +kernel
theorem dX7_feed_106 : decode cX7_feed 106 = .ok (.goto (-63), 3) := by decide +kernel
theorem dX7_feed_109 : decode cX7_feed 109 = .ok (.iload_n 2, 1) := by decide +kernel
theorem dX7_feed_110 : decode cX7_feed 110 = .ok (.ifCond .ne 7, 3) := by decide +kernel
theorem dX7_feed_113 : decode cX7_feed 113 = .ok (.iload_n 3, 1) := by decide +kernel
theorem dX7_feed_114 : decode cX7_feed 114 = .ok (.goto 5, 3) := by decide +kernel
theorem dX7_feed_117 : decode cX7_feed 117 = .ok (.iload 4, 2) := by decide +kernel
theorem dX7_feed_119 : decode cX7_feed 119 = .ok (.ireturn, 1) := by decide +kernel
theorem dX7_told_0 : decode cX7_told 0 = .ok (.iload_n 1, 1) := by decide +kernel
theorem dX7_told_1 : decode cX7_told 1 = .ok (.iload_n 2, 1) := by decide +kernel
theorem dX7_told_2 : decode cX7_told 2 = .ok (.iload_n 3, 1) := by decide +kernel
theorem dX7_told_3 : decode cX7_told 3 = .ok (.invokestatic 227, 3) := by decide +kernel
theorem dX7_told_6 : decode cX7_told 6 = .ok (.ifCond .ne 6, 3) := by decide +kernel
theorem dX7_told_9 : decode cX7_told 9 = .ok (.bipush (-2), 2) := by decide +kernel
theorem dX7_told_11 : decode cX7_told 11 = .ok (.ireturn, 1) := by decide +kernel
theorem dX7_told_12 : decode cX7_told 12 = .ok (.aload_n 0, 1) := by decide +kernel
theorem dX7_told_13 : decode cX7_told 13 = .ok (.getfield 35, 3) := by decide +kernel
theorem dX7_told_16 : decode cX7_told 16 = .ok (.getfield 231, 3) := by decide +kernel
theorem dX7_told_19 : decode cX7_told 19 = .ok (.bipush 8, 2) := by decide +kernel
theorem dX7_told_21 : decode cX7_told 21 = .ok (.if_icmp .lt 6, 3) := by decide +kernel
theorem dX7_told_24 : decode cX7_told 24 = .ok (.bipush (-4), 2) := by decide +kernel
theorem dX7_told_26 : decode cX7_told 26 = .ok (.ireturn, 1) := by decide +kernel
theorem dX7_told_27 : decode cX7_told 27 = .ok (.aload_n 0, 1) := by decide +kernel
theorem dX7_told_28 : decode cX7_told 28 = .ok (.getfield 35, 3) := by decide +kernel
theorem dX7_told_31 : decode cX7_told 31 = .ok (.iload_n 1, 1) := by decide +kernel
theorem dX7_told_32 : decode cX7_told 32 = .ok (.iload_n 2, 1) := by decide +kernel
theorem dX7_told_33 : decode cX7_told 33 = .ok (.iload_n 3, 1) := by decide +kernel
theorem dX7_told_34 : decode cX7_told 34 = .ok (.invokevirtual 232, 3) := by decide +kernel
theorem dX7_told_37 : decode cX7_told 37 = .ok (.aload_n 0, 1) := by decide +kernel
theorem dX7_told_38 : decode cX7_told 38 = .ok (.getfield 35, 3) := by decide +kernel
theorem dX7_told_41 : decode cX7_told 41 = .ok (.getfield 231, 3) := by decide +kernel
theorem dX7_told_44 : decode cX7_told 44 = .ok (.ireturn, 1) := by decide +kernel
theorem dX7_forget_0 : decode cX7_forget 0 = .ok (.aload_n 0, 1) := by decide +kernel
theorem dX7_forget_1 : decode cX7_forget 1 = .ok (.getfield 35, 3) := by decide +kernel
theorem dX7_forget_4 : decode cX7_forget 4 = .ok (.getfield 231, 3) := by decide +kernel
theorem dX7_forget_7 : decode cX7_forget 7 = .ok (.istore_n 1, 1) := by decide +kernel
theorem dX7_forget_8 : decode cX7_forget 8 = .ok (.aload_n 0, 1) := by decide +kernel
theorem dX7_forget_9 : decode cX7_forget 9 = .ok (.getfield 35, 3) := by decide +kernel
theorem dX7_forget_12 : decode cX7_forget 12 = .ok (.iconst 0, 1) := by decide +kernel
theorem dX7_forget_13 : decode cX7_forget 13 = .ok (.putfield 231, 3) := by decide +kernel
theorem dX7_forget_16 : decode cX7_forget 16 = .ok (.iload_n 1, 1) := by decide +kernel
theorem dX7_forget_17 : decode cX7_forget 17 = .ok (.ireturn, 1) := by decide +kernel
theorem dX7_read_0 : decode cX7_read 0 = .ok (.iload_n 1, 1) := by decide +kernel
theorem dX7_read_1 : decode cX7_read 1 = .ok (.iconst 4, 1) := by decide +kernel
theorem dX7_read_2 : decode cX7_read 2 = .ok (.invokestatic 89, 3) := by decide +kernel
theorem dX7_read_5 : decode cX7_read 5 = .ok (.ifCond .ne 6, 3) := by decide +kernel
theorem dX7_read_8 : decode cX7_read 8 = .ok (.bipush (-2), 2) := by decide +kernel
theorem dX7_read_10 : decode cX7_read 10 = .ok (.ireturn, 1) := by decide +kernel
theorem dX7_read_11 : decode cX7_read 11 = .ok (.aload_n 0, 1) := by decide +kernel
theorem dX7_read_12 : decode cX7_read 12 = .ok (.getfield 41, 3) := by decide +kernel
theorem dX7_read_15 : decode cX7_read 15 = .ok (.iload_n 1, 1) := by decide +kernel
theorem dX7_read_16 : decode cX7_read 16 = .ok (.aaload, 1) := by decide +kernel
theorem dX7_read_17 : decode cX7_read 17 = .ok (.astore_n 2, 1) := by decide +kernel
theorem dX7_read_18 : decode cX7_read 18 = .ok (.aload_n 2, 1) := by decide +kernel
theorem dX7_read_19 : decode cX7_read 19 = .ok (.getfield 233, 3) := by decide +kernel
theorem dX7_read_22 : decode cX7_read 22 = .ok (.ifCond .eq 9, 3) := by decide +kernel
theorem dX7_read_25 : decode cX7_read 25 = .ok (.aload_n 0, 1) := by decide +kernel
theorem dX7_read_26 : decode cX7_read 26 = .ok (.iconst 1, 1) := by decide +kernel
theorem dX7_read_27 : decode cX7_read 27 = .ok (.invokevirtual 237, 3) := by decide +kernel
theorem dX7_read_30 : decode cX7_read 30 = .ok (.ireturn, 1) := by decide +kernel
theorem dX7_read_31 : decode cX7_read 31 = .ok (.aload_n 0, 1) := by decide +kernel
theorem dX7_read_32 : decode cX7_read 32 = .ok (.getfield 35, 3) := by decide +kernel
theorem dX7_read_35 : decode cX7_read 35 = .ok (.getfield 231, 3) := by decide +kernel
theorem dX7_read_38 : decode cX7_read 38 = .ok (.istore_n 3, 1) := by decide +kernel
theorem dX7_read_39 : decode cX7_read 39 = .ok (.iconst 0, 1) := by decide +kernel
theorem dX7_read_40 : decode cX7_read 40 = .ok (.istore 4, 2) := by decide +kernel
theorem dX7_read_42 : decode cX7_read 42 = .ok (.iload 4, 2) := by decide +kernel
theorem dX7_read_44 : decode cX7_read 44 = .ok (.iconst 2, 1) := by decide +kernel
theorem dX7_read_45 : decode cX7_read 45 = .ok (.iadd, 1) := by decide +kernel
theorem dX7_read_46 : decode cX7_read 46 = .ok (.aload_n 2, 1) := by decide +kernel
theorem dX7_read_47 : decode cX7_read 47 = .ok (.getfield 240, 3) := by decide +kernel
theorem dX7_read_50 : decode cX7_read 50 = .ok (.if_icmp .ge 87, 3) := by decide +kernel
theorem dX7_read_53 : decode cX7_read 53 = .ok (.aload_n 0, 1) := by decide +kernel
theorem dX7_read_54 : decode cX7_read 54 = .ok (.getfield 35, 3) := by decide +kernel
theorem dX7_read_57 : decode cX7_read 57 = .ok (.getfield 231, 3) := by decide +kernel
theorem dX7_read_60 : decode cX7_read 60 = .ok (.bipush 8, 2) := by decide +kernel
theorem dX7_read_62 : decode cX7_read 62 = .ok (.if_icmp .ge 75, 3) := by decide +kernel
theorem dX7_read_65 : decode cX7_read 65 = .ok (.aload_n 2, 1) := by decide +kernel
theorem dX7_read_66 : decode cX7_read 66 = .ok (.getfield 241, 3) := by decide +kernel
theorem dX7_read_69 : decode cX7_read 69 = .ok (.iload 4, 2) := by decide +kernel
theorem dX7_read_71 : decode cX7_read 71 = .ok (.iaload, 1) := by decide +kernel
theorem dX7_read_72 : decode cX7_read 72 = .ok (.aload_n 2, 1) := by decide +kernel
theorem dX7_read_73 : decode cX7_read 73 = .ok (.getfield 241, 3) := by decide +kernel
theorem dX7_read_76 : decode cX7_read 76 = .ok (.iload 4, 2) := by decide +kernel
theorem dX7_read_78 : decode cX7_read 78 = .ok (.iconst 1, 1) := by decide +kernel
theorem dX7_read_79 : decode cX7_read 79 = .ok (.iadd, 1) := by decide +kernel
theorem dX7_read_80 : decode cX7_read 80 = .ok (.iaload, 1) := by decide +kernel
theorem dX7_read_81 : decode cX7_read 81 = .ok (.aload_n 2, 1) := by decide +kernel
theorem dX7_read_82 : decode cX7_read 82 = .ok (.getfield 241, 3) := by decide +kernel
theorem dX7_read_85 : decode cX7_read 85 = .ok (.iload 4, 2) := by decide +kernel
theorem dX7_read_87 : decode cX7_read 87 = .ok (.iconst 2, 1) := by decide +kernel
theorem dX7_read_88 : decode cX7_read 88 = .ok (.iadd, 1) := by decide +kernel
theorem dX7_read_89 : decode cX7_read 89 = .ok (.iaload, 1) := by decide +kernel
theorem dX7_read_90 : decode cX7_read 90 = .ok (.invokestatic 227, 3) := by decide +kernel
theorem dX7_read_93 : decode cX7_read 93 = .ok (.ifCond .ne 6, 3) := by decide +kernel
theorem dX7_read_96 : decode cX7_read 96 = .ok (.goto 41, 3) := by decide +kernel
theorem dX7_read_99 : decode cX7_read 99 = .ok (.aload_n 0, 1) := by decide +kernel
theorem dX7_read_100 : decode cX7_read 100 = .ok (.getfield 35, 3) := by decide +kernel
theorem dX7_read_103 : decode cX7_read 103 = .ok (.aload_n 2, 1) := by decide +kernel
theorem dX7_read_104 : decode cX7_read 104 = .ok (.getfield 241, 3) := by decide +kernel
theorem dX7_read_107 : decode cX7_read 107 = .ok (.iload 4, 2) := by decide +kernel
theorem dX7_read_109 : decode cX7_read 109 = .ok (.iaload, 1) := by decide +kernel
theorem dX7_read_110 : decode cX7_read 110 = .ok (.aload_n 2, 1) := by decide +kernel
theorem dX7_read_111 : decode cX7_read 111 = .ok (.getfield 241, 3) := by decide +kernel
theorem dX7_read_114 : decode cX7_read 114 = .ok (.iload 4, 2) := by decide +kernel
theorem dX7_read_116 : decode cX7_read 116 = .ok (.iconst 1, 1) := by decide +kernel
theorem dX7_read_117 : decode cX7_read 117 = .ok (.iadd, 1) := by decide +kernel
theorem dX7_read_118 : decode cX7_read 118 = .ok (.iaload, 1) := by decide +kernel
theorem dX7_read_119 : decode cX7_read 119 = .ok (.aload_n 2, 1) := by decide +kernel
theorem dX7_read_120 : decode cX7_read 120 = .ok (.getfield 241, 3) := by decide +kernel
theorem dX7_read_123 : decode cX7_read 123 = .ok (.iload 4, 2) := by decide +kernel
theorem dX7_read_125 : decode cX7_read 125 = .ok (.iconst 2, 1) := by decide +kernel
theorem dX7_read_126 : decode cX7_read 126 = .ok (.iadd, 1) := by decide +kernel
theorem dX7_read_127 : decode cX7_read 127 = .ok (.iaload, 1) := by decide +kernel
theorem dX7_read_128 : decode cX7_read 128 = .ok (.invokevirtual 232, 3) := by decide +kernel
theorem dX7_read_131 : decode cX7_read 131 = .ok (.iinc 4 3, 3) := by decide +kernel
theorem dX7_read_134 : decode cX7_read 134 = .ok (.goto (-92), 3) := by decide +kernel
theorem dX7_read_137 : decode cX7_read 137 = .ok (.aload_n 0, 1) := by decide +kernel
theorem dX7_read_138 : decode cX7_read 138 = .ok (.getfield 35, 3) := by decide +kernel
theorem dX7_read_141 : decode cX7_read 141 = .ok (.getfield 231, 3) := by decide +kernel
theorem dX7_read_144 : decode cX7_read 144 = .ok (.iload_n 3, 1) := by decide +kernel
theorem dX7_read_145 : decode cX7_read 145 = .ok (.isub, 1) := by decide +kernel
theorem dX7_read_146 : decode cX7_read 146 = .ok (.ireturn, 1) := by decide +kernel
theorem dX7_comesOut_0 : decode cX7_comesOut 0 = .ok (.iconst 0, 1) := by decide +kernel
theorem dX7_comesOut_1 : decode cX7_comesOut 1 = .ok (.istore_n 1, 1) := by decide +kernel
theorem dX7_comesOut_2 : decode cX7_comesOut 2 = .ok (.iload_n 1, 1) := by decide +kernel
theorem dX7_comesOut_3 : decode cX7_comesOut 3 = .ok (.aload_n 0, 1) := by decide +kernel
theorem dX7_comesOut_4 : decode cX7_comesOut 4 = .ok (.getfield 35, 3) := by decide +kernel
theorem dX7_comesOut_7 : decode cX7_comesOut 7 = .ok (.getfield 231, 3) := by decide +kernel
theorem dX7_comesOut_10 : decode cX7_comesOut 10 = .ok (.if_icmp .ge 87, 3) := by decide +kernel
theorem dX7_comesOut_13 : decode cX7_comesOut 13 = .ok (.aload_n 0, 1) := by decide +kernel
theorem dX7_comesOut_14 : decode cX7_comesOut 14 = .ok (.getfield 35, 3) := by decide +kernel
theorem dX7_comesOut_17 : decode cX7_comesOut 17 = .ok (.getfield 244, 3) := by decide +kernel
theorem dX7_comesOut_20 : decode cX7_comesOut 20 = .ok (.iload_n 1, 1) := by decide +kernel
theorem dX7_comesOut_21 : decode cX7_comesOut 21 = .ok (.iaload, 1) := by decide +kernel
theorem dX7_comesOut_22 : decode cX7_comesOut 22 = .ok (.aload_n 0, 1) := by decide +kernel
theorem dX7_comesOut_23 : decode cX7_comesOut 23 = .ok (.getfield 118, 3) := by decide +kernel
theorem dX7_comesOut_26 : decode cX7_comesOut 26 = .ok (.if_icmp .lt 5, 3) := by decide +kernel
theorem dX7_comesOut_29 : decode cX7_comesOut 29 = .ok (.iconst 0, 1) := by decide +kernel
theorem dX7_comesOut_30 : decode cX7_comesOut 30 = .ok (.ireturn, 1) := by decide +kernel
theorem dX7_comesOut_31 : decode cX7_comesOut 31 = .ok (.aload_n 0, 1) := by decide +kernel
theorem dX7_comesOut_32 : decode cX7_comesOut 32 = .ok (.getfield 56, 3) := by decide +kernel
theorem dX7_comesOut_35 : decode cX7_comesOut 35 = .ok (.aload_n 0, 1) := by decide +kernel
theorem dX7_comesOut_36 : decode cX7_comesOut 36 = .ok (.getfield 17, 3) := by decide +kernel
theorem dX7_comesOut_39 : decode cX7_comesOut 39 = .ok (.aload_n 0, 1) := by decide +kernel
theorem dX7_comesOut_40 : decode cX7_comesOut 40 = .ok (.getfield 35, 3) := by decide +kernel
theorem dX7_comesOut_43 : decode cX7_comesOut 43 = .ok (.getfield 244, 3) := by decide +kernel
theorem dX7_comesOut_46 : decode cX7_comesOut 46 = .ok (.iload_n 1, 1) := by decide +kernel
theorem dX7_comesOut_47 : decode cX7_comesOut 47 = .ok (.iaload, 1) := by decide +kernel
theorem dX7_comesOut_48 : decode cX7_comesOut 48 = .ok (.aaload, 1) := by decide +kernel
theorem dX7_comesOut_49 : decode cX7_comesOut 49 = .ok (.aload_n 0, 1) := by decide +kernel
theorem dX7_comesOut_50 : decode cX7_comesOut 50 = .ok (.getfield 50, 3) := by decide +kernel
theorem dX7_comesOut_53 : decode cX7_comesOut 53 = .ok (.aload_n 0, 1) := by decide +kernel
theorem dX7_comesOut_54 : decode cX7_comesOut 54 = .ok (.getfield 28, 3) := by decide +kernel
end
section
theorem dX7_comesOut_57 : decode cX7_comesOut 57 = .ok (.invokevirtual 162, 3) := by decide +kernel
theorem dX7_comesOut_60 : decode cX7_comesOut 60 = .ok (.aload_n 0, 1) := by decide +kernel
theorem dX7_comesOut_61 : decode cX7_comesOut 61 = .ok (.getfield 56, 3) := by decide +kernel
theorem dX7_comesOut_64 : decode cX7_comesOut 64 = .ok (.getfield 247, 3) := by decide +kernel
theorem dX7_comesOut_67 : decode cX7_comesOut 67 = .ok (.aload_n 0, 1) := by decide +kernel
theorem dX7_comesOut_68 : decode cX7_comesOut 68 = .ok (.getfield 35, 3) := by decide +kernel
theorem dX7_comesOut_71 : decode cX7_comesOut 71 = .ok (.getfield 250, 3) := by decide +kernel
theorem dX7_comesOut_74 : decode cX7_comesOut 74 = .ok (.iload_n 1, 1) := by decide +kernel
theorem dX7_comesOut_75 : decode cX7_comesOut 75 = .ok (.iaload, 1) := by decide +kernel
theorem dX7_comesOut_76 : decode cX7_comesOut 76 = .ok (.iaload, 1) := by decide +kernel
theorem dX7_comesOut_77 : decode cX7_comesOut 77 = .ok (.aload_n 0, 1) := by decide +kernel
theorem dX7_comesOut_78 : decode cX7_comesOut 78 = .ok (.getfield 35, 3) := by decide +kernel
theorem dX7_comesOut_81 : decode cX7_comesOut 81 = .ok (.getfield 251, 3) := by decide +kernel
theorem dX7_comesOut_84 : decode cX7_comesOut 84 = .ok (.iload_n 1, 1) := by decide +kernel
theorem dX7_comesOut_85 : decode cX7_comesOut 85 = .ok (.iaload, 1) := by decide +kernel
theorem dX7_comesOut_86 : decode cX7_comesOut 86 = .ok (.if_icmp .eq 5, 3) := by decide +kernel
theorem dX7_comesOut_89 : decode cX7_comesOut 89 = .ok (.iconst 0, 1) := by decide +kernel
theorem dX7_comesOut_90 : decode cX7_comesOut 90 = .ok (.ireturn, 1) := by decide +kernel
theorem dX7_comesOut_91 : decode cX7_comesOut 91 = .ok (.iinc 1 1, 3) := by decide +kernel
theorem dX7_comesOut_94 : decode cX7_comesOut 94 = .ok (.goto (-92), 3) := by decide +kernel
theorem dX7_comesOut_97 : decode cX7_comesOut 97 = .ok (.iconst 1, 1) := by decide +kernel
theorem dX7_comesOut_98 : decode cX7_comesOut 98 = .ok (.ireturn, 1) := by decide +kernel
theorem dX7_never_0 : decode cX7_never 0 = .ok (.iconst 0, 1) := by decide +kernel
theorem dX7_never_1 : decode cX7_never 1 = .ok (.istore_n 1, 1) := by decide +kernel
theorem dX7_never_2 : decode cX7_never 2 = .ok (.iconst 0, 1) := by decide +kernel
theorem dX7_never_3 : decode cX7_never 3 = .ok (.istore_n 2, 1) := by decide +kernel
theorem dX7_never_4 : decode cX7_never 4 = .ok (.iload_n 2, 1) := by decide +kernel
theorem dX7_never_5 : decode cX7_never 5 = .ok (.aload_n 0, 1) := by decide +kernel
theorem dX7_never_6 : decode cX7_never 6 = .ok (.getfield 24, 3) := by decide +kernel
theorem dX7_never_9 : decode cX7_never 9 = .ok (.getfield 140, 3) := by decide +kernel
theorem dX7_never_12 : decode cX7_never 12 = .ok (.if_icmp .ge 34, 3) := by decide +kernel
theorem dX7_never_15 : decode cX7_never 15 = .ok (.aload_n 0, 1) := by decide +kernel
theorem dX7_never_16 : decode cX7_never 16 = .ok (.getfield 50, 3) := by decide +kernel
theorem dX7_never_19 : decode cX7_never 19 = .ok (.aload_n 0, 1) := by decide +kernel
theorem dX7_never_20 : decode cX7_never 20 = .ok (.getfield 24, 3) := by decide +kernel
theorem dX7_never_23 : decode cX7_never 23 = .ok (.iload_n 2, 1) := by decide +kernel
theorem dX7_never_24 : decode cX7_never 24 = .ok (.invokevirtual 254, 3) := by decide +kernel
theorem dX7_never_27 : decode cX7_never 27 = .ok (.aload_n 0, 1) := by decide +kernel
theorem dX7_never_28 : decode cX7_never 28 = .ok (.invokevirtual 257, 3) := by decide +kernel
theorem dX7_never_31 : decode cX7_never 31 = .ok (.ifCond .eq 9, 3) := by decide +kernel
theorem dX7_never_34 : decode cX7_never 34 = .ok (.iload_n 1, 1) := by decide +kernel
theorem dX7_never_35 : decode cX7_never 35 = .ok (.iconst 1, 1) := by decide +kernel
theorem dX7_never_36 : decode cX7_never 36 = .ok (.iload_n 2, 1) := by decide +kernel
theorem dX7_never_37 : decode cX7_never 37 = .ok (.ishl, 1) := by decide +kernel
theorem dX7_never_38 : decode cX7_never 38 = .ok (.ior, 1) := by decide +kernel
theorem dX7_never_39 : decode cX7_never 39 = .ok (.istore_n 1, 1) := by decide +kernel
theorem dX7_never_40 : decode cX7_never 40 = .ok (.iinc 2 1, 3) := by decide +kernel
theorem dX7_never_43 : decode cX7_never 43 = .ok (.goto (-39), 3) := by decide +kernel
theorem dX7_never_46 : decode cX7_never 46 = .ok (.iload_n 1, 1) := by decide +kernel
theorem dX7_never_47 : decode cX7_never 47 = .ok (.ireturn, 1) := by decide +kernel
theorem dX7_place_0 : decode cX7_place 0 = .ok (.iload_n 1, 1) := by decide +kernel
theorem dX7_place_1 : decode cX7_place 1 = .ok (.aload_n 0, 1) := by decide +kernel
theorem dX7_place_2 : decode cX7_place 2 = .ok (.getfield 24, 3) := by decide +kernel
theorem dX7_place_5 : decode cX7_place 5 = .ok (.getfield 140, 3) := by decide +kernel
theorem dX7_place_8 : decode cX7_place 8 = .ok (.invokestatic 89, 3) := by decide +kernel
theorem dX7_place_11 : decode cX7_place 11 = .ok (.ifCond .ne 6, 3) := by decide +kernel
theorem dX7_place_14 : decode cX7_place 14 = .ok (.bipush (-2), 2) := by decide +kernel
theorem dX7_place_16 : decode cX7_place 16 = .ok (.ireturn, 1) := by decide +kernel
theorem dX7_place_17 : decode cX7_place 17 = .ok (.aload_n 0, 1) := by decide +kernel
theorem dX7_place_18 : decode cX7_place 18 = .ok (.getfield 50, 3) := by decide +kernel
theorem dX7_place_21 : decode cX7_place 21 = .ok (.aload_n 0, 1) := by decide +kernel
theorem dX7_place_22 : decode cX7_place 22 = .ok (.getfield 24, 3) := by decide +kernel
theorem dX7_place_25 : decode cX7_place 25 = .ok (.iconst (-1), 1) := by decide +kernel
theorem dX7_place_26 : decode cX7_place 26 = .ok (.invokevirtual 254, 3) := by decide +kernel
theorem dX7_place_29 : decode cX7_place 29 = .ok (.iconst 0, 1) := by decide +kernel
theorem dX7_place_30 : decode cX7_place 30 = .ok (.istore_n 2, 1) := by decide +kernel
theorem dX7_place_31 : decode cX7_place 31 = .ok (.iconst 0, 1) := by decide +kernel
theorem dX7_place_32 : decode cX7_place 32 = .ok (.istore_n 3, 1) := by decide +kernel
theorem dX7_place_33 : decode cX7_place 33 = .ok (.iload_n 3, 1) := by decide +kernel
theorem dX7_place_34 : decode cX7_place 34 = .ok (.bipush 10, 2) := by decide +kernel
theorem dX7_place_36 : decode cX7_place 36 = .ok (.if_icmp .ge 32, 3) := by decide +kernel
theorem dX7_place_39 : decode cX7_place 39 = .ok (.aload_n 0, 1) := by decide +kernel
theorem dX7_place_40 : decode cX7_place 40 = .ok (.getfield 50, 3) := by decide +kernel
theorem dX7_place_43 : decode cX7_place 43 = .ok (.getfield 148, 3) := by decide +kernel
theorem dX7_place_46 : decode cX7_place 46 = .ok (.iload_n 1, 1) := by decide +kernel
theorem dX7_place_47 : decode cX7_place 47 = .ok (.iload_n 3, 1) := by decide +kernel
theorem dX7_place_48 : decode cX7_place 48 = .ok (.iastore, 1) := by decide +kernel
theorem dX7_place_49 : decode cX7_place 49 = .ok (.aload_n 0, 1) := by decide +kernel
theorem dX7_place_50 : decode cX7_place 50 = .ok (.invokevirtual 257, 3) := by decide +kernel
theorem dX7_place_53 : decode cX7_place 53 = .ok (.ifCond .eq 9, 3) := by decide +kernel
theorem dX7_place_56 : decode cX7_place 56 = .ok (.iload_n 2, 1) := by decide +kernel
theorem dX7_place_57 : decode cX7_place 57 = .ok (.iconst 1, 1) := by decide +kernel
theorem dX7_place_58 : decode cX7_place 58 = .ok (.iload_n 3, 1) := by decide +kernel
theorem dX7_place_59 : decode cX7_place 59 = .ok (.ishl, 1) := by decide +kernel
theorem dX7_place_60 : decode cX7_place 60 = .ok (.ior, 1) := by decide +kernel
theorem dX7_place_61 : decode cX7_place 61 = .ok (.istore_n 2, 1) := by decide +kernel
theorem dX7_place_62 : decode cX7_place 62 = .ok (.iinc 3 1, 3) := by decide +kernel
theorem dX7_place_65 : decode cX7_place 65 = .ok (.goto (-32), 3) := by decide +kernel
theorem dX7_place_68 : decode cX7_place 68 = .ok (.iload_n 2, 1) := by decide +kernel
theorem dX7_place_69 : decode cX7_place 69 = .ok (.ireturn, 1) := by decide +kernel
theorem dX7_ask_0 : decode cX7_ask 0 = .ok (.aload_n 0, 1) := by decide +kernel
theorem dX7_ask_1 : decode cX7_ask 1 = .ok (.invokevirtual 261, 3) := by decide +kernel
theorem dX7_ask_4 : decode cX7_ask 4 = .ok (.istore_n 1, 1) := by decide +kernel
theorem dX7_ask_5 : decode cX7_ask 5 = .ok (.iconst (-1), 1) := by decide +kernel
theorem dX7_ask_6 : decode cX7_ask 6 = .ok (.istore_n 2, 1) := by decide +kernel
theorem dX7_ask_7 : decode cX7_ask 7 = .ok (.bipush 9, 2) := by decide +kernel
theorem dX7_ask_9 : decode cX7_ask 9 = .ok (.istore_n 3, 1) := by decide +kernel
theorem dX7_ask_10 : decode cX7_ask 10 = .ok (.iconst 0, 1) := by decide +kernel
theorem dX7_ask_11 : decode cX7_ask 11 = .ok (.istore 4, 2) := by decide +kernel
theorem dX7_ask_13 : decode cX7_ask 13 = .ok (.iload 4, 2) := by decide +kernel
theorem dX7_ask_15 : decode cX7_ask 15 = .ok (.aload_n 0, 1) := by decide +kernel
theorem dX7_ask_16 : decode cX7_ask 16 = .ok (.getfield 118, 3) := by decide +kernel
theorem dX7_ask_19 : decode cX7_ask 19 = .ok (.if_icmp .ge 30, 3) := by decide +kernel
theorem dX7_ask_22 : decode cX7_ask 22 = .ok (.aload_n 0, 1) := by decide +kernel
theorem dX7_ask_23 : decode cX7_ask 23 = .ok (.iload 4, 2) := by decide +kernel
theorem dX7_ask_25 : decode cX7_ask 25 = .ok (.iload_n 1, 1) := by decide +kernel
theorem dX7_ask_26 : decode cX7_ask 26 = .ok (.invokevirtual 264, 3) := by decide +kernel
theorem dX7_ask_29 : decode cX7_ask 29 = .ok (.istore 5, 2) := by decide +kernel
theorem dX7_ask_31 : decode cX7_ask 31 = .ok (.iload 5, 2) := by decide +kernel
theorem dX7_ask_33 : decode cX7_ask 33 = .ok (.iload_n 3, 1) := by decide +kernel
theorem dX7_ask_34 : decode cX7_ask 34 = .ok (.if_icmp .ge 9, 3) := by decide +kernel
theorem dX7_ask_37 : decode cX7_ask 37 = .ok (.iload 5, 2) := by decide +kernel
theorem dX7_ask_39 : decode cX7_ask 39 = .ok (.istore_n 3, 1) := by decide +kernel
theorem dX7_ask_40 : decode cX7_ask 40 = .ok (.iload 4, 2) := by decide +kernel
theorem dX7_ask_42 : decode cX7_ask 42 = .ok (.istore_n 2, 1) := by decide +kernel
theorem dX7_ask_43 : decode cX7_ask 43 = .ok (.iinc 4 1, 3) := by decide +kernel
theorem dX7_ask_46 : decode cX7_ask 46 = .ok (.goto (-33), 3) := by decide +kernel
theorem dX7_ask_49 : decode cX7_ask 49 = .ok (.iload_n 2, 1) := by decide +kernel
theorem dX7_ask_50 : decode cX7_ask 50 = .ok (.ireturn, 1) := by decide +kernel
theorem dX7_mostAlike_0 : decode cX7_mostAlike 0 = .ok (.aload_n 0, 1) := by decide +kernel
theorem dX7_mostAlike_1 : decode cX7_mostAlike 1 = .ok (.getfield 71, 3) := by decide +kernel
theorem dX7_mostAlike_4 : decode cX7_mostAlike 4 = .ok (.iconst 0, 1) := by decide +kernel
theorem dX7_mostAlike_5 : decode cX7_mostAlike 5 = .ok (.invokestatic 267, 3) := by decide +kernel
theorem dX7_mostAlike_8 : decode cX7_mostAlike 8 = .ok (.iconst 0, 1) := by decide +kernel
theorem dX7_mostAlike_9 : decode cX7_mostAlike 9 = .ok (.istore_n 3, 1) := by decide +kernel
theorem dX7_mostAlike_10 : decode cX7_mostAlike 10 = .ok (.iconst 0, 1) := by decide +kernel
theorem dX7_mostAlike_11 : decode cX7_mostAlike 11 = .ok (.istore 4, 2) := by decide +kernel
theorem dX7_mostAlike_13 : decode cX7_mostAlike 13 = .ok (.iload 4, 2) := by decide +kernel
theorem dX7_mostAlike_15 : decode cX7_mostAlike 15 = .ok (.aload_n 0, 1) := by decide +kernel
theorem dX7_mostAlike_16 : decode cX7_mostAlike 16 = .ok (.getfield 24, 3) := by decide +kernel
theorem dX7_mostAlike_19 : decode cX7_mostAlike 19 = .ok (.getfield 140, 3) := by decide +kernel
theorem dX7_mostAlike_22 : decode cX7_mostAlike 22 = .ok (.if_icmp .ge 85, 3) := by decide +kernel
theorem dX7_mostAlike_25 : decode cX7_mostAlike 25 = .ok (.iload_n 2, 1) := by decide +kernel
theorem dX7_mostAlike_26 : decode cX7_mostAlike 26 = .ok (.iload 4, 2) := by decide +kernel
theorem dX7_mostAlike_28 : decode cX7_mostAlike 28 = .ok (.ishr, 1) := by decide +kernel
theorem dX7_mostAlike_29 : decode cX7_mostAlike 29 = .ok (.iconst 1, 1) := by decide +kernel
theorem dX7_mostAlike_30 : decode cX7_mostAlike 30 = .ok (.iand, 1) := by decide +kernel
theorem dX7_mostAlike_31 : decode cX7_mostAlike 31 = .ok (.ifCond .eq 70, 3) := by decide +kernel
theorem dX7_mostAlike_34 : decode cX7_mostAlike 34 = .ok (.aload_n 0, 1) := by decide +kernel
theorem dX7_mostAlike_35 : decode cX7_mostAlike 35 = .ok (.getfield 50, 3) := by decide +kernel
theorem dX7_mostAlike_38 : decode cX7_mostAlike 38 = .ok (.aload_n 0, 1) := by decide +kernel
theorem dX7_mostAlike_39 : decode cX7_mostAlike 39 = .ok (.getfield 24, 3) := by decide +kernel
theorem dX7_mostAlike_42 : decode cX7_mostAlike 42 = .ok (.iload 4, 2) := by decide +kernel
theorem dX7_mostAlike_44 : decode cX7_mostAlike 44 = .ok (.invokevirtual 254, 3) := by decide +kernel
theorem dX7_mostAlike_47 : decode cX7_mostAlike 47 = .ok (.aload_n 0, 1) := by decide +kernel
theorem dX7_mostAlike_48 : decode cX7_mostAlike 48 = .ok (.getfield 56, 3) := by decide +kernel
theorem dX7_mostAlike_51 : decode cX7_mostAlike 51 = .ok (.aload_n 0, 1) := by decide +kernel
theorem dX7_mostAlike_52 : decode cX7_mostAlike 52 = .ok (.getfield 17, 3) := by decide +kernel
theorem dX7_mostAlike_55 : decode cX7_mostAlike 55 = .ok (.iload_n 1, 1) := by decide +kernel
theorem dX7_mostAlike_56 : decode cX7_mostAlike 56 = .ok (.aaload, 1) := by decide +kernel
theorem dX7_mostAlike_57 : decode cX7_mostAlike 57 = .ok (.aload_n 0, 1) := by decide +kernel
theorem dX7_mostAlike_58 : decode cX7_mostAlike 58 = .ok (.getfield 50, 3) := by decide +kernel
theorem dX7_mostAlike_61 : decode cX7_mostAlike 61 = .ok (.aload_n 0, 1) := by decide +kernel
theorem dX7_mostAlike_62 : decode cX7_mostAlike 62 = .ok (.getfield 28, 3) := by decide +kernel
theorem dX7_mostAlike_65 : decode cX7_mostAlike 65 = .ok (.invokevirtual 162, 3) := by decide +kernel
theorem dX7_mostAlike_68 : decode cX7_mostAlike 68 = .ok (.aload_n 0, 1) := by decide +kernel
theorem dX7_mostAlike_69 : decode cX7_mostAlike 69 = .ok (.getfield 71, 3) := by decide +kernel
theorem dX7_mostAlike_72 : decode cX7_mostAlike 72 = .ok (.aload_n 0, 1) := by decide +kernel
theorem dX7_mostAlike_73 : decode cX7_mostAlike 73 = .ok (.getfield 56, 3) := by decide +kernel
theorem dX7_mostAlike_76 : decode cX7_mostAlike 76 = .ok (.getfield 273, 3) := by decide +kernel
theorem dX7_mostAlike_79 : decode cX7_mostAlike 79 = .ok (.dup2, 1) := by decide +kernel
theorem dX7_mostAlike_80 : decode cX7_mostAlike 80 = .ok (.iaload, 1) := by decide +kernel
theorem dX7_mostAlike_81 : decode cX7_mostAlike 81 = .ok (.iconst 1, 1) := by decide +kernel
theorem dX7_mostAlike_82 : decode cX7_mostAlike 82 = .ok (.iadd, 1) := by decide +kernel
theorem dX7_mostAlike_83 : decode cX7_mostAlike 83 = .ok (.iastore, 1) := by decide +kernel
theorem dX7_mostAlike_84 : decode cX7_mostAlike 84 = .ok (.iload_n 3, 1) := by decide +kernel
theorem dX7_mostAlike_85 : decode cX7_mostAlike 85 = .ok (.aload_n 0, 1) := by decide +kernel
theorem dX7_mostAlike_86 : decode cX7_mostAlike 86 = .ok (.getfield 71, 3) := by decide +kernel
theorem dX7_mostAlike_89 : decode cX7_mostAlike 89 = .ok (.aload_n 0, 1) := by decide +kernel
theorem dX7_mostAlike_90 : decode cX7_mostAlike 90 = .ok (.getfield 56, 3) := by decide +kernel
theorem dX7_mostAlike_93 : decode cX7_mostAlike 93 = .ok (.getfield 273, 3) := by decide +kernel
theorem dX7_mostAlike_96 : decode cX7_mostAlike 96 = .ok (.iaload, 1) := by decide +kernel
theorem dX7_mostAlike_97 : decode cX7_mostAlike 97 = .ok (.invokestatic 197, 3) := by decide +kernel
theorem dX7_mostAlike_100 : decode cX7_mostAlike 100 = .ok (.istore_n 3, 1) := by decide +kernel
theorem dX7_mostAlike_101 : decode cX7_mostAlike 101 = .ok (.iinc 4 1, 3) := by decide +kernel
theorem dX7_mostAlike_104 : decode cX7_mostAlike 104 = .ok (.goto (-91), 3) := by decide +kernel
theorem dX7_mostAlike_107 : decode cX7_mostAlike 107 = .ok (.iload_n 3, 1) := by decide +kernel
theorem dX7_mostAlike_108 : decode cX7_mostAlike 108 = .ok (.ireturn, 1) := by decide +kernel
theorem dX7_feign_0 : decode cX7_feign 0 = .ok (.iload_n 1, 1) := by decide +kernel
theorem dX7_feign_1 : decode cX7_feign 1 = .ok (.bipush 17, 2) := by decide +kernel
theorem dX7_feign_3 : decode cX7_feign 3 = .ok (.invokestatic 89, 3) := by decide +kernel
theorem dX7_feign_6 : decode cX7_feign 6 = .ok (.ifCond .eq 25, 3) := by decide +kernel
theorem dX7_feign_9 : decode cX7_feign 9 = .ok (.iload_n 2, 1) := by decide +kernel
theorem dX7_feign_10 : decode cX7_feign 10 = .ok (.aload_n 0, 1) := by decide +kernel
theorem dX7_feign_11 : decode cX7_feign 11 = .ok (.getfield 24, 3) := by decide +kernel
theorem dX7_feign_14 : decode cX7_feign 14 = .ok (.getfield 140, 3) := by decide +kernel
theorem dX7_feign_17 : decode cX7_feign 17 = .ok (.invokestatic 89, 3) := by decide +kernel
theorem dX7_feign_20 : decode cX7_feign 20 = .ok (.ifCond .eq 11, 3) := by decide +kernel
theorem dX7_feign_23 : decode cX7_feign 23 = .ok (.iload_n 3, 1) := by decide +kernel
theorem dX7_feign_24 : decode cX7_feign 24 = .ok (.iconst 2, 1) := by decide +kernel
theorem dX7_feign_25 : decode cX7_feign 25 = .ok (.invokestatic 89, 3) := by decide +kernel
theorem dX7_feign_28 : decode cX7_feign 28 = .ok (.ifCond .ne 9, 3) := by decide +kernel
theorem dX7_feign_31 : decode cX7_feign 31 = .ok (.bipush (-2), 2) := by decide +kernel
theorem dX7_feign_33 : decode cX7_feign 33 = .ok (.invokestatic 275, 3) := by decide +kernel
theorem dX7_feign_36 : decode cX7_feign 36 = .ok (.lreturn, 1) := by decide +kernel
theorem dX7_feign_37 : decode cX7_feign 37 = .ok (.aload_n 0, 1) := by decide +kernel
theorem dX7_feign_38 : decode cX7_feign 38 = .ok (.aload_n 0, 1) := by decide +kernel
theorem dX7_feign_39 : decode cX7_feign 39 = .ok (.getfield 24, 3) := by decide +kernel
theorem dX7_feign_42 : decode cX7_feign 42 = .ok (.invokevirtual 185, 3) := by decide +kernel
theorem dX7_feign_45 : decode cX7_feign 45 = .ok (.aload_n 0, 1) := by decide +kernel
theorem dX7_feign_46 : decode cX7_feign 46 = .ok (.getfield 63, 3) := by decide +kernel
theorem dX7_feign_49 : decode cX7_feign 49 = .ok (.iload_n 2, 1) := by decide +kernel
theorem dX7_feign_50 : decode cX7_feign 50 = .ok (.invokevirtual 189, 3) := by decide +kernel
theorem dX7_feign_53 : decode cX7_feign 53 = .ok (.invokestatic 192, 3) := by decide +kernel
theorem dX7_feign_56 : decode cX7_feign 56 = .ok (.istore 4, 2) := by decide +kernel
theorem dX7_feign_58 : decode cX7_feign 58 = .ok (.aload_n 0, 1) := by decide +kernel
theorem dX7_feign_59 : decode cX7_feign 59 = .ok (.iload 4, 2) := by decide +kernel
theorem dX7_feign_61 : decode cX7_feign 61 = .ok (.iload_n 1, 1) := by decide +kernel
theorem dX7_feign_62 : decode cX7_feign 62 = .ok (.invokevirtual 279, 3) := by decide +kernel
theorem dX7_feign_65 : decode cX7_feign 65 = .ok (.lconst 0, 1) := by decide +kernel
theorem dX7_feign_66 : decode cX7_feign 66 = .ok (.lstore 5, 2) := by decide +kernel
theorem dX7_feign_68 : decode cX7_feign 68 = .ok (.aload_n 0, 1) := by decide +kernel
theorem dX7_feign_69 : decode cX7_feign 69 = .ok (.getfield 28, 3) := by decide +kernel
theorem dX7_feign_72 : decode cX7_feign 72 = .ok (.iconst 2, 1) := by decide +kernel
theorem dX7_feign_73 : decode cX7_feign 73 = .ok (.iaload, 1) := by decide +kernel
theorem dX7_feign_74 : decode cX7_feign 74 = .ok (.istore 7, 2) := by decide +kernel
theorem dX7_feign_76 : decode cX7_feign 76 = .ok (.iload 7, 2) := by decide +kernel
theorem dX7_feign_78 : decode cX7_feign 78 = .ok (.iload 4, 2) := by decide +kernel
theorem dX7_feign_80 : decode cX7_feign 80 = .ok (.if_icmp .gt 21, 3) := by decide +kernel
theorem dX7_feign_83 : decode cX7_feign 83 = .ok (.lload 5, 2) := by decide +kernel
theorem dX7_feign_85 : decode cX7_feign 85 = .ok (.aload_n 0, 1) := by decide +kernel
theorem dX7_feign_86 : decode cX7_feign 86 = .ok (.getfield 74, 3) := by decide +kernel
theorem dX7_feign_89 : decode cX7_feign 89 = .ok (.iload 7, 2) := by decide +kernel
theorem dX7_feign_91 : decode cX7_feign 91 = .ok (.laload, 1) := by decide +kernel
theorem dX7_feign_92 : decode cX7_feign 92 = .ok (.ladd, 1) := by decide +kernel
theorem dX7_feign_93 : decode cX7_feign 93 = .ok (.lstore 5, 2) := by decide +kernel
theorem dX7_feign_95 : decode cX7_feign 95 = .ok (.iinc 7 1, 3) := by decide +kernel
theorem dX7_feign_98 : decode cX7_feign 98 = .ok (.goto (-22), 3) := by decide +kernel
theorem dX7_feign_101 : decode cX7_feign 101 = .ok (.lconst 1, 1) := by decide +kernel
theorem dX7_feign_102 : decode cX7_feign 102 = .ok (.iconst 4, 1) := by decide +kernel
theorem dX7_feign_103 : decode cX7_feign 103 = .ok (.iload 4, 2) := by decide +kernel
theorem dX7_feign_105 : decode cX7_feign 105 = .ok (.imul, 1) := by decide +kernel
theorem dX7_feign_106 : decode cX7_feign 106 = .ok (.lshl, 1) := by decide +kernel
theorem dX7_feign_107 : decode cX7_feign 107 = .ok (.lstore 7, 2) := by decide +kernel
theorem dX7_feign_109 : decode cX7_feign 109 = .ok (.iconst 0, 1) := by decide +kernel
theorem dX7_feign_110 : decode cX7_feign 110 = .ok (.istore 9, 2) := by decide +kernel
theorem dX7_feign_112 : decode cX7_feign 112 = .ok (.iload 9, 2) := by decide +kernel
theorem dX7_feign_114 : decode cX7_feign 114 = .ok (.bipush 32, 2) := by decide +kernel
theorem dX7_feign_116 : decode cX7_feign 116 = .ok (.if_icmp .ge 37, 3) := by decide +kernel
theorem dX7_feign_119 : decode cX7_feign 119 = .ok (.lload 7, 2) := by decide +kernel
theorem dX7_feign_121 : decode cX7_feign 121 = .ok (.lconst 1, 1) := by decide +kernel
theorem dX7_feign_122 : decode cX7_feign 122 = .ok (.lcmp, 1) := by decide +kernel
theorem dX7_feign_123 : decode cX7_feign 123 = .ok (.ifCond .le 30, 3) := by decide +kernel
theorem dX7_feign_126 : decode cX7_feign 126 = .ok (.lload 5, 2) := by decide +kernel
theorem dX7_feign_128 : decode cX7_feign 128 = .ok (.lconst 1, 1) := by decide +kernel
theorem dX7_feign_129 : decode cX7_feign 129 = .ok (.land, 1) := by decide +kernel
theorem dX7_feign_130 : decode cX7_feign 130 = .ok (.lconst 0, 1) := by decide +kernel
theorem dX7_feign_131 : decode cX7_feign 131 = .ok (.lcmp, 1) := by decide +kernel
theorem dX7_feign_132 : decode cX7_feign 132 = .ok (.ifCond .ne 21, 3) := by decide +kernel
theorem dX7_feign_135 : decode cX7_feign 135 = .ok (.lload 5, 2) := by decide +kernel
theorem dX7_feign_137 : decode cX7_feign 137 = .ok (.iconst 1, 1) := by decide +kernel
theorem dX7_feign_138 : decode cX7_feign 138 = .ok (.lshr, 1) := by decide +kernel
theorem dX7_feign_139 : decode cX7_feign 139 = .ok (.lstore 5, 2) := by decide +kernel
theorem dX7_feign_141 : decode cX7_feign 141 = .ok (.lload 7, 2) := by decide +kernel
theorem dX7_feign_143 : decode cX7_feign 143 = .ok (.iconst 1, 1) := by decide +kernel
theorem dX7_feign_144 : decode cX7_feign 144 = .ok (.lshr, 1) := by decide +kernel
theorem dX7_feign_145 : decode cX7_feign 145 = .ok (.lstore 7, 2) := by decide +kernel
theorem dX7_feign_147 : decode cX7_feign 147 = .ok (.iinc 9 1, 3) := by decide +kernel
theorem dX7_feign_150 : decode cX7_feign 150 = .ok (.goto (-38), 3) := by decide +kernel
theorem dX7_feign_153 : decode cX7_feign 153 = .ok (.iload_n 3, 1) := by decide +kernel
theorem dX7_feign_154 : decode cX7_feign 154 = .ok (.ifCond .ne 8, 3) := by decide +kernel
theorem dX7_feign_157 : decode cX7_feign 157 = .ok (.lload 5, 2) := by decide +kernel
theorem dX7_feign_159 : decode cX7_feign 159 = .ok (.goto 5, 3) := by decide +kernel
theorem dX7_feign_162 : decode cX7_feign 162 = .ok (.lload 7, 2) := by decide +kernel
theorem dX7_feign_164 : decode cX7_feign 164 = .ok (.lreturn, 1) := by decide +kernel
theorem dX7_spreadWays_0 : decode cX7_spreadWays 0 = .ok (.aload_n 0, 1) := by decide +kernel
theorem dX7_spreadWays_1 : decode cX7_spreadWays 1 = .ok (.getfield 74, 3) := by decide +kernel
theorem dX7_spreadWays_4 : decode cX7_spreadWays 4 = .ok (.lconst 0, 1) := by decide +kernel
theorem dX7_spreadWays_5 : decode cX7_spreadWays 5 = .ok (.invokestatic 283, 3) := by decide +kernel
theorem dX7_spreadWays_8 : decode cX7_spreadWays 8 = .ok (.aload_n 0, 1) := by decide +kernel
theorem dX7_spreadWays_9 : decode cX7_spreadWays 9 = .ok (.getfield 74, 3) := by decide +kernel
theorem dX7_spreadWays_12 : decode cX7_spreadWays 12 = .ok (.iconst 0, 1) := by decide +kernel
theorem dX7_spreadWays_13 : decode cX7_spreadWays 13 = .ok (.lconst 1, 1) := by decide +kernel
theorem dX7_spreadWays_14 : decode cX7_spreadWays 14 = .ok (.lastore, 1) := by decide +kernel
theorem dX7_spreadWays_15 : decode cX7_spreadWays 15 = .ok (.iconst 1, 1) := by decide +kernel
theorem dX7_spreadWays_16 : decode cX7_spreadWays 16 = .ok (.istore_n 3, 1) := by decide +kernel
theorem dX7_spreadWays_17 : decode cX7_spreadWays 17 = .ok (.iload_n 3, 1) := by decide +kernel
theorem dX7_spreadWays_18 : decode cX7_spreadWays 18 = .ok (.iload_n 1, 1) := by decide +kernel
theorem dX7_spreadWays_19 : decode cX7_spreadWays 19 = .ok (.if_icmp .gt 73, 3) := by decide +kernel
theorem dX7_spreadWays_22 : decode cX7_spreadWays 22 = .ok (.iload_n 3, 1) := by decide +kernel
theorem dX7_spreadWays_23 : decode cX7_spreadWays 23 = .ok (.bipush 8, 2) := by decide +kernel
theorem dX7_spreadWays_25 : decode cX7_spreadWays 25 = .ok (.if_icmp .gt 67, 3) := by decide +kernel
theorem dX7_spreadWays_28 : decode cX7_spreadWays 28 = .ok (.iload_n 3, 1) := by decide +kernel
theorem dX7_spreadWays_29 : decode cX7_spreadWays 29 = .ok (.istore 4, 2) := by decide +kernel
theorem dX7_spreadWays_31 : decode cX7_spreadWays 31 = .ok (.iload 4, 2) := by decide +kernel
theorem dX7_spreadWays_33 : decode cX7_spreadWays 33 = .ok (.ifCond .le 42, 3) := by decide +kernel
theorem dX7_spreadWays_36 : decode cX7_spreadWays 36 = .ok (.aload_n 0, 1) := by decide +kernel
theorem dX7_spreadWays_37 : decode cX7_spreadWays 37 = .ok (.getfield 74, 3) := by decide +kernel
theorem dX7_spreadWays_40 : decode cX7_spreadWays 40 = .ok (.iload 4, 2) := by decide +kernel
theorem dX7_spreadWays_42 : decode cX7_spreadWays 42 = .ok (.aload_n 0, 1) := by decide +kernel
theorem dX7_spreadWays_43 : decode cX7_spreadWays 43 = .ok (.getfield 74, 3) := by decide +kernel
theorem dX7_spreadWays_46 : decode cX7_spreadWays 46 = .ok (.iload 4, 2) := by decide +kernel
theorem dX7_spreadWays_48 : decode cX7_spreadWays 48 = .ok (.laload, 1) := by decide +kernel
theorem dX7_spreadWays_49 : decode cX7_spreadWays 49 = .ok (.iload_n 2, 1) := by decide +kernel
theorem dX7_spreadWays_50 : decode cX7_spreadWays 50 = .ok (.i2l, 1) := by decide +kernel
theorem dX7_spreadWays_51 : decode cX7_spreadWays 51 = .ok (.lmul, 1) := by decide +kernel
theorem dX7_spreadWays_52 : decode cX7_spreadWays 52 = .ok (.aload_n 0, 1) := by decide +kernel
theorem dX7_spreadWays_53 : decode cX7_spreadWays 53 = .ok (.getfield 74, 3) := by decide +kernel
theorem dX7_spreadWays_56 : decode cX7_spreadWays 56 = .ok (.iload 4, 2) := by decide +kernel
theorem dX7_spreadWays_58 : decode cX7_spreadWays 58 = .ok (.iconst 1, 1) := by decide +kernel
theorem dX7_spreadWays_59 : decode cX7_spreadWays 59 = .ok (.isub, 1) := by decide +kernel
theorem dX7_spreadWays_60 : decode cX7_spreadWays 60 = .ok (.laload, 1) := by decide +kernel
theorem dX7_spreadWays_61 : decode cX7_spreadWays 61 = .ok (.bipush 16, 2) := by decide +kernel
theorem dX7_spreadWays_63 : decode cX7_spreadWays 63 = .ok (.iload_n 2, 1) := by decide +kernel
theorem dX7_spreadWays_64 : decode cX7_spreadWays 64 = .ok (.isub, 1) := by decide +kernel
theorem dX7_spreadWays_65 : decode cX7_spreadWays 65 = .ok (.i2l, 1) := by decide +kernel
theorem dX7_spreadWays_66 : decode cX7_spreadWays 66 = .ok (.lmul, 1) := by decide +kernel
theorem dX7_spreadWays_67 : decode cX7_spreadWays 67 = .ok (.ladd, 1) := by decide +kernel
theorem dX7_spreadWays_68 : decode cX7_spreadWays 68 = .ok (.lastore, 1) := by decide +kernel
theorem dX7_spreadWays_69 : decode cX7_spreadWays 69 = .ok (.iinc 4 (-1), 3) := by decide +kernel
theorem dX7_spreadWays_72 : decode cX7_spreadWays 72 = .ok (.goto (-41), 3) := by decide +kernel
theorem dX7_spreadWays_75 : decode cX7_spreadWays 75 = .ok (.aload_n 0, 1) := by decide +kernel
theorem dX7_spreadWays_76 : decode cX7_spreadWays 76 = .ok (.getfield 74, 3) := by decide +kernel
theorem dX7_spreadWays_79 : decode cX7_spreadWays 79 = .ok (.iconst 0, 1) := by decide +kernel
theorem dX7_spreadWays_80 : decode cX7_spreadWays 80 = .ok (.dup2, 1) := by decide +kernel
theorem dX7_spreadWays_81 : decode cX7_spreadWays 81 = .ok (.laload, 1) := by decide +kernel
theorem dX7_spreadWays_82 : decode cX7_spreadWays 82 = .ok (.iload_n 2, 1) := by decide +kernel
theorem dX7_spreadWays_83 : decode cX7_spreadWays 83 = .ok (.i2l, 1) := by decide +kernel
theorem dX7_spreadWays_84 : decode cX7_spreadWays 84 = .ok (.lmul, 1) := by decide +kernel
theorem dX7_spreadWays_85 : decode cX7_spreadWays 85 = .ok (.lastore, 1) := by decide +kernel
theorem dX7_spreadWays_86 : decode cX7_spreadWays 86 = .ok (.iinc 3 1, 3) := by decide +kernel
theorem dX7_spreadWays_89 : decode cX7_spreadWays 89 = .ok (.goto (-72), 3) := by decide +kernel
theorem dX7_spreadWays_92 : decode cX7_spreadWays 92 = .ok (.return_, 1) := by decide +kernel
theorem dX7_court_0 : decode cX7_court 0 = .ok (.iload_n 2, 1) := by decide +kernel
theorem dX7_court_1 : decode cX7_court 1 = .ok (.iconst 1, 1) := by decide +kernel
theorem dX7_court_2 : decode cX7_court 2 = .ok (.if_icmp .lt 17, 3) := by decide +kernel
theorem dX7_court_5 : decode cX7_court 5 = .ok (.iload_n 2, 1) := by decide +kernel
theorem dX7_court_6 : decode cX7_court 6 = .ok (.bipush 8, 2) := by decide +kernel
theorem dX7_court_8 : decode cX7_court 8 = .ok (.if_icmp .gt 11, 3) := by decide +kernel
theorem dX7_court_11 : decode cX7_court 11 = .ok (.iload_n 3, 1) := by decide +kernel
theorem dX7_court_12 : decode cX7_court 12 = .ok (.iconst 2, 1) := by decide +kernel
theorem dX7_court_13 : decode cX7_court 13 = .ok (.invokestatic 89, 3) := by decide +kernel
theorem dX7_court_16 : decode cX7_court 16 = .ok (.ifCond .ne 6, 3) := by decide +kernel
theorem dX7_court_19 : decode cX7_court 19 = .ok (.bipush (-2), 2) := by decide +kernel
theorem dX7_court_21 : decode cX7_court 21 = .ok (.ireturn, 1) := by decide +kernel
theorem dX7_court_22 : decode cX7_court 22 = .ok (.aload_n 0, 1) := by decide +kernel
theorem dX7_court_23 : decode cX7_court 23 = .ok (.getfield 50, 3) := by decide +kernel
theorem dX7_court_26 : decode cX7_court 26 = .ok (.iconst 0, 1) := by decide +kernel
theorem dX7_court_27 : decode cX7_court 27 = .ok (.putfield 140, 3) := by decide +kernel
theorem dX7_court_30 : decode cX7_court 30 = .ok (.iload_n 1, 1) := by decide +kernel
theorem dX7_court_31 : decode cX7_court 31 = .ok (.istore 4, 2) := by decide +kernel
theorem dX7_court_33 : decode cX7_court 33 = .ok (.iconst 0, 1) := by decide +kernel
theorem dX7_court_34 : decode cX7_court 34 = .ok (.istore 5, 2) := by decide +kernel
theorem dX7_court_36 : decode cX7_court 36 = .ok (.iload 5, 2) := by decide +kernel
theorem dX7_court_38 : decode cX7_court 38 = .ok (.iload_n 2, 1) := by decide +kernel
theorem dX7_court_39 : decode cX7_court 39 = .ok (.if_icmp .ge 61, 3) := by decide +kernel
theorem dX7_court_42 : decode cX7_court 42 = .ok (.iload 4, 2) := by decide +kernel
theorem dX7_court_44 : decode cX7_court 44 = .ok (.invokestatic 286, 3) := by decide +kernel
theorem dX7_court_47 : decode cX7_court 47 = .ok (.istore 4, 2) := by decide +kernel
theorem dX7_court_49 : decode cX7_court 49 = .ok (.iload 4, 2) := by decide +kernel
theorem dX7_court_51 : decode cX7_court 51 = .ok (.invokestatic 286, 3) := by decide +kernel
theorem dX7_court_54 : decode cX7_court 54 = .ok (.istore 6, 2) := by decide +kernel
theorem dX7_court_56 : decode cX7_court 56 = .ok (.iload 6, 2) := by decide +kernel
theorem dX7_court_58 : decode cX7_court 58 = .ok (.invokestatic 286, 3) := by decide +kernel
theorem dX7_court_61 : decode cX7_court 61 = .ok (.istore 7, 2) := by decide +kernel
theorem dX7_court_63 : decode cX7_court 63 = .ok (.aload_n 0, 1) := by decide +kernel
theorem dX7_court_64 : decode cX7_court 64 = .ok (.getfield 50, 3) := by decide +kernel
theorem dX7_court_67 : decode cX7_court 67 = .ok (.iload 4, 2) := by decide +kernel
theorem dX7_court_69 : decode cX7_court 69 = .ok (.bipush 50, 2) := by decide +kernel
theorem dX7_court_71 : decode cX7_court 71 = .ok (.invokestatic 289, 3) := by decide +kernel
theorem dX7_court_74 : decode cX7_court 74 = .ok (.iload 6, 2) := by decide +kernel
theorem dX7_court_76 : decode cX7_court 76 = .ok (.bipush 10, 2) := by decide +kernel
theorem dX7_court_78 : decode cX7_court 78 = .ok (.invokestatic 289, 3) := by decide +kernel
theorem dX7_court_81 : decode cX7_court 81 = .ok (.iload 7, 2) := by decide +kernel
theorem dX7_court_83 : decode cX7_court 83 = .ok (.iconst 4, 1) := by decide +kernel
theorem dX7_court_84 : decode cX7_court 84 = .ok (.invokestatic 289, 3) := by decide +kernel
theorem dX7_court_87 : decode cX7_court 87 = .ok (.invokevirtual 141, 3) := by decide +kernel
theorem dX7_court_90 : decode cX7_court 90 = .ok (.iload 7, 2) := by decide +kernel
theorem dX7_court_92 : decode cX7_court 92 = .ok (.istore 4, 2) := by decide +kernel
theorem dX7_court_94 : decode cX7_court 94 = .ok (.iinc 5 1, 3) := by decide +kernel
theorem dX7_court_97 : decode cX7_court 97 = .ok (.goto (-61), 3) := by decide +kernel
theorem dX7_court_100 : decode cX7_court 100 = .ok (.aload_n 0, 1) := by decide +kernel
theorem dX7_court_101 : decode cX7_court 101 = .ok (.aload_n 0, 1) := by decide +kernel
theorem dX7_court_102 : decode cX7_court 102 = .ok (.getfield 50, 3) := by decide +kernel
theorem dX7_court_105 : decode cX7_court 105 = .ok (.invokevirtual 185, 3) := by decide +kernel
theorem dX7_court_108 : decode cX7_court 108 = .ok (.iload_n 3, 1) := by decide +kernel
theorem dX7_court_109 : decode cX7_court 109 = .ok (.ifCond .ne 14, 3) := by decide +kernel
theorem dX7_court_112 : decode cX7_court 112 = .ok (.aload_n 0, 1) := by decide +kernel
theorem dX7_court_113 : decode cX7_court 113 = .ok (.aload_n 0, 1) := by decide +kernel
theorem dX7_court_114 : decode cX7_court 114 = .ok (.getfield 50, 3) := by decide +kernel
theorem dX7_court_117 : decode cX7_court 117 = .ok (.invokevirtual 221, 3) := by decide +kernel
theorem dX7_court_120 : decode cX7_court 120 = .ok (.goto 10, 3) := by decide +kernel
theorem dX7_court_123 : decode cX7_court 123 = .ok (.aload_n 0, 1) := by decide +kernel
theorem dX7_court_124 : decode cX7_court 124 = .ok (.getfield 63, 3) := by decide +kernel
theorem dX7_court_127 : decode cX7_court 127 = .ok (.getfield 292, 3) := by decide +kernel
theorem dX7_court_130 : decode cX7_court 130 = .ok (.ireturn, 1) := by decide +kernel
theorem dX7_nextSeed_0 : decode cX7_nextSeed 0 = .ok (.ldc_w 293, 3) := by decide +kernel
theorem dX7_nextSeed_3 : decode cX7_nextSeed 3 = .ok (.iload_n 0, 1) := by decide +kernel
theorem dX7_nextSeed_4 : decode cX7_nextSeed 4 = .ok (.imul, 1) := by decide +kernel
theorem dX7_nextSeed_5 : decode cX7_nextSeed 5 = .ok (.sipush 12345, 3) := by decide +kernel
theorem dX7_nextSeed_8 : decode cX7_nextSeed 8 = .ok (.iadd, 1) := by decide +kernel
theorem dX7_nextSeed_9 : decode cX7_nextSeed 9 = .ok (.ireturn, 1) := by decide +kernel
theorem dX7_lot_0 : decode cX7_lot 0 = .ok (.iload_n 1, 1) := by decide +kernel
theorem dX7_lot_1 : decode cX7_lot 1 = .ok (.ifCond .le 12, 3) := by decide +kernel
theorem dX7_lot_4 : decode cX7_lot 4 = .ok (.iload_n 0, 1) := by decide +kernel
theorem dX7_lot_5 : decode cX7_lot 5 = .ok (.bipush 16, 2) := by decide +kernel
theorem dX7_lot_7 : decode cX7_lot 7 = .ok (.iushr, 1) := by decide +kernel
theorem dX7_lot_8 : decode cX7_lot 8 = .ok (.iload_n 1, 1) := by decide +kernel
theorem dX7_lot_9 : decode cX7_lot 9 = .ok (.irem, 1) := by decide +kernel
theorem dX7_lot_10 : decode cX7_lot 10 = .ok (.goto 4, 3) := by decide +kernel
theorem dX7_lot_13 : decode cX7_lot 13 = .ok (.iconst 0, 1) := by decide +kernel
theorem dX7_lot_14 : decode cX7_lot 14 = .ok (.ireturn, 1) := by decide +kernel
theorem dX7_found_0 : decode cX7_found 0 = .ok (.aload_n 0, 1) := by decide +kernel
theorem dX7_found_1 : decode cX7_found 1 = .ok (.iload_n 1, 1) := by decide +kernel
theorem dX7_found_2 : decode cX7_found 2 = .ok (.putfield 294, 3) := by decide +kernel
theorem dX7_found_5 : decode cX7_found 5 = .ok (.bipush (-10), 2) := by decide +kernel
theorem dX7_found_7 : decode cX7_found 7 = .ok (.iload_n 1, 1) := by decide +kernel
theorem dX7_found_8 : decode cX7_found 8 = .ok (.isub, 1) := by decide +kernel
theorem dX7_found_9 : decode cX7_found 9 = .ok (.ireturn, 1) := by decide +kernel
theorem dX7_sheet_0 : decode cX7_sheet 0 = .ok (.iload_n 1, 1) := by decide +kernel
theorem dX7_sheet_1 : decode cX7_sheet 1 = .ok (.iconst 4, 1) := by decide +kernel
theorem dX7_sheet_2 : decode cX7_sheet 2 = .ok (.invokestatic 89, 3) := by decide +kernel
theorem dX7_sheet_5 : decode cX7_sheet 5 = .ok (.ifCond .eq 17, 3) := by decide +kernel
theorem dX7_sheet_8 : decode cX7_sheet 8 = .ok (.iload_n 2, 1) := by decide +kernel
theorem dX7_sheet_9 : decode cX7_sheet 9 = .ok (.iconst 3, 1) := by decide +kernel
theorem dX7_sheet_10 : decode cX7_sheet 10 = .ok (.invokestatic 89, 3) := by decide +kernel
theorem dX7_sheet_13 : decode cX7_sheet 13 = .ok (.ifCond .eq 9, 3) := by decide +kernel
theorem dX7_sheet_16 : decode cX7_sheet 16 = .ok (.iload_n 3, 1) := by decide +kernel
theorem dX7_sheet_17 : decode cX7_sheet 17 = .ok (.bipush 60, 2) := by decide +kernel
theorem dX7_sheet_19 : decode cX7_sheet 19 = .ok (.if_icmp .le 6, 3) := by decide +kernel
theorem dX7_sheet_22 : decode cX7_sheet 22 = .ok (.bipush (-2), 2) := by decide +kernel
theorem dX7_sheet_24 : decode cX7_sheet 24 = .ok (.ireturn, 1) := by decide +kernel
theorem dX7_sheet_25 : decode cX7_sheet 25 = .ok (.iload_n 3, 1) := by decide +kernel
theorem dX7_sheet_26 : decode cX7_sheet 26 = .ok (.ifCond .ge 9, 3) := by decide +kernel
theorem dX7_sheet_29 : decode cX7_sheet 29 = .ok (.aload_n 0, 1) := by decide +kernel
theorem dX7_sheet_30 : decode cX7_sheet 30 = .ok (.iconst 5, 1) := by decide +kernel
theorem dX7_sheet_31 : decode cX7_sheet 31 = .ok (.invokevirtual 237, 3) := by decide +kernel
theorem dX7_sheet_34 : decode cX7_sheet 34 = .ok (.ireturn, 1) := by decide +kernel
theorem dX7_sheet_35 : decode cX7_sheet 35 = .ok (.aload_n 0, 1) := by decide +kernel
theorem dX7_sheet_36 : decode cX7_sheet 36 = .ok (.getfield 41, 3) := by decide +kernel
theorem dX7_sheet_39 : decode cX7_sheet 39 = .ok (.iload_n 1, 1) := by decide +kernel
theorem dX7_sheet_40 : decode cX7_sheet 40 = .ok (.aaload, 1) := by decide +kernel
theorem dX7_sheet_41 : decode cX7_sheet 41 = .ok (.iload_n 2, 1) := by decide +kernel
theorem dX7_sheet_42 : decode cX7_sheet 42 = .ok (.iload_n 3, 1) := by decide +kernel
theorem dX7_sheet_43 : decode cX7_sheet 43 = .ok (.invokevirtual 297, 3) := by decide +kernel
theorem dX7_sheet_46 : decode cX7_sheet 46 = .ok (.iload_n 3, 1) := by decide +kernel
theorem dX7_sheet_47 : decode cX7_sheet 47 = .ok (.ireturn, 1) := by decide +kernel
theorem dX7_lose_0 : decode cX7_lose 0 = .ok (.iload_n 1, 1) := by decide +kernel
theorem dX7_lose_1 : decode cX7_lose 1 = .ok (.iconst 4, 1) := by decide +kernel
theorem dX7_lose_2 : decode cX7_lose 2 = .ok (.invokestatic 89, 3) := by decide +kernel
theorem dX7_lose_5 : decode cX7_lose 5 = .ok (.ifCond .ne 6, 3) := by decide +kernel
theorem dX7_lose_8 : decode cX7_lose 8 = .ok (.bipush (-2), 2) := by decide +kernel
theorem dX7_lose_10 : decode cX7_lose 10 = .ok (.ireturn, 1) := by decide +kernel
theorem dX7_lose_11 : decode cX7_lose 11 = .ok (.aload_n 0, 1) := by decide +kernel
theorem dX7_lose_12 : decode cX7_lose 12 = .ok (.getfield 41, 3) := by decide +kernel
theorem dX7_lose_15 : decode cX7_lose 15 = .ok (.iload_n 1, 1) := by decide +kernel
theorem dX7_lose_16 : decode cX7_lose 16 = .ok (.aaload, 1) := by decide +kernel
theorem dX7_lose_17 : decode cX7_lose 17 = .ok (.getfield 233, 3) := by decide +kernel
theorem dX7_lose_20 : decode cX7_lose 20 = .ok (.ifCond .eq 9, 3) := by decide +kernel
theorem dX7_lose_23 : decode cX7_lose 23 = .ok (.aload_n 0, 1) := by decide +kernel
theorem dX7_lose_24 : decode cX7_lose 24 = .ok (.iconst 1, 1) := by decide +kernel
theorem dX7_lose_25 : decode cX7_lose 25 = .ok (.invokevirtual 237, 3) := by decide +kernel
theorem dX7_lose_28 : decode cX7_lose 28 = .ok (.ireturn, 1) := by decide +kernel
theorem dX7_lose_29 : decode cX7_lose 29 = .ok (.aload_n 0, 1) := by decide +kernel
theorem dX7_lose_30 : decode cX7_lose 30 = .ok (.getfield 41, 3) := by decide +kernel
theorem dX7_lose_33 : decode cX7_lose 33 = .ok (.iload_n 1, 1) := by decide +kernel
theorem dX7_lose_34 : decode cX7_lose 34 = .ok (.aaload, 1) := by decide +kernel
theorem dX7_lose_35 : decode cX7_lose 35 = .ok (.iconst 1, 1) := by decide +kernel
theorem dX7_lose_36 : decode cX7_lose 36 = .ok (.putfield 233, 3) := by decide +kernel
theorem dX7_lose_39 : decode cX7_lose 39 = .ok (.aload_n 0, 1) := by decide +kernel
theorem dX7_lose_40 : decode cX7_lose 40 = .ok (.getfield 41, 3) := by decide +kernel
theorem dX7_lose_43 : decode cX7_lose 43 = .ok (.iload_n 1, 1) := by decide +kernel
theorem dX7_lose_44 : decode cX7_lose 44 = .ok (.aaload, 1) := by decide +kernel
theorem dX7_lose_45 : decode cX7_lose 45 = .ok (.getfield 240, 3) := by decide +kernel
theorem dX7_lose_48 : decode cX7_lose 48 = .ok (.ireturn, 1) := by decide +kernel
theorem dX7_findingAt_0 : decode cX7_findingAt 0 = .ok (.aload_n 1, 1) := by decide +kernel
theorem dX7_findingAt_1 : decode cX7_findingAt 1 = .ok (.getfield 233, 3) := by decide +kernel
theorem dX7_findingAt_4 : decode cX7_findingAt 4 = .ok (.ifCond .eq 5, 3) := by decide +kernel
theorem dX7_findingAt_7 : decode cX7_findingAt 7 = .ok (.iconst 1, 1) := by decide +kernel
theorem dX7_findingAt_8 : decode cX7_findingAt 8 = .ok (.ireturn, 1) := by decide +kernel
theorem dX7_findingAt_9 : decode cX7_findingAt 9 = .ok (.aload_n 1, 1) := by decide +kernel
theorem dX7_findingAt_10 : decode cX7_findingAt 10 = .ok (.getfield 300, 3) := by decide +kernel
theorem dX7_findingAt_13 : decode cX7_findingAt 13 = .ok (.iload_n 2, 1) := by decide +kernel
theorem dX7_findingAt_14 : decode cX7_findingAt 14 = .ok (.if_icmp .eq 5, 3) := by decide +kernel
theorem dX7_findingAt_17 : decode cX7_findingAt 17 = .ok (.iconst 3, 1) := by decide +kernel
theorem dX7_findingAt_18 : decode cX7_findingAt 18 = .ok (.ireturn, 1) := by decide +kernel
theorem dX7_findingAt_19 : decode cX7_findingAt 19 = .ok (.iload_n 3, 1) := by decide +kernel
theorem dX7_findingAt_20 : decode cX7_findingAt 20 = .ok (.aload_n 1, 1) := by decide +kernel
theorem dX7_findingAt_21 : decode cX7_findingAt 21 = .ok (.getfield 240, 3) := by decide +kernel
theorem dX7_findingAt_24 : decode cX7_findingAt 24 = .ok (.invokestatic 89, 3) := by decide +kernel
theorem dX7_findingAt_27 : decode cX7_findingAt 27 = .ok (.ifCond .eq 7, 3) := by decide +kernel
theorem dX7_findingAt_30 : decode cX7_findingAt 30 = .ok (.iconst 0, 1) := by decide +kernel
theorem dX7_findingAt_31 : decode cX7_findingAt 31 = .ok (.goto 4, 3) := by decide +kernel
theorem dX7_findingAt_34 : decode cX7_findingAt 34 = .ok (.iconst 2, 1) := by decide +kernel
theorem dX7_findingAt_35 : decode cX7_findingAt 35 = .ok (.ireturn, 1) := by decide +kernel
theorem dX7_put_0 : decode cX7_put 0 = .ok (.iload_n 1, 1) := by decide +kernel
theorem dX7_put_1 : decode cX7_put 1 = .ok (.iconst 4, 1) := by decide +kernel
theorem dX7_put_2 : decode cX7_put 2 = .ok (.invokestatic 89, 3) := by decide +kernel
theorem dX7_put_5 : decode cX7_put 5 = .ok (.ifCond .eq 11, 3) := by decide +kernel
theorem dX7_put_8 : decode cX7_put 8 = .ok (.iload_n 2, 1) := by decide +kernel
theorem dX7_put_9 : decode cX7_put 9 = .ok (.iconst 3, 1) := by decide +kernel
theorem dX7_put_10 : decode cX7_put 10 = .ok (.invokestatic 89, 3) := by decide +kernel
theorem dX7_put_13 : decode cX7_put 13 = .ok (.ifCond .ne 6, 3) := by decide +kernel
theorem dX7_put_16 : decode cX7_put 16 = .ok (.bipush (-2), 2) := by decide +kernel
theorem dX7_put_18 : decode cX7_put 18 = .ok (.ireturn, 1) := by decide +kernel
theorem dX7_put_19 : decode cX7_put 19 = .ok (.aload_n 0, 1) := by decide +kernel
theorem dX7_put_20 : decode cX7_put 20 = .ok (.aload_n 0, 1) := by decide +kernel
theorem dX7_put_21 : decode cX7_put 21 = .ok (.getfield 41, 3) := by decide +kernel
theorem dX7_put_24 : decode cX7_put 24 = .ok (.iload_n 1, 1) := by decide +kernel
theorem dX7_put_25 : decode cX7_put 25 = .ok (.aaload, 1) := by decide +kernel
theorem dX7_put_26 : decode cX7_put 26 = .ok (.iload_n 2, 1) := by decide +kernel
theorem dX7_put_27 : decode cX7_put 27 = .ok (.iload_n 3, 1) := by decide +kernel
theorem dX7_put_28 : decode cX7_put 28 = .ok (.invokevirtual 303, 3) := by decide +kernel
theorem dX7_put_31 : decode cX7_put 31 = .ok (.istore 5, 2) := by decide +kernel
theorem dX7_put_33 : decode cX7_put 33 = .ok (.iload 5, 2) := by decide +kernel
theorem dX7_put_35 : decode cX7_put 35 = .ok (.ifCond .eq 10, 3) := by decide +kernel
theorem dX7_put_38 : decode cX7_put 38 = .ok (.aload_n 0, 1) := by decide +kernel
theorem dX7_put_39 : decode cX7_put 39 = .ok (.iload 5, 2) := by decide +kernel
theorem dX7_put_41 : decode cX7_put 41 = .ok (.invokevirtual 237, 3) := by decide +kernel
theorem dX7_put_44 : decode cX7_put 44 = .ok (.ireturn, 1) := by decide +kernel
theorem dX7_put_45 : decode cX7_put 45 = .ok (.aload_n 0, 1) := by decide +kernel
theorem dX7_put_46 : decode cX7_put 46 = .ok (.getfield 41, 3) := by decide +kernel
theorem dX7_put_49 : decode cX7_put 49 = .ok (.iload_n 1, 1) := by decide +kernel
theorem dX7_put_50 : decode cX7_put 50 = .ok (.aaload, 1) := by decide +kernel
theorem dX7_put_51 : decode cX7_put 51 = .ok (.iload_n 3, 1) := by decide +kernel
theorem dX7_put_52 : decode cX7_put 52 = .ok (.iload 4, 2) := by decide +kernel
theorem dX7_put_54 : decode cX7_put 54 = .ok (.invokevirtual 307, 3) := by decide +kernel
theorem dX7_put_57 : decode cX7_put 57 = .ok (.iconst 1, 1) := by decide +kernel
theorem dX7_put_58 : decode cX7_put 58 = .ok (.ireturn, 1) := by decide +kernel
theorem dX7_get_0 : decode cX7_get 0 = .ok (.iload_n 1, 1) := by decide +kernel
theorem dX7_get_1 : decode cX7_get 1 = .ok (.iconst 4, 1) := by decide +kernel
theorem dX7_get_2 : decode cX7_get 2 = .ok (.invokestatic 89, 3) := by decide +kernel
theorem dX7_get_5 : decode cX7_get 5 = .ok (.ifCond .eq 11, 3) := by decide +kernel
theorem dX7_get_8 : decode cX7_get 8 = .ok (.iload_n 2, 1) := by decide +kernel
theorem dX7_get_9 : decode cX7_get 9 = .ok (.iconst 3, 1) := by decide +kernel
theorem dX7_get_10 : decode cX7_get 10 = .ok (.invokestatic 89, 3) := by decide +kernel
theorem dX7_get_13 : decode cX7_get 13 = .ok (.ifCond .ne 7, 3) := by decide +kernel
theorem dX7_get_16 : decode cX7_get 16 = .ok (.ldc_w 310, 3) := by decide +kernel
theorem dX7_get_19 : decode cX7_get 19 = .ok (.ireturn, 1) := by decide +kernel
theorem dX7_get_20 : decode cX7_get 20 = .ok (.aload_n 0, 1) := by decide +kernel
theorem dX7_get_21 : decode cX7_get 21 = .ok (.aload_n 0, 1) := by decide +kernel
theorem dX7_get_22 : decode cX7_get 22 = .ok (.getfield 41, 3) := by decide +kernel
theorem dX7_get_25 : decode cX7_get 25 = .ok (.iload_n 1, 1) := by decide +kernel
theorem dX7_get_26 : decode cX7_get 26 = .ok (.aaload, 1) := by decide +kernel
theorem dX7_get_27 : decode cX7_get 27 = .ok (.iload_n 2, 1) := by decide +kernel
theorem dX7_get_28 : decode cX7_get 28 = .ok (.iload_n 3, 1) := by decide +kernel
theorem dX7_get_29 : decode cX7_get 29 = .ok (.invokevirtual 303, 3) := by decide +kernel
theorem dX7_get_32 : decode cX7_get 32 = .ok (.istore 4, 2) := by decide +kernel
theorem dX7_get_34 : decode cX7_get 34 = .ok (.iload 4, 2) := by decide +kernel
theorem dX7_get_36 : decode cX7_get 36 = .ok (.ifCond .eq 13, 3) := by decide +kernel
theorem dX7_get_39 : decode cX7_get 39 = .ok (.aload_n 0, 1) := by decide +kernel
theorem dX7_get_40 : decode cX7_get 40 = .ok (.iload 4, 2) := by decide +kernel
theorem dX7_get_42 : decode cX7_get 42 = .ok (.putfield 294, 3) := by decide +kernel
theorem dX7_get_45 : decode cX7_get 45 = .ok (.ldc_w 310, 3) := by decide +kernel
theorem dX7_get_48 : decode cX7_get 48 = .ok (.ireturn, 1) := by decide +kernel
theorem dX7_get_49 : decode cX7_get 49 = .ok (.aload_n 0, 1) := by decide +kernel
theorem dX7_get_50 : decode cX7_get 50 = .ok (.getfield 41, 3) := by decide +kernel
theorem dX7_get_53 : decode cX7_get 53 = .ok (.iload_n 1, 1) := by decide +kernel
theorem dX7_get_54 : decode cX7_get 54 = .ok (.aaload, 1) := by decide +kernel
theorem dX7_get_55 : decode cX7_get 55 = .ok (.getfield 241, 3) := by decide +kernel
theorem dX7_get_58 : decode cX7_get 58 = .ok (.iload_n 3, 1) := by decide +kernel
theorem dX7_get_59 : decode cX7_get 59 = .ok (.iaload, 1) := by decide +kernel
theorem dX7_get_60 : decode cX7_get 60 = .ok (.ireturn, 1) := by decide +kernel
theorem dX7_copy_0 : decode cX7_copy 0 = .ok (.iload_n 1, 1) := by decide +kernel
theorem dX7_copy_1 : decode cX7_copy 1 = .ok (.iconst 4, 1) := by decide +kernel
theorem dX7_copy_2 : decode cX7_copy 2 = .ok (.invokestatic 89, 3) := by decide +kernel
theorem dX7_copy_5 : decode cX7_copy 5 = .ok (.ifCond .eq 11, 3) := by decide +kernel
theorem dX7_copy_8 : decode cX7_copy 8 = .ok (.iload_n 3, 1) := by decide +kernel
theorem dX7_copy_9 : decode cX7_copy 9 = .ok (.iconst 4, 1) := by decide +kernel
theorem dX7_copy_10 : decode cX7_copy 10 = .ok (.invokestatic 89, 3) := by decide +kernel
theorem dX7_copy_13 : decode cX7_copy 13 = .ok (.ifCond .ne 6, 3) := by decide +kernel
theorem dX7_copy_16 : decode cX7_copy 16 = .ok (.bipush (-2), 2) := by decide +kernel
theorem dX7_copy_18 : decode cX7_copy 18 = .ok (.ireturn, 1) := by decide +kernel
theorem dX7_copy_19 : decode cX7_copy 19 = .ok (.aload_n 0, 1) := by decide +kernel
theorem dX7_copy_20 : decode cX7_copy 20 = .ok (.getfield 41, 3) := by decide +kernel
theorem dX7_copy_23 : decode cX7_copy 23 = .ok (.iload_n 1, 1) := by decide +kernel
theorem dX7_copy_24 : decode cX7_copy 24 = .ok (.aaload, 1) := by decide +kernel
theorem dX7_copy_25 : decode cX7_copy 25 = .ok (.astore 6, 2) := by decide +kernel
theorem dX7_copy_27 : decode cX7_copy 27 = .ok (.aload_n 0, 1) := by decide +kernel
theorem dX7_copy_28 : decode cX7_copy 28 = .ok (.getfield 41, 3) := by decide +kernel
theorem dX7_copy_31 : decode cX7_copy 31 = .ok (.iload_n 3, 1) := by decide +kernel
theorem dX7_copy_32 : decode cX7_copy 32 = .ok (.aaload, 1) := by decide +kernel
theorem dX7_copy_33 : decode cX7_copy 33 = .ok (.astore 7, 2) := by decide +kernel
theorem dX7_copy_35 : decode cX7_copy 35 = .ok (.aload 6, 2) := by decide +kernel
theorem dX7_copy_37 : decode cX7_copy 37 = .ok (.getfield 233, 3) := by decide +kernel
theorem dX7_copy_40 : decode cX7_copy 40 = .ok (.ifCond .ne 11, 3) := by decide +kernel
theorem dX7_copy_43 : decode cX7_copy 43 = .ok (.aload 7, 2) := by decide +kernel
theorem dX7_copy_45 : decode cX7_copy 45 = .ok (.getfield 233, 3) := by decide +kernel
theorem dX7_copy_48 : decode cX7_copy 48 = .ok (.ifCond .eq 9, 3) := by decide +kernel
theorem dX7_copy_51 : decode cX7_copy 51 = .ok (.aload_n 0, 1) := by decide +kernel
theorem dX7_copy_52 : decode cX7_copy 52 = .ok (.iconst 1, 1) := by decide +kernel
theorem dX7_copy_53 : decode cX7_copy 53 = .ok (.invokevirtual 237, 3) := by decide +kernel
theorem dX7_copy_56 : decode cX7_copy 56 = .ok (.ireturn, 1) := by decide +kernel
theorem dX7_copy_57 : decode cX7_copy 57 = .ok (.aload 6, 2) := by decide +kernel
theorem dX7_copy_59 : decode cX7_copy 59 = .ok (.getfield 300, 3) := by decide +kernel
theorem dX7_copy_62 : decode cX7_copy 62 = .ok (.aload 7, 2) := by decide +kernel
theorem dX7_copy_64 : decode cX7_copy 64 = .ok (.getfield 300, 3) := by decide +kernel
theorem dX7_copy_67 : decode cX7_copy 67 = .ok (.if_icmp .eq 9, 3) := by decide +kernel
theorem dX7_copy_70 : decode cX7_copy 70 = .ok (.aload_n 0, 1) := by decide +kernel
theorem dX7_copy_71 : decode cX7_copy 71 = .ok (.iconst 4, 1) := by decide +kernel
theorem dX7_copy_72 : decode cX7_copy 72 = .ok (.invokevirtual 237, 3) := by decide +kernel
theorem dX7_copy_75 : decode cX7_copy 75 = .ok (.ireturn, 1) := by decide +kernel
theorem dX7_copy_76 : decode cX7_copy 76 = .ok (.aload 6, 2) := by decide +kernel
theorem dX7_copy_78 : decode cX7_copy 78 = .ok (.iload_n 2, 1) := by decide +kernel
theorem dX7_copy_79 : decode cX7_copy 79 = .ok (.iload 5, 2) := by decide +kernel
theorem dX7_copy_81 : decode cX7_copy 81 = .ok (.invokestatic 311, 3) := by decide +kernel
theorem dX7_copy_84 : decode cX7_copy 84 = .ok (.ifCond .eq 15, 3) := by decide +kernel
theorem dX7_copy_87 : decode cX7_copy 87 = .ok (.aload 7, 2) := by decide +kernel
theorem dX7_copy_89 : decode cX7_copy 89 = .ok (.iload 4, 2) := by decide +kernel
theorem dX7_copy_91 : decode cX7_copy 91 = .ok (.iload 5, 2) := by decide +kernel
theorem dX7_copy_93 : decode cX7_copy 93 = .ok (.invokestatic 311, 3) := by decide +kernel
theorem dX7_copy_96 : decode cX7_copy 96 = .ok (.ifCond .ne 9, 3) := by decide +kernel
theorem dX7_copy_99 : decode cX7_copy 99 = .ok (.aload_n 0, 1) := by decide +kernel
theorem dX7_copy_100 : decode cX7_copy 100 = .ok (.iconst 2, 1) := by decide +kernel
theorem dX7_copy_101 : decode cX7_copy 101 = .ok (.invokevirtual 237, 3) := by decide +kernel
theorem dX7_copy_104 : decode cX7_copy 104 = .ok (.ireturn, 1) := by decide +kernel
theorem dX7_copy_105 : decode cX7_copy 105 = .ok (.aload 6, 2) := by decide +kernel
theorem dX7_copy_107 : decode cX7_copy 107 = .ok (.getfield 241, 3) := by decide +kernel
theorem dX7_copy_110 : decode cX7_copy 110 = .ok (.iload_n 2, 1) := by decide +kernel
theorem dX7_copy_111 : decode cX7_copy 111 = .ok (.aload 7, 2) := by decide +kernel
theorem dX7_copy_113 : decode cX7_copy 113 = .ok (.getfield 241, 3) := by decide +kernel
theorem dX7_copy_116 : decode cX7_copy 116 = .ok (.iload 4, 2) := by decide +kernel
theorem dX7_copy_118 : decode cX7_copy 118 = .ok (.iload 5, 2) := by decide +kernel
theorem dX7_copy_120 : decode cX7_copy 120 = .ok (.invokestatic 315, 3) := by decide +kernel
theorem dX7_copy_123 : decode cX7_copy 123 = .ok (.iconst 1, 1) := by decide +kernel
theorem dX7_copy_124 : decode cX7_copy 124 = .ok (.ireturn, 1) := by decide +kernel
theorem dX7_holds_0 : decode cX7_holds 0 = .ok (.iload_n 1, 1) := by decide +kernel
theorem dX7_holds_1 : decode cX7_holds 1 = .ok (.ifCond .lt 29, 3) := by decide +kernel
theorem dX7_holds_4 : decode cX7_holds 4 = .ok (.iload_n 2, 1) := by decide +kernel
theorem dX7_holds_5 : decode cX7_holds 5 = .ok (.ifCond .lt 25, 3) := by decide +kernel
theorem dX7_holds_8 : decode cX7_holds 8 = .ok (.iload_n 1, 1) := by decide +kernel
theorem dX7_holds_9 : decode cX7_holds 9 = .ok (.aload_n 0, 1) := by decide +kernel
theorem dX7_holds_10 : decode cX7_holds 10 = .ok (.getfield 240, 3) := by decide +kernel
theorem dX7_holds_13 : decode cX7_holds 13 = .ok (.if_icmp .gt 17, 3) := by decide +kernel
theorem dX7_holds_16 : decode cX7_holds 16 = .ok (.iload_n 2, 1) := by decide +kernel
theorem dX7_holds_17 : decode cX7_holds 17 = .ok (.aload_n 0, 1) := by decide +kernel
theorem dX7_holds_18 : decode cX7_holds 18 = .ok (.getfield 240, 3) := by decide +kernel
theorem dX7_holds_21 : decode cX7_holds 21 = .ok (.iload_n 1, 1) := by decide +kernel
theorem dX7_holds_22 : decode cX7_holds 22 = .ok (.isub, 1) := by decide +kernel
theorem dX7_holds_23 : decode cX7_holds 23 = .ok (.if_icmp .gt 7, 3) := by decide +kernel
theorem dX7_holds_26 : decode cX7_holds 26 = .ok (.iconst 1, 1) := by decide +kernel
theorem dX7_holds_27 : decode cX7_holds 27 = .ok (.goto 4, 3) := by decide +kernel
theorem dX7_holds_30 : decode cX7_holds 30 = .ok (.iconst 0, 1) := by decide +kernel
theorem dX7_holds_31 : decode cX7_holds 31 = .ok (.ireturn, 1) := by decide +kernel
theorem dX7_write_0 : decode cX7_write 0 = .ok (.iload_n 1, 1) := by decide +kernel
theorem dX7_write_1 : decode cX7_write 1 = .ok (.aload_n 0, 1) := by decide +kernel
theorem dX7_write_2 : decode cX7_write 2 = .ok (.getfield 118, 3) := by decide +kernel
theorem dX7_write_5 : decode cX7_write 5 = .ok (.invokestatic 89, 3) := by decide +kernel
theorem dX7_write_8 : decode cX7_write 8 = .ok (.ifCond .eq 11, 3) := by decide +kernel
theorem dX7_write_11 : decode cX7_write 11 = .ok (.iload_n 2, 1) := by decide +kernel
theorem dX7_write_12 : decode cX7_write 12 = .ok (.iconst 4, 1) := by decide +kernel
theorem dX7_write_13 : decode cX7_write 13 = .ok (.invokestatic 89, 3) := by decide +kernel
theorem dX7_write_16 : decode cX7_write 16 = .ok (.ifCond .ne 6, 3) := by decide +kernel
theorem dX7_write_19 : decode cX7_write 19 = .ok (.bipush (-2), 2) := by decide +kernel
theorem dX7_write_21 : decode cX7_write 21 = .ok (.ireturn, 1) := by decide +kernel
theorem dX7_write_22 : decode cX7_write 22 = .ok (.aload_n 0, 1) := by decide +kernel
theorem dX7_write_23 : decode cX7_write 23 = .ok (.getfield 41, 3) := by decide +kernel
theorem dX7_write_26 : decode cX7_write 26 = .ok (.iload_n 2, 1) := by decide +kernel
theorem dX7_write_27 : decode cX7_write 27 = .ok (.aaload, 1) := by decide +kernel
theorem dX7_write_28 : decode cX7_write 28 = .ok (.astore_n 3, 1) := by decide +kernel
theorem dX7_write_29 : decode cX7_write 29 = .ok (.aload_n 3, 1) := by decide +kernel
theorem dX7_write_30 : decode cX7_write 30 = .ok (.getfield 233, 3) := by decide +kernel
theorem dX7_write_33 : decode cX7_write 33 = .ok (.ifCond .eq 9, 3) := by decide +kernel
theorem dX7_write_36 : decode cX7_write 36 = .ok (.aload_n 0, 1) := by decide +kernel
theorem dX7_write_37 : decode cX7_write 37 = .ok (.iconst 1, 1) := by decide +kernel
theorem dX7_write_38 : decode cX7_write 38 = .ok (.invokevirtual 237, 3) := by decide +kernel
theorem dX7_write_41 : decode cX7_write 41 = .ok (.ireturn, 1) := by decide +kernel
theorem dX7_write_42 : decode cX7_write 42 = .ok (.bipush 50, 2) := by decide +kernel
theorem dX7_write_44 : decode cX7_write 44 = .ok (.aload_n 3, 1) := by decide +kernel
theorem dX7_write_45 : decode cX7_write 45 = .ok (.getfield 240, 3) := by decide +kernel
theorem dX7_write_48 : decode cX7_write 48 = .ok (.invokestatic 321, 3) := by decide +kernel
theorem dX7_write_51 : decode cX7_write 51 = .ok (.istore 4, 2) := by decide +kernel
theorem dX7_write_53 : decode cX7_write 53 = .ok (.iconst 0, 1) := by decide +kernel
theorem dX7_write_54 : decode cX7_write 54 = .ok (.istore 5, 2) := by decide +kernel
theorem dX7_write_56 : decode cX7_write 56 = .ok (.iload 5, 2) := by decide +kernel
theorem dX7_write_58 : decode cX7_write 58 = .ok (.iload 4, 2) := by decide +kernel
theorem dX7_write_60 : decode cX7_write 60 = .ok (.if_icmp .ge 34, 3) := by decide +kernel
theorem dX7_write_63 : decode cX7_write 63 = .ok (.aload_n 3, 1) := by decide +kernel
theorem dX7_write_64 : decode cX7_write 64 = .ok (.iload 5, 2) := by decide +kernel
theorem dX7_write_66 : decode cX7_write 66 = .ok (.aload_n 0, 1) := by decide +kernel
theorem dX7_write_67 : decode cX7_write 67 = .ok (.getfield 56, 3) := by decide +kernel
theorem dX7_write_70 : decode cX7_write 70 = .ok (.iload 5, 2) := by decide +kernel
theorem dX7_write_72 : decode cX7_write 72 = .ok (.aload_n 0, 1) := by decide +kernel
theorem dX7_write_73 : decode cX7_write 73 = .ok (.getfield 17, 3) := by decide +kernel
theorem dX7_write_76 : decode cX7_write 76 = .ok (.iload_n 1, 1) := by decide +kernel
theorem dX7_write_77 : decode cX7_write 77 = .ok (.aaload, 1) := by decide +kernel
theorem dX7_write_78 : decode cX7_write 78 = .ok (.aload_n 0, 1) := by decide +kernel
theorem dX7_write_79 : decode cX7_write 79 = .ok (.getfield 24, 3) := by decide +kernel
theorem dX7_write_82 : decode cX7_write 82 = .ok (.invokevirtual 172, 3) := by decide +kernel
theorem dX7_write_85 : decode cX7_write 85 = .ok (.invokevirtual 307, 3) := by decide +kernel
theorem dX7_write_88 : decode cX7_write 88 = .ok (.iinc 5 1, 3) := by decide +kernel
theorem dX7_write_91 : decode cX7_write 91 = .ok (.goto (-35), 3) := by decide +kernel
theorem dX7_write_94 : decode cX7_write 94 = .ok (.iload 4, 2) := by decide +kernel
theorem dX7_write_96 : decode cX7_write 96 = .ok (.ireturn, 1) := by decide +kernel
theorem dX7_count_0 : decode cX7_count 0 = .ok (.aload_n 0, 1) := by decide +kernel
theorem dX7_count_1 : decode cX7_count 1 = .ok (.aload_n 0, 1) := by decide +kernel
theorem dX7_count_2 : decode cX7_count 2 = .ok (.getfield 24, 3) := by decide +kernel
theorem dX7_count_5 : decode cX7_count 5 = .ok (.invokevirtual 185, 3) := by decide +kernel
theorem dX7_count_8 : decode cX7_count 8 = .ok (.iload_n 1, 1) := by decide +kernel
theorem dX7_count_9 : decode cX7_count 9 = .ok (.tableswitch 122 0 8 #[51, 56, 64, 74, 84, 93, 101, 109, 117], 51) := by decide +kernel
theorem dX7_count_60 : decode cX7_count 60 = .ok (.aload_n 0, 1) := by decide +kernel
theorem dX7_count_61 : decode cX7_count 61 = .ok (.getfield 118, 3) := by decide +kernel
theorem dX7_count_64 : decode cX7_count 64 = .ok (.ireturn, 1) := by decide +kernel
theorem dX7_count_65 : decode cX7_count 65 = .ok (.aload_n 0, 1) := by decide +kernel
theorem dX7_count_66 : decode cX7_count 66 = .ok (.getfield 24, 3) := by decide +kernel
theorem dX7_count_69 : decode cX7_count 69 = .ok (.getfield 140, 3) := by decide +kernel
theorem dX7_count_72 : decode cX7_count 72 = .ok (.ireturn, 1) := by decide +kernel
theorem dX7_count_73 : decode cX7_count 73 = .ok (.aload_n 0, 1) := by decide +kernel
theorem dX7_count_74 : decode cX7_count 74 = .ok (.getfield 9, 3) := by decide +kernel
theorem dX7_count_77 : decode cX7_count 77 = .ok (.iconst 0, 1) := by decide +kernel
theorem dX7_count_78 : decode cX7_count 78 = .ok (.aaload, 1) := by decide +kernel
theorem dX7_count_79 : decode cX7_count 79 = .ok (.getfield 93, 3) := by decide +kernel
theorem dX7_count_82 : decode cX7_count 82 = .ok (.ireturn, 1) := by decide +kernel
theorem dX7_count_83 : decode cX7_count 83 = .ok (.aload_n 0, 1) := by decide +kernel
theorem dX7_count_84 : decode cX7_count 84 = .ok (.getfield 9, 3) := by decide +kernel
theorem dX7_count_87 : decode cX7_count 87 = .ok (.iconst 1, 1) := by decide +kernel
theorem dX7_count_88 : decode cX7_count 88 = .ok (.aaload, 1) := by decide +kernel
theorem dX7_count_89 : decode cX7_count 89 = .ok (.getfield 93, 3) := by decide +kernel
theorem dX7_count_92 : decode cX7_count 92 = .ok (.ireturn, 1) := by decide +kernel
theorem dX7_count_93 : decode cX7_count 93 = .ok (.aload_n 0, 1) := by decide +kernel
theorem dX7_count_94 : decode cX7_count 94 = .ok (.aload_n 0, 1) := by decide +kernel
theorem dX7_count_95 : decode cX7_count 95 = .ok (.getfield 24, 3) := by decide +kernel
theorem dX7_count_98 : decode cX7_count 98 = .ok (.invokevirtual 221, 3) := by decide +kernel
theorem dX7_count_101 : decode cX7_count 101 = .ok (.ireturn, 1) := by decide +kernel
theorem dX7_count_102 : decode cX7_count 102 = .ok (.aload_n 0, 1) := by decide +kernel
theorem dX7_count_103 : decode cX7_count 103 = .ok (.getfield 63, 3) := by decide +kernel
theorem dX7_count_106 : decode cX7_count 106 = .ok (.getfield 292, 3) := by decide +kernel
theorem dX7_count_109 : decode cX7_count 109 = .ok (.ireturn, 1) := by decide +kernel
theorem dX7_count_110 : decode cX7_count 110 = .ok (.aload_n 0, 1) := by decide +kernel
theorem dX7_count_111 : decode cX7_count 111 = .ok (.getfield 63, 3) := by decide +kernel
theorem dX7_count_114 : decode cX7_count 114 = .ok (.getfield 324, 3) := by decide +kernel
theorem dX7_count_117 : decode cX7_count 117 = .ok (.ireturn, 1) := by decide +kernel
theorem dX7_count_118 : decode cX7_count 118 = .ok (.aload_n 0, 1) := by decide +kernel
theorem dX7_count_119 : decode cX7_count 119 = .ok (.getfield 35, 3) := by decide +kernel
theorem dX7_count_122 : decode cX7_count 122 = .ok (.getfield 231, 3) := by decide +kernel
theorem dX7_count_125 : decode cX7_count 125 = .ok (.ireturn, 1) := by decide +kernel
theorem dX7_count_126 : decode cX7_count 126 = .ok (.aload_n 0, 1) := by decide +kernel
theorem dX7_count_127 : decode cX7_count 127 = .ok (.getfield 294, 3) := by decide +kernel
theorem dX7_count_130 : decode cX7_count 130 = .ok (.ireturn, 1) := by decide +kernel
theorem dX7_count_131 : decode cX7_count 131 = .ok (.bipush (-2), 2) := by decide +kernel
theorem dX7_count_133 : decode cX7_count 133 = .ok (.ireturn, 1) := by decide +kernel
theorem dX7_digest_0 : decode cX7_digest 0 = .ok (.ldc2_w 325, 3) := by decide +kernel
theorem dX7_digest_3 : decode cX7_digest 3 = .ok (.lstore_n 1, 1) := by decide +kernel
theorem dX7_digest_4 : decode cX7_digest 4 = .ok (.iconst 0, 1) := by decide +kernel
theorem dX7_digest_5 : decode cX7_digest 5 = .ok (.istore_n 3, 1) := by decide +kernel
theorem dX7_digest_6 : decode cX7_digest 6 = .ok (.iload_n 3, 1) := by decide +kernel
theorem dX7_digest_7 : decode cX7_digest 7 = .ok (.bipush 8, 2) := by decide +kernel
theorem dX7_digest_9 : decode cX7_digest 9 = .ok (.if_icmp .ge 22, 3) := by decide +kernel
theorem dX7_digest_12 : decode cX7_digest 12 = .ok (.ldc2_w 327, 3) := by decide +kernel
theorem dX7_digest_15 : decode cX7_digest 15 = .ok (.lload_n 1, 1) := by decide +kernel
theorem dX7_digest_16 : decode cX7_digest 16 = .ok (.lmul, 1) := by decide +kernel
theorem dX7_digest_17 : decode cX7_digest 17 = .ok (.aload_n 0, 1) := by decide +kernel
theorem dX7_digest_18 : decode cX7_digest 18 = .ok (.iload_n 3, 1) := by decide +kernel
theorem dX7_digest_19 : decode cX7_digest 19 = .ok (.invokevirtual 329, 3) := by decide +kernel
theorem dX7_digest_22 : decode cX7_digest 22 = .ok (.i2l, 1) := by decide +kernel
theorem dX7_digest_23 : decode cX7_digest 23 = .ok (.ladd, 1) := by decide +kernel
theorem dX7_digest_24 : decode cX7_digest 24 = .ok (.lstore_n 1, 1) := by decide +kernel
theorem dX7_digest_25 : decode cX7_digest 25 = .ok (.iinc 3 1, 3) := by decide +kernel
theorem dX7_digest_28 : decode cX7_digest 28 = .ok (.goto (-22), 3) := by decide +kernel
theorem dX7_digest_31 : decode cX7_digest 31 = .ok (.iconst 0, 1) := by decide +kernel
theorem dX7_digest_32 : decode cX7_digest 32 = .ok (.istore_n 3, 1) := by decide +kernel
theorem dX7_digest_33 : decode cX7_digest 33 = .ok (.iload_n 3, 1) := by decide +kernel
theorem dX7_digest_34 : decode cX7_digest 34 = .ok (.aload_n 0, 1) := by decide +kernel
theorem dX7_digest_35 : decode cX7_digest 35 = .ok (.getfield 9, 3) := by decide +kernel
theorem dX7_digest_38 : decode cX7_digest 38 = .ok (.arraylength, 1) := by decide +kernel
theorem dX7_digest_39 : decode cX7_digest 39 = .ok (.if_icmp .ge 22, 3) := by decide +kernel
theorem dX7_digest_42 : decode cX7_digest 42 = .ok (.ldc2_w 327, 3) := by decide +kernel
theorem dX7_digest_45 : decode cX7_digest 45 = .ok (.lload_n 1, 1) := by decide +kernel
theorem dX7_digest_46 : decode cX7_digest 46 = .ok (.lmul, 1) := by decide +kernel
theorem dX7_digest_47 : decode cX7_digest 47 = .ok (.aload_n 0, 1) := by decide +kernel
theorem dX7_digest_48 : decode cX7_digest 48 = .ok (.iload_n 3, 1) := by decide +kernel
theorem dX7_digest_49 : decode cX7_digest 49 = .ok (.invokevirtual 332, 3) := by decide +kernel
theorem dX7_digest_52 : decode cX7_digest 52 = .ok (.i2l, 1) := by decide +kernel
theorem dX7_digest_53 : decode cX7_digest 53 = .ok (.ladd, 1) := by decide +kernel
theorem dX7_digest_54 : decode cX7_digest 54 = .ok (.lstore_n 1, 1) := by decide +kernel
theorem dX7_digest_55 : decode cX7_digest 55 = .ok (.iinc 3 1, 3) := by decide +kernel
theorem dX7_digest_58 : decode cX7_digest 58 = .ok (.goto (-25), 3) := by decide +kernel
theorem dX7_digest_61 : decode cX7_digest 61 = .ok (.iconst 0, 1) := by decide +kernel
theorem dX7_digest_62 : decode cX7_digest 62 = .ok (.istore_n 3, 1) := by decide +kernel
theorem dX7_digest_63 : decode cX7_digest 63 = .ok (.iload_n 3, 1) := by decide +kernel
theorem dX7_digest_64 : decode cX7_digest 64 = .ok (.aload_n 0, 1) := by decide +kernel
theorem dX7_digest_65 : decode cX7_digest 65 = .ok (.getfield 118, 3) := by decide +kernel
theorem dX7_digest_68 : decode cX7_digest 68 = .ok (.if_icmp .ge 16, 3) := by decide +kernel
theorem dX7_digest_71 : decode cX7_digest 71 = .ok (.aload_n 0, 1) := by decide +kernel
theorem dX7_digest_72 : decode cX7_digest 72 = .ok (.lload_n 1, 1) := by decide +kernel
theorem dX7_digest_73 : decode cX7_digest 73 = .ok (.iload_n 3, 1) := by decide +kernel
theorem dX7_digest_74 : decode cX7_digest 74 = .ok (.invokevirtual 335, 3) := by decide +kernel
theorem dX7_digest_77 : decode cX7_digest 77 = .ok (.lstore_n 1, 1) := by decide +kernel
theorem dX7_digest_78 : decode cX7_digest 78 = .ok (.iinc 3 1, 3) := by decide +kernel
theorem dX7_digest_81 : decode cX7_digest 81 = .ok (.goto (-18), 3) := by decide +kernel
theorem dX7_digest_84 : decode cX7_digest 84 = .ok (.iconst 0, 1) := by decide +kernel
theorem dX7_digest_85 : decode cX7_digest 85 = .ok (.istore_n 3, 1) := by decide +kernel
theorem dX7_digest_86 : decode cX7_digest 86 = .ok (.iload_n 3, 1) := by decide +kernel
theorem dX7_digest_87 : decode cX7_digest 87 = .ok (.aload_n 0, 1) := by decide +kernel
theorem dX7_digest_88 : decode cX7_digest 88 = .ok (.getfield 24, 3) := by decide +kernel
theorem dX7_digest_91 : decode cX7_digest 91 = .ok (.getfield 140, 3) := by decide +kernel
theorem dX7_digest_94 : decode cX7_digest 94 = .ok (.if_icmp .ge 16, 3) := by decide +kernel
theorem dX7_digest_97 : decode cX7_digest 97 = .ok (.aload_n 0, 1) := by decide +kernel
theorem dX7_digest_98 : decode cX7_digest 98 = .ok (.lload_n 1, 1) := by decide +kernel
theorem dX7_digest_99 : decode cX7_digest 99 = .ok (.iload_n 3, 1) := by decide +kernel
theorem dX7_digest_100 : decode cX7_digest 100 = .ok (.invokevirtual 339, 3) := by decide +kernel
theorem dX7_digest_103 : decode cX7_digest 103 = .ok (.lstore_n 1, 1) := by decide +kernel
theorem dX7_digest_104 : decode cX7_digest 104 = .ok (.iinc 3 1, 3) := by decide +kernel
theorem dX7_digest_107 : decode cX7_digest 107 = .ok (.goto (-21), 3) := by decide +kernel
theorem dX7_digest_110 : decode cX7_digest 110 = .ok (.iconst 0, 1) := by decide +kernel
theorem dX7_digest_111 : decode cX7_digest 111 = .ok (.istore_n 3, 1) := by decide +kernel
theorem dX7_digest_112 : decode cX7_digest 112 = .ok (.iload_n 3, 1) := by decide +kernel
theorem dX7_digest_113 : decode cX7_digest 113 = .ok (.iconst 4, 1) := by decide +kernel
theorem dX7_digest_114 : decode cX7_digest 114 = .ok (.if_icmp .ge 39, 3) := by decide +kernel
theorem dX7_digest_117 : decode cX7_digest 117 = .ok (.ldc2_w 327, 3) := by decide +kernel
theorem dX7_digest_120 : decode cX7_digest 120 = .ok (.lload_n 1, 1) := by decide +kernel
theorem dX7_digest_121 : decode cX7_digest 121 = .ok (.lmul, 1) := by decide +kernel
theorem dX7_digest_122 : decode cX7_digest 122 = .ok (.aload_n 0, 1) := by decide +kernel
theorem dX7_digest_123 : decode cX7_digest 123 = .ok (.iconst 4, 1) := by decide +kernel
theorem dX7_digest_124 : decode cX7_digest 124 = .ok (.iload_n 3, 1) := by decide +kernel
theorem dX7_digest_125 : decode cX7_digest 125 = .ok (.iconst (-1), 1) := by decide +kernel
theorem dX7_digest_126 : decode cX7_digest 126 = .ok (.invokevirtual 342, 3) := by decide +kernel
theorem dX7_digest_129 : decode cX7_digest 129 = .ok (.i2l, 1) := by decide +kernel
theorem dX7_digest_130 : decode cX7_digest 130 = .ok (.ladd, 1) := by decide +kernel
theorem dX7_digest_131 : decode cX7_digest 131 = .ok (.lstore_n 1, 1) := by decide +kernel
theorem dX7_digest_132 : decode cX7_digest 132 = .ok (.ldc2_w 327, 3) := by decide +kernel
theorem dX7_digest_135 : decode cX7_digest 135 = .ok (.lload_n 1, 1) := by decide +kernel
theorem dX7_digest_136 : decode cX7_digest 136 = .ok (.lmul, 1) := by decide +kernel
theorem dX7_digest_137 : decode cX7_digest 137 = .ok (.aload_n 0, 1) := by decide +kernel
theorem dX7_digest_138 : decode cX7_digest 138 = .ok (.iconst 4, 1) := by decide +kernel
theorem dX7_digest_139 : decode cX7_digest 139 = .ok (.iload_n 3, 1) := by decide +kernel
theorem dX7_digest_140 : decode cX7_digest 140 = .ok (.iconst 0, 1) := by decide +kernel
theorem dX7_digest_141 : decode cX7_digest 141 = .ok (.invokevirtual 342, 3) := by decide +kernel
theorem dX7_digest_144 : decode cX7_digest 144 = .ok (.i2l, 1) := by decide +kernel
theorem dX7_digest_145 : decode cX7_digest 145 = .ok (.ladd, 1) := by decide +kernel
theorem dX7_digest_146 : decode cX7_digest 146 = .ok (.lstore_n 1, 1) := by decide +kernel
theorem dX7_digest_147 : decode cX7_digest 147 = .ok (.iinc 3 1, 3) := by decide +kernel
theorem dX7_digest_150 : decode cX7_digest 150 = .ok (.goto (-38), 3) := by decide +kernel
theorem dX7_digest_153 : decode cX7_digest 153 = .ok (.ldc2_w 327, 3) := by decide +kernel
theorem dX7_digest_156 : decode cX7_digest 156 = .ok (.lload_n 1, 1) := by decide +kernel
theorem dX7_digest_157 : decode cX7_digest 157 = .ok (.lmul, 1) := by decide +kernel
theorem dX7_digest_158 : decode cX7_digest 158 = .ok (.aload_n 0, 1) := by decide +kernel
theorem dX7_digest_159 : decode cX7_digest 159 = .ok (.invokevirtual 346, 3) := by decide +kernel
theorem dX7_digest_162 : decode cX7_digest 162 = .ok (.i2l, 1) := by decide +kernel
theorem dX7_digest_163 : decode cX7_digest 163 = .ok (.ladd, 1) := by decide +kernel
theorem dX7_digest_164 : decode cX7_digest 164 = .ok (.lstore_n 1, 1) := by decide +kernel
theorem dX7_digest_165 : decode cX7_digest 165 = .ok (.ldc2_w 327, 3) := by decide +kernel
theorem dX7_digest_168 : decode cX7_digest 168 = .ok (.lload_n 1, 1) := by decide +kernel
theorem dX7_digest_169 : decode cX7_digest 169 = .ok (.lmul, 1) := by decide +kernel
theorem dX7_digest_170 : decode cX7_digest 170 = .ok (.aload_n 0, 1) := by decide +kernel
theorem dX7_digest_171 : decode cX7_digest 171 = .ok (.invokevirtual 349, 3) := by decide +kernel
theorem dX7_digest_174 : decode cX7_digest 174 = .ok (.i2l, 1) := by decide +kernel
theorem dX7_digest_175 : decode cX7_digest 175 = .ok (.ladd, 1) := by decide +kernel
theorem dX7_digest_176 : decode cX7_digest 176 = .ok (.lstore_n 1, 1) := by decide +kernel
theorem dX7_digest_177 : decode cX7_digest 177 = .ok (.ldc2_w 327, 3) := by decide +kernel
theorem dX7_digest_180 : decode cX7_digest 180 = .ok (.lload_n 1, 1) := by decide +kernel
theorem dX7_digest_181 : decode cX7_digest 181 = .ok (.lmul, 1) := by decide +kernel
theorem dX7_digest_182 : decode cX7_digest 182 = .ok (.aload_n 0, 1) := by decide +kernel
theorem dX7_digest_183 : decode cX7_digest 183 = .ok (.invokevirtual 261, 3) := by decide +kernel
theorem dX7_digest_186 : decode cX7_digest 186 = .ok (.i2l, 1) := by decide +kernel
theorem dX7_digest_187 : decode cX7_digest 187 = .ok (.ladd, 1) := by decide +kernel
theorem dX7_digest_188 : decode cX7_digest 188 = .ok (.lstore_n 1, 1) := by decide +kernel
theorem dX7_digest_189 : decode cX7_digest 189 = .ok (.ldc2_w 327, 3) := by decide +kernel
theorem dX7_digest_192 : decode cX7_digest 192 = .ok (.lload_n 1, 1) := by decide +kernel
theorem dX7_digest_193 : decode cX7_digest 193 = .ok (.lmul, 1) := by decide +kernel
theorem dX7_digest_194 : decode cX7_digest 194 = .ok (.aload_n 0, 1) := by decide +kernel
theorem dX7_digest_195 : decode cX7_digest 195 = .ok (.invokevirtual 352, 3) := by decide +kernel
theorem dX7_digest_198 : decode cX7_digest 198 = .ok (.i2l, 1) := by decide +kernel
theorem dX7_digest_199 : decode cX7_digest 199 = .ok (.ladd, 1) := by decide +kernel
theorem dX7_digest_200 : decode cX7_digest 200 = .ok (.lstore_n 1, 1) := by decide +kernel
theorem dX7_digest_201 : decode cX7_digest 201 = .ok (.ldc2_w 327, 3) := by decide +kernel
theorem dX7_digest_204 : decode cX7_digest 204 = .ok (.lload_n 1, 1) := by decide +kernel
theorem dX7_digest_205 : decode cX7_digest 205 = .ok (.lmul, 1) := by decide +kernel
theorem dX7_digest_206 : decode cX7_digest 206 = .ok (.aload_n 0, 1) := by decide +kernel
theorem dX7_digest_207 : decode cX7_digest 207 = .ok (.bipush 7, 2) := by decide +kernel
theorem dX7_digest_209 : decode cX7_digest 209 = .ok (.bipush 8, 2) := by decide +kernel
theorem dX7_digest_211 : decode cX7_digest 211 = .ok (.iconst 0, 1) := by decide +kernel
theorem dX7_digest_212 : decode cX7_digest 212 = .ok (.invokevirtual 355, 3) := by decide +kernel
theorem dX7_digest_215 : decode cX7_digest 215 = .ok (.i2l, 1) := by decide +kernel
theorem dX7_digest_216 : decode cX7_digest 216 = .ok (.ladd, 1) := by decide +kernel
theorem dX7_digest_217 : decode cX7_digest 217 = .ok (.lstore_n 1, 1) := by decide +kernel
theorem dX7_digest_218 : decode cX7_digest 218 = .ok (.ldc2_w 327, 3) := by decide +kernel
theorem dX7_digest_221 : decode cX7_digest 221 = .ok (.lload_n 1, 1) := by decide +kernel
theorem dX7_digest_222 : decode cX7_digest 222 = .ok (.lmul, 1) := by decide +kernel
theorem dX7_digest_223 : decode cX7_digest 223 = .ok (.aload_n 0, 1) := by decide +kernel
theorem dX7_digest_224 : decode cX7_digest 224 = .ok (.bipush 7, 2) := by decide +kernel
theorem dX7_digest_226 : decode cX7_digest 226 = .ok (.bipush 8, 2) := by decide +kernel
theorem dX7_digest_228 : decode cX7_digest 228 = .ok (.iconst 1, 1) := by decide +kernel
theorem dX7_digest_229 : decode cX7_digest 229 = .ok (.invokevirtual 355, 3) := by decide +kernel
theorem dX7_digest_232 : decode cX7_digest 232 = .ok (.i2l, 1) := by decide +kernel
theorem dX7_digest_233 : decode cX7_digest 233 = .ok (.ladd, 1) := by decide +kernel
theorem dX7_digest_234 : decode cX7_digest 234 = .ok (.lreturn, 1) := by decide +kernel
theorem dX7_digestSleeper_0 : decode cX7_digestSleeper 0 = .ok (.lload_n 1, 1) := by decide +kernel
theorem dX7_digestSleeper_1 : decode cX7_digestSleeper 1 = .ok (.lstore 4, 2) := by decide +kernel
theorem dX7_digestSleeper_3 : decode cX7_digestSleeper 3 = .ok (.iconst 0, 1) := by decide +kernel
theorem dX7_digestSleeper_4 : decode cX7_digestSleeper 4 = .ok (.istore 6, 2) := by decide +kernel
theorem dX7_digestSleeper_6 : decode cX7_digestSleeper 6 = .ok (.iload 6, 2) := by decide +kernel
theorem dX7_digestSleeper_8 : decode cX7_digestSleeper 8 = .ok (.iconst 4, 1) := by decide +kernel
theorem dX7_digestSleeper_9 : decode cX7_digestSleeper 9 = .ok (.if_icmp .ge 26, 3) := by decide +kernel
theorem dX7_digestSleeper_12 : decode cX7_digestSleeper 12 = .ok (.ldc2_w 327, 3) := by decide +kernel
theorem dX7_digestSleeper_15 : decode cX7_digestSleeper 15 = .ok (.lload 4, 2) := by decide +kernel
theorem dX7_digestSleeper_17 : decode cX7_digestSleeper 17 = .ok (.lmul, 1) := by decide +kernel
theorem dX7_digestSleeper_18 : decode cX7_digestSleeper 18 = .ok (.aload_n 0, 1) := by decide +kernel
theorem dX7_digestSleeper_19 : decode cX7_digestSleeper 19 = .ok (.iload_n 3, 1) := by decide +kernel
theorem dX7_digestSleeper_20 : decode cX7_digestSleeper 20 = .ok (.iload 6, 2) := by decide +kernel
theorem dX7_digestSleeper_22 : decode cX7_digestSleeper 22 = .ok (.invokevirtual 358, 3) := by decide +kernel
theorem dX7_digestSleeper_25 : decode cX7_digestSleeper 25 = .ok (.i2l, 1) := by decide +kernel
theorem dX7_digestSleeper_26 : decode cX7_digestSleeper 26 = .ok (.ladd, 1) := by decide +kernel
theorem dX7_digestSleeper_27 : decode cX7_digestSleeper 27 = .ok (.lstore 4, 2) := by decide +kernel
theorem dX7_digestSleeper_29 : decode cX7_digestSleeper 29 = .ok (.iinc 6 1, 3) := by decide +kernel
theorem dX7_digestSleeper_32 : decode cX7_digestSleeper 32 = .ok (.goto (-26), 3) := by decide +kernel
theorem dX7_digestSleeper_35 : decode cX7_digestSleeper 35 = .ok (.ldc2_w 327, 3) := by decide +kernel
theorem dX7_digestSleeper_38 : decode cX7_digestSleeper 38 = .ok (.lload 4, 2) := by decide +kernel
theorem dX7_digestSleeper_40 : decode cX7_digestSleeper 40 = .ok (.lmul, 1) := by decide +kernel
theorem dX7_digestSleeper_41 : decode cX7_digestSleeper 41 = .ok (.aload_n 0, 1) := by decide +kernel
theorem dX7_digestSleeper_42 : decode cX7_digestSleeper 42 = .ok (.iconst 5, 1) := by decide +kernel
theorem dX7_digestSleeper_43 : decode cX7_digestSleeper 43 = .ok (.iload_n 3, 1) := by decide +kernel
theorem dX7_digestSleeper_44 : decode cX7_digestSleeper 44 = .ok (.invokevirtual 361, 3) := by decide +kernel
theorem dX7_digestSleeper_47 : decode cX7_digestSleeper 47 = .ok (.i2l, 1) := by decide +kernel
theorem dX7_digestSleeper_48 : decode cX7_digestSleeper 48 = .ok (.ladd, 1) := by decide +kernel
theorem dX7_digestSleeper_49 : decode cX7_digestSleeper 49 = .ok (.lstore 4, 2) := by decide +kernel
theorem dX7_digestSleeper_51 : decode cX7_digestSleeper 51 = .ok (.ldc2_w 327, 3) := by decide +kernel
theorem dX7_digestSleeper_54 : decode cX7_digestSleeper 54 = .ok (.lload 4, 2) := by decide +kernel
theorem dX7_digestSleeper_56 : decode cX7_digestSleeper 56 = .ok (.lmul, 1) := by decide +kernel
theorem dX7_digestSleeper_57 : decode cX7_digestSleeper 57 = .ok (.aload_n 0, 1) := by decide +kernel
theorem dX7_digestSleeper_58 : decode cX7_digestSleeper 58 = .ok (.bipush 20, 2) := by decide +kernel
theorem dX7_digestSleeper_60 : decode cX7_digestSleeper 60 = .ok (.iload_n 3, 1) := by decide +kernel
theorem dX7_digestSleeper_61 : decode cX7_digestSleeper 61 = .ok (.invokevirtual 361, 3) := by decide +kernel
theorem dX7_digestSleeper_64 : decode cX7_digestSleeper 64 = .ok (.i2l, 1) := by decide +kernel
theorem dX7_digestSleeper_65 : decode cX7_digestSleeper 65 = .ok (.ladd, 1) := by decide +kernel
theorem dX7_digestSleeper_66 : decode cX7_digestSleeper 66 = .ok (.lstore 4, 2) := by decide +kernel
theorem dX7_digestSleeper_68 : decode cX7_digestSleeper 68 = .ok (.ldc2_w 327, 3) := by decide +kernel
theorem dX7_digestSleeper_71 : decode cX7_digestSleeper 71 = .ok (.lload 4, 2) := by decide +kernel
theorem dX7_digestSleeper_73 : decode cX7_digestSleeper 73 = .ok (.lmul, 1) := by decide +kernel
theorem dX7_digestSleeper_74 : decode cX7_digestSleeper 74 = .ok (.aload_n 0, 1) := by decide +kernel
theorem dX7_digestSleeper_75 : decode cX7_digestSleeper 75 = .ok (.bipush 49, 2) := by decide +kernel
theorem dX7_digestSleeper_77 : decode cX7_digestSleeper 77 = .ok (.iload_n 3, 1) := by decide +kernel
theorem dX7_digestSleeper_78 : decode cX7_digestSleeper 78 = .ok (.invokevirtual 361, 3) := by decide +kernel
theorem dX7_digestSleeper_81 : decode cX7_digestSleeper 81 = .ok (.i2l, 1) := by decide +kernel
theorem dX7_digestSleeper_82 : decode cX7_digestSleeper 82 = .ok (.ladd, 1) := by decide +kernel
theorem dX7_digestSleeper_83 : decode cX7_digestSleeper 83 = .ok (.lstore 4, 2) := by decide +kernel
theorem dX7_digestSleeper_85 : decode cX7_digestSleeper 85 = .ok (.ldc2_w 327, 3) := by decide +kernel
theorem dX7_digestSleeper_88 : decode cX7_digestSleeper 88 = .ok (.lload 4, 2) := by decide +kernel
theorem dX7_digestSleeper_90 : decode cX7_digestSleeper 90 = .ok (.lmul, 1) := by decide +kernel
theorem dX7_digestSleeper_91 : decode cX7_digestSleeper 91 = .ok (.aload_n 0, 1) := by decide +kernel
theorem dX7_digestSleeper_92 : decode cX7_digestSleeper 92 = .ok (.iload_n 3, 1) := by decide +kernel
theorem dX7_digestSleeper_93 : decode cX7_digestSleeper 93 = .ok (.iconst 0, 1) := by decide +kernel
theorem dX7_digestSleeper_94 : decode cX7_digestSleeper 94 = .ok (.invokevirtual 364, 3) := by decide +kernel
theorem dX7_digestSleeper_97 : decode cX7_digestSleeper 97 = .ok (.i2l, 1) := by decide +kernel
theorem dX7_digestSleeper_98 : decode cX7_digestSleeper 98 = .ok (.ladd, 1) := by decide +kernel
theorem dX7_digestSleeper_99 : decode cX7_digestSleeper 99 = .ok (.lstore 4, 2) := by decide +kernel
theorem dX7_digestSleeper_101 : decode cX7_digestSleeper 101 = .ok (.ldc2_w 327, 3) := by decide +kernel
theorem dX7_digestSleeper_104 : decode cX7_digestSleeper 104 = .ok (.lload 4, 2) := by decide +kernel
theorem dX7_digestSleeper_106 : decode cX7_digestSleeper 106 = .ok (.lmul, 1) := by decide +kernel
theorem dX7_digestSleeper_107 : decode cX7_digestSleeper 107 = .ok (.aload_n 0, 1) := by decide +kernel
theorem dX7_digestSleeper_108 : decode cX7_digestSleeper 108 = .ok (.iload_n 3, 1) := by decide +kernel
theorem dX7_digestSleeper_109 : decode cX7_digestSleeper 109 = .ok (.iconst 1, 1) := by decide +kernel
theorem dX7_digestSleeper_110 : decode cX7_digestSleeper 110 = .ok (.invokevirtual 364, 3) := by decide +kernel
theorem dX7_digestSleeper_113 : decode cX7_digestSleeper 113 = .ok (.i2l, 1) := by decide +kernel
theorem dX7_digestSleeper_114 : decode cX7_digestSleeper 114 = .ok (.ladd, 1) := by decide +kernel
theorem dX7_digestSleeper_115 : decode cX7_digestSleeper 115 = .ok (.lstore 4, 2) := by decide +kernel
theorem dX7_digestSleeper_117 : decode cX7_digestSleeper 117 = .ok (.ldc2_w 327, 3) := by decide +kernel
theorem dX7_digestSleeper_120 : decode cX7_digestSleeper 120 = .ok (.lload 4, 2) := by decide +kernel
theorem dX7_digestSleeper_122 : decode cX7_digestSleeper 122 = .ok (.lmul, 1) := by decide +kernel
theorem dX7_digestSleeper_123 : decode cX7_digestSleeper 123 = .ok (.aload_n 0, 1) := by decide +kernel
theorem dX7_digestSleeper_124 : decode cX7_digestSleeper 124 = .ok (.iload_n 3, 1) := by decide +kernel
theorem dX7_digestSleeper_125 : decode cX7_digestSleeper 125 = .ok (.iconst 0, 1) := by decide +kernel
theorem dX7_digestSleeper_126 : decode cX7_digestSleeper 126 = .ok (.invokevirtual 367, 3) := by decide +kernel
theorem dX7_digestSleeper_129 : decode cX7_digestSleeper 129 = .ok (.i2l, 1) := by decide +kernel
theorem dX7_digestSleeper_130 : decode cX7_digestSleeper 130 = .ok (.ladd, 1) := by decide +kernel
theorem dX7_digestSleeper_131 : decode cX7_digestSleeper 131 = .ok (.lstore 4, 2) := by decide +kernel
theorem dX7_digestSleeper_133 : decode cX7_digestSleeper 133 = .ok (.ldc2_w 327, 3) := by decide +kernel
theorem dX7_digestSleeper_136 : decode cX7_digestSleeper 136 = .ok (.lload 4, 2) := by decide +kernel
theorem dX7_digestSleeper_138 : decode cX7_digestSleeper 138 = .ok (.lmul, 1) := by decide +kernel
theorem dX7_digestSleeper_139 : decode cX7_digestSleeper 139 = .ok (.aload_n 0, 1) := by decide +kernel
theorem dX7_digestSleeper_140 : decode cX7_digestSleeper 140 = .ok (.iload_n 3, 1) := by decide +kernel
theorem dX7_digestSleeper_141 : decode cX7_digestSleeper 141 = .ok (.iconst 1, 1) := by decide +kernel
theorem dX7_digestSleeper_142 : decode cX7_digestSleeper 142 = .ok (.invokevirtual 367, 3) := by decide +kernel
theorem dX7_digestSleeper_145 : decode cX7_digestSleeper 145 = .ok (.i2l, 1) := by decide +kernel
theorem dX7_digestSleeper_146 : decode cX7_digestSleeper 146 = .ok (.ladd, 1) := by decide +kernel
theorem dX7_digestSleeper_147 : decode cX7_digestSleeper 147 = .ok (.lstore 4, 2) := by decide +kernel
theorem dX7_digestSleeper_149 : decode cX7_digestSleeper 149 = .ok (.ldc2_w 327, 3) := by decide +kernel
theorem dX7_digestSleeper_152 : decode cX7_digestSleeper 152 = .ok (.lload 4, 2) := by decide +kernel
theorem dX7_digestSleeper_154 : decode cX7_digestSleeper 154 = .ok (.lmul, 1) := by decide +kernel
theorem dX7_digestSleeper_155 : decode cX7_digestSleeper 155 = .ok (.aload_n 0, 1) := by decide +kernel
theorem dX7_digestSleeper_156 : decode cX7_digestSleeper 156 = .ok (.iload_n 3, 1) := by decide +kernel
theorem dX7_digestSleeper_157 : decode cX7_digestSleeper 157 = .ok (.iconst 0, 1) := by decide +kernel
theorem dX7_digestSleeper_158 : decode cX7_digestSleeper 158 = .ok (.invokevirtual 370, 3) := by decide +kernel
theorem dX7_digestSleeper_161 : decode cX7_digestSleeper 161 = .ok (.i2l, 1) := by decide +kernel
theorem dX7_digestSleeper_162 : decode cX7_digestSleeper 162 = .ok (.ladd, 1) := by decide +kernel
theorem dX7_digestSleeper_163 : decode cX7_digestSleeper 163 = .ok (.lstore 4, 2) := by decide +kernel
theorem dX7_digestSleeper_165 : decode cX7_digestSleeper 165 = .ok (.ldc2_w 327, 3) := by decide +kernel
theorem dX7_digestSleeper_168 : decode cX7_digestSleeper 168 = .ok (.lload 4, 2) := by decide +kernel
theorem dX7_digestSleeper_170 : decode cX7_digestSleeper 170 = .ok (.lmul, 1) := by decide +kernel
theorem dX7_digestSleeper_171 : decode cX7_digestSleeper 171 = .ok (.aload_n 0, 1) := by decide +kernel
theorem dX7_digestSleeper_172 : decode cX7_digestSleeper 172 = .ok (.iload_n 3, 1) := by decide +kernel
theorem dX7_digestSleeper_173 : decode cX7_digestSleeper 173 = .ok (.iconst 1, 1) := by decide +kernel
theorem dX7_digestSleeper_174 : decode cX7_digestSleeper 174 = .ok (.invokevirtual 370, 3) := by decide +kernel
theorem dX7_digestSleeper_177 : decode cX7_digestSleeper 177 = .ok (.i2l, 1) := by decide +kernel
theorem dX7_digestSleeper_178 : decode cX7_digestSleeper 178 = .ok (.ladd, 1) := by decide +kernel
theorem dX7_digestSleeper_179 : decode cX7_digestSleeper 179 = .ok (.lreturn, 1) := by decide +kernel
theorem dX7_digestDeed_0 : decode cX7_digestDeed 0 = .ok (.lload_n 1, 1) := by decide +kernel
theorem dX7_digestDeed_1 : decode cX7_digestDeed 1 = .ok (.lstore 4, 2) := by decide +kernel
theorem dX7_digestDeed_3 : decode cX7_digestDeed 3 = .ok (.iconst 0, 1) := by decide +kernel
theorem dX7_digestDeed_4 : decode cX7_digestDeed 4 = .ok (.istore 6, 2) := by decide +kernel
theorem dX7_digestDeed_6 : decode cX7_digestDeed 6 = .ok (.iload 6, 2) := by decide +kernel
theorem dX7_digestDeed_8 : decode cX7_digestDeed 8 = .ok (.iconst 3, 1) := by decide +kernel
theorem dX7_digestDeed_9 : decode cX7_digestDeed 9 = .ok (.if_icmp .ge 26, 3) := by decide +kernel
theorem dX7_digestDeed_12 : decode cX7_digestDeed 12 = .ok (.ldc2_w 327, 3) := by decide +kernel
theorem dX7_digestDeed_15 : decode cX7_digestDeed 15 = .ok (.lload 4, 2) := by decide +kernel
theorem dX7_digestDeed_17 : decode cX7_digestDeed 17 = .ok (.lmul, 1) := by decide +kernel
theorem dX7_digestDeed_18 : decode cX7_digestDeed 18 = .ok (.aload_n 0, 1) := by decide +kernel
theorem dX7_digestDeed_19 : decode cX7_digestDeed 19 = .ok (.iload_n 3, 1) := by decide +kernel
theorem dX7_digestDeed_20 : decode cX7_digestDeed 20 = .ok (.iload 6, 2) := by decide +kernel
theorem dX7_digestDeed_22 : decode cX7_digestDeed 22 = .ok (.invokevirtual 373, 3) := by decide +kernel
theorem dX7_digestDeed_25 : decode cX7_digestDeed 25 = .ok (.i2l, 1) := by decide +kernel
theorem dX7_digestDeed_26 : decode cX7_digestDeed 26 = .ok (.ladd, 1) := by decide +kernel
theorem dX7_digestDeed_27 : decode cX7_digestDeed 27 = .ok (.lstore 4, 2) := by decide +kernel
theorem dX7_digestDeed_29 : decode cX7_digestDeed 29 = .ok (.iinc 6 1, 3) := by decide +kernel
theorem dX7_digestDeed_32 : decode cX7_digestDeed 32 = .ok (.goto (-26), 3) := by decide +kernel
theorem dX7_digestDeed_35 : decode cX7_digestDeed 35 = .ok (.iconst 0, 1) := by decide +kernel
theorem dX7_digestDeed_36 : decode cX7_digestDeed 36 = .ok (.istore 6, 2) := by decide +kernel
theorem dX7_digestDeed_38 : decode cX7_digestDeed 38 = .ok (.iload 6, 2) := by decide +kernel
theorem dX7_digestDeed_40 : decode cX7_digestDeed 40 = .ok (.iconst 3, 1) := by decide +kernel
theorem dX7_digestDeed_41 : decode cX7_digestDeed 41 = .ok (.if_icmp .ge 26, 3) := by decide +kernel
theorem dX7_digestDeed_44 : decode cX7_digestDeed 44 = .ok (.ldc2_w 327, 3) := by decide +kernel
theorem dX7_digestDeed_47 : decode cX7_digestDeed 47 = .ok (.lload 4, 2) := by decide +kernel
theorem dX7_digestDeed_49 : decode cX7_digestDeed 49 = .ok (.lmul, 1) := by decide +kernel
theorem dX7_digestDeed_50 : decode cX7_digestDeed 50 = .ok (.aload_n 0, 1) := by decide +kernel
theorem dX7_digestDeed_51 : decode cX7_digestDeed 51 = .ok (.iload_n 3, 1) := by decide +kernel
theorem dX7_digestDeed_52 : decode cX7_digestDeed 52 = .ok (.iload 6, 2) := by decide +kernel
theorem dX7_digestDeed_54 : decode cX7_digestDeed 54 = .ok (.invokevirtual 376, 3) := by decide +kernel
theorem dX7_digestDeed_57 : decode cX7_digestDeed 57 = .ok (.i2l, 1) := by decide +kernel
theorem dX7_digestDeed_58 : decode cX7_digestDeed 58 = .ok (.ladd, 1) := by decide +kernel
theorem dX7_digestDeed_59 : decode cX7_digestDeed 59 = .ok (.lstore 4, 2) := by decide +kernel
theorem dX7_digestDeed_61 : decode cX7_digestDeed 61 = .ok (.iinc 6 1, 3) := by decide +kernel
theorem dX7_digestDeed_64 : decode cX7_digestDeed 64 = .ok (.goto (-26), 3) := by decide +kernel
theorem dX7_digestDeed_67 : decode cX7_digestDeed 67 = .ok (.ldc2_w 327, 3) := by decide +kernel
theorem dX7_digestDeed_70 : decode cX7_digestDeed 70 = .ok (.lload 4, 2) := by decide +kernel
theorem dX7_digestDeed_72 : decode cX7_digestDeed 72 = .ok (.lmul, 1) := by decide +kernel
theorem dX7_digestDeed_73 : decode cX7_digestDeed 73 = .ok (.aload_n 0, 1) := by decide +kernel
theorem dX7_digestDeed_74 : decode cX7_digestDeed 74 = .ok (.iload_n 3, 1) := by decide +kernel
theorem dX7_digestDeed_75 : decode cX7_digestDeed 75 = .ok (.invokevirtual 379, 3) := by decide +kernel
theorem dX7_digestDeed_78 : decode cX7_digestDeed 78 = .ok (.i2l, 1) := by decide +kernel
theorem dX7_digestDeed_79 : decode cX7_digestDeed 79 = .ok (.ladd, 1) := by decide +kernel
theorem dX7_digestDeed_80 : decode cX7_digestDeed 80 = .ok (.lstore 4, 2) := by decide +kernel
theorem dX7_digestDeed_82 : decode cX7_digestDeed 82 = .ok (.ldc2_w 327, 3) := by decide +kernel
theorem dX7_digestDeed_85 : decode cX7_digestDeed 85 = .ok (.lload 4, 2) := by decide +kernel
theorem dX7_digestDeed_87 : decode cX7_digestDeed 87 = .ok (.lmul, 1) := by decide +kernel
theorem dX7_digestDeed_88 : decode cX7_digestDeed 88 = .ok (.aload_n 0, 1) := by decide +kernel
theorem dX7_digestDeed_89 : decode cX7_digestDeed 89 = .ok (.iload_n 3, 1) := by decide +kernel
theorem dX7_digestDeed_90 : decode cX7_digestDeed 90 = .ok (.iconst (-1), 1) := by decide +kernel
theorem dX7_digestDeed_91 : decode cX7_digestDeed 91 = .ok (.invokevirtual 382, 3) := by decide +kernel
theorem dX7_digestDeed_94 : decode cX7_digestDeed 94 = .ok (.i2l, 1) := by decide +kernel
theorem dX7_digestDeed_95 : decode cX7_digestDeed 95 = .ok (.ladd, 1) := by decide +kernel
theorem dX7_digestDeed_96 : decode cX7_digestDeed 96 = .ok (.lstore 4, 2) := by decide +kernel
theorem dX7_digestDeed_98 : decode cX7_digestDeed 98 = .ok (.ldc2_w 327, 3) := by decide +kernel
theorem dX7_digestDeed_101 : decode cX7_digestDeed 101 = .ok (.lload 4, 2) := by decide +kernel
theorem dX7_digestDeed_103 : decode cX7_digestDeed 103 = .ok (.lmul, 1) := by decide +kernel
theorem dX7_digestDeed_104 : decode cX7_digestDeed 104 = .ok (.aload_n 0, 1) := by decide +kernel
theorem dX7_digestDeed_105 : decode cX7_digestDeed 105 = .ok (.iload_n 3, 1) := by decide +kernel
theorem dX7_digestDeed_106 : decode cX7_digestDeed 106 = .ok (.iconst 0, 1) := by decide +kernel
theorem dX7_digestDeed_107 : decode cX7_digestDeed 107 = .ok (.invokevirtual 382, 3) := by decide +kernel
theorem dX7_digestDeed_110 : decode cX7_digestDeed 110 = .ok (.i2l, 1) := by decide +kernel
theorem dX7_digestDeed_111 : decode cX7_digestDeed 111 = .ok (.ladd, 1) := by decide +kernel
theorem dX7_digestDeed_112 : decode cX7_digestDeed 112 = .ok (.lstore 4, 2) := by decide +kernel
theorem dX7_digestDeed_114 : decode cX7_digestDeed 114 = .ok (.ldc2_w 327, 3) := by decide +kernel
theorem dX7_digestDeed_117 : decode cX7_digestDeed 117 = .ok (.lload 4, 2) := by decide +kernel
theorem dX7_digestDeed_119 : decode cX7_digestDeed 119 = .ok (.lmul, 1) := by decide +kernel
theorem dX7_digestDeed_120 : decode cX7_digestDeed 120 = .ok (.aload_n 0, 1) := by decide +kernel
theorem dX7_digestDeed_121 : decode cX7_digestDeed 121 = .ok (.iconst 5, 1) := by decide +kernel
theorem dX7_digestDeed_122 : decode cX7_digestDeed 122 = .ok (.iload_n 3, 1) := by decide +kernel
theorem dX7_digestDeed_123 : decode cX7_digestDeed 123 = .ok (.iconst 0, 1) := by decide +kernel
theorem dX7_digestDeed_124 : decode cX7_digestDeed 124 = .ok (.invokevirtual 385, 3) := by decide +kernel
theorem dX7_digestDeed_127 : decode cX7_digestDeed 127 = .ok (.ladd, 1) := by decide +kernel
theorem dX7_digestDeed_128 : decode cX7_digestDeed 128 = .ok (.lstore 4, 2) := by decide +kernel
theorem dX7_digestDeed_130 : decode cX7_digestDeed 130 = .ok (.ldc2_w 327, 3) := by decide +kernel
theorem dX7_digestDeed_133 : decode cX7_digestDeed 133 = .ok (.lload 4, 2) := by decide +kernel
theorem dX7_digestDeed_135 : decode cX7_digestDeed 135 = .ok (.lmul, 1) := by decide +kernel
theorem dX7_digestDeed_136 : decode cX7_digestDeed 136 = .ok (.aload_n 0, 1) := by decide +kernel
theorem dX7_digestDeed_137 : decode cX7_digestDeed 137 = .ok (.iconst 5, 1) := by decide +kernel
theorem dX7_digestDeed_138 : decode cX7_digestDeed 138 = .ok (.iload_n 3, 1) := by decide +kernel
theorem dX7_digestDeed_139 : decode cX7_digestDeed 139 = .ok (.iconst 1, 1) := by decide +kernel
theorem dX7_digestDeed_140 : decode cX7_digestDeed 140 = .ok (.invokevirtual 385, 3) := by decide +kernel
theorem dX7_digestDeed_143 : decode cX7_digestDeed 143 = .ok (.ladd, 1) := by decide +kernel
theorem dX7_digestDeed_144 : decode cX7_digestDeed 144 = .ok (.lstore 4, 2) := by decide +kernel
theorem dX7_digestDeed_146 : decode cX7_digestDeed 146 = .ok (.iconst 0, 1) := by decide +kernel
theorem dX7_digestDeed_147 : decode cX7_digestDeed 147 = .ok (.istore 6, 2) := by decide +kernel
theorem dX7_digestDeed_149 : decode cX7_digestDeed 149 = .ok (.iload 6, 2) := by decide +kernel
theorem dX7_digestDeed_151 : decode cX7_digestDeed 151 = .ok (.aload_n 0, 1) := by decide +kernel
theorem dX7_digestDeed_152 : decode cX7_digestDeed 152 = .ok (.getfield 118, 3) := by decide +kernel
theorem dX7_digestDeed_155 : decode cX7_digestDeed 155 = .ok (.if_icmp .ge 43, 3) := by decide +kernel
theorem dX7_digestDeed_158 : decode cX7_digestDeed 158 = .ok (.iconst 0, 1) := by decide +kernel
theorem dX7_digestDeed_159 : decode cX7_digestDeed 159 = .ok (.istore 7, 2) := by decide +kernel
theorem dX7_digestDeed_161 : decode cX7_digestDeed 161 = .ok (.iload 7, 2) := by decide +kernel
theorem dX7_digestDeed_163 : decode cX7_digestDeed 163 = .ok (.iconst 3, 1) := by decide +kernel
theorem dX7_digestDeed_164 : decode cX7_digestDeed 164 = .ok (.if_icmp .ge 28, 3) := by decide +kernel
theorem dX7_digestDeed_167 : decode cX7_digestDeed 167 = .ok (.ldc2_w 327, 3) := by decide +kernel
theorem dX7_digestDeed_170 : decode cX7_digestDeed 170 = .ok (.lload 4, 2) := by decide +kernel
theorem dX7_digestDeed_172 : decode cX7_digestDeed 172 = .ok (.lmul, 1) := by decide +kernel
theorem dX7_digestDeed_173 : decode cX7_digestDeed 173 = .ok (.aload_n 0, 1) := by decide +kernel
theorem dX7_digestDeed_174 : decode cX7_digestDeed 174 = .ok (.iload_n 3, 1) := by decide +kernel
theorem dX7_digestDeed_175 : decode cX7_digestDeed 175 = .ok (.iload 6, 2) := by decide +kernel
theorem dX7_digestDeed_177 : decode cX7_digestDeed 177 = .ok (.iload 7, 2) := by decide +kernel
theorem dX7_digestDeed_179 : decode cX7_digestDeed 179 = .ok (.invokevirtual 389, 3) := by decide +kernel
theorem dX7_digestDeed_182 : decode cX7_digestDeed 182 = .ok (.i2l, 1) := by decide +kernel
theorem dX7_digestDeed_183 : decode cX7_digestDeed 183 = .ok (.ladd, 1) := by decide +kernel
theorem dX7_digestDeed_184 : decode cX7_digestDeed 184 = .ok (.lstore 4, 2) := by decide +kernel
theorem dX7_digestDeed_186 : decode cX7_digestDeed 186 = .ok (.iinc 7 1, 3) := by decide +kernel
theorem dX7_digestDeed_189 : decode cX7_digestDeed 189 = .ok (.goto (-28), 3) := by decide +kernel
theorem dX7_digestDeed_192 : decode cX7_digestDeed 192 = .ok (.iinc 6 1, 3) := by decide +kernel
theorem dX7_digestDeed_195 : decode cX7_digestDeed 195 = .ok (.goto (-46), 3) := by decide +kernel
theorem dX7_digestDeed_198 : decode cX7_digestDeed 198 = .ok (.lload 4, 2) := by decide +kernel
theorem dX7_digestDeed_200 : decode cX7_digestDeed 200 = .ok (.lreturn, 1) := by decide +kernel
end
section
theorem dX8_init_0 : decode cX8_init 0 = .ok (.aload_n 0, 1) := by decide +kernel
theorem dX8_init_1 : decode cX8_init 1 = .ok (.invokespecial 1, 3) := by decide +kernel
theorem dX8_init_4 : decode cX8_init 4 = .ok (.aload_n 0, 1) := by decide +kernel
theorem dX8_init_5 : decode cX8_init 5 = .ok (.iconst 2, 1) := by decide +kernel
theorem dX8_init_6 : decode cX8_init 6 = .ok (.newarray .int, 2) := by decide +kernel
theorem dX8_init_8 : decode cX8_init 8 = .ok (.putfield 7, 3) := by decide +kernel
theorem dX8_init_11 : decode cX8_init 11 = .ok (.aload_n 0, 1) := by decide +kernel
theorem dX8_init_12 : decode cX8_init 12 = .ok (.bipush 78, 2) := by decide +kernel
theorem dX8_init_14 : decode cX8_init 14 = .ok (.newarray .int, 2) := by decide +kernel
theorem dX8_init_16 : decode cX8_init 16 = .ok (.putfield 13, 3) := by decide +kernel
theorem dX8_init_19 : decode cX8_init 19 = .ok (.aload_n 0, 1) := by decide +kernel
theorem dX8_init_20 : decode cX8_init 20 = .ok (.bipush 9, 2) := by decide +kernel
theorem dX8_init_22 : decode cX8_init 22 = .ok (.newarray .int, 2) := by decide +kernel
theorem dX8_init_24 : decode cX8_init 24 = .ok (.putfield 16, 3) := by decide +kernel
theorem dX8_init_27 : decode cX8_init 27 = .ok (.aload_n 0, 1) := by decide +kernel
theorem dX8_init_28 : decode cX8_init 28 = .ok (.bipush 9, 2) := by decide +kernel
theorem dX8_init_30 : decode cX8_init 30 = .ok (.newarray .int, 2) := by decide +kernel
theorem dX8_init_32 : decode cX8_init 32 = .ok (.putfield 19, 3) := by decide +kernel
theorem dX8_init_35 : decode cX8_init 35 = .ok (.aload_n 0, 1) := by decide +kernel
theorem dX8_init_36 : decode cX8_init 36 = .ok (.bipush 9, 2) := by decide +kernel
theorem dX8_init_38 : decode cX8_init 38 = .ok (.newarray .int, 2) := by decide +kernel
theorem dX8_init_40 : decode cX8_init 40 = .ok (.putfield 22, 3) := by decide +kernel
theorem dX8_init_43 : decode cX8_init 43 = .ok (.aload_n 0, 1) := by decide +kernel
theorem dX8_init_44 : decode cX8_init 44 = .ok (.bipush 9, 2) := by decide +kernel
theorem dX8_init_46 : decode cX8_init 46 = .ok (.newarray .int, 2) := by decide +kernel
theorem dX8_init_48 : decode cX8_init 48 = .ok (.putfield 25, 3) := by decide +kernel
theorem dX8_init_51 : decode cX8_init 51 = .ok (.aload_n 0, 1) := by decide +kernel
theorem dX8_init_52 : decode cX8_init 52 = .ok (.bipush 9, 2) := by decide +kernel
theorem dX8_init_54 : decode cX8_init 54 = .ok (.newarray .int, 2) := by decide +kernel
theorem dX8_init_56 : decode cX8_init 56 = .ok (.putfield 28, 3) := by decide +kernel
theorem dX8_init_59 : decode cX8_init 59 = .ok (.aload_n 0, 1) := by decide +kernel
theorem dX8_init_60 : decode cX8_init 60 = .ok (.bipush 9, 2) := by decide +kernel
theorem dX8_init_62 : decode cX8_init 62 = .ok (.newarray .int, 2) := by decide +kernel
theorem dX8_init_64 : decode cX8_init 64 = .ok (.putfield 31, 3) := by decide +kernel
theorem dX8_init_67 : decode cX8_init 67 = .ok (.aload_n 0, 1) := by decide +kernel
theorem dX8_init_68 : decode cX8_init 68 = .ok (.bipush 9, 2) := by decide +kernel
theorem dX8_init_70 : decode cX8_init 70 = .ok (.newarray .int, 2) := by decide +kernel
theorem dX8_init_72 : decode cX8_init 72 = .ok (.putfield 34, 3) := by decide +kernel
theorem dX8_init_75 : decode cX8_init 75 = .ok (.aload_n 0, 1) := by decide +kernel
theorem dX8_init_76 : decode cX8_init 76 = .ok (.sipush 400, 3) := by decide +kernel
theorem dX8_init_79 : decode cX8_init 79 = .ok (.newarray .int, 2) := by decide +kernel
theorem dX8_init_81 : decode cX8_init 81 = .ok (.putfield 37, 3) := by decide +kernel
theorem dX8_init_84 : decode cX8_init 84 = .ok (.aload_n 0, 1) := by decide +kernel
theorem dX8_init_85 : decode cX8_init 85 = .ok (.sipush 400, 3) := by decide +kernel
theorem dX8_init_88 : decode cX8_init 88 = .ok (.newarray .boolean, 2) := by decide +kernel
theorem dX8_init_90 : decode cX8_init 90 = .ok (.putfield 40, 3) := by decide +kernel
theorem dX8_init_93 : decode cX8_init 93 = .ok (.aload_n 0, 1) := by decide +kernel
theorem dX8_init_94 : decode cX8_init 94 = .ok (.bipush 72, 2) := by decide +kernel
theorem dX8_init_96 : decode cX8_init 96 = .ok (.newarray .int, 2) := by decide +kernel
theorem dX8_init_98 : decode cX8_init 98 = .ok (.putfield 44, 3) := by decide +kernel
theorem dX8_init_101 : decode cX8_init 101 = .ok (.aload_n 0, 1) := by decide +kernel
theorem dX8_init_102 : decode cX8_init 102 = .ok (.bipush 72, 2) := by decide +kernel
theorem dX8_init_104 : decode cX8_init 104 = .ok (.newarray .boolean, 2) := by decide +kernel
theorem dX8_init_106 : decode cX8_init 106 = .ok (.putfield 47, 3) := by decide +kernel
theorem dX8_init_109 : decode cX8_init 109 = .ok (.aload_n 0, 1) := by decide +kernel
theorem dX8_init_110 : decode cX8_init 110 = .ok (.bipush 8, 2) := by decide +kernel
theorem dX8_init_112 : decode cX8_init 112 = .ok (.newarray .int, 2) := by decide +kernel
theorem dX8_init_114 : decode cX8_init 114 = .ok (.putfield 50, 3) := by decide +kernel
theorem dX8_init_117 : decode cX8_init 117 = .ok (.aload_n 0, 1) := by decide +kernel
theorem dX8_init_118 : decode cX8_init 118 = .ok (.iconst 2, 1) := by decide +kernel
theorem dX8_init_119 : decode cX8_init 119 = .ok (.newarray .int, 2) := by decide +kernel
theorem dX8_init_121 : decode cX8_init 121 = .ok (.putfield 53, 3) := by decide +kernel
theorem dX8_init_124 : decode cX8_init 124 = .ok (.aload_n 0, 1) := by decide +kernel
theorem dX8_init_125 : decode cX8_init 125 = .ok (.bipush 8, 2) := by decide +kernel
theorem dX8_init_127 : decode cX8_init 127 = .ok (.newarray .int, 2) := by decide +kernel
theorem dX8_init_129 : decode cX8_init 129 = .ok (.putfield 56, 3) := by decide +kernel
theorem dX8_init_132 : decode cX8_init 132 = .ok (.aload_n 0, 1) := by decide +kernel
theorem dX8_init_133 : decode cX8_init 133 = .ok (.bipush 8, 2) := by decide +kernel
theorem dX8_init_135 : decode cX8_init 135 = .ok (.newarray .int, 2) := by decide +kernel
theorem dX8_init_137 : decode cX8_init 137 = .ok (.putfield 59, 3) := by decide +kernel
theorem dX8_init_140 : decode cX8_init 140 = .ok (.aload_n 0, 1) := by decide +kernel
theorem dX8_init_141 : decode cX8_init 141 = .ok (.bipush 8, 2) := by decide +kernel
theorem dX8_init_143 : decode cX8_init 143 = .ok (.newarray .int, 2) := by decide +kernel
theorem dX8_init_145 : decode cX8_init 145 = .ok (.putfield 62, 3) := by decide +kernel
theorem dX8_init_148 : decode cX8_init 148 = .ok (.aload_n 0, 1) := by decide +kernel
theorem dX8_init_149 : decode cX8_init 149 = .ok (.bipush 64, 2) := by decide +kernel
theorem dX8_init_151 : decode cX8_init 151 = .ok (.newarray .int, 2) := by decide +kernel
theorem dX8_init_153 : decode cX8_init 153 = .ok (.putfield 65, 3) := by decide +kernel
theorem dX8_init_156 : decode cX8_init 156 = .ok (.aload_n 0, 1) := by decide +kernel
theorem dX8_init_157 : decode cX8_init 157 = .ok (.bipush 8, 2) := by decide +kernel
theorem dX8_init_159 : decode cX8_init 159 = .ok (.newarray .int, 2) := by decide +kernel
theorem dX8_init_161 : decode cX8_init 161 = .ok (.putfield 68, 3) := by decide +kernel
theorem dX8_init_164 : decode cX8_init 164 = .ok (.aload_n 0, 1) := by decide +kernel
theorem dX8_init_165 : decode cX8_init 165 = .ok (.iconst 4, 1) := by decide +kernel
theorem dX8_init_166 : decode cX8_init 166 = .ok (.newarray .boolean, 2) := by decide +kernel
theorem dX8_init_168 : decode cX8_init 168 = .ok (.putfield 71, 3) := by decide +kernel
theorem dX8_init_171 : decode cX8_init 171 = .ok (.aload_n 0, 1) := by decide +kernel
theorem dX8_init_172 : decode cX8_init 172 = .ok (.iconst 4, 1) := by decide +kernel
theorem dX8_init_173 : decode cX8_init 173 = .ok (.newarray .int, 2) := by decide +kernel
theorem dX8_init_175 : decode cX8_init 175 = .ok (.putfield 74, 3) := by decide +kernel
theorem dX8_init_178 : decode cX8_init 178 = .ok (.aload_n 0, 1) := by decide +kernel
theorem dX8_init_179 : decode cX8_init 179 = .ok (.iconst 4, 1) := by decide +kernel
theorem dX8_init_180 : decode cX8_init 180 = .ok (.newarray .int, 2) := by decide +kernel
theorem dX8_init_182 : decode cX8_init 182 = .ok (.putfield 77, 3) := by decide +kernel
theorem dX8_init_185 : decode cX8_init 185 = .ok (.aload_n 0, 1) := by decide +kernel
theorem dX8_init_186 : decode cX8_init 186 = .ok (.sipush 240, 3) := by decide +kernel
theorem dX8_init_189 : decode cX8_init 189 = .ok (.newarray .int, 2) := by decide +kernel
theorem dX8_init_191 : decode cX8_init 191 = .ok (.putfield 80, 3) := by decide +kernel
theorem dX8_init_194 : decode cX8_init 194 = .ok (.aload_n 0, 1) := by decide +kernel
theorem dX8_init_195 : decode cX8_init 195 = .ok (.bipush 60, 2) := by decide +kernel
theorem dX8_init_197 : decode cX8_init 197 = .ok (.newarray .int, 2) := by decide +kernel
theorem dX8_init_199 : decode cX8_init 199 = .ok (.putfield 83, 3) := by decide +kernel
theorem dX8_init_202 : decode cX8_init 202 = .ok (.aload_n 0, 1) := by decide +kernel
theorem dX8_init_203 : decode cX8_init 203 = .ok (.iconst 1, 1) := by decide +kernel
theorem dX8_init_204 : decode cX8_init 204 = .ok (.putfield 86, 3) := by decide +kernel
theorem dX8_init_207 : decode cX8_init 207 = .ok (.aload_n 0, 1) := by decide +kernel
theorem dX8_init_208 : decode cX8_init 208 = .ok (.iconst 2, 1) := by decide +kernel
theorem dX8_init_209 : decode cX8_init 209 = .ok (.putfield 90, 3) := by decide +kernel
theorem dX8_init_212 : decode cX8_init 212 = .ok (.aload_n 0, 1) := by decide +kernel
theorem dX8_init_213 : decode cX8_init 213 = .ok (.iconst 2, 1) := by decide +kernel
theorem dX8_init_214 : decode cX8_init 214 = .ok (.putfield 93, 3) := by decide +kernel
theorem dX8_init_217 : decode cX8_init 217 = .ok (.return_, 1) := by decide +kernel
theorem dX8_in_0 : decode cX8_in 0 = .ok (.iload_n 0, 1) := by decide +kernel
theorem dX8_in_1 : decode cX8_in 1 = .ok (.iload_n 1, 1) := by decide +kernel
theorem dX8_in_2 : decode cX8_in 2 = .ok (.if_icmp .lt 12, 3) := by decide +kernel
theorem dX8_in_5 : decode cX8_in 5 = .ok (.iload_n 0, 1) := by decide +kernel
theorem dX8_in_6 : decode cX8_in 6 = .ok (.iload_n 2, 1) := by decide +kernel
theorem dX8_in_7 : decode cX8_in 7 = .ok (.if_icmp .gt 7, 3) := by decide +kernel
theorem dX8_in_10 : decode cX8_in 10 = .ok (.iconst 1, 1) := by decide +kernel
theorem dX8_in_11 : decode cX8_in 11 = .ok (.goto 4, 3) := by decide +kernel
theorem dX8_in_14 : decode cX8_in 14 = .ok (.iconst 0, 1) := by decide +kernel
theorem dX8_in_15 : decode cX8_in 15 = .ok (.ireturn, 1) := by decide +kernel
theorem dX8_isIn_0 : decode cX8_isIn 0 = .ok (.iload_n 0, 1) := by decide +kernel
theorem dX8_isIn_1 : decode cX8_isIn 1 = .ok (.iload_n 1, 1) := by decide +kernel
theorem dX8_isIn_2 : decode cX8_isIn 2 = .ok (.ishr, 1) := by decide +kernel
theorem dX8_isIn_3 : decode cX8_isIn 3 = .ok (.iconst 1, 1) := by decide +kernel
theorem dX8_isIn_4 : decode cX8_isIn 4 = .ok (.iand, 1) := by decide +kernel
theorem dX8_isIn_5 : decode cX8_isIn 5 = .ok (.iconst 1, 1) := by decide +kernel
theorem dX8_isIn_6 : decode cX8_isIn 6 = .ok (.if_icmp .ne 7, 3) := by decide +kernel
theorem dX8_isIn_9 : decode cX8_isIn 9 = .ok (.iconst 1, 1) := by decide +kernel
theorem dX8_isIn_10 : decode cX8_isIn 10 = .ok (.goto 4, 3) := by decide +kernel
theorem dX8_isIn_13 : decode cX8_isIn 13 = .ok (.iconst 0, 1) := by decide +kernel
theorem dX8_isIn_14 : decode cX8_isIn 14 = .ok (.ireturn, 1) := by decide +kernel
theorem dX8_ones_0 : decode cX8_ones 0 = .ok (.iconst 0, 1) := by decide +kernel
theorem dX8_ones_1 : decode cX8_ones 1 = .ok (.istore_n 1, 1) := by decide +kernel
theorem dX8_ones_2 : decode cX8_ones 2 = .ok (.iconst 0, 1) := by decide +kernel
theorem dX8_ones_3 : decode cX8_ones 3 = .ok (.istore_n 2, 1) := by decide +kernel
theorem dX8_ones_4 : decode cX8_ones 4 = .ok (.iload_n 2, 1) := by decide +kernel
theorem dX8_ones_5 : decode cX8_ones 5 = .ok (.bipush 8, 2) := by decide +kernel
theorem dX8_ones_7 : decode cX8_ones 7 = .ok (.if_icmp .ge 17, 3) := by decide +kernel
theorem dX8_ones_10 : decode cX8_ones 10 = .ok (.iload_n 1, 1) := by decide +kernel
theorem dX8_ones_11 : decode cX8_ones 11 = .ok (.iload_n 0, 1) := by decide +kernel
theorem dX8_ones_12 : decode cX8_ones 12 = .ok (.iload_n 2, 1) := by decide +kernel
theorem dX8_ones_13 : decode cX8_ones 13 = .ok (.ishr, 1) := by decide +kernel
theorem dX8_ones_14 : decode cX8_ones 14 = .ok (.iconst 1, 1) := by decide +kernel
theorem dX8_ones_15 : decode cX8_ones 15 = .ok (.iand, 1) := by decide +kernel
theorem dX8_ones_16 : decode cX8_ones 16 = .ok (.iadd, 1) := by decide +kernel
theorem dX8_ones_17 : decode cX8_ones 17 = .ok (.istore_n 1, 1) := by decide +kernel
theorem dX8_ones_18 : decode cX8_ones 18 = .ok (.iinc 2 1, 3) := by decide +kernel
theorem dX8_ones_21 : decode cX8_ones 21 = .ok (.goto (-17), 3) := by decide +kernel
theorem dX8_ones_24 : decode cX8_ones 24 = .ok (.iload_n 1, 1) := by decide +kernel
theorem dX8_ones_25 : decode cX8_ones 25 = .ok (.ireturn, 1) := by decide +kernel
theorem dX8_no_0 : decode cX8_no 0 = .ok (.ldc2_w 96, 3) := by decide +kernel
theorem dX8_no_3 : decode cX8_no 3 = .ok (.iload_n 0, 1) := by decide +kernel
theorem dX8_no_4 : decode cX8_no 4 = .ok (.i2l, 1) := by decide +kernel
theorem dX8_no_5 : decode cX8_no 5 = .ok (.lsub, 1) := by decide +kernel
theorem dX8_no_6 : decode cX8_no 6 = .ok (.lreturn, 1) := by decide +kernel
theorem dX8_lowest_0 : decode cX8_lowest 0 = .ok (.lload_n 0, 1) := by decide +kernel
theorem dX8_lowest_1 : decode cX8_lowest 1 = .ok (.lstore 5, 2) := by decide +kernel
theorem dX8_lowest_3 : decode cX8_lowest 3 = .ok (.lload_n 2, 1) := by decide +kernel
theorem dX8_lowest_4 : decode cX8_lowest 4 = .ok (.lstore 7, 2) := by decide +kernel
theorem dX8_lowest_6 : decode cX8_lowest 6 = .ok (.lload 7, 2) := by decide +kernel
theorem dX8_lowest_8 : decode cX8_lowest 8 = .ok (.lconst 0, 1) := by decide +kernel
theorem dX8_lowest_9 : decode cX8_lowest 9 = .ok (.lcmp, 1) := by decide +kernel
theorem dX8_lowest_10 : decode cX8_lowest 10 = .ok (.ifCond .eq 21, 3) := by decide +kernel
theorem dX8_lowest_13 : decode cX8_lowest 13 = .ok (.lload 5, 2) := by decide +kernel
theorem dX8_lowest_15 : decode cX8_lowest 15 = .ok (.lload 7, 2) := by decide +kernel
theorem dX8_lowest_17 : decode cX8_lowest 17 = .ok (.lrem, 1) := by decide +kernel
theorem dX8_lowest_18 : decode cX8_lowest 18 = .ok (.lstore 9, 2) := by decide +kernel
theorem dX8_lowest_20 : decode cX8_lowest 20 = .ok (.lload 7, 2) := by decide +kernel
theorem dX8_lowest_22 : decode cX8_lowest 22 = .ok (.lstore 5, 2) := by decide +kernel
theorem dX8_lowest_24 : decode cX8_lowest 24 = .ok (.lload 9, 2) := by decide +kernel
theorem dX8_lowest_26 : decode cX8_lowest 26 = .ok (.lstore 7, 2) := by decide +kernel
theorem dX8_lowest_28 : decode cX8_lowest 28 = .ok (.goto (-22), 3) := by decide +kernel
theorem dX8_lowest_31 : decode cX8_lowest 31 = .ok (.iload 4, 2) := by decide +kernel
theorem dX8_lowest_33 : decode cX8_lowest 33 = .ok (.ifCond .ne 10, 3) := by decide +kernel
theorem dX8_lowest_36 : decode cX8_lowest 36 = .ok (.lload_n 0, 1) := by decide +kernel
theorem dX8_lowest_37 : decode cX8_lowest 37 = .ok (.lload 5, 2) := by decide +kernel
theorem dX8_lowest_39 : decode cX8_lowest 39 = .ok (.ldiv, 1) := by decide +kernel
theorem dX8_lowest_40 : decode cX8_lowest 40 = .ok (.goto 7, 3) := by decide +kernel
theorem dX8_lowest_43 : decode cX8_lowest 43 = .ok (.lload_n 2, 1) := by decide +kernel
theorem dX8_lowest_44 : decode cX8_lowest 44 = .ok (.lload 5, 2) := by decide +kernel
theorem dX8_lowest_46 : decode cX8_lowest 46 = .ok (.ldiv, 1) := by decide +kernel
theorem dX8_lowest_47 : decode cX8_lowest 47 = .ok (.lreturn, 1) := by decide +kernel
theorem dX8_isText_0 : decode cX8_isText 0 = .ok (.iload_n 0, 1) := by decide +kernel
theorem dX8_isText_1 : decode cX8_isText 1 = .ok (.iconst 0, 1) := by decide +kernel
theorem dX8_isText_2 : decode cX8_isText 2 = .ok (.iconst 1, 1) := by decide +kernel
theorem dX8_isText_3 : decode cX8_isText 3 = .ok (.invokestatic 98, 3) := by decide +kernel
theorem dX8_isText_6 : decode cX8_isText 6 = .ok (.ireturn, 1) := by decide +kernel
theorem dX8_isHour_0 : decode cX8_isHour 0 = .ok (.iload_n 0, 1) := by decide +kernel
theorem dX8_isHour_1 : decode cX8_isHour 1 = .ok (.iconst 0, 1) := by decide +kernel
theorem dX8_isHour_2 : decode cX8_isHour 2 = .ok (.bipush 49, 2) := by decide +kernel
theorem dX8_isHour_4 : decode cX8_isHour 4 = .ok (.invokestatic 98, 3) := by decide +kernel
theorem dX8_isHour_7 : decode cX8_isHour 7 = .ok (.ireturn, 1) := by decide +kernel
theorem dX8_type_0 : decode cX8_type 0 = .ok (.iload_n 1, 1) := by decide +kernel
theorem dX8_type_1 : decode cX8_type 1 = .ok (.invokestatic 102, 3) := by decide +kernel
theorem dX8_type_4 : decode cX8_type 4 = .ok (.ifCond .eq 14, 3) := by decide +kernel
theorem dX8_type_7 : decode cX8_type 7 = .ok (.iload_n 2, 1) := by decide +kernel
theorem dX8_type_8 : decode cX8_type 8 = .ok (.iconst 0, 1) := by decide +kernel
theorem dX8_type_9 : decode cX8_type 9 = .ok (.sipush 255, 3) := by decide +kernel
theorem dX8_type_12 : decode cX8_type 12 = .ok (.invokestatic 98, 3) := by decide +kernel
theorem dX8_type_15 : decode cX8_type 15 = .ok (.ifCond .ne 6, 3) := by decide +kernel
theorem dX8_type_18 : decode cX8_type 18 = .ok (.bipush (-2), 2) := by decide +kernel
theorem dX8_type_20 : decode cX8_type 20 = .ok (.ireturn, 1) := by decide +kernel
theorem dX8_type_21 : decode cX8_type 21 = .ok (.aload_n 0, 1) := by decide +kernel
theorem dX8_type_22 : decode cX8_type 22 = .ok (.getfield 7, 3) := by decide +kernel
theorem dX8_type_25 : decode cX8_type 25 = .ok (.iload_n 1, 1) := by decide +kernel
theorem dX8_type_26 : decode cX8_type 26 = .ok (.iaload, 1) := by decide +kernel
theorem dX8_type_27 : decode cX8_type 27 = .ok (.bipush 39, 2) := by decide +kernel
theorem dX8_type_29 : decode cX8_type 29 = .ok (.if_icmp .ne 6, 3) := by decide +kernel
theorem dX8_type_32 : decode cX8_type 32 = .ok (.bipush (-4), 2) := by decide +kernel
theorem dX8_type_34 : decode cX8_type 34 = .ok (.ireturn, 1) := by decide +kernel
theorem dX8_type_35 : decode cX8_type 35 = .ok (.aload_n 0, 1) := by decide +kernel
theorem dX8_type_36 : decode cX8_type 36 = .ok (.getfield 13, 3) := by decide +kernel
theorem dX8_type_39 : decode cX8_type 39 = .ok (.bipush 39, 2) := by decide +kernel
theorem dX8_type_41 : decode cX8_type 41 = .ok (.iload_n 1, 1) := by decide +kernel
theorem dX8_type_42 : decode cX8_type 42 = .ok (.imul, 1) := by decide +kernel
theorem dX8_type_43 : decode cX8_type 43 = .ok (.aload_n 0, 1) := by decide +kernel
theorem dX8_type_44 : decode cX8_type 44 = .ok (.getfield 7, 3) := by decide +kernel
theorem dX8_type_47 : decode cX8_type 47 = .ok (.iload_n 1, 1) := by decide +kernel
theorem dX8_type_48 : decode cX8_type 48 = .ok (.iaload, 1) := by decide +kernel
theorem dX8_type_49 : decode cX8_type 49 = .ok (.iadd, 1) := by decide +kernel
theorem dX8_type_50 : decode cX8_type 50 = .ok (.iload_n 2, 1) := by decide +kernel
theorem dX8_type_51 : decode cX8_type 51 = .ok (.iastore, 1) := by decide +kernel
theorem dX8_type_52 : decode cX8_type 52 = .ok (.aload_n 0, 1) := by decide +kernel
theorem dX8_type_53 : decode cX8_type 53 = .ok (.getfield 7, 3) := by decide +kernel
theorem dX8_type_56 : decode cX8_type 56 = .ok (.iload_n 1, 1) := by decide +kernel
theorem dX8_type_57 : decode cX8_type 57 = .ok (.dup2, 1) := by decide +kernel
theorem dX8_type_58 : decode cX8_type 58 = .ok (.iaload, 1) := by decide +kernel
theorem dX8_type_59 : decode cX8_type 59 = .ok (.iconst 1, 1) := by decide +kernel
theorem dX8_type_60 : decode cX8_type 60 = .ok (.iadd, 1) := by decide +kernel
theorem dX8_type_61 : decode cX8_type 61 = .ok (.iastore, 1) := by decide +kernel
theorem dX8_type_62 : decode cX8_type 62 = .ok (.aload_n 0, 1) := by decide +kernel
theorem dX8_type_63 : decode cX8_type 63 = .ok (.getfield 7, 3) := by decide +kernel
theorem dX8_type_66 : decode cX8_type 66 = .ok (.iload_n 1, 1) := by decide +kernel
theorem dX8_type_67 : decode cX8_type 67 = .ok (.iaload, 1) := by decide +kernel
theorem dX8_type_68 : decode cX8_type 68 = .ok (.ireturn, 1) := by decide +kernel
theorem dX8_wipe_0 : decode cX8_wipe 0 = .ok (.iload_n 1, 1) := by decide +kernel
theorem dX8_wipe_1 : decode cX8_wipe 1 = .ok (.invokestatic 102, 3) := by decide +kernel
theorem dX8_wipe_4 : decode cX8_wipe 4 = .ok (.ifCond .ne 6, 3) := by decide +kernel
theorem dX8_wipe_7 : decode cX8_wipe 7 = .ok (.bipush (-2), 2) := by decide +kernel
theorem dX8_wipe_9 : decode cX8_wipe 9 = .ok (.ireturn, 1) := by decide +kernel
theorem dX8_wipe_10 : decode cX8_wipe 10 = .ok (.aload_n 0, 1) := by decide +kernel
theorem dX8_wipe_11 : decode cX8_wipe 11 = .ok (.getfield 7, 3) := by decide +kernel
theorem dX8_wipe_14 : decode cX8_wipe 14 = .ok (.iload_n 1, 1) := by decide +kernel
theorem dX8_wipe_15 : decode cX8_wipe 15 = .ok (.iaload, 1) := by decide +kernel
theorem dX8_wipe_16 : decode cX8_wipe 16 = .ok (.istore_n 2, 1) := by decide +kernel
theorem dX8_wipe_17 : decode cX8_wipe 17 = .ok (.aload_n 0, 1) := by decide +kernel
theorem dX8_wipe_18 : decode cX8_wipe 18 = .ok (.getfield 7, 3) := by decide +kernel
theorem dX8_wipe_21 : decode cX8_wipe 21 = .ok (.iload_n 1, 1) := by decide +kernel
theorem dX8_wipe_22 : decode cX8_wipe 22 = .ok (.iconst 0, 1) := by decide +kernel
theorem dX8_wipe_23 : decode cX8_wipe 23 = .ok (.iastore, 1) := by decide +kernel
theorem dX8_wipe_24 : decode cX8_wipe 24 = .ok (.iload_n 2, 1) := by decide +kernel
theorem dX8_wipe_25 : decode cX8_wipe 25 = .ok (.ireturn, 1) := by decide +kernel
theorem dX8_undo_0 : decode cX8_undo 0 = .ok (.iload_n 1, 1) := by decide +kernel
theorem dX8_undo_1 : decode cX8_undo 1 = .ok (.invokestatic 102, 3) := by decide +kernel
theorem dX8_undo_4 : decode cX8_undo 4 = .ok (.ifCond .ne 6, 3) := by decide +kernel
theorem dX8_undo_7 : decode cX8_undo 7 = .ok (.bipush (-2), 2) := by decide +kernel
theorem dX8_undo_9 : decode cX8_undo 9 = .ok (.ireturn, 1) := by decide +kernel
theorem dX8_undo_10 : decode cX8_undo 10 = .ok (.aload_n 0, 1) := by decide +kernel
theorem dX8_undo_11 : decode cX8_undo 11 = .ok (.getfield 7, 3) := by decide +kernel
theorem dX8_undo_14 : decode cX8_undo 14 = .ok (.iload_n 1, 1) := by decide +kernel
theorem dX8_undo_15 : decode cX8_undo 15 = .ok (.iaload, 1) := by decide +kernel
theorem dX8_undo_16 : decode cX8_undo 16 = .ok (.ifCond .ne 6, 3) := by decide +kernel
theorem dX8_undo_19 : decode cX8_undo 19 = .ok (.bipush (-3), 2) := by decide +kernel
theorem dX8_undo_21 : decode cX8_undo 21 = .ok (.ireturn, 1) := by decide +kernel
theorem dX8_undo_22 : decode cX8_undo 22 = .ok (.aload_n 0, 1) := by decide +kernel
theorem dX8_undo_23 : decode cX8_undo 23 = .ok (.getfield 7, 3) := by decide +kernel
theorem dX8_undo_26 : decode cX8_undo 26 = .ok (.iload_n 1, 1) := by decide +kernel
theorem dX8_undo_27 : decode cX8_undo 27 = .ok (.dup2, 1) := by decide +kernel
theorem dX8_undo_28 : decode cX8_undo 28 = .ok (.iaload, 1) := by decide +kernel
theorem dX8_undo_29 : decode cX8_undo 29 = .ok (.iconst 1, 1) := by decide +kernel
theorem dX8_undo_30 : decode cX8_undo 30 = .ok (.isub, 1) := by decide +kernel
theorem dX8_undo_31 : decode cX8_undo 31 = .ok (.iastore, 1) := by decide +kernel
theorem dX8_undo_32 : decode cX8_undo 32 = .ok (.aload_n 0, 1) := by decide +kernel
theorem dX8_undo_33 : decode cX8_undo 33 = .ok (.getfield 7, 3) := by decide +kernel
theorem dX8_undo_36 : decode cX8_undo 36 = .ok (.iload_n 1, 1) := by decide +kernel
theorem dX8_undo_37 : decode cX8_undo 37 = .ok (.iaload, 1) := by decide +kernel
theorem dX8_undo_38 : decode cX8_undo 38 = .ok (.ireturn, 1) := by decide +kernel
theorem dX8_byteAt_0 : decode cX8_byteAt 0 = .ok (.iload_n 2, 1) := by decide +kernel
theorem dX8_byteAt_1 : decode cX8_byteAt 1 = .ok (.aload_n 0, 1) := by decide +kernel
theorem dX8_byteAt_2 : decode cX8_byteAt 2 = .ok (.getfield 7, 3) := by decide +kernel
theorem dX8_byteAt_5 : decode cX8_byteAt 5 = .ok (.iload_n 1, 1) := by decide +kernel
theorem dX8_byteAt_6 : decode cX8_byteAt 6 = .ok (.iaload, 1) := by decide +kernel
theorem dX8_byteAt_7 : decode cX8_byteAt 7 = .ok (.if_icmp .ge 17, 3) := by decide +kernel
theorem dX8_byteAt_10 : decode cX8_byteAt 10 = .ok (.aload_n 0, 1) := by decide +kernel
theorem dX8_byteAt_11 : decode cX8_byteAt 11 = .ok (.getfield 13, 3) := by decide +kernel
theorem dX8_byteAt_14 : decode cX8_byteAt 14 = .ok (.bipush 39, 2) := by decide +kernel
theorem dX8_byteAt_16 : decode cX8_byteAt 16 = .ok (.iload_n 1, 1) := by decide +kernel
theorem dX8_byteAt_17 : decode cX8_byteAt 17 = .ok (.imul, 1) := by decide +kernel
theorem dX8_byteAt_18 : decode cX8_byteAt 18 = .ok (.iload_n 2, 1) := by decide +kernel
theorem dX8_byteAt_19 : decode cX8_byteAt 19 = .ok (.iadd, 1) := by decide +kernel
theorem dX8_byteAt_20 : decode cX8_byteAt 20 = .ok (.iaload, 1) := by decide +kernel
theorem dX8_byteAt_21 : decode cX8_byteAt 21 = .ok (.goto 4, 3) := by decide +kernel
theorem dX8_byteAt_24 : decode cX8_byteAt 24 = .ok (.iconst (-1), 1) := by decide +kernel
theorem dX8_byteAt_25 : decode cX8_byteAt 25 = .ok (.ireturn, 1) := by decide +kernel
theorem dX8_figureAt_0 : decode cX8_figureAt 0 = .ok (.aload_n 0, 1) := by decide +kernel
theorem dX8_figureAt_1 : decode cX8_figureAt 1 = .ok (.iload_n 1, 1) := by decide +kernel
theorem dX8_figureAt_2 : decode cX8_figureAt 2 = .ok (.iload_n 2, 1) := by decide +kernel
theorem dX8_figureAt_3 : decode cX8_figureAt 3 = .ok (.invokevirtual 106, 3) := by decide +kernel
theorem dX8_figureAt_6 : decode cX8_figureAt 6 = .ok (.bipush 48, 2) := by decide +kernel
theorem dX8_figureAt_8 : decode cX8_figureAt 8 = .ok (.isub, 1) := by decide +kernel
theorem dX8_figureAt_9 : decode cX8_figureAt 9 = .ok (.istore 4, 2) := by decide +kernel
theorem dX8_figureAt_11 : decode cX8_figureAt 11 = .ok (.iload 4, 2) := by decide +kernel
theorem dX8_figureAt_13 : decode cX8_figureAt 13 = .ok (.iconst 0, 1) := by decide +kernel
theorem dX8_figureAt_14 : decode cX8_figureAt 14 = .ok (.iload_n 3, 1) := by decide +kernel
theorem dX8_figureAt_15 : decode cX8_figureAt 15 = .ok (.invokestatic 98, 3) := by decide +kernel
theorem dX8_figureAt_18 : decode cX8_figureAt 18 = .ok (.ifCond .eq 8, 3) := by decide +kernel
theorem dX8_figureAt_21 : decode cX8_figureAt 21 = .ok (.iload 4, 2) := by decide +kernel
theorem dX8_figureAt_23 : decode cX8_figureAt 23 = .ok (.goto 4, 3) := by decide +kernel
theorem dX8_figureAt_26 : decode cX8_figureAt 26 = .ok (.iconst (-1), 1) := by decide +kernel
theorem dX8_figureAt_27 : decode cX8_figureAt 27 = .ok (.ireturn, 1) := by decide +kernel
theorem dX8_readsSleeper_0 : decode cX8_readsSleeper 0 = .ok (.aload_n 0, 1) := by decide +kernel
theorem dX8_readsSleeper_1 : decode cX8_readsSleeper 1 = .ok (.iconst 0, 1) := by decide +kernel
theorem dX8_readsSleeper_2 : decode cX8_readsSleeper 2 = .ok (.iload_n 2, 1) := by decide +kernel
theorem dX8_readsSleeper_3 : decode cX8_readsSleeper 3 = .ok (.bipush 9, 2) := by decide +kernel
theorem dX8_readsSleeper_5 : decode cX8_readsSleeper 5 = .ok (.invokevirtual 110, 3) := by decide +kernel
theorem dX8_readsSleeper_8 : decode cX8_readsSleeper 8 = .ok (.istore_n 3, 1) := by decide +kernel
theorem dX8_readsSleeper_9 : decode cX8_readsSleeper 9 = .ok (.aload_n 0, 1) := by decide +kernel
theorem dX8_readsSleeper_10 : decode cX8_readsSleeper 10 = .ok (.iconst 0, 1) := by decide +kernel
theorem dX8_readsSleeper_11 : decode cX8_readsSleeper 11 = .ok (.iload_n 2, 1) := by decide +kernel
theorem dX8_readsSleeper_12 : decode cX8_readsSleeper 12 = .ok (.iconst 1, 1) := by decide +kernel
theorem dX8_readsSleeper_13 : decode cX8_readsSleeper 13 = .ok (.iadd, 1) := by decide +kernel
theorem dX8_readsSleeper_14 : decode cX8_readsSleeper 14 = .ok (.bipush 9, 2) := by decide +kernel
theorem dX8_readsSleeper_16 : decode cX8_readsSleeper 16 = .ok (.invokevirtual 110, 3) := by decide +kernel
theorem dX8_readsSleeper_19 : decode cX8_readsSleeper 19 = .ok (.istore 4, 2) := by decide +kernel
theorem dX8_readsSleeper_21 : decode cX8_readsSleeper 21 = .ok (.aload_n 0, 1) := by decide +kernel
theorem dX8_readsSleeper_22 : decode cX8_readsSleeper 22 = .ok (.iconst 0, 1) := by decide +kernel
theorem dX8_readsSleeper_23 : decode cX8_readsSleeper 23 = .ok (.iload_n 2, 1) := by decide +kernel
theorem dX8_readsSleeper_24 : decode cX8_readsSleeper 24 = .ok (.iconst 2, 1) := by decide +kernel
theorem dX8_readsSleeper_25 : decode cX8_readsSleeper 25 = .ok (.iadd, 1) := by decide +kernel
theorem dX8_readsSleeper_26 : decode cX8_readsSleeper 26 = .ok (.iconst 3, 1) := by decide +kernel
theorem dX8_readsSleeper_27 : decode cX8_readsSleeper 27 = .ok (.invokevirtual 110, 3) := by decide +kernel
theorem dX8_readsSleeper_30 : decode cX8_readsSleeper 30 = .ok (.istore 5, 2) := by decide +kernel
theorem dX8_readsSleeper_32 : decode cX8_readsSleeper 32 = .ok (.aload_n 0, 1) := by decide +kernel
theorem dX8_readsSleeper_33 : decode cX8_readsSleeper 33 = .ok (.iconst 0, 1) := by decide +kernel
theorem dX8_readsSleeper_34 : decode cX8_readsSleeper 34 = .ok (.iload_n 2, 1) := by decide +kernel
theorem dX8_readsSleeper_35 : decode cX8_readsSleeper 35 = .ok (.iconst 3, 1) := by decide +kernel
theorem dX8_readsSleeper_36 : decode cX8_readsSleeper 36 = .ok (.iadd, 1) := by decide +kernel
theorem dX8_readsSleeper_37 : decode cX8_readsSleeper 37 = .ok (.invokevirtual 106, 3) := by decide +kernel
theorem dX8_readsSleeper_40 : decode cX8_readsSleeper 40 = .ok (.istore 6, 2) := by decide +kernel
theorem dX8_readsSleeper_42 : decode cX8_readsSleeper 42 = .ok (.iload 6, 2) := by decide +kernel
theorem dX8_readsSleeper_44 : decode cX8_readsSleeper 44 = .ok (.bipush 121, 2) := by decide +kernel
theorem dX8_readsSleeper_46 : decode cX8_readsSleeper 46 = .ok (.if_icmp .ne 7, 3) := by decide +kernel
theorem dX8_readsSleeper_49 : decode cX8_readsSleeper 49 = .ok (.iconst 0, 1) := by decide +kernel
theorem dX8_readsSleeper_50 : decode cX8_readsSleeper 50 = .ok (.goto 37, 3) := by decide +kernel
theorem dX8_readsSleeper_53 : decode cX8_readsSleeper 53 = .ok (.iload 6, 2) := by decide +kernel
theorem dX8_readsSleeper_55 : decode cX8_readsSleeper 55 = .ok (.bipush 111, 2) := by decide +kernel
theorem dX8_readsSleeper_57 : decode cX8_readsSleeper 57 = .ok (.if_icmp .ne 7, 3) := by decide +kernel
theorem dX8_readsSleeper_60 : decode cX8_readsSleeper 60 = .ok (.iconst 1, 1) := by decide +kernel
theorem dX8_readsSleeper_61 : decode cX8_readsSleeper 61 = .ok (.goto 26, 3) := by decide +kernel
theorem dX8_readsSleeper_64 : decode cX8_readsSleeper 64 = .ok (.iload 6, 2) := by decide +kernel
theorem dX8_readsSleeper_66 : decode cX8_readsSleeper 66 = .ok (.bipush 119, 2) := by decide +kernel
theorem dX8_readsSleeper_68 : decode cX8_readsSleeper 68 = .ok (.if_icmp .ne 7, 3) := by decide +kernel
theorem dX8_readsSleeper_71 : decode cX8_readsSleeper 71 = .ok (.iconst 2, 1) := by decide +kernel
theorem dX8_readsSleeper_72 : decode cX8_readsSleeper 72 = .ok (.goto 15, 3) := by decide +kernel
theorem dX8_readsSleeper_75 : decode cX8_readsSleeper 75 = .ok (.iload 6, 2) := by decide +kernel
theorem dX8_readsSleeper_77 : decode cX8_readsSleeper 77 = .ok (.bipush 105, 2) := by decide +kernel
theorem dX8_readsSleeper_79 : decode cX8_readsSleeper 79 = .ok (.if_icmp .ne 7, 3) := by decide +kernel
theorem dX8_readsSleeper_82 : decode cX8_readsSleeper 82 = .ok (.iconst 3, 1) := by decide +kernel
theorem dX8_readsSleeper_83 : decode cX8_readsSleeper 83 = .ok (.goto 4, 3) := by decide +kernel
theorem dX8_readsSleeper_86 : decode cX8_readsSleeper 86 = .ok (.iconst (-1), 1) := by decide +kernel
theorem dX8_readsSleeper_87 : decode cX8_readsSleeper 87 = .ok (.istore 7, 2) := by decide +kernel
theorem dX8_readsSleeper_89 : decode cX8_readsSleeper 89 = .ok (.iload_n 3, 1) := by decide +kernel
theorem dX8_readsSleeper_90 : decode cX8_readsSleeper 90 = .ok (.iconst (-1), 1) := by decide +kernel
theorem dX8_readsSleeper_91 : decode cX8_readsSleeper 91 = .ok (.if_icmp .ne 5, 3) := by decide +kernel
theorem dX8_readsSleeper_94 : decode cX8_readsSleeper 94 = .ok (.iconst 0, 1) := by decide +kernel
theorem dX8_readsSleeper_95 : decode cX8_readsSleeper 95 = .ok (.ireturn, 1) := by decide +kernel
theorem dX8_readsSleeper_96 : decode cX8_readsSleeper 96 = .ok (.iload 4, 2) := by decide +kernel
theorem dX8_readsSleeper_98 : decode cX8_readsSleeper 98 = .ok (.iconst (-1), 1) := by decide +kernel
theorem dX8_readsSleeper_99 : decode cX8_readsSleeper 99 = .ok (.if_icmp .ne 5, 3) := by decide +kernel
theorem dX8_readsSleeper_102 : decode cX8_readsSleeper 102 = .ok (.iconst 1, 1) := by decide +kernel
theorem dX8_readsSleeper_103 : decode cX8_readsSleeper 103 = .ok (.ireturn, 1) := by decide +kernel
theorem dX8_readsSleeper_104 : decode cX8_readsSleeper 104 = .ok (.iload 5, 2) := by decide +kernel
theorem dX8_readsSleeper_106 : decode cX8_readsSleeper 106 = .ok (.iconst (-1), 1) := by decide +kernel
theorem dX8_readsSleeper_107 : decode cX8_readsSleeper 107 = .ok (.if_icmp .ne 5, 3) := by decide +kernel
theorem dX8_readsSleeper_110 : decode cX8_readsSleeper 110 = .ok (.iconst 2, 1) := by decide +kernel
theorem dX8_readsSleeper_111 : decode cX8_readsSleeper 111 = .ok (.ireturn, 1) := by decide +kernel
theorem dX8_readsSleeper_112 : decode cX8_readsSleeper 112 = .ok (.iload 7, 2) := by decide +kernel
theorem dX8_readsSleeper_114 : decode cX8_readsSleeper 114 = .ok (.iconst (-1), 1) := by decide +kernel
theorem dX8_readsSleeper_115 : decode cX8_readsSleeper 115 = .ok (.if_icmp .ne 5, 3) := by decide +kernel
theorem dX8_readsSleeper_118 : decode cX8_readsSleeper 118 = .ok (.iconst 3, 1) := by decide +kernel
theorem dX8_readsSleeper_119 : decode cX8_readsSleeper 119 = .ok (.ireturn, 1) := by decide +kernel
theorem dX8_readsSleeper_120 : decode cX8_readsSleeper 120 = .ok (.aload_n 0, 1) := by decide +kernel
theorem dX8_readsSleeper_121 : decode cX8_readsSleeper 121 = .ok (.getfield 16, 3) := by decide +kernel
theorem dX8_readsSleeper_124 : decode cX8_readsSleeper 124 = .ok (.iload_n 1, 1) := by decide +kernel
theorem dX8_readsSleeper_125 : decode cX8_readsSleeper 125 = .ok (.iload_n 3, 1) := by decide +kernel
theorem dX8_readsSleeper_126 : decode cX8_readsSleeper 126 = .ok (.iastore, 1) := by decide +kernel
theorem dX8_readsSleeper_127 : decode cX8_readsSleeper 127 = .ok (.aload_n 0, 1) := by decide +kernel
theorem dX8_readsSleeper_128 : decode cX8_readsSleeper 128 = .ok (.getfield 19, 3) := by decide +kernel
theorem dX8_readsSleeper_131 : decode cX8_readsSleeper 131 = .ok (.iload_n 1, 1) := by decide +kernel
theorem dX8_readsSleeper_132 : decode cX8_readsSleeper 132 = .ok (.iload 4, 2) := by decide +kernel
theorem dX8_readsSleeper_134 : decode cX8_readsSleeper 134 = .ok (.iastore, 1) := by decide +kernel
theorem dX8_readsSleeper_135 : decode cX8_readsSleeper 135 = .ok (.aload_n 0, 1) := by decide +kernel
theorem dX8_readsSleeper_136 : decode cX8_readsSleeper 136 = .ok (.getfield 22, 3) := by decide +kernel
theorem dX8_readsSleeper_139 : decode cX8_readsSleeper 139 = .ok (.iload_n 1, 1) := by decide +kernel
theorem dX8_readsSleeper_140 : decode cX8_readsSleeper 140 = .ok (.iload 5, 2) := by decide +kernel
theorem dX8_readsSleeper_142 : decode cX8_readsSleeper 142 = .ok (.iastore, 1) := by decide +kernel
theorem dX8_readsSleeper_143 : decode cX8_readsSleeper 143 = .ok (.aload_n 0, 1) := by decide +kernel
theorem dX8_readsSleeper_144 : decode cX8_readsSleeper 144 = .ok (.getfield 25, 3) := by decide +kernel
theorem dX8_readsSleeper_147 : decode cX8_readsSleeper 147 = .ok (.iload_n 1, 1) := by decide +kernel
theorem dX8_readsSleeper_148 : decode cX8_readsSleeper 148 = .ok (.iload 7, 2) := by decide +kernel
theorem dX8_readsSleeper_150 : decode cX8_readsSleeper 150 = .ok (.iastore, 1) := by decide +kernel
theorem dX8_readsSleeper_151 : decode cX8_readsSleeper 151 = .ok (.iconst 4, 1) := by decide +kernel
theorem dX8_readsSleeper_152 : decode cX8_readsSleeper 152 = .ok (.ireturn, 1) := by decide +kernel
theorem dX8_readsDeed_0 : decode cX8_readsDeed 0 = .ok (.aload_n 0, 1) := by decide +kernel
theorem dX8_readsDeed_1 : decode cX8_readsDeed 1 = .ok (.iconst 1, 1) := by decide +kernel
theorem dX8_readsDeed_2 : decode cX8_readsDeed 2 = .ok (.iload_n 2, 1) := by decide +kernel
theorem dX8_readsDeed_3 : decode cX8_readsDeed 3 = .ok (.iconst 4, 1) := by decide +kernel
theorem dX8_readsDeed_4 : decode cX8_readsDeed 4 = .ok (.invokevirtual 110, 3) := by decide +kernel
theorem dX8_readsDeed_7 : decode cX8_readsDeed 7 = .ok (.istore_n 3, 1) := by decide +kernel
theorem dX8_readsDeed_8 : decode cX8_readsDeed 8 = .ok (.aload_n 0, 1) := by decide +kernel
theorem dX8_readsDeed_9 : decode cX8_readsDeed 9 = .ok (.iconst 1, 1) := by decide +kernel
theorem dX8_readsDeed_10 : decode cX8_readsDeed 10 = .ok (.iload_n 2, 1) := by decide +kernel
theorem dX8_readsDeed_11 : decode cX8_readsDeed 11 = .ok (.iconst 1, 1) := by decide +kernel
theorem dX8_readsDeed_12 : decode cX8_readsDeed 12 = .ok (.iadd, 1) := by decide +kernel
theorem dX8_readsDeed_13 : decode cX8_readsDeed 13 = .ok (.bipush 9, 2) := by decide +kernel
theorem dX8_readsDeed_15 : decode cX8_readsDeed 15 = .ok (.invokevirtual 110, 3) := by decide +kernel
theorem dX8_readsDeed_18 : decode cX8_readsDeed 18 = .ok (.istore 4, 2) := by decide +kernel
theorem dX8_readsDeed_20 : decode cX8_readsDeed 20 = .ok (.aload_n 0, 1) := by decide +kernel
theorem dX8_readsDeed_21 : decode cX8_readsDeed 21 = .ok (.iconst 1, 1) := by decide +kernel
theorem dX8_readsDeed_22 : decode cX8_readsDeed 22 = .ok (.iload_n 2, 1) := by decide +kernel
theorem dX8_readsDeed_23 : decode cX8_readsDeed 23 = .ok (.iconst 2, 1) := by decide +kernel
theorem dX8_readsDeed_24 : decode cX8_readsDeed 24 = .ok (.iadd, 1) := by decide +kernel
theorem dX8_readsDeed_25 : decode cX8_readsDeed 25 = .ok (.bipush 9, 2) := by decide +kernel
theorem dX8_readsDeed_27 : decode cX8_readsDeed 27 = .ok (.invokevirtual 110, 3) := by decide +kernel
theorem dX8_readsDeed_30 : decode cX8_readsDeed 30 = .ok (.istore 5, 2) := by decide +kernel
theorem dX8_readsDeed_32 : decode cX8_readsDeed 32 = .ok (.aload_n 0, 1) := by decide +kernel
theorem dX8_readsDeed_33 : decode cX8_readsDeed 33 = .ok (.iconst 1, 1) := by decide +kernel
theorem dX8_readsDeed_34 : decode cX8_readsDeed 34 = .ok (.iload_n 2, 1) := by decide +kernel
theorem dX8_readsDeed_35 : decode cX8_readsDeed 35 = .ok (.iconst 3, 1) := by decide +kernel
theorem dX8_readsDeed_36 : decode cX8_readsDeed 36 = .ok (.iadd, 1) := by decide +kernel
theorem dX8_readsDeed_37 : decode cX8_readsDeed 37 = .ok (.invokevirtual 106, 3) := by decide +kernel
theorem dX8_readsDeed_40 : decode cX8_readsDeed 40 = .ok (.istore 6, 2) := by decide +kernel
theorem dX8_readsDeed_42 : decode cX8_readsDeed 42 = .ok (.iload 6, 2) := by decide +kernel
theorem dX8_readsDeed_44 : decode cX8_readsDeed 44 = .ok (.bipush 107, 2) := by decide +kernel
theorem dX8_readsDeed_46 : decode cX8_readsDeed 46 = .ok (.if_icmp .ne 7, 3) := by decide +kernel
theorem dX8_readsDeed_49 : decode cX8_readsDeed 49 = .ok (.iconst 0, 1) := by decide +kernel
theorem dX8_readsDeed_50 : decode cX8_readsDeed 50 = .ok (.goto 37, 3) := by decide +kernel
theorem dX8_readsDeed_53 : decode cX8_readsDeed 53 = .ok (.iload 6, 2) := by decide +kernel
theorem dX8_readsDeed_55 : decode cX8_readsDeed 55 = .ok (.bipush 118, 2) := by decide +kernel
theorem dX8_readsDeed_57 : decode cX8_readsDeed 57 = .ok (.if_icmp .ne 7, 3) := by decide +kernel
theorem dX8_readsDeed_60 : decode cX8_readsDeed 60 = .ok (.iconst 1, 1) := by decide +kernel
theorem dX8_readsDeed_61 : decode cX8_readsDeed 61 = .ok (.goto 26, 3) := by decide +kernel
theorem dX8_readsDeed_64 : decode cX8_readsDeed 64 = .ok (.iload 6, 2) := by decide +kernel
theorem dX8_readsDeed_66 : decode cX8_readsDeed 66 = .ok (.bipush 102, 2) := by decide +kernel
theorem dX8_readsDeed_68 : decode cX8_readsDeed 68 = .ok (.if_icmp .ne 7, 3) := by decide +kernel
theorem dX8_readsDeed_71 : decode cX8_readsDeed 71 = .ok (.iconst 2, 1) := by decide +kernel
theorem dX8_readsDeed_72 : decode cX8_readsDeed 72 = .ok (.goto 15, 3) := by decide +kernel
theorem dX8_readsDeed_75 : decode cX8_readsDeed 75 = .ok (.iload 6, 2) := by decide +kernel
theorem dX8_readsDeed_77 : decode cX8_readsDeed 77 = .ok (.bipush 100, 2) := by decide +kernel
theorem dX8_readsDeed_79 : decode cX8_readsDeed 79 = .ok (.if_icmp .ne 7, 3) := by decide +kernel
theorem dX8_readsDeed_82 : decode cX8_readsDeed 82 = .ok (.iconst 3, 1) := by decide +kernel
theorem dX8_readsDeed_83 : decode cX8_readsDeed 83 = .ok (.goto 4, 3) := by decide +kernel
theorem dX8_readsDeed_86 : decode cX8_readsDeed 86 = .ok (.iconst (-1), 1) := by decide +kernel
theorem dX8_readsDeed_87 : decode cX8_readsDeed 87 = .ok (.istore 7, 2) := by decide +kernel
theorem dX8_readsDeed_89 : decode cX8_readsDeed 89 = .ok (.iload_n 3, 1) := by decide +kernel
theorem dX8_readsDeed_90 : decode cX8_readsDeed 90 = .ok (.iconst (-1), 1) := by decide +kernel
theorem dX8_readsDeed_91 : decode cX8_readsDeed 91 = .ok (.if_icmp .ne 5, 3) := by decide +kernel
theorem dX8_readsDeed_94 : decode cX8_readsDeed 94 = .ok (.iconst 0, 1) := by decide +kernel
theorem dX8_readsDeed_95 : decode cX8_readsDeed 95 = .ok (.ireturn, 1) := by decide +kernel
theorem dX8_readsDeed_96 : decode cX8_readsDeed 96 = .ok (.iload 4, 2) := by decide +kernel
theorem dX8_readsDeed_98 : decode cX8_readsDeed 98 = .ok (.iconst (-1), 1) := by decide +kernel
theorem dX8_readsDeed_99 : decode cX8_readsDeed 99 = .ok (.if_icmp .ne 5, 3) := by decide +kernel
theorem dX8_readsDeed_102 : decode cX8_readsDeed 102 = .ok (.iconst 1, 1) := by decide +kernel
theorem dX8_readsDeed_103 : decode cX8_readsDeed 103 = .ok (.ireturn, 1) := by decide +kernel
theorem dX8_readsDeed_104 : decode cX8_readsDeed 104 = .ok (.iload 5, 2) := by decide +kernel
theorem dX8_readsDeed_106 : decode cX8_readsDeed 106 = .ok (.iconst (-1), 1) := by decide +kernel
theorem dX8_readsDeed_107 : decode cX8_readsDeed 107 = .ok (.if_icmp .ne 5, 3) := by decide +kernel
theorem dX8_readsDeed_110 : decode cX8_readsDeed 110 = .ok (.iconst 2, 1) := by decide +kernel
theorem dX8_readsDeed_111 : decode cX8_readsDeed 111 = .ok (.ireturn, 1) := by decide +kernel
theorem dX8_readsDeed_112 : decode cX8_readsDeed 112 = .ok (.iload 7, 2) := by decide +kernel
theorem dX8_readsDeed_114 : decode cX8_readsDeed 114 = .ok (.iconst (-1), 1) := by decide +kernel
theorem dX8_readsDeed_115 : decode cX8_readsDeed 115 = .ok (.if_icmp .ne 5, 3) := by decide +kernel
theorem dX8_readsDeed_118 : decode cX8_readsDeed 118 = .ok (.iconst 3, 1) := by decide +kernel
theorem dX8_readsDeed_119 : decode cX8_readsDeed 119 = .ok (.ireturn, 1) := by decide +kernel
theorem dX8_readsDeed_120 : decode cX8_readsDeed 120 = .ok (.aload_n 0, 1) := by decide +kernel
theorem dX8_readsDeed_121 : decode cX8_readsDeed 121 = .ok (.getfield 28, 3) := by decide +kernel
theorem dX8_readsDeed_124 : decode cX8_readsDeed 124 = .ok (.iload_n 1, 1) := by decide +kernel
theorem dX8_readsDeed_125 : decode cX8_readsDeed 125 = .ok (.bipush 10, 2) := by decide +kernel
theorem dX8_readsDeed_127 : decode cX8_readsDeed 127 = .ok (.iload_n 3, 1) := by decide +kernel
theorem dX8_readsDeed_128 : decode cX8_readsDeed 128 = .ok (.imul, 1) := by decide +kernel
theorem dX8_readsDeed_129 : decode cX8_readsDeed 129 = .ok (.iload 4, 2) := by decide +kernel
theorem dX8_readsDeed_131 : decode cX8_readsDeed 131 = .ok (.iadd, 1) := by decide +kernel
theorem dX8_readsDeed_132 : decode cX8_readsDeed 132 = .ok (.iastore, 1) := by decide +kernel
theorem dX8_readsDeed_133 : decode cX8_readsDeed 133 = .ok (.aload_n 0, 1) := by decide +kernel
theorem dX8_readsDeed_134 : decode cX8_readsDeed 134 = .ok (.getfield 31, 3) := by decide +kernel
theorem dX8_readsDeed_137 : decode cX8_readsDeed 137 = .ok (.iload_n 1, 1) := by decide +kernel
theorem dX8_readsDeed_138 : decode cX8_readsDeed 138 = .ok (.iload 5, 2) := by decide +kernel
theorem dX8_readsDeed_140 : decode cX8_readsDeed 140 = .ok (.iastore, 1) := by decide +kernel
theorem dX8_readsDeed_141 : decode cX8_readsDeed 141 = .ok (.aload_n 0, 1) := by decide +kernel
theorem dX8_readsDeed_142 : decode cX8_readsDeed 142 = .ok (.getfield 34, 3) := by decide +kernel
theorem dX8_readsDeed_145 : decode cX8_readsDeed 145 = .ok (.iload_n 1, 1) := by decide +kernel
theorem dX8_readsDeed_146 : decode cX8_readsDeed 146 = .ok (.iload 7, 2) := by decide +kernel
theorem dX8_readsDeed_148 : decode cX8_readsDeed 148 = .ok (.iastore, 1) := by decide +kernel
theorem dX8_readsDeed_149 : decode cX8_readsDeed 149 = .ok (.iconst 4, 1) := by decide +kernel
theorem dX8_readsDeed_150 : decode cX8_readsDeed 150 = .ok (.ireturn, 1) := by decide +kernel
theorem dX8_readsParts_0 : decode cX8_readsParts 0 = .ok (.iconst 0, 1) := by decide +kernel
theorem dX8_readsParts_1 : decode cX8_readsParts 1 = .ok (.istore_n 2, 1) := by decide +kernel
theorem dX8_readsParts_2 : decode cX8_readsParts 2 = .ok (.iconst 0, 1) := by decide +kernel
theorem dX8_readsParts_3 : decode cX8_readsParts 3 = .ok (.istore_n 3, 1) := by decide +kernel
theorem dX8_readsParts_4 : decode cX8_readsParts 4 = .ok (.aload_n 0, 1) := by decide +kernel
theorem dX8_readsParts_5 : decode cX8_readsParts 5 = .ok (.iload_n 1, 1) := by decide +kernel
theorem dX8_readsParts_6 : decode cX8_readsParts 6 = .ok (.ifCond .ne 7, 3) := by decide +kernel
theorem dX8_readsParts_9 : decode cX8_readsParts 9 = .ok (.iconst 0, 1) := by decide +kernel
theorem dX8_readsParts_10 : decode cX8_readsParts 10 = .ok (.goto 7, 3) := by decide +kernel
theorem dX8_readsParts_13 : decode cX8_readsParts 13 = .ok (.aload_n 0, 1) := by decide +kernel
theorem dX8_readsParts_14 : decode cX8_readsParts 14 = .ok (.getfield 114, 3) := by decide +kernel
theorem dX8_readsParts_17 : decode cX8_readsParts 17 = .ok (.putfield 114, 3) := by decide +kernel
theorem dX8_readsParts_20 : decode cX8_readsParts 20 = .ok (.aload_n 0, 1) := by decide +kernel
theorem dX8_readsParts_21 : decode cX8_readsParts 21 = .ok (.iload_n 1, 1) := by decide +kernel
theorem dX8_readsParts_22 : decode cX8_readsParts 22 = .ok (.iconst 1, 1) := by decide +kernel
theorem dX8_readsParts_23 : decode cX8_readsParts 23 = .ok (.if_icmp .ne 7, 3) := by decide +kernel
theorem dX8_readsParts_26 : decode cX8_readsParts 26 = .ok (.iconst 0, 1) := by decide +kernel
theorem dX8_readsParts_27 : decode cX8_readsParts 27 = .ok (.goto 7, 3) := by decide +kernel
theorem dX8_readsParts_30 : decode cX8_readsParts 30 = .ok (.aload_n 0, 1) := by decide +kernel
theorem dX8_readsParts_31 : decode cX8_readsParts 31 = .ok (.getfield 117, 3) := by decide +kernel
theorem dX8_readsParts_34 : decode cX8_readsParts 34 = .ok (.putfield 117, 3) := by decide +kernel
theorem dX8_readsParts_37 : decode cX8_readsParts 37 = .ok (.iload_n 3, 1) := by decide +kernel
theorem dX8_readsParts_38 : decode cX8_readsParts 38 = .ok (.aload_n 0, 1) := by decide +kernel
theorem dX8_readsParts_39 : decode cX8_readsParts 39 = .ok (.getfield 7, 3) := by decide +kernel
theorem dX8_readsParts_42 : decode cX8_readsParts 42 = .ok (.iload_n 1, 1) := by decide +kernel
theorem dX8_readsParts_43 : decode cX8_readsParts 43 = .ok (.iaload, 1) := by decide +kernel
theorem dX8_readsParts_44 : decode cX8_readsParts 44 = .ok (.if_icmp .lt 7, 3) := by decide +kernel
theorem dX8_readsParts_47 : decode cX8_readsParts 47 = .ok (.iload_n 3, 1) := by decide +kernel
theorem dX8_readsParts_48 : decode cX8_readsParts 48 = .ok (.ifCond .le 115, 3) := by decide +kernel
theorem dX8_readsParts_51 : decode cX8_readsParts 51 = .ok (.iload_n 2, 1) := by decide +kernel
theorem dX8_readsParts_52 : decode cX8_readsParts 52 = .ok (.bipush 8, 2) := by decide +kernel
theorem dX8_readsParts_54 : decode cX8_readsParts 54 = .ok (.if_icmp .ne 7, 3) := by decide +kernel
theorem dX8_readsParts_57 : decode cX8_readsParts 57 = .ok (.iconst 0, 1) := by decide +kernel
theorem dX8_readsParts_58 : decode cX8_readsParts 58 = .ok (.goto 22, 3) := by decide +kernel
theorem dX8_readsParts_61 : decode cX8_readsParts 61 = .ok (.iload_n 1, 1) := by decide +kernel
theorem dX8_readsParts_62 : decode cX8_readsParts 62 = .ok (.ifCond .ne 12, 3) := by decide +kernel
theorem dX8_readsParts_65 : decode cX8_readsParts 65 = .ok (.aload_n 0, 1) := by decide +kernel
theorem dX8_readsParts_66 : decode cX8_readsParts 66 = .ok (.iload_n 2, 1) := by decide +kernel
theorem dX8_readsParts_67 : decode cX8_readsParts 67 = .ok (.iload_n 3, 1) := by decide +kernel
theorem dX8_readsParts_68 : decode cX8_readsParts 68 = .ok (.invokevirtual 120, 3) := by decide +kernel
theorem dX8_readsParts_71 : decode cX8_readsParts 71 = .ok (.goto 9, 3) := by decide +kernel
theorem dX8_readsParts_74 : decode cX8_readsParts 74 = .ok (.aload_n 0, 1) := by decide +kernel
theorem dX8_readsParts_75 : decode cX8_readsParts 75 = .ok (.iload_n 2, 1) := by decide +kernel
theorem dX8_readsParts_76 : decode cX8_readsParts 76 = .ok (.iload_n 3, 1) := by decide +kernel
theorem dX8_readsParts_77 : decode cX8_readsParts 77 = .ok (.invokevirtual 123, 3) := by decide +kernel
theorem dX8_readsParts_80 : decode cX8_readsParts 80 = .ok (.istore 4, 2) := by decide +kernel
theorem dX8_readsParts_82 : decode cX8_readsParts 82 = .ok (.iload 4, 2) := by decide +kernel
theorem dX8_readsParts_84 : decode cX8_readsParts 84 = .ok (.iconst 4, 1) := by decide +kernel
theorem dX8_readsParts_85 : decode cX8_readsParts 85 = .ok (.if_icmp .ge 8, 3) := by decide +kernel
theorem dX8_readsParts_88 : decode cX8_readsParts 88 = .ok (.iload_n 3, 1) := by decide +kernel
theorem dX8_readsParts_89 : decode cX8_readsParts 89 = .ok (.iload 4, 2) := by decide +kernel
theorem dX8_readsParts_91 : decode cX8_readsParts 91 = .ok (.iadd, 1) := by decide +kernel
theorem dX8_readsParts_92 : decode cX8_readsParts 92 = .ok (.ireturn, 1) := by decide +kernel
theorem dX8_readsParts_93 : decode cX8_readsParts 93 = .ok (.iinc 2 1, 3) := by decide +kernel
theorem dX8_readsParts_96 : decode cX8_readsParts 96 = .ok (.iinc 3 4, 3) := by decide +kernel
theorem dX8_readsParts_99 : decode cX8_readsParts 99 = .ok (.iload_n 3, 1) := by decide +kernel
theorem dX8_readsParts_100 : decode cX8_readsParts 100 = .ok (.aload_n 0, 1) := by decide +kernel
theorem dX8_readsParts_101 : decode cX8_readsParts 101 = .ok (.getfield 7, 3) := by decide +kernel
theorem dX8_readsParts_104 : decode cX8_readsParts 104 = .ok (.iload_n 1, 1) := by decide +kernel
theorem dX8_readsParts_105 : decode cX8_readsParts 105 = .ok (.iaload, 1) := by decide +kernel
theorem dX8_readsParts_106 : decode cX8_readsParts 106 = .ok (.if_icmp .ne 38, 3) := by decide +kernel
theorem dX8_readsParts_109 : decode cX8_readsParts 109 = .ok (.aload_n 0, 1) := by decide +kernel
theorem dX8_readsParts_110 : decode cX8_readsParts 110 = .ok (.iload_n 1, 1) := by decide +kernel
theorem dX8_readsParts_111 : decode cX8_readsParts 111 = .ok (.ifCond .ne 7, 3) := by decide +kernel
theorem dX8_readsParts_114 : decode cX8_readsParts 114 = .ok (.iload_n 2, 1) := by decide +kernel
theorem dX8_readsParts_115 : decode cX8_readsParts 115 = .ok (.goto 7, 3) := by decide +kernel
theorem dX8_readsParts_118 : decode cX8_readsParts 118 = .ok (.aload_n 0, 1) := by decide +kernel
theorem dX8_readsParts_119 : decode cX8_readsParts 119 = .ok (.getfield 114, 3) := by decide +kernel
theorem dX8_readsParts_122 : decode cX8_readsParts 122 = .ok (.putfield 114, 3) := by decide +kernel
theorem dX8_readsParts_125 : decode cX8_readsParts 125 = .ok (.aload_n 0, 1) := by decide +kernel
theorem dX8_readsParts_126 : decode cX8_readsParts 126 = .ok (.iload_n 1, 1) := by decide +kernel
theorem dX8_readsParts_127 : decode cX8_readsParts 127 = .ok (.iconst 1, 1) := by decide +kernel
theorem dX8_readsParts_128 : decode cX8_readsParts 128 = .ok (.if_icmp .ne 7, 3) := by decide +kernel
theorem dX8_readsParts_131 : decode cX8_readsParts 131 = .ok (.iload_n 2, 1) := by decide +kernel
theorem dX8_readsParts_132 : decode cX8_readsParts 132 = .ok (.goto 7, 3) := by decide +kernel
theorem dX8_readsParts_135 : decode cX8_readsParts 135 = .ok (.aload_n 0, 1) := by decide +kernel
theorem dX8_readsParts_136 : decode cX8_readsParts 136 = .ok (.getfield 117, 3) := by decide +kernel
theorem dX8_readsParts_139 : decode cX8_readsParts 139 = .ok (.putfield 117, 3) := by decide +kernel
theorem dX8_readsParts_142 : decode cX8_readsParts 142 = .ok (.iconst (-1), 1) := by decide +kernel
theorem dX8_readsParts_143 : decode cX8_readsParts 143 = .ok (.ireturn, 1) := by decide +kernel
theorem dX8_readsParts_144 : decode cX8_readsParts 144 = .ok (.aload_n 0, 1) := by decide +kernel
theorem dX8_readsParts_145 : decode cX8_readsParts 145 = .ok (.iload_n 1, 1) := by decide +kernel
theorem dX8_readsParts_146 : decode cX8_readsParts 146 = .ok (.iload_n 3, 1) := by decide +kernel
theorem dX8_readsParts_147 : decode cX8_readsParts 147 = .ok (.invokevirtual 106, 3) := by decide +kernel
theorem dX8_readsParts_150 : decode cX8_readsParts 150 = .ok (.bipush 59, 2) := by decide +kernel
theorem dX8_readsParts_152 : decode cX8_readsParts 152 = .ok (.if_icmp .eq 5, 3) := by decide +kernel
theorem dX8_readsParts_155 : decode cX8_readsParts 155 = .ok (.iload_n 3, 1) := by decide +kernel
theorem dX8_readsParts_156 : decode cX8_readsParts 156 = .ok (.ireturn, 1) := by decide +kernel
theorem dX8_readsParts_157 : decode cX8_readsParts 157 = .ok (.iinc 3 1, 3) := by decide +kernel
theorem dX8_readsParts_160 : decode cX8_readsParts 160 = .ok (.goto (-123), 3) := by decide +kernel
theorem dX8_readsParts_163 : decode cX8_readsParts 163 = .ok (.iconst (-1), 1) := by decide +kernel
theorem dX8_readsParts_164 : decode cX8_readsParts 164 = .ok (.ireturn, 1) := by decide +kernel
theorem dX8_faultOf_0 : decode cX8_faultOf 0 = .ok (.aload_n 0, 1) := by decide +kernel
theorem dX8_faultOf_1 : decode cX8_faultOf 1 = .ok (.iconst 0, 1) := by decide +kernel
theorem dX8_faultOf_2 : decode cX8_faultOf 2 = .ok (.invokevirtual 126, 3) := by decide +kernel
theorem dX8_faultOf_5 : decode cX8_faultOf 5 = .ok (.istore_n 2, 1) := by decide +kernel
theorem dX8_faultOf_6 : decode cX8_faultOf 6 = .ok (.aload_n 0, 1) := by decide +kernel
theorem dX8_faultOf_7 : decode cX8_faultOf 7 = .ok (.iconst 1, 1) := by decide +kernel
theorem dX8_faultOf_8 : decode cX8_faultOf 8 = .ok (.invokevirtual 126, 3) := by decide +kernel
theorem dX8_faultOf_11 : decode cX8_faultOf 11 = .ok (.istore_n 3, 1) := by decide +kernel
theorem dX8_faultOf_12 : decode cX8_faultOf 12 = .ok (.iload_n 1, 1) := by decide +kernel
theorem dX8_faultOf_13 : decode cX8_faultOf 13 = .ok (.ifCond .ne 7, 3) := by decide +kernel
theorem dX8_faultOf_16 : decode cX8_faultOf 16 = .ok (.iload_n 2, 1) := by decide +kernel
theorem dX8_faultOf_17 : decode cX8_faultOf 17 = .ok (.goto 4, 3) := by decide +kernel
theorem dX8_faultOf_20 : decode cX8_faultOf 20 = .ok (.iload_n 3, 1) := by decide +kernel
theorem dX8_faultOf_21 : decode cX8_faultOf 21 = .ok (.ireturn, 1) := by decide +kernel
theorem dX8_reads_0 : decode cX8_reads 0 = .ok (.aload_n 0, 1) := by decide +kernel
theorem dX8_reads_1 : decode cX8_reads 1 = .ok (.iconst 0, 1) := by decide +kernel
theorem dX8_reads_2 : decode cX8_reads 2 = .ok (.invokevirtual 130, 3) := by decide +kernel
theorem dX8_reads_5 : decode cX8_reads 5 = .ok (.istore_n 1, 1) := by decide +kernel
theorem dX8_reads_6 : decode cX8_reads 6 = .ok (.return_, 1) := by decide +kernel
theorem dX8_fault_0 : decode cX8_fault 0 = .ok (.iload_n 1, 1) := by decide +kernel
theorem dX8_fault_1 : decode cX8_fault 1 = .ok (.invokestatic 102, 3) := by decide +kernel
theorem dX8_fault_4 : decode cX8_fault 4 = .ok (.ifCond .eq 11, 3) := by decide +kernel
theorem dX8_fault_7 : decode cX8_fault 7 = .ok (.aload_n 0, 1) := by decide +kernel
theorem dX8_fault_8 : decode cX8_fault 8 = .ok (.iload_n 1, 1) := by decide +kernel
theorem dX8_fault_9 : decode cX8_fault 9 = .ok (.invokevirtual 130, 3) := by decide +kernel
theorem dX8_fault_12 : decode cX8_fault 12 = .ok (.goto 5, 3) := by decide +kernel
theorem dX8_fault_15 : decode cX8_fault 15 = .ok (.bipush (-2), 2) := by decide +kernel
theorem dX8_fault_17 : decode cX8_fault 17 = .ok (.ireturn, 1) := by decide +kernel
theorem dX8_isSleeper_0 : decode cX8_isSleeper 0 = .ok (.aload_n 0, 1) := by decide +kernel
theorem dX8_isSleeper_1 : decode cX8_isSleeper 1 = .ok (.invokevirtual 133, 3) := by decide +kernel
theorem dX8_isSleeper_4 : decode cX8_isSleeper 4 = .ok (.iload_n 1, 1) := by decide +kernel
theorem dX8_isSleeper_5 : decode cX8_isSleeper 5 = .ok (.iconst 0, 1) := by decide +kernel
theorem dX8_isSleeper_6 : decode cX8_isSleeper 6 = .ok (.aload_n 0, 1) := by decide +kernel
theorem dX8_isSleeper_7 : decode cX8_isSleeper 7 = .ok (.getfield 114, 3) := by decide +kernel
theorem dX8_isSleeper_10 : decode cX8_isSleeper 10 = .ok (.iconst 1, 1) := by decide +kernel
theorem dX8_isSleeper_11 : decode cX8_isSleeper 11 = .ok (.isub, 1) := by decide +kernel
theorem dX8_isSleeper_12 : decode cX8_isSleeper 12 = .ok (.invokestatic 98, 3) := by decide +kernel
theorem dX8_isSleeper_15 : decode cX8_isSleeper 15 = .ok (.ireturn, 1) := by decide +kernel
theorem dX8_isDeed_0 : decode cX8_isDeed 0 = .ok (.aload_n 0, 1) := by decide +kernel
theorem dX8_isDeed_1 : decode cX8_isDeed 1 = .ok (.invokevirtual 133, 3) := by decide +kernel
theorem dX8_isDeed_4 : decode cX8_isDeed 4 = .ok (.iload_n 1, 1) := by decide +kernel
theorem dX8_isDeed_5 : decode cX8_isDeed 5 = .ok (.iconst 0, 1) := by decide +kernel
theorem dX8_isDeed_6 : decode cX8_isDeed 6 = .ok (.aload_n 0, 1) := by decide +kernel
theorem dX8_isDeed_7 : decode cX8_isDeed 7 = .ok (.getfield 117, 3) := by decide +kernel
theorem dX8_isDeed_10 : decode cX8_isDeed 10 = .ok (.iconst 1, 1) := by decide +kernel
theorem dX8_isDeed_11 : decode cX8_isDeed 11 = .ok (.isub, 1) := by decide +kernel
theorem dX8_isDeed_12 : decode cX8_isDeed 12 = .ok (.invokestatic 98, 3) := by decide +kernel
theorem dX8_isDeed_15 : decode cX8_isDeed 15 = .ok (.ireturn, 1) := by decide +kernel
theorem dX8_sleeperOf_0 : decode cX8_sleeperOf 0 = .ok (.iload_n 2, 1) := by decide +kernel
theorem dX8_sleeperOf_1 : decode cX8_sleeperOf 1 = .ok (.ifCond .ne 12, 3) := by decide +kernel
theorem dX8_sleeperOf_4 : decode cX8_sleeperOf 4 = .ok (.aload_n 0, 1) := by decide +kernel
theorem dX8_sleeperOf_5 : decode cX8_sleeperOf 5 = .ok (.getfield 16, 3) := by decide +kernel
theorem dX8_sleeperOf_8 : decode cX8_sleeperOf 8 = .ok (.iload_n 1, 1) := by decide +kernel
theorem dX8_sleeperOf_9 : decode cX8_sleeperOf 9 = .ok (.iaload, 1) := by decide +kernel
theorem dX8_sleeperOf_10 : decode cX8_sleeperOf 10 = .ok (.goto 37, 3) := by decide +kernel
theorem dX8_sleeperOf_13 : decode cX8_sleeperOf 13 = .ok (.iload_n 2, 1) := by decide +kernel
theorem dX8_sleeperOf_14 : decode cX8_sleeperOf 14 = .ok (.iconst 1, 1) := by decide +kernel
theorem dX8_sleeperOf_15 : decode cX8_sleeperOf 15 = .ok (.if_icmp .ne 12, 3) := by decide +kernel
theorem dX8_sleeperOf_18 : decode cX8_sleeperOf 18 = .ok (.aload_n 0, 1) := by decide +kernel
theorem dX8_sleeperOf_19 : decode cX8_sleeperOf 19 = .ok (.getfield 19, 3) := by decide +kernel
theorem dX8_sleeperOf_22 : decode cX8_sleeperOf 22 = .ok (.iload_n 1, 1) := by decide +kernel
theorem dX8_sleeperOf_23 : decode cX8_sleeperOf 23 = .ok (.iaload, 1) := by decide +kernel
theorem dX8_sleeperOf_24 : decode cX8_sleeperOf 24 = .ok (.goto 23, 3) := by decide +kernel
theorem dX8_sleeperOf_27 : decode cX8_sleeperOf 27 = .ok (.iload_n 2, 1) := by decide +kernel
theorem dX8_sleeperOf_28 : decode cX8_sleeperOf 28 = .ok (.iconst 2, 1) := by decide +kernel
theorem dX8_sleeperOf_29 : decode cX8_sleeperOf 29 = .ok (.if_icmp .ne 12, 3) := by decide +kernel
theorem dX8_sleeperOf_32 : decode cX8_sleeperOf 32 = .ok (.aload_n 0, 1) := by decide +kernel
theorem dX8_sleeperOf_33 : decode cX8_sleeperOf 33 = .ok (.getfield 22, 3) := by decide +kernel
theorem dX8_sleeperOf_36 : decode cX8_sleeperOf 36 = .ok (.iload_n 1, 1) := by decide +kernel
theorem dX8_sleeperOf_37 : decode cX8_sleeperOf 37 = .ok (.iaload, 1) := by decide +kernel
theorem dX8_sleeperOf_38 : decode cX8_sleeperOf 38 = .ok (.goto 9, 3) := by decide +kernel
theorem dX8_sleeperOf_41 : decode cX8_sleeperOf 41 = .ok (.aload_n 0, 1) := by decide +kernel
theorem dX8_sleeperOf_42 : decode cX8_sleeperOf 42 = .ok (.getfield 25, 3) := by decide +kernel
theorem dX8_sleeperOf_45 : decode cX8_sleeperOf 45 = .ok (.iload_n 1, 1) := by decide +kernel
theorem dX8_sleeperOf_46 : decode cX8_sleeperOf 46 = .ok (.iaload, 1) := by decide +kernel
theorem dX8_sleeperOf_47 : decode cX8_sleeperOf 47 = .ok (.ireturn, 1) := by decide +kernel
theorem dX8_sleeper_0 : decode cX8_sleeper 0 = .ok (.aload_n 0, 1) := by decide +kernel
theorem dX8_sleeper_1 : decode cX8_sleeper 1 = .ok (.iload_n 1, 1) := by decide +kernel
theorem dX8_sleeper_2 : decode cX8_sleeper 2 = .ok (.invokevirtual 136, 3) := by decide +kernel
theorem dX8_sleeper_5 : decode cX8_sleeper 5 = .ok (.ifCond .eq 21, 3) := by decide +kernel
theorem dX8_sleeper_8 : decode cX8_sleeper 8 = .ok (.iload_n 2, 1) := by decide +kernel
theorem dX8_sleeper_9 : decode cX8_sleeper 9 = .ok (.iconst 0, 1) := by decide +kernel
theorem dX8_sleeper_10 : decode cX8_sleeper 10 = .ok (.iconst 3, 1) := by decide +kernel
theorem dX8_sleeper_11 : decode cX8_sleeper 11 = .ok (.invokestatic 98, 3) := by decide +kernel
theorem dX8_sleeper_14 : decode cX8_sleeper 14 = .ok (.ifCond .eq 12, 3) := by decide +kernel
theorem dX8_sleeper_17 : decode cX8_sleeper 17 = .ok (.aload_n 0, 1) := by decide +kernel
theorem dX8_sleeper_18 : decode cX8_sleeper 18 = .ok (.iload_n 1, 1) := by decide +kernel
theorem dX8_sleeper_19 : decode cX8_sleeper 19 = .ok (.iload_n 2, 1) := by decide +kernel
theorem dX8_sleeper_20 : decode cX8_sleeper 20 = .ok (.invokevirtual 139, 3) := by decide +kernel
theorem dX8_sleeper_23 : decode cX8_sleeper 23 = .ok (.goto 5, 3) := by decide +kernel
theorem dX8_sleeper_26 : decode cX8_sleeper 26 = .ok (.bipush (-2), 2) := by decide +kernel
theorem dX8_sleeper_28 : decode cX8_sleeper 28 = .ok (.ireturn, 1) := by decide +kernel
theorem dX8_deedOf_0 : decode cX8_deedOf 0 = .ok (.iload_n 2, 1) := by decide +kernel
theorem dX8_deedOf_1 : decode cX8_deedOf 1 = .ok (.ifCond .ne 12, 3) := by decide +kernel
theorem dX8_deedOf_4 : decode cX8_deedOf 4 = .ok (.aload_n 0, 1) := by decide +kernel
theorem dX8_deedOf_5 : decode cX8_deedOf 5 = .ok (.getfield 28, 3) := by decide +kernel
theorem dX8_deedOf_8 : decode cX8_deedOf 8 = .ok (.iload_n 1, 1) := by decide +kernel
theorem dX8_deedOf_9 : decode cX8_deedOf 9 = .ok (.iaload, 1) := by decide +kernel
theorem dX8_deedOf_10 : decode cX8_deedOf 10 = .ok (.goto 23, 3) := by decide +kernel
theorem dX8_deedOf_13 : decode cX8_deedOf 13 = .ok (.iload_n 2, 1) := by decide +kernel
theorem dX8_deedOf_14 : decode cX8_deedOf 14 = .ok (.iconst 1, 1) := by decide +kernel
theorem dX8_deedOf_15 : decode cX8_deedOf 15 = .ok (.if_icmp .ne 12, 3) := by decide +kernel
theorem dX8_deedOf_18 : decode cX8_deedOf 18 = .ok (.aload_n 0, 1) := by decide +kernel
theorem dX8_deedOf_19 : decode cX8_deedOf 19 = .ok (.getfield 31, 3) := by decide +kernel
theorem dX8_deedOf_22 : decode cX8_deedOf 22 = .ok (.iload_n 1, 1) := by decide +kernel
theorem dX8_deedOf_23 : decode cX8_deedOf 23 = .ok (.iaload, 1) := by decide +kernel
theorem dX8_deedOf_24 : decode cX8_deedOf 24 = .ok (.goto 9, 3) := by decide +kernel
theorem dX8_deedOf_27 : decode cX8_deedOf 27 = .ok (.aload_n 0, 1) := by decide +kernel
theorem dX8_deedOf_28 : decode cX8_deedOf 28 = .ok (.getfield 34, 3) := by decide +kernel
theorem dX8_deedOf_31 : decode cX8_deedOf 31 = .ok (.iload_n 1, 1) := by decide +kernel
theorem dX8_deedOf_32 : decode cX8_deedOf 32 = .ok (.iaload, 1) := by decide +kernel
theorem dX8_deedOf_33 : decode cX8_deedOf 33 = .ok (.ireturn, 1) := by decide +kernel
theorem dX8_deed_0 : decode cX8_deed 0 = .ok (.aload_n 0, 1) := by decide +kernel
theorem dX8_deed_1 : decode cX8_deed 1 = .ok (.iload_n 1, 1) := by decide +kernel
theorem dX8_deed_2 : decode cX8_deed 2 = .ok (.invokevirtual 142, 3) := by decide +kernel
theorem dX8_deed_5 : decode cX8_deed 5 = .ok (.ifCond .eq 21, 3) := by decide +kernel
theorem dX8_deed_8 : decode cX8_deed 8 = .ok (.iload_n 2, 1) := by decide +kernel
theorem dX8_deed_9 : decode cX8_deed 9 = .ok (.iconst 0, 1) := by decide +kernel
theorem dX8_deed_10 : decode cX8_deed 10 = .ok (.iconst 2, 1) := by decide +kernel
theorem dX8_deed_11 : decode cX8_deed 11 = .ok (.invokestatic 98, 3) := by decide +kernel
theorem dX8_deed_14 : decode cX8_deed 14 = .ok (.ifCond .eq 12, 3) := by decide +kernel
theorem dX8_deed_17 : decode cX8_deed 17 = .ok (.aload_n 0, 1) := by decide +kernel
theorem dX8_deed_18 : decode cX8_deed 18 = .ok (.iload_n 1, 1) := by decide +kernel
theorem dX8_deed_19 : decode cX8_deed 19 = .ok (.iload_n 2, 1) := by decide +kernel
theorem dX8_deed_20 : decode cX8_deed 20 = .ok (.invokevirtual 145, 3) := by decide +kernel
theorem dX8_deed_23 : decode cX8_deed 23 = .ok (.goto 5, 3) := by decide +kernel
theorem dX8_deed_26 : decode cX8_deed 26 = .ok (.bipush (-2), 2) := by decide +kernel
theorem dX8_deed_28 : decode cX8_deed 28 = .ok (.ireturn, 1) := by decide +kernel
theorem dX8_law_0 : decode cX8_law 0 = .ok (.iload_n 1, 1) := by decide +kernel
theorem dX8_law_1 : decode cX8_law 1 = .ok (.iconst 0, 1) := by decide +kernel
theorem dX8_law_2 : decode cX8_law 2 = .ok (.iconst 2, 1) := by decide +kernel
theorem dX8_law_3 : decode cX8_law 3 = .ok (.invokestatic 98, 3) := by decide +kernel
theorem dX8_law_6 : decode cX8_law 6 = .ok (.ifCond .eq 32, 3) := by decide +kernel
theorem dX8_law_9 : decode cX8_law 9 = .ok (.iload_n 2, 1) := by decide +kernel
theorem dX8_law_10 : decode cX8_law 10 = .ok (.iload_n 1, 1) := by decide +kernel
theorem dX8_law_11 : decode cX8_law 11 = .ok (.iconst 2, 1) := by decide +kernel
theorem dX8_law_12 : decode cX8_law 12 = .ok (.if_icmp .ne 7, 3) := by decide +kernel
theorem dX8_law_15 : decode cX8_law 15 = .ok (.iconst 1, 1) := by decide +kernel
theorem dX8_law_16 : decode cX8_law 16 = .ok (.goto 4, 3) := by decide +kernel
theorem dX8_law_19 : decode cX8_law 19 = .ok (.iconst 0, 1) := by decide +kernel
theorem dX8_law_20 : decode cX8_law 20 = .ok (.iload_n 1, 1) := by decide +kernel
theorem dX8_law_21 : decode cX8_law 21 = .ok (.iconst 2, 1) := by decide +kernel
theorem dX8_law_22 : decode cX8_law 22 = .ok (.if_icmp .ne 8, 3) := by decide +kernel
theorem dX8_law_25 : decode cX8_law 25 = .ok (.bipush 8, 2) := by decide +kernel
theorem dX8_law_27 : decode cX8_law 27 = .ok (.goto 5, 3) := by decide +kernel
theorem dX8_law_30 : decode cX8_law 30 = .ok (.bipush 9, 2) := by decide +kernel
theorem dX8_law_32 : decode cX8_law 32 = .ok (.invokestatic 98, 3) := by decide +kernel
theorem dX8_law_35 : decode cX8_law 35 = .ok (.ifCond .ne 6, 3) := by decide +kernel
theorem dX8_law_38 : decode cX8_law 38 = .ok (.bipush (-2), 2) := by decide +kernel
theorem dX8_law_40 : decode cX8_law 40 = .ok (.ireturn, 1) := by decide +kernel
theorem dX8_law_41 : decode cX8_law 41 = .ok (.iload_n 1, 1) := by decide +kernel
theorem dX8_law_42 : decode cX8_law 42 = .ok (.ifCond .ne 10, 3) := by decide +kernel
theorem dX8_law_45 : decode cX8_law 45 = .ok (.aload_n 0, 1) := by decide +kernel
theorem dX8_law_46 : decode cX8_law 46 = .ok (.getfield 86, 3) := by decide +kernel
theorem dX8_law_49 : decode cX8_law 49 = .ok (.goto 19, 3) := by decide +kernel
theorem dX8_law_52 : decode cX8_law 52 = .ok (.iload_n 1, 1) := by decide +kernel
theorem dX8_law_53 : decode cX8_law 53 = .ok (.iconst 1, 1) := by decide +kernel
theorem dX8_law_54 : decode cX8_law 54 = .ok (.if_icmp .ne 10, 3) := by decide +kernel
theorem dX8_law_57 : decode cX8_law 57 = .ok (.aload_n 0, 1) := by decide +kernel
theorem dX8_law_58 : decode cX8_law 58 = .ok (.getfield 90, 3) := by decide +kernel
theorem dX8_law_61 : decode cX8_law 61 = .ok (.goto 7, 3) := by decide +kernel
theorem dX8_law_64 : decode cX8_law 64 = .ok (.aload_n 0, 1) := by decide +kernel
theorem dX8_law_65 : decode cX8_law 65 = .ok (.getfield 93, 3) := by decide +kernel
theorem dX8_law_68 : decode cX8_law 68 = .ok (.istore_n 3, 1) := by decide +kernel
theorem dX8_law_69 : decode cX8_law 69 = .ok (.aload_n 0, 1) := by decide +kernel
theorem dX8_law_70 : decode cX8_law 70 = .ok (.iload_n 1, 1) := by decide +kernel
theorem dX8_law_71 : decode cX8_law 71 = .ok (.ifCond .ne 7, 3) := by decide +kernel
theorem dX8_law_74 : decode cX8_law 74 = .ok (.iload_n 2, 1) := by decide +kernel
theorem dX8_law_75 : decode cX8_law 75 = .ok (.goto 7, 3) := by decide +kernel
theorem dX8_law_78 : decode cX8_law 78 = .ok (.aload_n 0, 1) := by decide +kernel
theorem dX8_law_79 : decode cX8_law 79 = .ok (.getfield 86, 3) := by decide +kernel
theorem dX8_law_82 : decode cX8_law 82 = .ok (.putfield 86, 3) := by decide +kernel
theorem dX8_law_85 : decode cX8_law 85 = .ok (.aload_n 0, 1) := by decide +kernel
theorem dX8_law_86 : decode cX8_law 86 = .ok (.iload_n 1, 1) := by decide +kernel
theorem dX8_law_87 : decode cX8_law 87 = .ok (.iconst 1, 1) := by decide +kernel
theorem dX8_law_88 : decode cX8_law 88 = .ok (.if_icmp .ne 7, 3) := by decide +kernel
theorem dX8_law_91 : decode cX8_law 91 = .ok (.iload_n 2, 1) := by decide +kernel
theorem dX8_law_92 : decode cX8_law 92 = .ok (.goto 7, 3) := by decide +kernel
theorem dX8_law_95 : decode cX8_law 95 = .ok (.aload_n 0, 1) := by decide +kernel
theorem dX8_law_96 : decode cX8_law 96 = .ok (.getfield 90, 3) := by decide +kernel
theorem dX8_law_99 : decode cX8_law 99 = .ok (.putfield 90, 3) := by decide +kernel
theorem dX8_law_102 : decode cX8_law 102 = .ok (.aload_n 0, 1) := by decide +kernel
theorem dX8_law_103 : decode cX8_law 103 = .ok (.iload_n 1, 1) := by decide +kernel
theorem dX8_law_104 : decode cX8_law 104 = .ok (.iconst 2, 1) := by decide +kernel
theorem dX8_law_105 : decode cX8_law 105 = .ok (.if_icmp .ne 7, 3) := by decide +kernel
theorem dX8_law_108 : decode cX8_law 108 = .ok (.iload_n 2, 1) := by decide +kernel
theorem dX8_law_109 : decode cX8_law 109 = .ok (.goto 7, 3) := by decide +kernel
theorem dX8_law_112 : decode cX8_law 112 = .ok (.aload_n 0, 1) := by decide +kernel
theorem dX8_law_113 : decode cX8_law 113 = .ok (.getfield 93, 3) := by decide +kernel
theorem dX8_law_116 : decode cX8_law 116 = .ok (.putfield 93, 3) := by decide +kernel
theorem dX8_law_119 : decode cX8_law 119 = .ok (.iload_n 3, 1) := by decide +kernel
theorem dX8_law_120 : decode cX8_law 120 = .ok (.ireturn, 1) := by decide +kernel
theorem dX8_rowOf_0 : decode cX8_rowOf 0 = .ok (.iload_n 0, 1) := by decide +kernel
theorem dX8_rowOf_1 : decode cX8_rowOf 1 = .ok (.bipush 6, 2) := by decide +kernel
theorem dX8_rowOf_3 : decode cX8_rowOf 3 = .ok (.irem, 1) := by decide +kernel
theorem dX8_rowOf_4 : decode cX8_rowOf 4 = .ok (.istore_n 1, 1) := by decide +kernel
theorem dX8_rowOf_5 : decode cX8_rowOf 5 = .ok (.iload_n 1, 1) := by decide +kernel
theorem dX8_rowOf_6 : decode cX8_rowOf 6 = .ok (.ifCond .ne 7, 3) := by decide +kernel
theorem dX8_rowOf_9 : decode cX8_rowOf 9 = .ok (.iconst 1, 1) := by decide +kernel
theorem dX8_rowOf_10 : decode cX8_rowOf 10 = .ok (.goto 41, 3) := by decide +kernel
theorem dX8_rowOf_13 : decode cX8_rowOf 13 = .ok (.iload_n 1, 1) := by decide +kernel
theorem dX8_rowOf_14 : decode cX8_rowOf 14 = .ok (.iconst 1, 1) := by decide +kernel
theorem dX8_rowOf_15 : decode cX8_rowOf 15 = .ok (.if_icmp .ne 7, 3) := by decide +kernel
theorem dX8_rowOf_18 : decode cX8_rowOf 18 = .ok (.iconst 3, 1) := by decide +kernel
theorem dX8_rowOf_19 : decode cX8_rowOf 19 = .ok (.goto 32, 3) := by decide +kernel
theorem dX8_rowOf_22 : decode cX8_rowOf 22 = .ok (.iload_n 1, 1) := by decide +kernel
theorem dX8_rowOf_23 : decode cX8_rowOf 23 = .ok (.iconst 2, 1) := by decide +kernel
theorem dX8_rowOf_24 : decode cX8_rowOf 24 = .ok (.if_icmp .ne 7, 3) := by decide +kernel
theorem dX8_rowOf_27 : decode cX8_rowOf 27 = .ok (.iconst 5, 1) := by decide +kernel
theorem dX8_rowOf_28 : decode cX8_rowOf 28 = .ok (.goto 23, 3) := by decide +kernel
theorem dX8_rowOf_31 : decode cX8_rowOf 31 = .ok (.iload_n 1, 1) := by decide +kernel
theorem dX8_rowOf_32 : decode cX8_rowOf 32 = .ok (.iconst 3, 1) := by decide +kernel
theorem dX8_rowOf_33 : decode cX8_rowOf 33 = .ok (.if_icmp .ne 8, 3) := by decide +kernel
theorem dX8_rowOf_36 : decode cX8_rowOf 36 = .ok (.bipush 6, 2) := by decide +kernel
theorem dX8_rowOf_38 : decode cX8_rowOf 38 = .ok (.goto 13, 3) := by decide +kernel
theorem dX8_rowOf_41 : decode cX8_rowOf 41 = .ok (.iload_n 1, 1) := by decide +kernel
theorem dX8_rowOf_42 : decode cX8_rowOf 42 = .ok (.iconst 4, 1) := by decide +kernel
theorem dX8_rowOf_43 : decode cX8_rowOf 43 = .ok (.if_icmp .ne 7, 3) := by decide +kernel
theorem dX8_rowOf_46 : decode cX8_rowOf 46 = .ok (.iconst 4, 1) := by decide +kernel
theorem dX8_rowOf_47 : decode cX8_rowOf 47 = .ok (.goto 4, 3) := by decide +kernel
theorem dX8_rowOf_50 : decode cX8_rowOf 50 = .ok (.iconst 2, 1) := by decide +kernel
theorem dX8_rowOf_51 : decode cX8_rowOf 51 = .ok (.ireturn, 1) := by decide +kernel
theorem dX8_deepNow_0 : decode cX8_deepNow 0 = .ok (.iload_n 2, 1) := by decide +kernel
theorem dX8_deepNow_1 : decode cX8_deepNow 1 = .ok (.invokestatic 148, 3) := by decide +kernel
theorem dX8_deepNow_4 : decode cX8_deepNow 4 = .ok (.aload_n 0, 1) := by decide +kernel
theorem dX8_deepNow_5 : decode cX8_deepNow 5 = .ok (.getfield 22, 3) := by decide +kernel
theorem dX8_deepNow_8 : decode cX8_deepNow 8 = .ok (.iload_n 1, 1) := by decide +kernel
theorem dX8_deepNow_9 : decode cX8_deepNow 9 = .ok (.iaload, 1) := by decide +kernel
theorem dX8_deepNow_10 : decode cX8_deepNow 10 = .ok (.iadd, 1) := by decide +kernel
theorem dX8_deepNow_11 : decode cX8_deepNow 11 = .ok (.istore_n 3, 1) := by decide +kernel
theorem dX8_deepNow_12 : decode cX8_deepNow 12 = .ok (.aload_n 0, 1) := by decide +kernel
theorem dX8_deepNow_13 : decode cX8_deepNow 13 = .ok (.getfield 25, 3) := by decide +kernel
theorem dX8_deepNow_16 : decode cX8_deepNow 16 = .ok (.iload_n 1, 1) := by decide +kernel
theorem dX8_deepNow_17 : decode cX8_deepNow 17 = .ok (.iaload, 1) := by decide +kernel
theorem dX8_deepNow_18 : decode cX8_deepNow 18 = .ok (.ifCond .ne 9, 3) := by decide +kernel
theorem dX8_deepNow_21 : decode cX8_deepNow 21 = .ok (.iload_n 3, 1) := by decide +kernel
theorem dX8_deepNow_22 : decode cX8_deepNow 22 = .ok (.iconst 1, 1) := by decide +kernel
theorem dX8_deepNow_23 : decode cX8_deepNow 23 = .ok (.iadd, 1) := by decide +kernel
theorem dX8_deepNow_24 : decode cX8_deepNow 24 = .ok (.goto 52, 3) := by decide +kernel
theorem dX8_deepNow_27 : decode cX8_deepNow 27 = .ok (.aload_n 0, 1) := by decide +kernel
theorem dX8_deepNow_28 : decode cX8_deepNow 28 = .ok (.getfield 25, 3) := by decide +kernel
theorem dX8_deepNow_31 : decode cX8_deepNow 31 = .ok (.iload_n 1, 1) := by decide +kernel
theorem dX8_deepNow_32 : decode cX8_deepNow 32 = .ok (.iaload, 1) := by decide +kernel
theorem dX8_deepNow_33 : decode cX8_deepNow 33 = .ok (.iconst 1, 1) := by decide +kernel
theorem dX8_deepNow_34 : decode cX8_deepNow 34 = .ok (.if_icmp .ne 18, 3) := by decide +kernel
theorem dX8_deepNow_37 : decode cX8_deepNow 37 = .ok (.iload_n 3, 1) := by decide +kernel
theorem dX8_deepNow_38 : decode cX8_deepNow 38 = .ok (.iconst 3, 1) := by decide +kernel
theorem dX8_deepNow_39 : decode cX8_deepNow 39 = .ok (.if_icmp .le 9, 3) := by decide +kernel
theorem dX8_deepNow_42 : decode cX8_deepNow 42 = .ok (.iload_n 3, 1) := by decide +kernel
theorem dX8_deepNow_43 : decode cX8_deepNow 43 = .ok (.iconst 2, 1) := by decide +kernel
theorem dX8_deepNow_44 : decode cX8_deepNow 44 = .ok (.isub, 1) := by decide +kernel
theorem dX8_deepNow_45 : decode cX8_deepNow 45 = .ok (.goto 31, 3) := by decide +kernel
theorem dX8_deepNow_48 : decode cX8_deepNow 48 = .ok (.iconst 1, 1) := by decide +kernel
theorem dX8_deepNow_49 : decode cX8_deepNow 49 = .ok (.goto 27, 3) := by decide +kernel
theorem dX8_deepNow_52 : decode cX8_deepNow 52 = .ok (.aload_n 0, 1) := by decide +kernel
theorem dX8_deepNow_53 : decode cX8_deepNow 53 = .ok (.getfield 25, 3) := by decide +kernel
theorem dX8_deepNow_56 : decode cX8_deepNow 56 = .ok (.iload_n 1, 1) := by decide +kernel
theorem dX8_deepNow_57 : decode cX8_deepNow 57 = .ok (.iaload, 1) := by decide +kernel
theorem dX8_deepNow_58 : decode cX8_deepNow 58 = .ok (.iconst 2, 1) := by decide +kernel
theorem dX8_deepNow_59 : decode cX8_deepNow 59 = .ok (.if_icmp .ne 16, 3) := by decide +kernel
theorem dX8_deepNow_62 : decode cX8_deepNow 62 = .ok (.iload_n 3, 1) := by decide +kernel
theorem dX8_deepNow_63 : decode cX8_deepNow 63 = .ok (.iconst 3, 1) := by decide +kernel
theorem dX8_deepNow_64 : decode cX8_deepNow 64 = .ok (.if_icmp .ge 7, 3) := by decide +kernel
theorem dX8_deepNow_67 : decode cX8_deepNow 67 = .ok (.iload_n 3, 1) := by decide +kernel
theorem dX8_deepNow_68 : decode cX8_deepNow 68 = .ok (.goto 8, 3) := by decide +kernel
theorem dX8_deepNow_71 : decode cX8_deepNow 71 = .ok (.iconst 3, 1) := by decide +kernel
theorem dX8_deepNow_72 : decode cX8_deepNow 72 = .ok (.goto 4, 3) := by decide +kernel
theorem dX8_deepNow_75 : decode cX8_deepNow 75 = .ok (.iconst 0, 1) := by decide +kernel
theorem dX8_deepNow_76 : decode cX8_deepNow 76 = .ok (.ireturn, 1) := by decide +kernel
theorem dX8_loudOf_0 : decode cX8_loudOf 0 = .ok (.aload_n 0, 1) := by decide +kernel
theorem dX8_loudOf_1 : decode cX8_loudOf 1 = .ok (.getfield 34, 3) := by decide +kernel
theorem dX8_loudOf_4 : decode cX8_loudOf 4 = .ok (.iload_n 1, 1) := by decide +kernel
theorem dX8_loudOf_5 : decode cX8_loudOf 5 = .ok (.iaload, 1) := by decide +kernel
theorem dX8_loudOf_6 : decode cX8_loudOf 6 = .ok (.ifCond .ne 8, 3) := by decide +kernel
theorem dX8_loudOf_9 : decode cX8_loudOf 9 = .ok (.bipush 6, 2) := by decide +kernel
theorem dX8_loudOf_11 : decode cX8_loudOf 11 = .ok (.goto 33, 3) := by decide +kernel
theorem dX8_loudOf_14 : decode cX8_loudOf 14 = .ok (.aload_n 0, 1) := by decide +kernel
theorem dX8_loudOf_15 : decode cX8_loudOf 15 = .ok (.getfield 34, 3) := by decide +kernel
theorem dX8_loudOf_18 : decode cX8_loudOf 18 = .ok (.iload_n 1, 1) := by decide +kernel
theorem dX8_loudOf_19 : decode cX8_loudOf 19 = .ok (.iaload, 1) := by decide +kernel
theorem dX8_loudOf_20 : decode cX8_loudOf 20 = .ok (.iconst 1, 1) := by decide +kernel
theorem dX8_loudOf_21 : decode cX8_loudOf 21 = .ok (.if_icmp .ne 7, 3) := by decide +kernel
theorem dX8_loudOf_24 : decode cX8_loudOf 24 = .ok (.iconst 4, 1) := by decide +kernel
theorem dX8_loudOf_25 : decode cX8_loudOf 25 = .ok (.goto 19, 3) := by decide +kernel
theorem dX8_loudOf_28 : decode cX8_loudOf 28 = .ok (.aload_n 0, 1) := by decide +kernel
theorem dX8_loudOf_29 : decode cX8_loudOf 29 = .ok (.getfield 34, 3) := by decide +kernel
theorem dX8_loudOf_32 : decode cX8_loudOf 32 = .ok (.iload_n 1, 1) := by decide +kernel
theorem dX8_loudOf_33 : decode cX8_loudOf 33 = .ok (.iaload, 1) := by decide +kernel
theorem dX8_loudOf_34 : decode cX8_loudOf 34 = .ok (.iconst 2, 1) := by decide +kernel
theorem dX8_loudOf_35 : decode cX8_loudOf 35 = .ok (.if_icmp .ne 8, 3) := by decide +kernel
theorem dX8_loudOf_38 : decode cX8_loudOf 38 = .ok (.bipush 9, 2) := by decide +kernel
theorem dX8_loudOf_40 : decode cX8_loudOf 40 = .ok (.goto 4, 3) := by decide +kernel
theorem dX8_loudOf_43 : decode cX8_loudOf 43 = .ok (.iconst 3, 1) := by decide +kernel
theorem dX8_loudOf_44 : decode cX8_loudOf 44 = .ok (.istore_n 3, 1) := by decide +kernel
theorem dX8_loudOf_45 : decode cX8_loudOf 45 = .ok (.aload_n 0, 1) := by decide +kernel
theorem dX8_loudOf_46 : decode cX8_loudOf 46 = .ok (.getfield 31, 3) := by decide +kernel
theorem dX8_loudOf_49 : decode cX8_loudOf 49 = .ok (.iload_n 1, 1) := by decide +kernel
theorem dX8_loudOf_50 : decode cX8_loudOf 50 = .ok (.iaload, 1) := by decide +kernel
theorem dX8_loudOf_51 : decode cX8_loudOf 51 = .ok (.aload_n 0, 1) := by decide +kernel
theorem dX8_loudOf_52 : decode cX8_loudOf 52 = .ok (.getfield 16, 3) := by decide +kernel
theorem dX8_loudOf_55 : decode cX8_loudOf 55 = .ok (.iload_n 2, 1) := by decide +kernel
theorem dX8_loudOf_56 : decode cX8_loudOf 56 = .ok (.iaload, 1) := by decide +kernel
theorem dX8_loudOf_57 : decode cX8_loudOf 57 = .ok (.if_icmp .ge 19, 3) := by decide +kernel
theorem dX8_loudOf_60 : decode cX8_loudOf 60 = .ok (.aload_n 0, 1) := by decide +kernel
theorem dX8_loudOf_61 : decode cX8_loudOf 61 = .ok (.getfield 16, 3) := by decide +kernel
theorem dX8_loudOf_64 : decode cX8_loudOf 64 = .ok (.iload_n 2, 1) := by decide +kernel
theorem dX8_loudOf_65 : decode cX8_loudOf 65 = .ok (.iaload, 1) := by decide +kernel
theorem dX8_loudOf_66 : decode cX8_loudOf 66 = .ok (.aload_n 0, 1) := by decide +kernel
theorem dX8_loudOf_67 : decode cX8_loudOf 67 = .ok (.getfield 31, 3) := by decide +kernel
theorem dX8_loudOf_70 : decode cX8_loudOf 70 = .ok (.iload_n 1, 1) := by decide +kernel
theorem dX8_loudOf_71 : decode cX8_loudOf 71 = .ok (.iaload, 1) := by decide +kernel
theorem dX8_loudOf_72 : decode cX8_loudOf 72 = .ok (.isub, 1) := by decide +kernel
theorem dX8_loudOf_73 : decode cX8_loudOf 73 = .ok (.goto 16, 3) := by decide +kernel
theorem dX8_loudOf_76 : decode cX8_loudOf 76 = .ok (.aload_n 0, 1) := by decide +kernel
theorem dX8_loudOf_77 : decode cX8_loudOf 77 = .ok (.getfield 31, 3) := by decide +kernel
theorem dX8_loudOf_80 : decode cX8_loudOf 80 = .ok (.iload_n 1, 1) := by decide +kernel
theorem dX8_loudOf_81 : decode cX8_loudOf 81 = .ok (.iaload, 1) := by decide +kernel
theorem dX8_loudOf_82 : decode cX8_loudOf 82 = .ok (.aload_n 0, 1) := by decide +kernel
theorem dX8_loudOf_83 : decode cX8_loudOf 83 = .ok (.getfield 16, 3) := by decide +kernel
theorem dX8_loudOf_86 : decode cX8_loudOf 86 = .ok (.iload_n 2, 1) := by decide +kernel
theorem dX8_loudOf_87 : decode cX8_loudOf 87 = .ok (.iaload, 1) := by decide +kernel
theorem dX8_loudOf_88 : decode cX8_loudOf 88 = .ok (.isub, 1) := by decide +kernel
theorem dX8_loudOf_89 : decode cX8_loudOf 89 = .ok (.istore 4, 2) := by decide +kernel
theorem dX8_loudOf_91 : decode cX8_loudOf 91 = .ok (.iload_n 3, 1) := by decide +kernel
theorem dX8_loudOf_92 : decode cX8_loudOf 92 = .ok (.iload 4, 2) := by decide +kernel
theorem dX8_loudOf_94 : decode cX8_loudOf 94 = .ok (.if_icmp .le 10, 3) := by decide +kernel
theorem dX8_loudOf_97 : decode cX8_loudOf 97 = .ok (.iload_n 3, 1) := by decide +kernel
theorem dX8_loudOf_98 : decode cX8_loudOf 98 = .ok (.iload 4, 2) := by decide +kernel
theorem dX8_loudOf_100 : decode cX8_loudOf 100 = .ok (.isub, 1) := by decide +kernel
theorem dX8_loudOf_101 : decode cX8_loudOf 101 = .ok (.goto 4, 3) := by decide +kernel
theorem dX8_loudOf_104 : decode cX8_loudOf 104 = .ok (.iconst 0, 1) := by decide +kernel
theorem dX8_loudOf_105 : decode cX8_loudOf 105 = .ok (.ireturn, 1) := by decide +kernel
theorem dX8_sleeps_0 : decode cX8_sleeps 0 = .ok (.aload_n 0, 1) := by decide +kernel
theorem dX8_sleeps_1 : decode cX8_sleeps 1 = .ok (.getfield 19, 3) := by decide +kernel
theorem dX8_sleeps_4 : decode cX8_sleeps 4 = .ok (.iload_n 1, 1) := by decide +kernel
theorem dX8_sleeps_5 : decode cX8_sleeps 5 = .ok (.iaload, 1) := by decide +kernel
theorem dX8_sleeps_6 : decode cX8_sleeps 6 = .ok (.istore_n 2, 1) := by decide +kernel
theorem dX8_sleeps_7 : decode cX8_sleeps 7 = .ok (.aload_n 0, 1) := by decide +kernel
theorem dX8_sleeps_8 : decode cX8_sleeps 8 = .ok (.getfield 50, 3) := by decide +kernel
theorem dX8_sleeps_11 : decode cX8_sleeps 11 = .ok (.iload_n 1, 1) := by decide +kernel
theorem dX8_sleeps_12 : decode cX8_sleeps 12 = .ok (.iconst 0, 1) := by decide +kernel
theorem dX8_sleeps_13 : decode cX8_sleeps 13 = .ok (.iastore, 1) := by decide +kernel
theorem dX8_sleeps_14 : decode cX8_sleeps 14 = .ok (.iconst 0, 1) := by decide +kernel
theorem dX8_sleeps_15 : decode cX8_sleeps 15 = .ok (.istore_n 3, 1) := by decide +kernel
theorem dX8_sleeps_16 : decode cX8_sleeps 16 = .ok (.iload_n 3, 1) := by decide +kernel
theorem dX8_sleeps_17 : decode cX8_sleeps 17 = .ok (.bipush 50, 2) := by decide +kernel
theorem dX8_sleeps_19 : decode cX8_sleeps 19 = .ok (.if_icmp .ge 218, 3) := by decide +kernel
theorem dX8_sleeps_22 : decode cX8_sleeps 22 = .ok (.iload_n 3, 1) := by decide +kernel
theorem dX8_sleeps_23 : decode cX8_sleeps 23 = .ok (.iload_n 2, 1) := by decide +kernel
theorem dX8_sleeps_24 : decode cX8_sleeps 24 = .ok (.if_icmp .ge 7, 3) := by decide +kernel
theorem dX8_sleeps_27 : decode cX8_sleeps 27 = .ok (.iconst 0, 1) := by decide +kernel
theorem dX8_sleeps_28 : decode cX8_sleeps 28 = .ok (.goto 11, 3) := by decide +kernel
theorem dX8_sleeps_31 : decode cX8_sleeps 31 = .ok (.aload_n 0, 1) := by decide +kernel
theorem dX8_sleeps_32 : decode cX8_sleeps 32 = .ok (.iload_n 1, 1) := by decide +kernel
theorem dX8_sleeps_33 : decode cX8_sleeps 33 = .ok (.iload_n 3, 1) := by decide +kernel
theorem dX8_sleeps_34 : decode cX8_sleeps 34 = .ok (.iload_n 2, 1) := by decide +kernel
theorem dX8_sleeps_35 : decode cX8_sleeps 35 = .ok (.isub, 1) := by decide +kernel
theorem dX8_sleeps_36 : decode cX8_sleeps 36 = .ok (.invokevirtual 151, 3) := by decide +kernel
theorem dX8_sleeps_39 : decode cX8_sleeps 39 = .ok (.istore 4, 2) := by decide +kernel
theorem dX8_sleeps_41 : decode cX8_sleeps 41 = .ok (.aload_n 0, 1) := by decide +kernel
theorem dX8_sleeps_42 : decode cX8_sleeps 42 = .ok (.getfield 37, 3) := by decide +kernel
theorem dX8_sleeps_45 : decode cX8_sleeps 45 = .ok (.bipush 50, 2) := by decide +kernel
theorem dX8_sleeps_47 : decode cX8_sleeps 47 = .ok (.iload_n 1, 1) := by decide +kernel
theorem dX8_sleeps_48 : decode cX8_sleeps 48 = .ok (.imul, 1) := by decide +kernel
theorem dX8_sleeps_49 : decode cX8_sleeps 49 = .ok (.iload_n 3, 1) := by decide +kernel
theorem dX8_sleeps_50 : decode cX8_sleeps 50 = .ok (.iadd, 1) := by decide +kernel
theorem dX8_sleeps_51 : decode cX8_sleeps 51 = .ok (.iload 4, 2) := by decide +kernel
theorem dX8_sleeps_53 : decode cX8_sleeps 53 = .ok (.iastore, 1) := by decide +kernel
theorem dX8_sleeps_54 : decode cX8_sleeps 54 = .ok (.aload_n 0, 1) := by decide +kernel
theorem dX8_sleeps_55 : decode cX8_sleeps 55 = .ok (.getfield 40, 3) := by decide +kernel
theorem dX8_sleeps_58 : decode cX8_sleeps 58 = .ok (.bipush 50, 2) := by decide +kernel
theorem dX8_sleeps_60 : decode cX8_sleeps 60 = .ok (.iload_n 1, 1) := by decide +kernel
theorem dX8_sleeps_61 : decode cX8_sleeps 61 = .ok (.imul, 1) := by decide +kernel
theorem dX8_sleeps_62 : decode cX8_sleeps 62 = .ok (.iload_n 3, 1) := by decide +kernel
theorem dX8_sleeps_63 : decode cX8_sleeps 63 = .ok (.iadd, 1) := by decide +kernel
theorem dX8_sleeps_64 : decode cX8_sleeps 64 = .ok (.iconst 0, 1) := by decide +kernel
theorem dX8_sleeps_65 : decode cX8_sleeps 65 = .ok (.bastore, 1) := by decide +kernel
theorem dX8_sleeps_66 : decode cX8_sleeps 66 = .ok (.iconst 0, 1) := by decide +kernel
theorem dX8_sleeps_67 : decode cX8_sleeps 67 = .ok (.istore 5, 2) := by decide +kernel
theorem dX8_sleeps_69 : decode cX8_sleeps 69 = .ok (.iload 5, 2) := by decide +kernel
theorem dX8_sleeps_71 : decode cX8_sleeps 71 = .ok (.aload_n 0, 1) := by decide +kernel
theorem dX8_sleeps_72 : decode cX8_sleeps 72 = .ok (.getfield 117, 3) := by decide +kernel
theorem dX8_sleeps_75 : decode cX8_sleeps 75 = .ok (.if_icmp .ge 156, 3) := by decide +kernel
theorem dX8_sleeps_78 : decode cX8_sleeps 78 = .ok (.aload_n 0, 1) := by decide +kernel
theorem dX8_sleeps_79 : decode cX8_sleeps 79 = .ok (.getfield 28, 3) := by decide +kernel
theorem dX8_sleeps_82 : decode cX8_sleeps 82 = .ok (.iload 5, 2) := by decide +kernel
theorem dX8_sleeps_84 : decode cX8_sleeps 84 = .ok (.iaload, 1) := by decide +kernel
theorem dX8_sleeps_85 : decode cX8_sleeps 85 = .ok (.iload_n 3, 1) := by decide +kernel
theorem dX8_sleeps_86 : decode cX8_sleeps 86 = .ok (.if_icmp .ne 139, 3) := by decide +kernel
theorem dX8_sleeps_89 : decode cX8_sleeps 89 = .ok (.aload_n 0, 1) := by decide +kernel
theorem dX8_sleeps_90 : decode cX8_sleeps 90 = .ok (.getfield 154, 3) := by decide +kernel
theorem dX8_sleeps_93 : decode cX8_sleeps 93 = .ok (.iload 5, 2) := by decide +kernel
theorem dX8_sleeps_95 : decode cX8_sleeps 95 = .ok (.invokestatic 157, 3) := by decide +kernel
theorem dX8_sleeps_98 : decode cX8_sleeps 98 = .ok (.ifCond .ne 127, 3) := by decide +kernel
theorem dX8_sleeps_101 : decode cX8_sleeps 101 = .ok (.aload_n 0, 1) := by decide +kernel
theorem dX8_sleeps_102 : decode cX8_sleeps 102 = .ok (.iload 5, 2) := by decide +kernel
theorem dX8_sleeps_104 : decode cX8_sleeps 104 = .ok (.iload_n 1, 1) := by decide +kernel
theorem dX8_sleeps_105 : decode cX8_sleeps 105 = .ok (.invokevirtual 161, 3) := by decide +kernel
theorem dX8_sleeps_108 : decode cX8_sleeps 108 = .ok (.istore 6, 2) := by decide +kernel
theorem dX8_sleeps_110 : decode cX8_sleeps 110 = .ok (.iload 6, 2) := by decide +kernel
theorem dX8_sleeps_112 : decode cX8_sleeps 112 = .ok (.ifCond .ne 7, 3) := by decide +kernel
theorem dX8_sleeps_115 : decode cX8_sleeps 115 = .ok (.iconst 0, 1) := by decide +kernel
theorem dX8_sleeps_116 : decode cX8_sleeps 116 = .ok (.goto 26, 3) := by decide +kernel
theorem dX8_sleeps_119 : decode cX8_sleeps 119 = .ok (.iload 4, 2) := by decide +kernel
theorem dX8_sleeps_121 : decode cX8_sleeps 121 = .ok (.ifCond .ne 7, 3) := by decide +kernel
theorem dX8_sleeps_124 : decode cX8_sleeps 124 = .ok (.iconst 1, 1) := by decide +kernel
theorem dX8_sleeps_125 : decode cX8_sleeps 125 = .ok (.goto 17, 3) := by decide +kernel
theorem dX8_sleeps_128 : decode cX8_sleeps 128 = .ok (.iload 6, 2) := by decide +kernel
theorem dX8_sleeps_130 : decode cX8_sleeps 130 = .ok (.iload 4, 2) := by decide +kernel
theorem dX8_sleeps_132 : decode cX8_sleeps 132 = .ok (.iconst 3, 1) := by decide +kernel
theorem dX8_sleeps_133 : decode cX8_sleeps 133 = .ok (.iadd, 1) := by decide +kernel
theorem dX8_sleeps_134 : decode cX8_sleeps 134 = .ok (.if_icmp .lt 7, 3) := by decide +kernel
theorem dX8_sleeps_137 : decode cX8_sleeps 137 = .ok (.iconst 2, 1) := by decide +kernel
theorem dX8_sleeps_138 : decode cX8_sleeps 138 = .ok (.goto 4, 3) := by decide +kernel
theorem dX8_sleeps_141 : decode cX8_sleeps 141 = .ok (.iconst 3, 1) := by decide +kernel
theorem dX8_sleeps_142 : decode cX8_sleeps 142 = .ok (.istore 7, 2) := by decide +kernel
theorem dX8_sleeps_144 : decode cX8_sleeps 144 = .ok (.aload_n 0, 1) := by decide +kernel
theorem dX8_sleeps_145 : decode cX8_sleeps 145 = .ok (.getfield 44, 3) := by decide +kernel
theorem dX8_sleeps_148 : decode cX8_sleeps 148 = .ok (.bipush 8, 2) := by decide +kernel
theorem dX8_sleeps_150 : decode cX8_sleeps 150 = .ok (.iload 5, 2) := by decide +kernel
theorem dX8_sleeps_152 : decode cX8_sleeps 152 = .ok (.imul, 1) := by decide +kernel
theorem dX8_sleeps_153 : decode cX8_sleeps 153 = .ok (.iload_n 1, 1) := by decide +kernel
theorem dX8_sleeps_154 : decode cX8_sleeps 154 = .ok (.iadd, 1) := by decide +kernel
theorem dX8_sleeps_155 : decode cX8_sleeps 155 = .ok (.iload 7, 2) := by decide +kernel
theorem dX8_sleeps_157 : decode cX8_sleeps 157 = .ok (.iastore, 1) := by decide +kernel
theorem dX8_sleeps_158 : decode cX8_sleeps 158 = .ok (.aload_n 0, 1) := by decide +kernel
theorem dX8_sleeps_159 : decode cX8_sleeps 159 = .ok (.getfield 47, 3) := by decide +kernel
theorem dX8_sleeps_162 : decode cX8_sleeps 162 = .ok (.bipush 8, 2) := by decide +kernel
theorem dX8_sleeps_164 : decode cX8_sleeps 164 = .ok (.iload 5, 2) := by decide +kernel
theorem dX8_sleeps_166 : decode cX8_sleeps 166 = .ok (.imul, 1) := by decide +kernel
theorem dX8_sleeps_167 : decode cX8_sleeps 167 = .ok (.iload_n 1, 1) := by decide +kernel
theorem dX8_sleeps_168 : decode cX8_sleeps 168 = .ok (.iadd, 1) := by decide +kernel
theorem dX8_sleeps_169 : decode cX8_sleeps 169 = .ok (.iload 7, 2) := by decide +kernel
theorem dX8_sleeps_171 : decode cX8_sleeps 171 = .ok (.iconst 3, 1) := by decide +kernel
theorem dX8_sleeps_172 : decode cX8_sleeps 172 = .ok (.if_icmp .ne 16, 3) := by decide +kernel
theorem dX8_sleeps_175 : decode cX8_sleeps 175 = .ok (.iload 4, 2) := by decide +kernel
theorem dX8_sleeps_177 : decode cX8_sleeps 177 = .ok (.aload_n 0, 1) := by decide +kernel
theorem dX8_sleeps_178 : decode cX8_sleeps 178 = .ok (.getfield 86, 3) := by decide +kernel
theorem dX8_sleeps_181 : decode cX8_sleeps 181 = .ok (.if_icmp .lt 7, 3) := by decide +kernel
theorem dX8_sleeps_184 : decode cX8_sleeps 184 = .ok (.iconst 1, 1) := by decide +kernel
theorem dX8_sleeps_185 : decode cX8_sleeps 185 = .ok (.goto 4, 3) := by decide +kernel
theorem dX8_sleeps_188 : decode cX8_sleeps 188 = .ok (.iconst 0, 1) := by decide +kernel
theorem dX8_sleeps_189 : decode cX8_sleeps 189 = .ok (.bastore, 1) := by decide +kernel
theorem dX8_sleeps_190 : decode cX8_sleeps 190 = .ok (.iload 7, 2) := by decide +kernel
theorem dX8_sleeps_192 : decode cX8_sleeps 192 = .ok (.iconst 2, 1) := by decide +kernel
theorem dX8_sleeps_193 : decode cX8_sleeps 193 = .ok (.if_icmp .ne 32, 3) := by decide +kernel
theorem dX8_sleeps_196 : decode cX8_sleeps 196 = .ok (.iconst 0, 1) := by decide +kernel
theorem dX8_sleeps_197 : decode cX8_sleeps 197 = .ok (.istore 4, 2) := by decide +kernel
theorem dX8_sleeps_199 : decode cX8_sleeps 199 = .ok (.iload_n 3, 1) := by decide +kernel
theorem dX8_sleeps_200 : decode cX8_sleeps 200 = .ok (.iconst 3, 1) := by decide +kernel
theorem dX8_sleeps_201 : decode cX8_sleeps 201 = .ok (.iadd, 1) := by decide +kernel
theorem dX8_sleeps_202 : decode cX8_sleeps 202 = .ok (.istore_n 2, 1) := by decide +kernel
theorem dX8_sleeps_203 : decode cX8_sleeps 203 = .ok (.aload_n 0, 1) := by decide +kernel
theorem dX8_sleeps_204 : decode cX8_sleeps 204 = .ok (.getfield 50, 3) := by decide +kernel
theorem dX8_sleeps_207 : decode cX8_sleeps 207 = .ok (.iload_n 1, 1) := by decide +kernel
theorem dX8_sleeps_208 : decode cX8_sleeps 208 = .ok (.dup2, 1) := by decide +kernel
theorem dX8_sleeps_209 : decode cX8_sleeps 209 = .ok (.iaload, 1) := by decide +kernel
theorem dX8_sleeps_210 : decode cX8_sleeps 210 = .ok (.iconst 1, 1) := by decide +kernel
theorem dX8_sleeps_211 : decode cX8_sleeps 211 = .ok (.iadd, 1) := by decide +kernel
theorem dX8_sleeps_212 : decode cX8_sleeps 212 = .ok (.iastore, 1) := by decide +kernel
theorem dX8_sleeps_213 : decode cX8_sleeps 213 = .ok (.aload_n 0, 1) := by decide +kernel
theorem dX8_sleeps_214 : decode cX8_sleeps 214 = .ok (.getfield 40, 3) := by decide +kernel
theorem dX8_sleeps_217 : decode cX8_sleeps 217 = .ok (.bipush 50, 2) := by decide +kernel
theorem dX8_sleeps_219 : decode cX8_sleeps 219 = .ok (.iload_n 1, 1) := by decide +kernel
theorem dX8_sleeps_220 : decode cX8_sleeps 220 = .ok (.imul, 1) := by decide +kernel
theorem dX8_sleeps_221 : decode cX8_sleeps 221 = .ok (.iload_n 3, 1) := by decide +kernel
theorem dX8_sleeps_222 : decode cX8_sleeps 222 = .ok (.iadd, 1) := by decide +kernel
theorem dX8_sleeps_223 : decode cX8_sleeps 223 = .ok (.iconst 1, 1) := by decide +kernel
theorem dX8_sleeps_224 : decode cX8_sleeps 224 = .ok (.bastore, 1) := by decide +kernel
theorem dX8_sleeps_225 : decode cX8_sleeps 225 = .ok (.iinc 5 1, 3) := by decide +kernel
theorem dX8_sleeps_228 : decode cX8_sleeps 228 = .ok (.goto (-159), 3) := by decide +kernel
theorem dX8_sleeps_231 : decode cX8_sleeps 231 = .ok (.iinc 3 1, 3) := by decide +kernel
theorem dX8_sleeps_234 : decode cX8_sleeps 234 = .ok (.goto (-218), 3) := by decide +kernel
theorem dX8_sleeps_237 : decode cX8_sleeps 237 = .ok (.return_, 1) := by decide +kernel
theorem dX8_runs_0 : decode cX8_runs 0 = .ok (.iconst 0, 1) := by decide +kernel
theorem dX8_runs_1 : decode cX8_runs 1 = .ok (.istore_n 1, 1) := by decide +kernel
theorem dX8_runs_2 : decode cX8_runs 2 = .ok (.iload_n 1, 1) := by decide +kernel
theorem dX8_runs_3 : decode cX8_runs 3 = .ok (.bipush 9, 2) := by decide +kernel
theorem dX8_runs_5 : decode cX8_runs 5 = .ok (.if_icmp .ge 47, 3) := by decide +kernel
theorem dX8_runs_8 : decode cX8_runs 8 = .ok (.iconst 0, 1) := by decide +kernel
theorem dX8_runs_9 : decode cX8_runs 9 = .ok (.istore_n 2, 1) := by decide +kernel
theorem dX8_runs_10 : decode cX8_runs 10 = .ok (.iload_n 2, 1) := by decide +kernel
theorem dX8_runs_11 : decode cX8_runs 11 = .ok (.bipush 8, 2) := by decide +kernel
theorem dX8_runs_13 : decode cX8_runs 13 = .ok (.if_icmp .ge 33, 3) := by decide +kernel
theorem dX8_runs_16 : decode cX8_runs 16 = .ok (.aload_n 0, 1) := by decide +kernel
theorem dX8_runs_17 : decode cX8_runs 17 = .ok (.getfield 44, 3) := by decide +kernel
theorem dX8_runs_20 : decode cX8_runs 20 = .ok (.bipush 8, 2) := by decide +kernel
theorem dX8_runs_22 : decode cX8_runs 22 = .ok (.iload_n 1, 1) := by decide +kernel
theorem dX8_runs_23 : decode cX8_runs 23 = .ok (.imul, 1) := by decide +kernel
theorem dX8_runs_24 : decode cX8_runs 24 = .ok (.iload_n 2, 1) := by decide +kernel
theorem dX8_runs_25 : decode cX8_runs 25 = .ok (.iadd, 1) := by decide +kernel
theorem dX8_runs_26 : decode cX8_runs 26 = .ok (.iconst 0, 1) := by decide +kernel
theorem dX8_runs_27 : decode cX8_runs 27 = .ok (.iastore, 1) := by decide +kernel
theorem dX8_runs_28 : decode cX8_runs 28 = .ok (.aload_n 0, 1) := by decide +kernel
theorem dX8_runs_29 : decode cX8_runs 29 = .ok (.getfield 47, 3) := by decide +kernel
theorem dX8_runs_32 : decode cX8_runs 32 = .ok (.bipush 8, 2) := by decide +kernel
theorem dX8_runs_34 : decode cX8_runs 34 = .ok (.iload_n 1, 1) := by decide +kernel
theorem dX8_runs_35 : decode cX8_runs 35 = .ok (.imul, 1) := by decide +kernel
theorem dX8_runs_36 : decode cX8_runs 36 = .ok (.iload_n 2, 1) := by decide +kernel
theorem dX8_runs_37 : decode cX8_runs 37 = .ok (.iadd, 1) := by decide +kernel
theorem dX8_runs_38 : decode cX8_runs 38 = .ok (.iconst 0, 1) := by decide +kernel
theorem dX8_runs_39 : decode cX8_runs 39 = .ok (.bastore, 1) := by decide +kernel
theorem dX8_runs_40 : decode cX8_runs 40 = .ok (.iinc 2 1, 3) := by decide +kernel
theorem dX8_runs_43 : decode cX8_runs 43 = .ok (.goto (-33), 3) := by decide +kernel
theorem dX8_runs_46 : decode cX8_runs 46 = .ok (.iinc 1 1, 3) := by decide +kernel
theorem dX8_runs_49 : decode cX8_runs 49 = .ok (.goto (-47), 3) := by decide +kernel
theorem dX8_runs_52 : decode cX8_runs 52 = .ok (.iconst 0, 1) := by decide +kernel
theorem dX8_runs_53 : decode cX8_runs 53 = .ok (.istore_n 1, 1) := by decide +kernel
theorem dX8_runs_54 : decode cX8_runs 54 = .ok (.iload_n 1, 1) := by decide +kernel
theorem dX8_runs_55 : decode cX8_runs 55 = .ok (.aload_n 0, 1) := by decide +kernel
theorem dX8_runs_56 : decode cX8_runs 56 = .ok (.getfield 114, 3) := by decide +kernel
theorem dX8_runs_59 : decode cX8_runs 59 = .ok (.if_icmp .ge 161, 3) := by decide +kernel
theorem dX8_runs_62 : decode cX8_runs 62 = .ok (.aload_n 0, 1) := by decide +kernel
theorem dX8_runs_63 : decode cX8_runs 63 = .ok (.iload_n 1, 1) := by decide +kernel
theorem dX8_runs_64 : decode cX8_runs 64 = .ok (.invokevirtual 164, 3) := by decide +kernel
theorem dX8_runs_67 : decode cX8_runs 67 = .ok (.iconst 0, 1) := by decide +kernel
theorem dX8_runs_68 : decode cX8_runs 68 = .ok (.istore_n 2, 1) := by decide +kernel
theorem dX8_runs_69 : decode cX8_runs 69 = .ok (.iload_n 2, 1) := by decide +kernel
theorem dX8_runs_70 : decode cX8_runs 70 = .ok (.aload_n 0, 1) := by decide +kernel
theorem dX8_runs_71 : decode cX8_runs 71 = .ok (.getfield 117, 3) := by decide +kernel
theorem dX8_runs_74 : decode cX8_runs 74 = .ok (.if_icmp .ge 140, 3) := by decide +kernel
theorem dX8_runs_77 : decode cX8_runs 77 = .ok (.aload_n 0, 1) := by decide +kernel
theorem dX8_runs_78 : decode cX8_runs 78 = .ok (.getfield 28, 3) := by decide +kernel
theorem dX8_runs_81 : decode cX8_runs 81 = .ok (.iload_n 2, 1) := by decide +kernel
theorem dX8_runs_82 : decode cX8_runs 82 = .ok (.iaload, 1) := by decide +kernel
theorem dX8_runs_83 : decode cX8_runs 83 = .ok (.aload_n 0, 1) := by decide +kernel
theorem dX8_runs_84 : decode cX8_runs 84 = .ok (.getfield 90, 3) := by decide +kernel
theorem dX8_runs_87 : decode cX8_runs 87 = .ok (.isub, 1) := by decide +kernel
theorem dX8_runs_88 : decode cX8_runs 88 = .ok (.ifCond .ge 7, 3) := by decide +kernel
theorem dX8_runs_91 : decode cX8_runs 91 = .ok (.iconst 0, 1) := by decide +kernel
theorem dX8_runs_92 : decode cX8_runs 92 = .ok (.goto 14, 3) := by decide +kernel
theorem dX8_runs_95 : decode cX8_runs 95 = .ok (.aload_n 0, 1) := by decide +kernel
theorem dX8_runs_96 : decode cX8_runs 96 = .ok (.getfield 28, 3) := by decide +kernel
theorem dX8_runs_99 : decode cX8_runs 99 = .ok (.iload_n 2, 1) := by decide +kernel
theorem dX8_runs_100 : decode cX8_runs 100 = .ok (.iaload, 1) := by decide +kernel
theorem dX8_runs_101 : decode cX8_runs 101 = .ok (.aload_n 0, 1) := by decide +kernel
theorem dX8_runs_102 : decode cX8_runs 102 = .ok (.getfield 90, 3) := by decide +kernel
theorem dX8_runs_105 : decode cX8_runs 105 = .ok (.isub, 1) := by decide +kernel
theorem dX8_runs_106 : decode cX8_runs 106 = .ok (.istore_n 3, 1) := by decide +kernel
theorem dX8_runs_107 : decode cX8_runs 107 = .ok (.iload_n 3, 1) := by decide +kernel
theorem dX8_runs_108 : decode cX8_runs 108 = .ok (.aload_n 0, 1) := by decide +kernel
theorem dX8_runs_109 : decode cX8_runs 109 = .ok (.getfield 28, 3) := by decide +kernel
theorem dX8_runs_112 : decode cX8_runs 112 = .ok (.iload_n 2, 1) := by decide +kernel
theorem dX8_runs_113 : decode cX8_runs 113 = .ok (.iaload, 1) := by decide +kernel
theorem dX8_runs_114 : decode cX8_runs 114 = .ok (.if_icmp .gt 53, 3) := by decide +kernel
theorem dX8_runs_117 : decode cX8_runs 117 = .ok (.aload_n 0, 1) := by decide +kernel
theorem dX8_runs_118 : decode cX8_runs 118 = .ok (.getfield 47, 3) := by decide +kernel
theorem dX8_runs_121 : decode cX8_runs 121 = .ok (.bipush 8, 2) := by decide +kernel
theorem dX8_runs_123 : decode cX8_runs 123 = .ok (.iload_n 2, 1) := by decide +kernel
theorem dX8_runs_124 : decode cX8_runs 124 = .ok (.imul, 1) := by decide +kernel
theorem dX8_runs_125 : decode cX8_runs 125 = .ok (.iload_n 1, 1) := by decide +kernel
theorem dX8_runs_126 : decode cX8_runs 126 = .ok (.iadd, 1) := by decide +kernel
theorem dX8_runs_127 : decode cX8_runs 127 = .ok (.aload_n 0, 1) := by decide +kernel
theorem dX8_runs_128 : decode cX8_runs 128 = .ok (.getfield 47, 3) := by decide +kernel
theorem dX8_runs_131 : decode cX8_runs 131 = .ok (.bipush 8, 2) := by decide +kernel
theorem dX8_runs_133 : decode cX8_runs 133 = .ok (.iload_n 2, 1) := by decide +kernel
theorem dX8_runs_134 : decode cX8_runs 134 = .ok (.imul, 1) := by decide +kernel
theorem dX8_runs_135 : decode cX8_runs 135 = .ok (.iload_n 1, 1) := by decide +kernel
theorem dX8_runs_136 : decode cX8_runs 136 = .ok (.iadd, 1) := by decide +kernel
theorem dX8_runs_137 : decode cX8_runs 137 = .ok (.baload, 1) := by decide +kernel
theorem dX8_runs_138 : decode cX8_runs 138 = .ok (.ifCond .eq 21, 3) := by decide +kernel
theorem dX8_runs_141 : decode cX8_runs 141 = .ok (.aload_n 0, 1) := by decide +kernel
theorem dX8_runs_142 : decode cX8_runs 142 = .ok (.getfield 40, 3) := by decide +kernel
theorem dX8_runs_145 : decode cX8_runs 145 = .ok (.bipush 50, 2) := by decide +kernel
theorem dX8_runs_147 : decode cX8_runs 147 = .ok (.iload_n 1, 1) := by decide +kernel
theorem dX8_runs_148 : decode cX8_runs 148 = .ok (.imul, 1) := by decide +kernel
theorem dX8_runs_149 : decode cX8_runs 149 = .ok (.iload_n 3, 1) := by decide +kernel
theorem dX8_runs_150 : decode cX8_runs 150 = .ok (.iadd, 1) := by decide +kernel
theorem dX8_runs_151 : decode cX8_runs 151 = .ok (.baload, 1) := by decide +kernel
theorem dX8_runs_152 : decode cX8_runs 152 = .ok (.ifCond .ne 7, 3) := by decide +kernel
theorem dX8_runs_155 : decode cX8_runs 155 = .ok (.iconst 1, 1) := by decide +kernel
theorem dX8_runs_156 : decode cX8_runs 156 = .ok (.goto 4, 3) := by decide +kernel
theorem dX8_runs_159 : decode cX8_runs 159 = .ok (.iconst 0, 1) := by decide +kernel
theorem dX8_runs_160 : decode cX8_runs 160 = .ok (.bastore, 1) := by decide +kernel
theorem dX8_runs_161 : decode cX8_runs 161 = .ok (.iinc 3 1, 3) := by decide +kernel
theorem dX8_runs_164 : decode cX8_runs 164 = .ok (.goto (-57), 3) := by decide +kernel
theorem dX8_runs_167 : decode cX8_runs 167 = .ok (.aload_n 0, 1) := by decide +kernel
theorem dX8_runs_168 : decode cX8_runs 168 = .ok (.getfield 47, 3) := by decide +kernel
theorem dX8_runs_171 : decode cX8_runs 171 = .ok (.bipush 8, 2) := by decide +kernel
theorem dX8_runs_173 : decode cX8_runs 173 = .ok (.iload_n 2, 1) := by decide +kernel
theorem dX8_runs_174 : decode cX8_runs 174 = .ok (.imul, 1) := by decide +kernel
theorem dX8_runs_175 : decode cX8_runs 175 = .ok (.iload_n 1, 1) := by decide +kernel
theorem dX8_runs_176 : decode cX8_runs 176 = .ok (.iadd, 1) := by decide +kernel
theorem dX8_runs_177 : decode cX8_runs 177 = .ok (.aload_n 0, 1) := by decide +kernel
theorem dX8_runs_178 : decode cX8_runs 178 = .ok (.getfield 47, 3) := by decide +kernel
theorem dX8_runs_181 : decode cX8_runs 181 = .ok (.bipush 8, 2) := by decide +kernel
theorem dX8_runs_183 : decode cX8_runs 183 = .ok (.iload_n 2, 1) := by decide +kernel
theorem dX8_runs_184 : decode cX8_runs 184 = .ok (.imul, 1) := by decide +kernel
theorem dX8_runs_185 : decode cX8_runs 185 = .ok (.iload_n 1, 1) := by decide +kernel
theorem dX8_runs_186 : decode cX8_runs 186 = .ok (.iadd, 1) := by decide +kernel
theorem dX8_runs_187 : decode cX8_runs 187 = .ok (.baload, 1) := by decide +kernel
theorem dX8_runs_188 : decode cX8_runs 188 = .ok (.ifCond .eq 18, 3) := by decide +kernel
theorem dX8_runs_191 : decode cX8_runs 191 = .ok (.aload_n 0, 1) := by decide +kernel
theorem dX8_runs_192 : decode cX8_runs 192 = .ok (.getfield 168, 3) := by decide +kernel
theorem dX8_runs_195 : decode cX8_runs 195 = .ok (.iload_n 1, 1) := by decide +kernel
theorem dX8_runs_196 : decode cX8_runs 196 = .ok (.invokestatic 157, 3) := by decide +kernel
theorem dX8_runs_199 : decode cX8_runs 199 = .ok (.ifCond .ne 7, 3) := by decide +kernel
theorem dX8_runs_202 : decode cX8_runs 202 = .ok (.iconst 1, 1) := by decide +kernel
theorem dX8_runs_203 : decode cX8_runs 203 = .ok (.goto 4, 3) := by decide +kernel
theorem dX8_runs_206 : decode cX8_runs 206 = .ok (.iconst 0, 1) := by decide +kernel
theorem dX8_runs_207 : decode cX8_runs 207 = .ok (.bastore, 1) := by decide +kernel
theorem dX8_runs_208 : decode cX8_runs 208 = .ok (.iinc 2 1, 3) := by decide +kernel
theorem dX8_runs_211 : decode cX8_runs 211 = .ok (.goto (-142), 3) := by decide +kernel
theorem dX8_runs_214 : decode cX8_runs 214 = .ok (.iinc 1 1, 3) := by decide +kernel
theorem dX8_runs_217 : decode cX8_runs 217 = .ok (.goto (-163), 3) := by decide +kernel
theorem dX8_runs_220 : decode cX8_runs 220 = .ok (.return_, 1) := by decide +kernel
theorem dX8_asTold_0 : decode cX8_asTold 0 = .ok (.aload_n 0, 1) := by decide +kernel
theorem dX8_asTold_1 : decode cX8_asTold 1 = .ok (.invokevirtual 133, 3) := by decide +kernel
theorem dX8_asTold_4 : decode cX8_asTold 4 = .ok (.aload_n 0, 1) := by decide +kernel
theorem dX8_asTold_5 : decode cX8_asTold 5 = .ok (.iconst 0, 1) := by decide +kernel
theorem dX8_asTold_6 : decode cX8_asTold 6 = .ok (.putfield 154, 3) := by decide +kernel
end
section
theorem dX8_asTold_9 : decode cX8_asTold 9 = .ok (.aload_n 0, 1) := by decide +kernel
theorem dX8_asTold_10 : decode cX8_asTold 10 = .ok (.iconst 0, 1) := by decide +kernel
theorem dX8_asTold_11 : decode cX8_asTold 11 = .ok (.putfield 168, 3) := by decide +kernel
theorem dX8_asTold_14 : decode cX8_asTold 14 = .ok (.return_, 1) := by decide +kernel
theorem dX8_runsTold_0 : decode cX8_runsTold 0 = .ok (.aload_n 0, 1) := by decide +kernel
theorem dX8_runsTold_1 : decode cX8_runsTold 1 = .ok (.invokevirtual 171, 3) := by decide +kernel
theorem dX8_runsTold_4 : decode cX8_runsTold 4 = .ok (.aload_n 0, 1) := by decide +kernel
theorem dX8_runsTold_5 : decode cX8_runsTold 5 = .ok (.invokevirtual 174, 3) := by decide +kernel
theorem dX8_runsTold_8 : decode cX8_runsTold 8 = .ok (.return_, 1) := by decide +kernel
theorem dX8_depthOf_0 : decode cX8_depthOf 0 = .ok (.aload_n 0, 1) := by decide +kernel
theorem dX8_depthOf_1 : decode cX8_depthOf 1 = .ok (.invokevirtual 177, 3) := by decide +kernel
theorem dX8_depthOf_4 : decode cX8_depthOf 4 = .ok (.aload_n 0, 1) := by decide +kernel
theorem dX8_depthOf_5 : decode cX8_depthOf 5 = .ok (.getfield 37, 3) := by decide +kernel
theorem dX8_depthOf_8 : decode cX8_depthOf 8 = .ok (.bipush 50, 2) := by decide +kernel
theorem dX8_depthOf_10 : decode cX8_depthOf 10 = .ok (.iload_n 2, 1) := by decide +kernel
theorem dX8_depthOf_11 : decode cX8_depthOf 11 = .ok (.imul, 1) := by decide +kernel
theorem dX8_depthOf_12 : decode cX8_depthOf 12 = .ok (.iload_n 1, 1) := by decide +kernel
theorem dX8_depthOf_13 : decode cX8_depthOf 13 = .ok (.iadd, 1) := by decide +kernel
theorem dX8_depthOf_14 : decode cX8_depthOf 14 = .ok (.iaload, 1) := by decide +kernel
theorem dX8_depthOf_15 : decode cX8_depthOf 15 = .ok (.ireturn, 1) := by decide +kernel
theorem dX8_depth_0 : decode cX8_depth 0 = .ok (.iload_n 1, 1) := by decide +kernel
theorem dX8_depth_1 : decode cX8_depth 1 = .ok (.invokestatic 180, 3) := by decide +kernel
theorem dX8_depth_4 : decode cX8_depth 4 = .ok (.ifCond .eq 20, 3) := by decide +kernel
theorem dX8_depth_7 : decode cX8_depth 7 = .ok (.aload_n 0, 1) := by decide +kernel
theorem dX8_depth_8 : decode cX8_depth 8 = .ok (.iload_n 2, 1) := by decide +kernel
theorem dX8_depth_9 : decode cX8_depth 9 = .ok (.invokevirtual 136, 3) := by decide +kernel
theorem dX8_depth_12 : decode cX8_depth 12 = .ok (.ifCond .eq 12, 3) := by decide +kernel
theorem dX8_depth_15 : decode cX8_depth 15 = .ok (.aload_n 0, 1) := by decide +kernel
theorem dX8_depth_16 : decode cX8_depth 16 = .ok (.iload_n 1, 1) := by decide +kernel
theorem dX8_depth_17 : decode cX8_depth 17 = .ok (.iload_n 2, 1) := by decide +kernel
theorem dX8_depth_18 : decode cX8_depth 18 = .ok (.invokevirtual 183, 3) := by decide +kernel
theorem dX8_depth_21 : decode cX8_depth 21 = .ok (.goto 5, 3) := by decide +kernel
theorem dX8_depth_24 : decode cX8_depth 24 = .ok (.bipush (-2), 2) := by decide +kernel
theorem dX8_depth_26 : decode cX8_depth 26 = .ok (.ireturn, 1) := by decide +kernel
theorem dX8_hearsOf_0 : decode cX8_hearsOf 0 = .ok (.aload_n 0, 1) := by decide +kernel
theorem dX8_hearsOf_1 : decode cX8_hearsOf 1 = .ok (.invokevirtual 177, 3) := by decide +kernel
theorem dX8_hearsOf_4 : decode cX8_hearsOf 4 = .ok (.iload_n 3, 1) := by decide +kernel
theorem dX8_hearsOf_5 : decode cX8_hearsOf 5 = .ok (.ifCond .ne 12, 3) := by decide +kernel
theorem dX8_hearsOf_8 : decode cX8_hearsOf 8 = .ok (.aload_n 0, 1) := by decide +kernel
theorem dX8_hearsOf_9 : decode cX8_hearsOf 9 = .ok (.iload_n 1, 1) := by decide +kernel
theorem dX8_hearsOf_10 : decode cX8_hearsOf 10 = .ok (.iload_n 2, 1) := by decide +kernel
theorem dX8_hearsOf_11 : decode cX8_hearsOf 11 = .ok (.invokevirtual 161, 3) := by decide +kernel
theorem dX8_hearsOf_14 : decode cX8_hearsOf 14 = .ok (.goto 41, 3) := by decide +kernel
theorem dX8_hearsOf_17 : decode cX8_hearsOf 17 = .ok (.iload_n 3, 1) := by decide +kernel
theorem dX8_hearsOf_18 : decode cX8_hearsOf 18 = .ok (.iconst 1, 1) := by decide +kernel
theorem dX8_hearsOf_19 : decode cX8_hearsOf 19 = .ok (.if_icmp .ne 17, 3) := by decide +kernel
theorem dX8_hearsOf_22 : decode cX8_hearsOf 22 = .ok (.aload_n 0, 1) := by decide +kernel
theorem dX8_hearsOf_23 : decode cX8_hearsOf 23 = .ok (.getfield 44, 3) := by decide +kernel
theorem dX8_hearsOf_26 : decode cX8_hearsOf 26 = .ok (.bipush 8, 2) := by decide +kernel
theorem dX8_hearsOf_28 : decode cX8_hearsOf 28 = .ok (.iload_n 1, 1) := by decide +kernel
theorem dX8_hearsOf_29 : decode cX8_hearsOf 29 = .ok (.imul, 1) := by decide +kernel
theorem dX8_hearsOf_30 : decode cX8_hearsOf 30 = .ok (.iload_n 2, 1) := by decide +kernel
theorem dX8_hearsOf_31 : decode cX8_hearsOf 31 = .ok (.iadd, 1) := by decide +kernel
theorem dX8_hearsOf_32 : decode cX8_hearsOf 32 = .ok (.iaload, 1) := by decide +kernel
theorem dX8_hearsOf_33 : decode cX8_hearsOf 33 = .ok (.goto 22, 3) := by decide +kernel
theorem dX8_hearsOf_36 : decode cX8_hearsOf 36 = .ok (.aload_n 0, 1) := by decide +kernel
theorem dX8_hearsOf_37 : decode cX8_hearsOf 37 = .ok (.getfield 47, 3) := by decide +kernel
theorem dX8_hearsOf_40 : decode cX8_hearsOf 40 = .ok (.bipush 8, 2) := by decide +kernel
theorem dX8_hearsOf_42 : decode cX8_hearsOf 42 = .ok (.iload_n 1, 1) := by decide +kernel
theorem dX8_hearsOf_43 : decode cX8_hearsOf 43 = .ok (.imul, 1) := by decide +kernel
theorem dX8_hearsOf_44 : decode cX8_hearsOf 44 = .ok (.iload_n 2, 1) := by decide +kernel
theorem dX8_hearsOf_45 : decode cX8_hearsOf 45 = .ok (.iadd, 1) := by decide +kernel
theorem dX8_hearsOf_46 : decode cX8_hearsOf 46 = .ok (.baload, 1) := by decide +kernel
theorem dX8_hearsOf_47 : decode cX8_hearsOf 47 = .ok (.ifCond .eq 7, 3) := by decide +kernel
theorem dX8_hearsOf_50 : decode cX8_hearsOf 50 = .ok (.iconst 1, 1) := by decide +kernel
theorem dX8_hearsOf_51 : decode cX8_hearsOf 51 = .ok (.goto 4, 3) := by decide +kernel
theorem dX8_hearsOf_54 : decode cX8_hearsOf 54 = .ok (.iconst 0, 1) := by decide +kernel
theorem dX8_hearsOf_55 : decode cX8_hearsOf 55 = .ok (.ireturn, 1) := by decide +kernel
theorem dX8_hears_0 : decode cX8_hears 0 = .ok (.aload_n 0, 1) := by decide +kernel
theorem dX8_hears_1 : decode cX8_hears 1 = .ok (.iload_n 1, 1) := by decide +kernel
theorem dX8_hears_2 : decode cX8_hears 2 = .ok (.invokevirtual 142, 3) := by decide +kernel
theorem dX8_hears_5 : decode cX8_hears 5 = .ok (.ifCond .eq 30, 3) := by decide +kernel
theorem dX8_hears_8 : decode cX8_hears 8 = .ok (.aload_n 0, 1) := by decide +kernel
theorem dX8_hears_9 : decode cX8_hears 9 = .ok (.iload_n 2, 1) := by decide +kernel
theorem dX8_hears_10 : decode cX8_hears 10 = .ok (.invokevirtual 136, 3) := by decide +kernel
theorem dX8_hears_13 : decode cX8_hears 13 = .ok (.ifCond .eq 22, 3) := by decide +kernel
theorem dX8_hears_16 : decode cX8_hears 16 = .ok (.iload_n 3, 1) := by decide +kernel
theorem dX8_hears_17 : decode cX8_hears 17 = .ok (.iconst 0, 1) := by decide +kernel
theorem dX8_hears_18 : decode cX8_hears 18 = .ok (.iconst 2, 1) := by decide +kernel
theorem dX8_hears_19 : decode cX8_hears 19 = .ok (.invokestatic 98, 3) := by decide +kernel
theorem dX8_hears_22 : decode cX8_hears 22 = .ok (.ifCond .eq 13, 3) := by decide +kernel
theorem dX8_hears_25 : decode cX8_hears 25 = .ok (.aload_n 0, 1) := by decide +kernel
theorem dX8_hears_26 : decode cX8_hears 26 = .ok (.iload_n 1, 1) := by decide +kernel
theorem dX8_hears_27 : decode cX8_hears 27 = .ok (.iload_n 2, 1) := by decide +kernel
theorem dX8_hears_28 : decode cX8_hears 28 = .ok (.iload_n 3, 1) := by decide +kernel
theorem dX8_hears_29 : decode cX8_hears 29 = .ok (.invokevirtual 186, 3) := by decide +kernel
theorem dX8_hears_32 : decode cX8_hears 32 = .ok (.goto 5, 3) := by decide +kernel
theorem dX8_hears_35 : decode cX8_hears 35 = .ok (.bipush (-2), 2) := by decide +kernel
theorem dX8_hears_37 : decode cX8_hears 37 = .ok (.ireturn, 1) := by decide +kernel
theorem dX8_whoNow_0 : decode cX8_whoNow 0 = .ok (.iconst 0, 1) := by decide +kernel
theorem dX8_whoNow_1 : decode cX8_whoNow 1 = .ok (.istore_n 2, 1) := by decide +kernel
theorem dX8_whoNow_2 : decode cX8_whoNow 2 = .ok (.iconst 0, 1) := by decide +kernel
theorem dX8_whoNow_3 : decode cX8_whoNow 3 = .ok (.istore_n 3, 1) := by decide +kernel
theorem dX8_whoNow_4 : decode cX8_whoNow 4 = .ok (.iload_n 3, 1) := by decide +kernel
theorem dX8_whoNow_5 : decode cX8_whoNow 5 = .ok (.aload_n 0, 1) := by decide +kernel
theorem dX8_whoNow_6 : decode cX8_whoNow 6 = .ok (.getfield 114, 3) := by decide +kernel
theorem dX8_whoNow_9 : decode cX8_whoNow 9 = .ok (.if_icmp .ge 33, 3) := by decide +kernel
theorem dX8_whoNow_12 : decode cX8_whoNow 12 = .ok (.iload_n 2, 1) := by decide +kernel
theorem dX8_whoNow_13 : decode cX8_whoNow 13 = .ok (.aload_n 0, 1) := by decide +kernel
theorem dX8_whoNow_14 : decode cX8_whoNow 14 = .ok (.getfield 47, 3) := by decide +kernel
theorem dX8_whoNow_17 : decode cX8_whoNow 17 = .ok (.bipush 8, 2) := by decide +kernel
theorem dX8_whoNow_19 : decode cX8_whoNow 19 = .ok (.iload_n 1, 1) := by decide +kernel
theorem dX8_whoNow_20 : decode cX8_whoNow 20 = .ok (.imul, 1) := by decide +kernel
theorem dX8_whoNow_21 : decode cX8_whoNow 21 = .ok (.iload_n 3, 1) := by decide +kernel
theorem dX8_whoNow_22 : decode cX8_whoNow 22 = .ok (.iadd, 1) := by decide +kernel
theorem dX8_whoNow_23 : decode cX8_whoNow 23 = .ok (.baload, 1) := by decide +kernel
theorem dX8_whoNow_24 : decode cX8_whoNow 24 = .ok (.ifCond .eq 9, 3) := by decide +kernel
theorem dX8_whoNow_27 : decode cX8_whoNow 27 = .ok (.iconst 1, 1) := by decide +kernel
theorem dX8_whoNow_28 : decode cX8_whoNow 28 = .ok (.iload_n 3, 1) := by decide +kernel
theorem dX8_whoNow_29 : decode cX8_whoNow 29 = .ok (.ishl, 1) := by decide +kernel
theorem dX8_whoNow_30 : decode cX8_whoNow 30 = .ok (.goto 4, 3) := by decide +kernel
theorem dX8_whoNow_33 : decode cX8_whoNow 33 = .ok (.iconst 0, 1) := by decide +kernel
theorem dX8_whoNow_34 : decode cX8_whoNow 34 = .ok (.ior, 1) := by decide +kernel
theorem dX8_whoNow_35 : decode cX8_whoNow 35 = .ok (.istore_n 2, 1) := by decide +kernel
theorem dX8_whoNow_36 : decode cX8_whoNow 36 = .ok (.iinc 3 1, 3) := by decide +kernel
theorem dX8_whoNow_39 : decode cX8_whoNow 39 = .ok (.goto (-35), 3) := by decide +kernel
theorem dX8_whoNow_42 : decode cX8_whoNow 42 = .ok (.iload_n 2, 1) := by decide +kernel
theorem dX8_whoNow_43 : decode cX8_whoNow 43 = .ok (.ireturn, 1) := by decide +kernel
theorem dX8_isProven_0 : decode cX8_isProven 0 = .ok (.aload_n 0, 1) := by decide +kernel
theorem dX8_isProven_1 : decode cX8_isProven 1 = .ok (.getfield 154, 3) := by decide +kernel
theorem dX8_isProven_4 : decode cX8_isProven 4 = .ok (.iload_n 1, 1) := by decide +kernel
theorem dX8_isProven_5 : decode cX8_isProven 5 = .ok (.invokestatic 157, 3) := by decide +kernel
theorem dX8_isProven_8 : decode cX8_isProven 8 = .ok (.ifCond .ne 22, 3) := by decide +kernel
theorem dX8_isProven_11 : decode cX8_isProven 11 = .ok (.aload_n 0, 1) := by decide +kernel
theorem dX8_isProven_12 : decode cX8_isProven 12 = .ok (.iload_n 1, 1) := by decide +kernel
theorem dX8_isProven_13 : decode cX8_isProven 13 = .ok (.invokevirtual 189, 3) := by decide +kernel
theorem dX8_isProven_16 : decode cX8_isProven 16 = .ok (.invokestatic 192, 3) := by decide +kernel
theorem dX8_isProven_19 : decode cX8_isProven 19 = .ok (.aload_n 0, 1) := by decide +kernel
theorem dX8_isProven_20 : decode cX8_isProven 20 = .ok (.getfield 93, 3) := by decide +kernel
theorem dX8_isProven_23 : decode cX8_isProven 23 = .ok (.if_icmp .lt 7, 3) := by decide +kernel
theorem dX8_isProven_26 : decode cX8_isProven 26 = .ok (.iconst 1, 1) := by decide +kernel
theorem dX8_isProven_27 : decode cX8_isProven 27 = .ok (.goto 4, 3) := by decide +kernel
theorem dX8_isProven_30 : decode cX8_isProven 30 = .ok (.iconst 0, 1) := by decide +kernel
theorem dX8_isProven_31 : decode cX8_isProven 31 = .ok (.ireturn, 1) := by decide +kernel
theorem dX8_proofOf_0 : decode cX8_proofOf 0 = .ok (.aload_n 0, 1) := by decide +kernel
theorem dX8_proofOf_1 : decode cX8_proofOf 1 = .ok (.invokevirtual 177, 3) := by decide +kernel
theorem dX8_proofOf_4 : decode cX8_proofOf 4 = .ok (.aload_n 0, 1) := by decide +kernel
theorem dX8_proofOf_5 : decode cX8_proofOf 5 = .ok (.iload_n 1, 1) := by decide +kernel
theorem dX8_proofOf_6 : decode cX8_proofOf 6 = .ok (.invokevirtual 189, 3) := by decide +kernel
theorem dX8_proofOf_9 : decode cX8_proofOf 9 = .ok (.invokestatic 192, 3) := by decide +kernel
theorem dX8_proofOf_12 : decode cX8_proofOf 12 = .ok (.istore_n 3, 1) := by decide +kernel
theorem dX8_proofOf_13 : decode cX8_proofOf 13 = .ok (.iload_n 2, 1) := by decide +kernel
theorem dX8_proofOf_14 : decode cX8_proofOf 14 = .ok (.ifCond .ne 11, 3) := by decide +kernel
theorem dX8_proofOf_17 : decode cX8_proofOf 17 = .ok (.aload_n 0, 1) := by decide +kernel
theorem dX8_proofOf_18 : decode cX8_proofOf 18 = .ok (.iload_n 1, 1) := by decide +kernel
theorem dX8_proofOf_19 : decode cX8_proofOf 19 = .ok (.invokevirtual 189, 3) := by decide +kernel
theorem dX8_proofOf_22 : decode cX8_proofOf 22 = .ok (.goto 42, 3) := by decide +kernel
theorem dX8_proofOf_25 : decode cX8_proofOf 25 = .ok (.iload_n 2, 1) := by decide +kernel
theorem dX8_proofOf_26 : decode cX8_proofOf 26 = .ok (.iconst 1, 1) := by decide +kernel
theorem dX8_proofOf_27 : decode cX8_proofOf 27 = .ok (.if_icmp .ne 19, 3) := by decide +kernel
theorem dX8_proofOf_30 : decode cX8_proofOf 30 = .ok (.iload_n 3, 1) := by decide +kernel
theorem dX8_proofOf_31 : decode cX8_proofOf 31 = .ok (.aload_n 0, 1) := by decide +kernel
theorem dX8_proofOf_32 : decode cX8_proofOf 32 = .ok (.getfield 93, 3) := by decide +kernel
theorem dX8_proofOf_35 : decode cX8_proofOf 35 = .ok (.if_icmp .lt 7, 3) := by decide +kernel
theorem dX8_proofOf_38 : decode cX8_proofOf 38 = .ok (.iconst 1, 1) := by decide +kernel
theorem dX8_proofOf_39 : decode cX8_proofOf 39 = .ok (.goto 25, 3) := by decide +kernel
theorem dX8_proofOf_42 : decode cX8_proofOf 42 = .ok (.iconst 0, 1) := by decide +kernel
theorem dX8_proofOf_43 : decode cX8_proofOf 43 = .ok (.goto 21, 3) := by decide +kernel
theorem dX8_proofOf_46 : decode cX8_proofOf 46 = .ok (.iload_n 3, 1) := by decide +kernel
theorem dX8_proofOf_47 : decode cX8_proofOf 47 = .ok (.aload_n 0, 1) := by decide +kernel
theorem dX8_proofOf_48 : decode cX8_proofOf 48 = .ok (.getfield 93, 3) := by decide +kernel
theorem dX8_proofOf_51 : decode cX8_proofOf 51 = .ok (.if_icmp .lt 7, 3) := by decide +kernel
theorem dX8_proofOf_54 : decode cX8_proofOf 54 = .ok (.iconst 0, 1) := by decide +kernel
theorem dX8_proofOf_55 : decode cX8_proofOf 55 = .ok (.goto 9, 3) := by decide +kernel
theorem dX8_proofOf_58 : decode cX8_proofOf 58 = .ok (.aload_n 0, 1) := by decide +kernel
theorem dX8_proofOf_59 : decode cX8_proofOf 59 = .ok (.getfield 93, 3) := by decide +kernel
theorem dX8_proofOf_62 : decode cX8_proofOf 62 = .ok (.iload_n 3, 1) := by decide +kernel
theorem dX8_proofOf_63 : decode cX8_proofOf 63 = .ok (.isub, 1) := by decide +kernel
theorem dX8_proofOf_64 : decode cX8_proofOf 64 = .ok (.ireturn, 1) := by decide +kernel
theorem dX8_proof_0 : decode cX8_proof 0 = .ok (.aload_n 0, 1) := by decide +kernel
theorem dX8_proof_1 : decode cX8_proof 1 = .ok (.iload_n 1, 1) := by decide +kernel
theorem dX8_proof_2 : decode cX8_proof 2 = .ok (.invokevirtual 142, 3) := by decide +kernel
theorem dX8_proof_5 : decode cX8_proof 5 = .ok (.ifCond .eq 21, 3) := by decide +kernel
theorem dX8_proof_8 : decode cX8_proof 8 = .ok (.iload_n 2, 1) := by decide +kernel
theorem dX8_proof_9 : decode cX8_proof 9 = .ok (.iconst 0, 1) := by decide +kernel
theorem dX8_proof_10 : decode cX8_proof 10 = .ok (.iconst 2, 1) := by decide +kernel
theorem dX8_proof_11 : decode cX8_proof 11 = .ok (.invokestatic 98, 3) := by decide +kernel
theorem dX8_proof_14 : decode cX8_proof 14 = .ok (.ifCond .eq 12, 3) := by decide +kernel
theorem dX8_proof_17 : decode cX8_proof 17 = .ok (.aload_n 0, 1) := by decide +kernel
theorem dX8_proof_18 : decode cX8_proof 18 = .ok (.iload_n 1, 1) := by decide +kernel
theorem dX8_proof_19 : decode cX8_proof 19 = .ok (.iload_n 2, 1) := by decide +kernel
theorem dX8_proof_20 : decode cX8_proof 20 = .ok (.invokevirtual 195, 3) := by decide +kernel
theorem dX8_proof_23 : decode cX8_proof 23 = .ok (.goto 5, 3) := by decide +kernel
theorem dX8_proof_26 : decode cX8_proof 26 = .ok (.bipush (-2), 2) := by decide +kernel
theorem dX8_proof_28 : decode cX8_proof 28 = .ok (.ireturn, 1) := by decide +kernel
theorem dX8_manyOf_0 : decode cX8_manyOf 0 = .ok (.iconst 0, 1) := by decide +kernel
theorem dX8_manyOf_1 : decode cX8_manyOf 1 = .ok (.istore_n 2, 1) := by decide +kernel
theorem dX8_manyOf_2 : decode cX8_manyOf 2 = .ok (.iconst 0, 1) := by decide +kernel
theorem dX8_manyOf_3 : decode cX8_manyOf 3 = .ok (.istore_n 3, 1) := by decide +kernel
theorem dX8_manyOf_4 : decode cX8_manyOf 4 = .ok (.iload_n 3, 1) := by decide +kernel
theorem dX8_manyOf_5 : decode cX8_manyOf 5 = .ok (.aload_n 0, 1) := by decide +kernel
theorem dX8_manyOf_6 : decode cX8_manyOf 6 = .ok (.getfield 117, 3) := by decide +kernel
theorem dX8_manyOf_9 : decode cX8_manyOf 9 = .ok (.if_icmp .ge 31, 3) := by decide +kernel
theorem dX8_manyOf_12 : decode cX8_manyOf 12 = .ok (.iload_n 2, 1) := by decide +kernel
theorem dX8_manyOf_13 : decode cX8_manyOf 13 = .ok (.aload_n 0, 1) := by decide +kernel
theorem dX8_manyOf_14 : decode cX8_manyOf 14 = .ok (.getfield 47, 3) := by decide +kernel
theorem dX8_manyOf_17 : decode cX8_manyOf 17 = .ok (.bipush 8, 2) := by decide +kernel
theorem dX8_manyOf_19 : decode cX8_manyOf 19 = .ok (.iload_n 3, 1) := by decide +kernel
theorem dX8_manyOf_20 : decode cX8_manyOf 20 = .ok (.imul, 1) := by decide +kernel
theorem dX8_manyOf_21 : decode cX8_manyOf 21 = .ok (.iload_n 1, 1) := by decide +kernel
theorem dX8_manyOf_22 : decode cX8_manyOf 22 = .ok (.iadd, 1) := by decide +kernel
theorem dX8_manyOf_23 : decode cX8_manyOf 23 = .ok (.baload, 1) := by decide +kernel
theorem dX8_manyOf_24 : decode cX8_manyOf 24 = .ok (.ifCond .eq 7, 3) := by decide +kernel
theorem dX8_manyOf_27 : decode cX8_manyOf 27 = .ok (.iconst 1, 1) := by decide +kernel
theorem dX8_manyOf_28 : decode cX8_manyOf 28 = .ok (.goto 4, 3) := by decide +kernel
theorem dX8_manyOf_31 : decode cX8_manyOf 31 = .ok (.iconst 0, 1) := by decide +kernel
theorem dX8_manyOf_32 : decode cX8_manyOf 32 = .ok (.iadd, 1) := by decide +kernel
theorem dX8_manyOf_33 : decode cX8_manyOf 33 = .ok (.istore_n 2, 1) := by decide +kernel
theorem dX8_manyOf_34 : decode cX8_manyOf 34 = .ok (.iinc 3 1, 3) := by decide +kernel
theorem dX8_manyOf_37 : decode cX8_manyOf 37 = .ok (.goto (-33), 3) := by decide +kernel
theorem dX8_manyOf_40 : decode cX8_manyOf 40 = .ok (.iload_n 2, 1) := by decide +kernel
theorem dX8_manyOf_41 : decode cX8_manyOf 41 = .ok (.ireturn, 1) := by decide +kernel
theorem dX8_nightsOf_0 : decode cX8_nightsOf 0 = .ok (.aload_n 0, 1) := by decide +kernel
theorem dX8_nightsOf_1 : decode cX8_nightsOf 1 = .ok (.invokevirtual 177, 3) := by decide +kernel
theorem dX8_nightsOf_4 : decode cX8_nightsOf 4 = .ok (.iload_n 2, 1) := by decide +kernel
theorem dX8_nightsOf_5 : decode cX8_nightsOf 5 = .ok (.ifCond .ne 12, 3) := by decide +kernel
theorem dX8_nightsOf_8 : decode cX8_nightsOf 8 = .ok (.aload_n 0, 1) := by decide +kernel
theorem dX8_nightsOf_9 : decode cX8_nightsOf 9 = .ok (.getfield 50, 3) := by decide +kernel
theorem dX8_nightsOf_12 : decode cX8_nightsOf 12 = .ok (.iload_n 1, 1) := by decide +kernel
theorem dX8_nightsOf_13 : decode cX8_nightsOf 13 = .ok (.iaload, 1) := by decide +kernel
theorem dX8_nightsOf_14 : decode cX8_nightsOf 14 = .ok (.goto 8, 3) := by decide +kernel
theorem dX8_nightsOf_17 : decode cX8_nightsOf 17 = .ok (.aload_n 0, 1) := by decide +kernel
theorem dX8_nightsOf_18 : decode cX8_nightsOf 18 = .ok (.iload_n 1, 1) := by decide +kernel
theorem dX8_nightsOf_19 : decode cX8_nightsOf 19 = .ok (.invokevirtual 198, 3) := by decide +kernel
theorem dX8_nightsOf_22 : decode cX8_nightsOf 22 = .ok (.ireturn, 1) := by decide +kernel
theorem dX8_nights_0 : decode cX8_nights 0 = .ok (.aload_n 0, 1) := by decide +kernel
theorem dX8_nights_1 : decode cX8_nights 1 = .ok (.iload_n 1, 1) := by decide +kernel
theorem dX8_nights_2 : decode cX8_nights 2 = .ok (.invokevirtual 136, 3) := by decide +kernel
theorem dX8_nights_5 : decode cX8_nights 5 = .ok (.ifCond .eq 21, 3) := by decide +kernel
theorem dX8_nights_8 : decode cX8_nights 8 = .ok (.iload_n 2, 1) := by decide +kernel
theorem dX8_nights_9 : decode cX8_nights 9 = .ok (.iconst 0, 1) := by decide +kernel
theorem dX8_nights_10 : decode cX8_nights 10 = .ok (.iconst 1, 1) := by decide +kernel
theorem dX8_nights_11 : decode cX8_nights 11 = .ok (.invokestatic 98, 3) := by decide +kernel
theorem dX8_nights_14 : decode cX8_nights 14 = .ok (.ifCond .eq 12, 3) := by decide +kernel
theorem dX8_nights_17 : decode cX8_nights 17 = .ok (.aload_n 0, 1) := by decide +kernel
theorem dX8_nights_18 : decode cX8_nights 18 = .ok (.iload_n 1, 1) := by decide +kernel
theorem dX8_nights_19 : decode cX8_nights 19 = .ok (.iload_n 2, 1) := by decide +kernel
theorem dX8_nights_20 : decode cX8_nights 20 = .ok (.invokevirtual 201, 3) := by decide +kernel
theorem dX8_nights_23 : decode cX8_nights 23 = .ok (.goto 5, 3) := by decide +kernel
theorem dX8_nights_26 : decode cX8_nights 26 = .ok (.bipush (-2), 2) := by decide +kernel
theorem dX8_nights_28 : decode cX8_nights 28 = .ok (.ireturn, 1) := by decide +kernel
theorem dX8_bestNow_0 : decode cX8_bestNow 0 = .ok (.aload_n 0, 1) := by decide +kernel
theorem dX8_bestNow_1 : decode cX8_bestNow 1 = .ok (.invokevirtual 177, 3) := by decide +kernel
theorem dX8_bestNow_4 : decode cX8_bestNow 4 = .ok (.iconst (-1), 1) := by decide +kernel
theorem dX8_bestNow_5 : decode cX8_bestNow 5 = .ok (.istore_n 1, 1) := by decide +kernel
theorem dX8_bestNow_6 : decode cX8_bestNow 6 = .ok (.iconst 0, 1) := by decide +kernel
theorem dX8_bestNow_7 : decode cX8_bestNow 7 = .ok (.istore_n 2, 1) := by decide +kernel
theorem dX8_bestNow_8 : decode cX8_bestNow 8 = .ok (.iload_n 2, 1) := by decide +kernel
theorem dX8_bestNow_9 : decode cX8_bestNow 9 = .ok (.aload_n 0, 1) := by decide +kernel
theorem dX8_bestNow_10 : decode cX8_bestNow 10 = .ok (.getfield 114, 3) := by decide +kernel
theorem dX8_bestNow_13 : decode cX8_bestNow 13 = .ok (.if_icmp .ge 33, 3) := by decide +kernel
theorem dX8_bestNow_16 : decode cX8_bestNow 16 = .ok (.iload_n 1, 1) := by decide +kernel
theorem dX8_bestNow_17 : decode cX8_bestNow 17 = .ok (.iconst (-1), 1) := by decide +kernel
theorem dX8_bestNow_18 : decode cX8_bestNow 18 = .ok (.if_icmp .eq 16, 3) := by decide +kernel
theorem dX8_bestNow_21 : decode cX8_bestNow 21 = .ok (.aload_n 0, 1) := by decide +kernel
theorem dX8_bestNow_22 : decode cX8_bestNow 22 = .ok (.iload_n 2, 1) := by decide +kernel
theorem dX8_bestNow_23 : decode cX8_bestNow 23 = .ok (.invokevirtual 198, 3) := by decide +kernel
theorem dX8_bestNow_26 : decode cX8_bestNow 26 = .ok (.aload_n 0, 1) := by decide +kernel
theorem dX8_bestNow_27 : decode cX8_bestNow 27 = .ok (.iload_n 1, 1) := by decide +kernel
theorem dX8_bestNow_28 : decode cX8_bestNow 28 = .ok (.invokevirtual 198, 3) := by decide +kernel
theorem dX8_bestNow_31 : decode cX8_bestNow 31 = .ok (.if_icmp .le 7, 3) := by decide +kernel
theorem dX8_bestNow_34 : decode cX8_bestNow 34 = .ok (.iload_n 2, 1) := by decide +kernel
theorem dX8_bestNow_35 : decode cX8_bestNow 35 = .ok (.goto 4, 3) := by decide +kernel
theorem dX8_bestNow_38 : decode cX8_bestNow 38 = .ok (.iload_n 1, 1) := by decide +kernel
theorem dX8_bestNow_39 : decode cX8_bestNow 39 = .ok (.istore_n 1, 1) := by decide +kernel
theorem dX8_bestNow_40 : decode cX8_bestNow 40 = .ok (.iinc 2 1, 3) := by decide +kernel
theorem dX8_bestNow_43 : decode cX8_bestNow 43 = .ok (.goto (-35), 3) := by decide +kernel
theorem dX8_bestNow_46 : decode cX8_bestNow 46 = .ok (.iload_n 1, 1) := by decide +kernel
theorem dX8_bestNow_47 : decode cX8_bestNow 47 = .ok (.ireturn, 1) := by decide +kernel
theorem dX8_best_0 : decode cX8_best 0 = .ok (.aload_n 0, 1) := by decide +kernel
theorem dX8_best_1 : decode cX8_best 1 = .ok (.invokevirtual 204, 3) := by decide +kernel
theorem dX8_best_4 : decode cX8_best 4 = .ok (.ireturn, 1) := by decide +kernel
theorem dX8_byAllNow_0 : decode cX8_byAllNow 0 = .ok (.aload_n 0, 1) := by decide +kernel
theorem dX8_byAllNow_1 : decode cX8_byAllNow 1 = .ok (.invokevirtual 177, 3) := by decide +kernel
theorem dX8_byAllNow_4 : decode cX8_byAllNow 4 = .ok (.iconst 0, 1) := by decide +kernel
theorem dX8_byAllNow_5 : decode cX8_byAllNow 5 = .ok (.istore_n 1, 1) := by decide +kernel
theorem dX8_byAllNow_6 : decode cX8_byAllNow 6 = .ok (.iload_n 1, 1) := by decide +kernel
theorem dX8_byAllNow_7 : decode cX8_byAllNow 7 = .ok (.aload_n 0, 1) := by decide +kernel
theorem dX8_byAllNow_8 : decode cX8_byAllNow 8 = .ok (.getfield 117, 3) := by decide +kernel
theorem dX8_byAllNow_11 : decode cX8_byAllNow 11 = .ok (.if_icmp .ge 69, 3) := by decide +kernel
theorem dX8_byAllNow_14 : decode cX8_byAllNow 14 = .ok (.aload_n 0, 1) := by decide +kernel
theorem dX8_byAllNow_15 : decode cX8_byAllNow 15 = .ok (.getfield 114, 3) := by decide +kernel
theorem dX8_byAllNow_18 : decode cX8_byAllNow 18 = .ok (.ifCond .le 62, 3) := by decide +kernel
theorem dX8_byAllNow_21 : decode cX8_byAllNow 21 = .ok (.iconst 1, 1) := by decide +kernel
theorem dX8_byAllNow_22 : decode cX8_byAllNow 22 = .ok (.istore_n 2, 1) := by decide +kernel
theorem dX8_byAllNow_23 : decode cX8_byAllNow 23 = .ok (.iconst 0, 1) := by decide +kernel
theorem dX8_byAllNow_24 : decode cX8_byAllNow 24 = .ok (.istore_n 3, 1) := by decide +kernel
theorem dX8_byAllNow_25 : decode cX8_byAllNow 25 = .ok (.iload_n 3, 1) := by decide +kernel
theorem dX8_byAllNow_26 : decode cX8_byAllNow 26 = .ok (.aload_n 0, 1) := by decide +kernel
theorem dX8_byAllNow_27 : decode cX8_byAllNow 27 = .ok (.getfield 114, 3) := by decide +kernel
theorem dX8_byAllNow_30 : decode cX8_byAllNow 30 = .ok (.if_icmp .ge 38, 3) := by decide +kernel
theorem dX8_byAllNow_33 : decode cX8_byAllNow 33 = .ok (.iload_n 2, 1) := by decide +kernel
theorem dX8_byAllNow_34 : decode cX8_byAllNow 34 = .ok (.ifCond .eq 26, 3) := by decide +kernel
theorem dX8_byAllNow_37 : decode cX8_byAllNow 37 = .ok (.aload_n 0, 1) := by decide +kernel
theorem dX8_byAllNow_38 : decode cX8_byAllNow 38 = .ok (.getfield 44, 3) := by decide +kernel
theorem dX8_byAllNow_41 : decode cX8_byAllNow 41 = .ok (.bipush 8, 2) := by decide +kernel
theorem dX8_byAllNow_43 : decode cX8_byAllNow 43 = .ok (.iload_n 1, 1) := by decide +kernel
theorem dX8_byAllNow_44 : decode cX8_byAllNow 44 = .ok (.imul, 1) := by decide +kernel
theorem dX8_byAllNow_45 : decode cX8_byAllNow 45 = .ok (.iload_n 3, 1) := by decide +kernel
theorem dX8_byAllNow_46 : decode cX8_byAllNow 46 = .ok (.iadd, 1) := by decide +kernel
theorem dX8_byAllNow_47 : decode cX8_byAllNow 47 = .ok (.iaload, 1) := by decide +kernel
theorem dX8_byAllNow_48 : decode cX8_byAllNow 48 = .ok (.iconst 1, 1) := by decide +kernel
theorem dX8_byAllNow_49 : decode cX8_byAllNow 49 = .ok (.iconst 2, 1) := by decide +kernel
theorem dX8_byAllNow_50 : decode cX8_byAllNow 50 = .ok (.invokestatic 98, 3) := by decide +kernel
theorem dX8_byAllNow_53 : decode cX8_byAllNow 53 = .ok (.ifCond .eq 7, 3) := by decide +kernel
theorem dX8_byAllNow_56 : decode cX8_byAllNow 56 = .ok (.iconst 1, 1) := by decide +kernel
theorem dX8_byAllNow_57 : decode cX8_byAllNow 57 = .ok (.goto 4, 3) := by decide +kernel
theorem dX8_byAllNow_60 : decode cX8_byAllNow 60 = .ok (.iconst 0, 1) := by decide +kernel
theorem dX8_byAllNow_61 : decode cX8_byAllNow 61 = .ok (.istore_n 2, 1) := by decide +kernel
theorem dX8_byAllNow_62 : decode cX8_byAllNow 62 = .ok (.iinc 3 1, 3) := by decide +kernel
theorem dX8_byAllNow_65 : decode cX8_byAllNow 65 = .ok (.goto (-40), 3) := by decide +kernel
theorem dX8_byAllNow_68 : decode cX8_byAllNow 68 = .ok (.iload_n 2, 1) := by decide +kernel
theorem dX8_byAllNow_69 : decode cX8_byAllNow 69 = .ok (.ifCond .eq 5, 3) := by decide +kernel
theorem dX8_byAllNow_72 : decode cX8_byAllNow 72 = .ok (.iload_n 1, 1) := by decide +kernel
theorem dX8_byAllNow_73 : decode cX8_byAllNow 73 = .ok (.ireturn, 1) := by decide +kernel
theorem dX8_byAllNow_74 : decode cX8_byAllNow 74 = .ok (.iinc 1 1, 3) := by decide +kernel
theorem dX8_byAllNow_77 : decode cX8_byAllNow 77 = .ok (.goto (-71), 3) := by decide +kernel
theorem dX8_byAllNow_80 : decode cX8_byAllNow 80 = .ok (.iconst (-1), 1) := by decide +kernel
theorem dX8_byAllNow_81 : decode cX8_byAllNow 81 = .ok (.ireturn, 1) := by decide +kernel
theorem dX8_byAll_0 : decode cX8_byAll 0 = .ok (.aload_n 0, 1) := by decide +kernel
theorem dX8_byAll_1 : decode cX8_byAll 1 = .ok (.invokevirtual 208, 3) := by decide +kernel
theorem dX8_byAll_4 : decode cX8_byAll 4 = .ok (.ireturn, 1) := by decide +kernel
theorem dX8_quietOf_0 : decode cX8_quietOf 0 = .ok (.aload_n 0, 1) := by decide +kernel
theorem dX8_quietOf_1 : decode cX8_quietOf 1 = .ok (.invokevirtual 171, 3) := by decide +kernel
theorem dX8_quietOf_4 : decode cX8_quietOf 4 = .ok (.aload_n 0, 1) := by decide +kernel
theorem dX8_quietOf_5 : decode cX8_quietOf 5 = .ok (.getfield 117, 3) := by decide +kernel
theorem dX8_quietOf_8 : decode cX8_quietOf 8 = .ok (.bipush 8, 2) := by decide +kernel
theorem dX8_quietOf_10 : decode cX8_quietOf 10 = .ok (.if_icmp .ne 6, 3) := by decide +kernel
theorem dX8_quietOf_13 : decode cX8_quietOf 13 = .ok (.bipush (-3), 2) := by decide +kernel
theorem dX8_quietOf_15 : decode cX8_quietOf 15 = .ok (.ireturn, 1) := by decide +kernel
theorem dX8_quietOf_16 : decode cX8_quietOf 16 = .ok (.iconst 0, 1) := by decide +kernel
theorem dX8_quietOf_17 : decode cX8_quietOf 17 = .ok (.istore 4, 2) := by decide +kernel
theorem dX8_quietOf_19 : decode cX8_quietOf 19 = .ok (.iconst (-1), 1) := by decide +kernel
theorem dX8_quietOf_20 : decode cX8_quietOf 20 = .ok (.istore 5, 2) := by decide +kernel
theorem dX8_quietOf_22 : decode cX8_quietOf 22 = .ok (.aload_n 0, 1) := by decide +kernel
theorem dX8_quietOf_23 : decode cX8_quietOf 23 = .ok (.getfield 117, 3) := by decide +kernel
theorem dX8_quietOf_26 : decode cX8_quietOf 26 = .ok (.istore 6, 2) := by decide +kernel
theorem dX8_quietOf_28 : decode cX8_quietOf 28 = .ok (.aload_n 0, 1) := by decide +kernel
theorem dX8_quietOf_29 : decode cX8_quietOf 29 = .ok (.dup, 1) := by decide +kernel
theorem dX8_quietOf_30 : decode cX8_quietOf 30 = .ok (.getfield 117, 3) := by decide +kernel
theorem dX8_quietOf_33 : decode cX8_quietOf 33 = .ok (.iconst 1, 1) := by decide +kernel
theorem dX8_quietOf_34 : decode cX8_quietOf 34 = .ok (.iadd, 1) := by decide +kernel
theorem dX8_quietOf_35 : decode cX8_quietOf 35 = .ok (.putfield 117, 3) := by decide +kernel
theorem dX8_quietOf_38 : decode cX8_quietOf 38 = .ok (.aload_n 0, 1) := by decide +kernel
theorem dX8_quietOf_39 : decode cX8_quietOf 39 = .ok (.getfield 31, 3) := by decide +kernel
theorem dX8_quietOf_42 : decode cX8_quietOf 42 = .ok (.iload 6, 2) := by decide +kernel
theorem dX8_quietOf_44 : decode cX8_quietOf 44 = .ok (.iload_n 1, 1) := by decide +kernel
theorem dX8_quietOf_45 : decode cX8_quietOf 45 = .ok (.iastore, 1) := by decide +kernel
theorem dX8_quietOf_46 : decode cX8_quietOf 46 = .ok (.aload_n 0, 1) := by decide +kernel
theorem dX8_quietOf_47 : decode cX8_quietOf 47 = .ok (.getfield 34, 3) := by decide +kernel
theorem dX8_quietOf_50 : decode cX8_quietOf 50 = .ok (.iload 6, 2) := by decide +kernel
theorem dX8_quietOf_52 : decode cX8_quietOf 52 = .ok (.iload_n 2, 1) := by decide +kernel
theorem dX8_quietOf_53 : decode cX8_quietOf 53 = .ok (.iastore, 1) := by decide +kernel
theorem dX8_quietOf_54 : decode cX8_quietOf 54 = .ok (.iconst 0, 1) := by decide +kernel
theorem dX8_quietOf_55 : decode cX8_quietOf 55 = .ok (.istore 7, 2) := by decide +kernel
theorem dX8_quietOf_57 : decode cX8_quietOf 57 = .ok (.iload 7, 2) := by decide +kernel
theorem dX8_quietOf_59 : decode cX8_quietOf 59 = .ok (.bipush 50, 2) := by decide +kernel
theorem dX8_quietOf_61 : decode cX8_quietOf 61 = .ok (.if_icmp .ge 73, 3) := by decide +kernel
theorem dX8_quietOf_64 : decode cX8_quietOf 64 = .ok (.aload_n 0, 1) := by decide +kernel
theorem dX8_quietOf_65 : decode cX8_quietOf 65 = .ok (.getfield 28, 3) := by decide +kernel
theorem dX8_quietOf_68 : decode cX8_quietOf 68 = .ok (.iload 6, 2) := by decide +kernel
theorem dX8_quietOf_70 : decode cX8_quietOf 70 = .ok (.iload 7, 2) := by decide +kernel
theorem dX8_quietOf_72 : decode cX8_quietOf 72 = .ok (.iastore, 1) := by decide +kernel
theorem dX8_quietOf_73 : decode cX8_quietOf 73 = .ok (.aload_n 0, 1) := by decide +kernel
theorem dX8_quietOf_74 : decode cX8_quietOf 74 = .ok (.invokevirtual 174, 3) := by decide +kernel
theorem dX8_quietOf_77 : decode cX8_quietOf 77 = .ok (.aload_n 0, 1) := by decide +kernel
theorem dX8_quietOf_78 : decode cX8_quietOf 78 = .ok (.iload 6, 2) := by decide +kernel
theorem dX8_quietOf_80 : decode cX8_quietOf 80 = .ok (.invokevirtual 211, 3) := by decide +kernel
theorem dX8_quietOf_83 : decode cX8_quietOf 83 = .ok (.ifCond .ne 7, 3) := by decide +kernel
theorem dX8_quietOf_86 : decode cX8_quietOf 86 = .ok (.iconst 1, 1) := by decide +kernel
theorem dX8_quietOf_87 : decode cX8_quietOf 87 = .ok (.goto 4, 3) := by decide +kernel
theorem dX8_quietOf_90 : decode cX8_quietOf 90 = .ok (.iconst 0, 1) := by decide +kernel
theorem dX8_quietOf_91 : decode cX8_quietOf 91 = .ok (.istore 8, 2) := by decide +kernel
theorem dX8_quietOf_93 : decode cX8_quietOf 93 = .ok (.iload 8, 2) := by decide +kernel
theorem dX8_quietOf_95 : decode cX8_quietOf 95 = .ok (.ifCond .eq 14, 3) := by decide +kernel
theorem dX8_quietOf_98 : decode cX8_quietOf 98 = .ok (.iload 4, 2) := by decide +kernel
theorem dX8_quietOf_100 : decode cX8_quietOf 100 = .ok (.iload_n 3, 1) := by decide +kernel
theorem dX8_quietOf_101 : decode cX8_quietOf 101 = .ok (.if_icmp .ne 8, 3) := by decide +kernel
theorem dX8_quietOf_104 : decode cX8_quietOf 104 = .ok (.iload 7, 2) := by decide +kernel
theorem dX8_quietOf_106 : decode cX8_quietOf 106 = .ok (.goto 5, 3) := by decide +kernel
theorem dX8_quietOf_109 : decode cX8_quietOf 109 = .ok (.iload 5, 2) := by decide +kernel
theorem dX8_quietOf_111 : decode cX8_quietOf 111 = .ok (.istore 5, 2) := by decide +kernel
theorem dX8_quietOf_113 : decode cX8_quietOf 113 = .ok (.iload 4, 2) := by decide +kernel
theorem dX8_quietOf_115 : decode cX8_quietOf 115 = .ok (.iload 8, 2) := by decide +kernel
theorem dX8_quietOf_117 : decode cX8_quietOf 117 = .ok (.ifCond .eq 7, 3) := by decide +kernel
theorem dX8_quietOf_120 : decode cX8_quietOf 120 = .ok (.iconst 1, 1) := by decide +kernel
theorem dX8_quietOf_121 : decode cX8_quietOf 121 = .ok (.goto 4, 3) := by decide +kernel
theorem dX8_quietOf_124 : decode cX8_quietOf 124 = .ok (.iconst 0, 1) := by decide +kernel
theorem dX8_quietOf_125 : decode cX8_quietOf 125 = .ok (.iadd, 1) := by decide +kernel
theorem dX8_quietOf_126 : decode cX8_quietOf 126 = .ok (.istore 4, 2) := by decide +kernel
theorem dX8_quietOf_128 : decode cX8_quietOf 128 = .ok (.iinc 7 1, 3) := by decide +kernel
theorem dX8_quietOf_131 : decode cX8_quietOf 131 = .ok (.goto (-74), 3) := by decide +kernel
theorem dX8_quietOf_134 : decode cX8_quietOf 134 = .ok (.aload_n 0, 1) := by decide +kernel
theorem dX8_quietOf_135 : decode cX8_quietOf 135 = .ok (.iload 6, 2) := by decide +kernel
theorem dX8_quietOf_137 : decode cX8_quietOf 137 = .ok (.putfield 117, 3) := by decide +kernel
theorem dX8_quietOf_140 : decode cX8_quietOf 140 = .ok (.iload_n 3, 1) := by decide +kernel
theorem dX8_quietOf_141 : decode cX8_quietOf 141 = .ok (.iconst (-1), 1) := by decide +kernel
theorem dX8_quietOf_142 : decode cX8_quietOf 142 = .ok (.if_icmp .ne 8, 3) := by decide +kernel
theorem dX8_quietOf_145 : decode cX8_quietOf 145 = .ok (.iload 4, 2) := by decide +kernel
theorem dX8_quietOf_147 : decode cX8_quietOf 147 = .ok (.goto 5, 3) := by decide +kernel
theorem dX8_quietOf_150 : decode cX8_quietOf 150 = .ok (.iload 5, 2) := by decide +kernel
theorem dX8_quietOf_152 : decode cX8_quietOf 152 = .ok (.ireturn, 1) := by decide +kernel
theorem dX8_quiet_0 : decode cX8_quiet 0 = .ok (.iload_n 1, 1) := by decide +kernel
theorem dX8_quiet_1 : decode cX8_quiet 1 = .ok (.iconst 0, 1) := by decide +kernel
theorem dX8_quiet_2 : decode cX8_quiet 2 = .ok (.bipush 9, 2) := by decide +kernel
theorem dX8_quiet_4 : decode cX8_quiet 4 = .ok (.invokestatic 98, 3) := by decide +kernel
theorem dX8_quiet_7 : decode cX8_quiet 7 = .ok (.ifCond .eq 32, 3) := by decide +kernel
theorem dX8_quiet_10 : decode cX8_quiet 10 = .ok (.iload_n 2, 1) := by decide +kernel
theorem dX8_quiet_11 : decode cX8_quiet 11 = .ok (.iconst 0, 1) := by decide +kernel
theorem dX8_quiet_12 : decode cX8_quiet 12 = .ok (.iconst 3, 1) := by decide +kernel
theorem dX8_quiet_13 : decode cX8_quiet 13 = .ok (.invokestatic 98, 3) := by decide +kernel
theorem dX8_quiet_16 : decode cX8_quiet 16 = .ok (.ifCond .eq 23, 3) := by decide +kernel
theorem dX8_quiet_19 : decode cX8_quiet 19 = .ok (.iload_n 3, 1) := by decide +kernel
theorem dX8_quiet_20 : decode cX8_quiet 20 = .ok (.iconst (-1), 1) := by decide +kernel
theorem dX8_quiet_21 : decode cX8_quiet 21 = .ok (.bipush 49, 2) := by decide +kernel
theorem dX8_quiet_23 : decode cX8_quiet 23 = .ok (.invokestatic 98, 3) := by decide +kernel
theorem dX8_quiet_26 : decode cX8_quiet 26 = .ok (.ifCond .eq 13, 3) := by decide +kernel
theorem dX8_quiet_29 : decode cX8_quiet 29 = .ok (.aload_n 0, 1) := by decide +kernel
theorem dX8_quiet_30 : decode cX8_quiet 30 = .ok (.iload_n 1, 1) := by decide +kernel
theorem dX8_quiet_31 : decode cX8_quiet 31 = .ok (.iload_n 2, 1) := by decide +kernel
theorem dX8_quiet_32 : decode cX8_quiet 32 = .ok (.iload_n 3, 1) := by decide +kernel
theorem dX8_quiet_33 : decode cX8_quiet 33 = .ok (.invokevirtual 214, 3) := by decide +kernel
theorem dX8_quiet_36 : decode cX8_quiet 36 = .ok (.goto 5, 3) := by decide +kernel
theorem dX8_quiet_39 : decode cX8_quiet 39 = .ok (.bipush (-2), 2) := by decide +kernel
theorem dX8_quiet_41 : decode cX8_quiet 41 = .ok (.ireturn, 1) := by decide +kernel
theorem dX8_provenNow_0 : decode cX8_provenNow 0 = .ok (.iconst 0, 1) := by decide +kernel
theorem dX8_provenNow_1 : decode cX8_provenNow 1 = .ok (.istore_n 1, 1) := by decide +kernel
theorem dX8_provenNow_2 : decode cX8_provenNow 2 = .ok (.iconst 0, 1) := by decide +kernel
theorem dX8_provenNow_3 : decode cX8_provenNow 3 = .ok (.istore_n 2, 1) := by decide +kernel
theorem dX8_provenNow_4 : decode cX8_provenNow 4 = .ok (.iload_n 2, 1) := by decide +kernel
theorem dX8_provenNow_5 : decode cX8_provenNow 5 = .ok (.aload_n 0, 1) := by decide +kernel
theorem dX8_provenNow_6 : decode cX8_provenNow 6 = .ok (.getfield 117, 3) := by decide +kernel
theorem dX8_provenNow_9 : decode cX8_provenNow 9 = .ok (.if_icmp .ge 25, 3) := by decide +kernel
theorem dX8_provenNow_12 : decode cX8_provenNow 12 = .ok (.iload_n 1, 1) := by decide +kernel
theorem dX8_provenNow_13 : decode cX8_provenNow 13 = .ok (.aload_n 0, 1) := by decide +kernel
theorem dX8_provenNow_14 : decode cX8_provenNow 14 = .ok (.iload_n 2, 1) := by decide +kernel
theorem dX8_provenNow_15 : decode cX8_provenNow 15 = .ok (.invokevirtual 211, 3) := by decide +kernel
theorem dX8_provenNow_18 : decode cX8_provenNow 18 = .ok (.ifCond .eq 7, 3) := by decide +kernel
theorem dX8_provenNow_21 : decode cX8_provenNow 21 = .ok (.iconst 1, 1) := by decide +kernel
theorem dX8_provenNow_22 : decode cX8_provenNow 22 = .ok (.goto 4, 3) := by decide +kernel
theorem dX8_provenNow_25 : decode cX8_provenNow 25 = .ok (.iconst 0, 1) := by decide +kernel
theorem dX8_provenNow_26 : decode cX8_provenNow 26 = .ok (.iadd, 1) := by decide +kernel
theorem dX8_provenNow_27 : decode cX8_provenNow 27 = .ok (.istore_n 1, 1) := by decide +kernel
theorem dX8_provenNow_28 : decode cX8_provenNow 28 = .ok (.iinc 2 1, 3) := by decide +kernel
theorem dX8_provenNow_31 : decode cX8_provenNow 31 = .ok (.goto (-27), 3) := by decide +kernel
theorem dX8_provenNow_34 : decode cX8_provenNow 34 = .ok (.iload_n 1, 1) := by decide +kernel
theorem dX8_provenNow_35 : decode cX8_provenNow 35 = .ok (.ireturn, 1) := by decide +kernel
theorem dX8_moveOf_0 : decode cX8_moveOf 0 = .ok (.aload_n 0, 1) := by decide +kernel
theorem dX8_moveOf_1 : decode cX8_moveOf 1 = .ok (.invokevirtual 171, 3) := by decide +kernel
theorem dX8_moveOf_4 : decode cX8_moveOf 4 = .ok (.aload_n 0, 1) := by decide +kernel
theorem dX8_moveOf_5 : decode cX8_moveOf 5 = .ok (.getfield 16, 3) := by decide +kernel
theorem dX8_moveOf_8 : decode cX8_moveOf 8 = .ok (.iload_n 1, 1) := by decide +kernel
theorem dX8_moveOf_9 : decode cX8_moveOf 9 = .ok (.iaload, 1) := by decide +kernel
theorem dX8_moveOf_10 : decode cX8_moveOf 10 = .ok (.istore_n 3, 1) := by decide +kernel
theorem dX8_moveOf_11 : decode cX8_moveOf 11 = .ok (.iconst (-1), 1) := by decide +kernel
theorem dX8_moveOf_12 : decode cX8_moveOf 12 = .ok (.istore 4, 2) := by decide +kernel
theorem dX8_moveOf_14 : decode cX8_moveOf 14 = .ok (.iconst (-1), 1) := by decide +kernel
theorem dX8_moveOf_15 : decode cX8_moveOf 15 = .ok (.istore 5, 2) := by decide +kernel
theorem dX8_moveOf_17 : decode cX8_moveOf 17 = .ok (.iconst 0, 1) := by decide +kernel
theorem dX8_moveOf_18 : decode cX8_moveOf 18 = .ok (.istore 6, 2) := by decide +kernel
theorem dX8_moveOf_20 : decode cX8_moveOf 20 = .ok (.iload 6, 2) := by decide +kernel
theorem dX8_moveOf_22 : decode cX8_moveOf 22 = .ok (.bipush 10, 2) := by decide +kernel
theorem dX8_moveOf_24 : decode cX8_moveOf 24 = .ok (.if_icmp .ge 59, 3) := by decide +kernel
theorem dX8_moveOf_27 : decode cX8_moveOf 27 = .ok (.aload_n 0, 1) := by decide +kernel
theorem dX8_moveOf_28 : decode cX8_moveOf 28 = .ok (.getfield 16, 3) := by decide +kernel
theorem dX8_moveOf_31 : decode cX8_moveOf 31 = .ok (.iload_n 1, 1) := by decide +kernel
theorem dX8_moveOf_32 : decode cX8_moveOf 32 = .ok (.iload 6, 2) := by decide +kernel
theorem dX8_moveOf_34 : decode cX8_moveOf 34 = .ok (.iastore, 1) := by decide +kernel
theorem dX8_moveOf_35 : decode cX8_moveOf 35 = .ok (.aload_n 0, 1) := by decide +kernel
theorem dX8_moveOf_36 : decode cX8_moveOf 36 = .ok (.invokevirtual 174, 3) := by decide +kernel
theorem dX8_moveOf_39 : decode cX8_moveOf 39 = .ok (.aload_n 0, 1) := by decide +kernel
theorem dX8_moveOf_40 : decode cX8_moveOf 40 = .ok (.invokevirtual 217, 3) := by decide +kernel
theorem dX8_moveOf_43 : decode cX8_moveOf 43 = .ok (.istore 7, 2) := by decide +kernel
theorem dX8_moveOf_45 : decode cX8_moveOf 45 = .ok (.iload 7, 2) := by decide +kernel
theorem dX8_moveOf_47 : decode cX8_moveOf 47 = .ok (.iload 5, 2) := by decide +kernel
theorem dX8_moveOf_49 : decode cX8_moveOf 49 = .ok (.if_icmp .le 8, 3) := by decide +kernel
theorem dX8_moveOf_52 : decode cX8_moveOf 52 = .ok (.iload 6, 2) := by decide +kernel
theorem dX8_moveOf_54 : decode cX8_moveOf 54 = .ok (.goto 5, 3) := by decide +kernel
theorem dX8_moveOf_57 : decode cX8_moveOf 57 = .ok (.iload 4, 2) := by decide +kernel
theorem dX8_moveOf_59 : decode cX8_moveOf 59 = .ok (.istore 4, 2) := by decide +kernel
theorem dX8_moveOf_61 : decode cX8_moveOf 61 = .ok (.iload 7, 2) := by decide +kernel
theorem dX8_moveOf_63 : decode cX8_moveOf 63 = .ok (.iload 5, 2) := by decide +kernel
theorem dX8_moveOf_65 : decode cX8_moveOf 65 = .ok (.if_icmp .le 8, 3) := by decide +kernel
theorem dX8_moveOf_68 : decode cX8_moveOf 68 = .ok (.iload 7, 2) := by decide +kernel
theorem dX8_moveOf_70 : decode cX8_moveOf 70 = .ok (.goto 5, 3) := by decide +kernel
theorem dX8_moveOf_73 : decode cX8_moveOf 73 = .ok (.iload 5, 2) := by decide +kernel
theorem dX8_moveOf_75 : decode cX8_moveOf 75 = .ok (.istore 5, 2) := by decide +kernel
theorem dX8_moveOf_77 : decode cX8_moveOf 77 = .ok (.iinc 6 1, 3) := by decide +kernel
theorem dX8_moveOf_80 : decode cX8_moveOf 80 = .ok (.goto (-60), 3) := by decide +kernel
theorem dX8_moveOf_83 : decode cX8_moveOf 83 = .ok (.aload_n 0, 1) := by decide +kernel
theorem dX8_moveOf_84 : decode cX8_moveOf 84 = .ok (.getfield 16, 3) := by decide +kernel
theorem dX8_moveOf_87 : decode cX8_moveOf 87 = .ok (.iload_n 1, 1) := by decide +kernel
theorem dX8_moveOf_88 : decode cX8_moveOf 88 = .ok (.iload_n 3, 1) := by decide +kernel
theorem dX8_moveOf_89 : decode cX8_moveOf 89 = .ok (.iastore, 1) := by decide +kernel
theorem dX8_moveOf_90 : decode cX8_moveOf 90 = .ok (.iload_n 2, 1) := by decide +kernel
theorem dX8_moveOf_91 : decode cX8_moveOf 91 = .ok (.ifCond .ne 8, 3) := by decide +kernel
theorem dX8_moveOf_94 : decode cX8_moveOf 94 = .ok (.iload 4, 2) := by decide +kernel
theorem dX8_moveOf_96 : decode cX8_moveOf 96 = .ok (.goto 5, 3) := by decide +kernel
theorem dX8_moveOf_99 : decode cX8_moveOf 99 = .ok (.iload 5, 2) := by decide +kernel
theorem dX8_moveOf_101 : decode cX8_moveOf 101 = .ok (.ireturn, 1) := by decide +kernel
theorem dX8_move_0 : decode cX8_move 0 = .ok (.aload_n 0, 1) := by decide +kernel
theorem dX8_move_1 : decode cX8_move 1 = .ok (.iload_n 1, 1) := by decide +kernel
theorem dX8_move_2 : decode cX8_move 2 = .ok (.invokevirtual 136, 3) := by decide +kernel
theorem dX8_move_5 : decode cX8_move 5 = .ok (.ifCond .eq 21, 3) := by decide +kernel
theorem dX8_move_8 : decode cX8_move 8 = .ok (.iload_n 2, 1) := by decide +kernel
theorem dX8_move_9 : decode cX8_move 9 = .ok (.iconst 0, 1) := by decide +kernel
theorem dX8_move_10 : decode cX8_move 10 = .ok (.iconst 1, 1) := by decide +kernel
theorem dX8_move_11 : decode cX8_move 11 = .ok (.invokestatic 98, 3) := by decide +kernel
theorem dX8_move_14 : decode cX8_move 14 = .ok (.ifCond .eq 12, 3) := by decide +kernel
theorem dX8_move_17 : decode cX8_move 17 = .ok (.aload_n 0, 1) := by decide +kernel
theorem dX8_move_18 : decode cX8_move 18 = .ok (.iload_n 1, 1) := by decide +kernel
theorem dX8_move_19 : decode cX8_move 19 = .ok (.iload_n 2, 1) := by decide +kernel
theorem dX8_move_20 : decode cX8_move 20 = .ok (.invokevirtual 220, 3) := by decide +kernel
theorem dX8_move_23 : decode cX8_move 23 = .ok (.goto 5, 3) := by decide +kernel
theorem dX8_move_26 : decode cX8_move 26 = .ok (.bipush (-2), 2) := by decide +kernel
theorem dX8_move_28 : decode cX8_move 28 = .ok (.ireturn, 1) := by decide +kernel
theorem dX8_isUnproven_0 : decode cX8_isUnproven 0 = .ok (.aload_n 0, 1) := by decide +kernel
theorem dX8_isUnproven_1 : decode cX8_isUnproven 1 = .ok (.iload_n 2, 1) := by decide +kernel
theorem dX8_isUnproven_2 : decode cX8_isUnproven 2 = .ok (.putfield 168, 3) := by decide +kernel
theorem dX8_isUnproven_5 : decode cX8_isUnproven 5 = .ok (.aload_n 0, 1) := by decide +kernel
theorem dX8_isUnproven_6 : decode cX8_isUnproven 6 = .ok (.invokevirtual 174, 3) := by decide +kernel
theorem dX8_isUnproven_9 : decode cX8_isUnproven 9 = .ok (.aload_n 0, 1) := by decide +kernel
theorem dX8_isUnproven_10 : decode cX8_isUnproven 10 = .ok (.iload_n 1, 1) := by decide +kernel
theorem dX8_isUnproven_11 : decode cX8_isUnproven 11 = .ok (.invokevirtual 211, 3) := by decide +kernel
theorem dX8_isUnproven_14 : decode cX8_isUnproven 14 = .ok (.ifCond .ne 7, 3) := by decide +kernel
theorem dX8_isUnproven_17 : decode cX8_isUnproven 17 = .ok (.iconst 1, 1) := by decide +kernel
theorem dX8_isUnproven_18 : decode cX8_isUnproven 18 = .ok (.goto 4, 3) := by decide +kernel
theorem dX8_isUnproven_21 : decode cX8_isUnproven 21 = .ok (.iconst 0, 1) := by decide +kernel
theorem dX8_isUnproven_22 : decode cX8_isUnproven 22 = .ok (.ireturn, 1) := by decide +kernel
theorem dX8_needBy_0 : decode cX8_needBy 0 = .ok (.aload_n 0, 1) := by decide +kernel
theorem dX8_needBy_1 : decode cX8_needBy 1 = .ok (.invokevirtual 171, 3) := by decide +kernel
theorem dX8_needBy_4 : decode cX8_needBy 4 = .ok (.aload_n 0, 1) := by decide +kernel
theorem dX8_needBy_5 : decode cX8_needBy 5 = .ok (.iload_n 1, 1) := by decide +kernel
theorem dX8_needBy_6 : decode cX8_needBy 6 = .ok (.iconst 0, 1) := by decide +kernel
theorem dX8_needBy_7 : decode cX8_needBy 7 = .ok (.invokevirtual 223, 3) := by decide +kernel
theorem dX8_needBy_10 : decode cX8_needBy 10 = .ok (.ifCond .eq 5, 3) := by decide +kernel
theorem dX8_needBy_13 : decode cX8_needBy 13 = .ok (.iconst 0, 1) := by decide +kernel
theorem dX8_needBy_14 : decode cX8_needBy 14 = .ok (.ireturn, 1) := by decide +kernel
theorem dX8_needBy_15 : decode cX8_needBy 15 = .ok (.iconst 0, 1) := by decide +kernel
theorem dX8_needBy_16 : decode cX8_needBy 16 = .ok (.istore_n 2, 1) := by decide +kernel
theorem dX8_needBy_17 : decode cX8_needBy 17 = .ok (.iload_n 2, 1) := by decide +kernel
theorem dX8_needBy_18 : decode cX8_needBy 18 = .ok (.aload_n 0, 1) := by decide +kernel
theorem dX8_needBy_19 : decode cX8_needBy 19 = .ok (.getfield 114, 3) := by decide +kernel
theorem dX8_needBy_22 : decode cX8_needBy 22 = .ok (.if_icmp .ge 29, 3) := by decide +kernel
theorem dX8_needBy_25 : decode cX8_needBy 25 = .ok (.aload_n 0, 1) := by decide +kernel
theorem dX8_needBy_26 : decode cX8_needBy 26 = .ok (.getfield 53, 3) := by decide +kernel
theorem dX8_needBy_29 : decode cX8_needBy 29 = .ok (.iconst 0, 1) := by decide +kernel
theorem dX8_needBy_30 : decode cX8_needBy 30 = .ok (.iload_n 2, 1) := by decide +kernel
theorem dX8_needBy_31 : decode cX8_needBy 31 = .ok (.iastore, 1) := by decide +kernel
theorem dX8_needBy_32 : decode cX8_needBy 32 = .ok (.aload_n 0, 1) := by decide +kernel
theorem dX8_needBy_33 : decode cX8_needBy 33 = .ok (.iload_n 1, 1) := by decide +kernel
theorem dX8_needBy_34 : decode cX8_needBy 34 = .ok (.iconst 1, 1) := by decide +kernel
theorem dX8_needBy_35 : decode cX8_needBy 35 = .ok (.iload_n 2, 1) := by decide +kernel
theorem dX8_needBy_36 : decode cX8_needBy 36 = .ok (.ishl, 1) := by decide +kernel
theorem dX8_needBy_37 : decode cX8_needBy 37 = .ok (.invokevirtual 223, 3) := by decide +kernel
theorem dX8_needBy_40 : decode cX8_needBy 40 = .ok (.ifCond .eq 5, 3) := by decide +kernel
theorem dX8_needBy_43 : decode cX8_needBy 43 = .ok (.iconst 1, 1) := by decide +kernel
theorem dX8_needBy_44 : decode cX8_needBy 44 = .ok (.ireturn, 1) := by decide +kernel
theorem dX8_needBy_45 : decode cX8_needBy 45 = .ok (.iinc 2 1, 3) := by decide +kernel
theorem dX8_needBy_48 : decode cX8_needBy 48 = .ok (.goto (-31), 3) := by decide +kernel
theorem dX8_needBy_51 : decode cX8_needBy 51 = .ok (.iconst 0, 1) := by decide +kernel
theorem dX8_needBy_52 : decode cX8_needBy 52 = .ok (.istore_n 2, 1) := by decide +kernel
theorem dX8_needBy_53 : decode cX8_needBy 53 = .ok (.iload_n 2, 1) := by decide +kernel
theorem dX8_needBy_54 : decode cX8_needBy 54 = .ok (.aload_n 0, 1) := by decide +kernel
theorem dX8_needBy_55 : decode cX8_needBy 55 = .ok (.getfield 114, 3) := by decide +kernel
theorem dX8_needBy_58 : decode cX8_needBy 58 = .ok (.if_icmp .ge 58, 3) := by decide +kernel
theorem dX8_needBy_61 : decode cX8_needBy 61 = .ok (.iload_n 2, 1) := by decide +kernel
theorem dX8_needBy_62 : decode cX8_needBy 62 = .ok (.iconst 1, 1) := by decide +kernel
theorem dX8_needBy_63 : decode cX8_needBy 63 = .ok (.iadd, 1) := by decide +kernel
theorem dX8_needBy_64 : decode cX8_needBy 64 = .ok (.istore_n 3, 1) := by decide +kernel
theorem dX8_needBy_65 : decode cX8_needBy 65 = .ok (.iload_n 3, 1) := by decide +kernel
theorem dX8_needBy_66 : decode cX8_needBy 66 = .ok (.aload_n 0, 1) := by decide +kernel
theorem dX8_needBy_67 : decode cX8_needBy 67 = .ok (.getfield 114, 3) := by decide +kernel
theorem dX8_needBy_70 : decode cX8_needBy 70 = .ok (.if_icmp .ge 40, 3) := by decide +kernel
theorem dX8_needBy_73 : decode cX8_needBy 73 = .ok (.aload_n 0, 1) := by decide +kernel
theorem dX8_needBy_74 : decode cX8_needBy 74 = .ok (.getfield 53, 3) := by decide +kernel
theorem dX8_needBy_77 : decode cX8_needBy 77 = .ok (.iconst 0, 1) := by decide +kernel
theorem dX8_needBy_78 : decode cX8_needBy 78 = .ok (.iload_n 2, 1) := by decide +kernel
theorem dX8_needBy_79 : decode cX8_needBy 79 = .ok (.iastore, 1) := by decide +kernel
theorem dX8_needBy_80 : decode cX8_needBy 80 = .ok (.aload_n 0, 1) := by decide +kernel
theorem dX8_needBy_81 : decode cX8_needBy 81 = .ok (.getfield 53, 3) := by decide +kernel
theorem dX8_needBy_84 : decode cX8_needBy 84 = .ok (.iconst 1, 1) := by decide +kernel
theorem dX8_needBy_85 : decode cX8_needBy 85 = .ok (.iload_n 3, 1) := by decide +kernel
theorem dX8_needBy_86 : decode cX8_needBy 86 = .ok (.iastore, 1) := by decide +kernel
theorem dX8_needBy_87 : decode cX8_needBy 87 = .ok (.aload_n 0, 1) := by decide +kernel
theorem dX8_needBy_88 : decode cX8_needBy 88 = .ok (.iload_n 1, 1) := by decide +kernel
theorem dX8_needBy_89 : decode cX8_needBy 89 = .ok (.iconst 1, 1) := by decide +kernel
theorem dX8_needBy_90 : decode cX8_needBy 90 = .ok (.iload_n 2, 1) := by decide +kernel
theorem dX8_needBy_91 : decode cX8_needBy 91 = .ok (.ishl, 1) := by decide +kernel
theorem dX8_needBy_92 : decode cX8_needBy 92 = .ok (.iconst 1, 1) := by decide +kernel
theorem dX8_needBy_93 : decode cX8_needBy 93 = .ok (.iload_n 3, 1) := by decide +kernel
theorem dX8_needBy_94 : decode cX8_needBy 94 = .ok (.ishl, 1) := by decide +kernel
theorem dX8_needBy_95 : decode cX8_needBy 95 = .ok (.ior, 1) := by decide +kernel
theorem dX8_needBy_96 : decode cX8_needBy 96 = .ok (.invokevirtual 223, 3) := by decide +kernel
theorem dX8_needBy_99 : decode cX8_needBy 99 = .ok (.ifCond .eq 5, 3) := by decide +kernel
theorem dX8_needBy_102 : decode cX8_needBy 102 = .ok (.iconst 2, 1) := by decide +kernel
theorem dX8_needBy_103 : decode cX8_needBy 103 = .ok (.ireturn, 1) := by decide +kernel
theorem dX8_needBy_104 : decode cX8_needBy 104 = .ok (.iinc 3 1, 3) := by decide +kernel
theorem dX8_needBy_107 : decode cX8_needBy 107 = .ok (.goto (-42), 3) := by decide +kernel
theorem dX8_needBy_110 : decode cX8_needBy 110 = .ok (.iinc 2 1, 3) := by decide +kernel
theorem dX8_needBy_113 : decode cX8_needBy 113 = .ok (.goto (-60), 3) := by decide +kernel
theorem dX8_needBy_116 : decode cX8_needBy 116 = .ok (.iconst (-1), 1) := by decide +kernel
theorem dX8_needBy_117 : decode cX8_needBy 117 = .ok (.ireturn, 1) := by decide +kernel
theorem dX8_ofRow_0 : decode cX8_ofRow 0 = .ok (.iload_n 2, 1) := by decide +kernel
theorem dX8_ofRow_1 : decode cX8_ofRow 1 = .ok (.iconst (-1), 1) := by decide +kernel
theorem dX8_ofRow_2 : decode cX8_ofRow 2 = .ok (.if_icmp .ne 7, 3) := by decide +kernel
theorem dX8_ofRow_5 : decode cX8_ofRow 5 = .ok (.iload_n 1, 1) := by decide +kernel
theorem dX8_ofRow_6 : decode cX8_ofRow 6 = .ok (.goto 18, 3) := by decide +kernel
theorem dX8_ofRow_9 : decode cX8_ofRow 9 = .ok (.iload_n 2, 1) := by decide +kernel
theorem dX8_ofRow_10 : decode cX8_ofRow 10 = .ok (.iload_n 1, 1) := by decide +kernel
theorem dX8_ofRow_11 : decode cX8_ofRow 11 = .ok (.if_icmp .ge 12, 3) := by decide +kernel
theorem dX8_ofRow_14 : decode cX8_ofRow 14 = .ok (.aload_n 0, 1) := by decide +kernel
theorem dX8_ofRow_15 : decode cX8_ofRow 15 = .ok (.getfield 53, 3) := by decide +kernel
theorem dX8_ofRow_18 : decode cX8_ofRow 18 = .ok (.iload_n 2, 1) := by decide +kernel
theorem dX8_ofRow_19 : decode cX8_ofRow 19 = .ok (.iaload, 1) := by decide +kernel
theorem dX8_ofRow_20 : decode cX8_ofRow 20 = .ok (.goto 4, 3) := by decide +kernel
theorem dX8_ofRow_23 : decode cX8_ofRow 23 = .ok (.iconst (-1), 1) := by decide +kernel
theorem dX8_ofRow_24 : decode cX8_ofRow 24 = .ok (.ireturn, 1) := by decide +kernel
theorem dX8_need_0 : decode cX8_need 0 = .ok (.aload_n 0, 1) := by decide +kernel
theorem dX8_need_1 : decode cX8_need 1 = .ok (.iload_n 1, 1) := by decide +kernel
theorem dX8_need_2 : decode cX8_need 2 = .ok (.invokevirtual 142, 3) := by decide +kernel
theorem dX8_need_5 : decode cX8_need 5 = .ok (.ifCond .eq 25, 3) := by decide +kernel
theorem dX8_need_8 : decode cX8_need 8 = .ok (.iload_n 2, 1) := by decide +kernel
theorem dX8_need_9 : decode cX8_need 9 = .ok (.iconst (-1), 1) := by decide +kernel
theorem dX8_need_10 : decode cX8_need 10 = .ok (.iconst 1, 1) := by decide +kernel
theorem dX8_need_11 : decode cX8_need 11 = .ok (.invokestatic 98, 3) := by decide +kernel
theorem dX8_need_14 : decode cX8_need 14 = .ok (.ifCond .eq 16, 3) := by decide +kernel
theorem dX8_need_17 : decode cX8_need 17 = .ok (.aload_n 0, 1) := by decide +kernel
theorem dX8_need_18 : decode cX8_need 18 = .ok (.aload_n 0, 1) := by decide +kernel
theorem dX8_need_19 : decode cX8_need 19 = .ok (.iload_n 1, 1) := by decide +kernel
theorem dX8_need_20 : decode cX8_need 20 = .ok (.invokevirtual 226, 3) := by decide +kernel
theorem dX8_need_23 : decode cX8_need 23 = .ok (.iload_n 2, 1) := by decide +kernel
theorem dX8_need_24 : decode cX8_need 24 = .ok (.invokevirtual 229, 3) := by decide +kernel
theorem dX8_need_27 : decode cX8_need 27 = .ok (.goto 5, 3) := by decide +kernel
theorem dX8_need_30 : decode cX8_need 30 = .ok (.bipush (-2), 2) := by decide +kernel
theorem dX8_need_32 : decode cX8_need 32 = .ok (.ireturn, 1) := by decide +kernel
theorem dX8_feedOf_0 : decode cX8_feedOf 0 = .ok (.aload_n 0, 1) := by decide +kernel
theorem dX8_feedOf_1 : decode cX8_feedOf 1 = .ok (.invokevirtual 171, 3) := by decide +kernel
theorem dX8_feedOf_4 : decode cX8_feedOf 4 = .ok (.aload_n 0, 1) := by decide +kernel
theorem dX8_feedOf_5 : decode cX8_feedOf 5 = .ok (.getfield 22, 3) := by decide +kernel
theorem dX8_feedOf_8 : decode cX8_feedOf 8 = .ok (.iload_n 1, 1) := by decide +kernel
theorem dX8_feedOf_9 : decode cX8_feedOf 9 = .ok (.iaload, 1) := by decide +kernel
theorem dX8_feedOf_10 : decode cX8_feedOf 10 = .ok (.istore_n 3, 1) := by decide +kernel
theorem dX8_feedOf_11 : decode cX8_feedOf 11 = .ok (.iconst (-1), 1) := by decide +kernel
theorem dX8_feedOf_12 : decode cX8_feedOf 12 = .ok (.istore 4, 2) := by decide +kernel
theorem dX8_feedOf_14 : decode cX8_feedOf 14 = .ok (.iconst (-1), 1) := by decide +kernel
theorem dX8_feedOf_15 : decode cX8_feedOf 15 = .ok (.istore 5, 2) := by decide +kernel
theorem dX8_feedOf_17 : decode cX8_feedOf 17 = .ok (.iconst 0, 1) := by decide +kernel
theorem dX8_feedOf_18 : decode cX8_feedOf 18 = .ok (.istore 6, 2) := by decide +kernel
theorem dX8_feedOf_20 : decode cX8_feedOf 20 = .ok (.iload 6, 2) := by decide +kernel
theorem dX8_feedOf_22 : decode cX8_feedOf 22 = .ok (.iconst 4, 1) := by decide +kernel
theorem dX8_feedOf_23 : decode cX8_feedOf 23 = .ok (.if_icmp .ge 60, 3) := by decide +kernel
theorem dX8_feedOf_26 : decode cX8_feedOf 26 = .ok (.aload_n 0, 1) := by decide +kernel
theorem dX8_feedOf_27 : decode cX8_feedOf 27 = .ok (.getfield 22, 3) := by decide +kernel
theorem dX8_feedOf_30 : decode cX8_feedOf 30 = .ok (.iload_n 1, 1) := by decide +kernel
theorem dX8_feedOf_31 : decode cX8_feedOf 31 = .ok (.iload 6, 2) := by decide +kernel
theorem dX8_feedOf_33 : decode cX8_feedOf 33 = .ok (.iastore, 1) := by decide +kernel
theorem dX8_feedOf_34 : decode cX8_feedOf 34 = .ok (.aload_n 0, 1) := by decide +kernel
theorem dX8_feedOf_35 : decode cX8_feedOf 35 = .ok (.invokevirtual 174, 3) := by decide +kernel
theorem dX8_feedOf_38 : decode cX8_feedOf 38 = .ok (.aload_n 0, 1) := by decide +kernel
theorem dX8_feedOf_39 : decode cX8_feedOf 39 = .ok (.iload_n 1, 1) := by decide +kernel
theorem dX8_feedOf_40 : decode cX8_feedOf 40 = .ok (.invokevirtual 198, 3) := by decide +kernel
theorem dX8_feedOf_43 : decode cX8_feedOf 43 = .ok (.istore 7, 2) := by decide +kernel
theorem dX8_feedOf_45 : decode cX8_feedOf 45 = .ok (.iload 7, 2) := by decide +kernel
theorem dX8_feedOf_47 : decode cX8_feedOf 47 = .ok (.iload 5, 2) := by decide +kernel
theorem dX8_feedOf_49 : decode cX8_feedOf 49 = .ok (.if_icmp .le 8, 3) := by decide +kernel
theorem dX8_feedOf_52 : decode cX8_feedOf 52 = .ok (.iload 6, 2) := by decide +kernel
theorem dX8_feedOf_54 : decode cX8_feedOf 54 = .ok (.goto 5, 3) := by decide +kernel
theorem dX8_feedOf_57 : decode cX8_feedOf 57 = .ok (.iload 4, 2) := by decide +kernel
theorem dX8_feedOf_59 : decode cX8_feedOf 59 = .ok (.istore 4, 2) := by decide +kernel
theorem dX8_feedOf_61 : decode cX8_feedOf 61 = .ok (.iload 7, 2) := by decide +kernel
theorem dX8_feedOf_63 : decode cX8_feedOf 63 = .ok (.iload 5, 2) := by decide +kernel
theorem dX8_feedOf_65 : decode cX8_feedOf 65 = .ok (.if_icmp .le 8, 3) := by decide +kernel
theorem dX8_feedOf_68 : decode cX8_feedOf 68 = .ok (.iload 7, 2) := by decide +kernel
theorem dX8_feedOf_70 : decode cX8_feedOf 70 = .ok (.goto 5, 3) := by decide +kernel
theorem dX8_feedOf_73 : decode cX8_feedOf 73 = .ok (.iload 5, 2) := by decide +kernel
theorem dX8_feedOf_75 : decode cX8_feedOf 75 = .ok (.istore 5, 2) := by decide +kernel
theorem dX8_feedOf_77 : decode cX8_feedOf 77 = .ok (.iinc 6 1, 3) := by decide +kernel
theorem dX8_feedOf_80 : decode cX8_feedOf 80 = .ok (.goto (-60), 3) := by decide +kernel
theorem dX8_feedOf_83 : decode cX8_feedOf 83 = .ok (.aload_n 0, 1) := by decide +kernel
theorem dX8_feedOf_84 : decode cX8_feedOf 84 = .ok (.getfield 22, 3) := by decide +kernel
theorem dX8_feedOf_87 : decode cX8_feedOf 87 = .ok (.iload_n 1, 1) := by decide +kernel
theorem dX8_feedOf_88 : decode cX8_feedOf 88 = .ok (.iload_n 3, 1) := by decide +kernel
theorem dX8_feedOf_89 : decode cX8_feedOf 89 = .ok (.iastore, 1) := by decide +kernel
theorem dX8_feedOf_90 : decode cX8_feedOf 90 = .ok (.iload_n 2, 1) := by decide +kernel
theorem dX8_feedOf_91 : decode cX8_feedOf 91 = .ok (.ifCond .ne 8, 3) := by decide +kernel
theorem dX8_feedOf_94 : decode cX8_feedOf 94 = .ok (.iload 4, 2) := by decide +kernel
theorem dX8_feedOf_96 : decode cX8_feedOf 96 = .ok (.goto 5, 3) := by decide +kernel
theorem dX8_feedOf_99 : decode cX8_feedOf 99 = .ok (.iload 5, 2) := by decide +kernel
theorem dX8_feedOf_101 : decode cX8_feedOf 101 = .ok (.ireturn, 1) := by decide +kernel
theorem dX8_feed_0 : decode cX8_feed 0 = .ok (.aload_n 0, 1) := by decide +kernel
theorem dX8_feed_1 : decode cX8_feed 1 = .ok (.iload_n 1, 1) := by decide +kernel
theorem dX8_feed_2 : decode cX8_feed 2 = .ok (.invokevirtual 136, 3) := by decide +kernel
theorem dX8_feed_5 : decode cX8_feed 5 = .ok (.ifCond .eq 21, 3) := by decide +kernel
theorem dX8_feed_8 : decode cX8_feed 8 = .ok (.iload_n 2, 1) := by decide +kernel
theorem dX8_feed_9 : decode cX8_feed 9 = .ok (.iconst 0, 1) := by decide +kernel
theorem dX8_feed_10 : decode cX8_feed 10 = .ok (.iconst 1, 1) := by decide +kernel
theorem dX8_feed_11 : decode cX8_feed 11 = .ok (.invokestatic 98, 3) := by decide +kernel
theorem dX8_feed_14 : decode cX8_feed 14 = .ok (.ifCond .eq 12, 3) := by decide +kernel
theorem dX8_feed_17 : decode cX8_feed 17 = .ok (.aload_n 0, 1) := by decide +kernel
theorem dX8_feed_18 : decode cX8_feed 18 = .ok (.iload_n 1, 1) := by decide +kernel
theorem dX8_feed_19 : decode cX8_feed 19 = .ok (.iload_n 2, 1) := by decide +kernel
theorem dX8_feed_20 : decode cX8_feed 20 = .ok (.invokevirtual 232, 3) := by decide +kernel
theorem dX8_feed_23 : decode cX8_feed 23 = .ok (.goto 5, 3) := by decide +kernel
theorem dX8_feed_26 : decode cX8_feed 26 = .ok (.bipush (-2), 2) := by decide +kernel
theorem dX8_feed_28 : decode cX8_feed 28 = .ok (.ireturn, 1) := by decide +kernel
theorem dX8_told_0 : decode cX8_told 0 = .ok (.iload_n 1, 1) := by decide +kernel
theorem dX8_told_1 : decode cX8_told 1 = .ok (.iconst 0, 1) := by decide +kernel
theorem dX8_told_2 : decode cX8_told 2 = .ok (.bipush 7, 2) := by decide +kernel
theorem dX8_told_4 : decode cX8_told 4 = .ok (.invokestatic 98, 3) := by decide +kernel
theorem dX8_told_7 : decode cX8_told 7 = .ok (.ifCond .eq 22, 3) := by decide +kernel
theorem dX8_told_10 : decode cX8_told 10 = .ok (.iload_n 2, 1) := by decide +kernel
theorem dX8_told_11 : decode cX8_told 11 = .ok (.iconst 0, 1) := by decide +kernel
theorem dX8_told_12 : decode cX8_told 12 = .ok (.iconst 3, 1) := by decide +kernel
theorem dX8_told_13 : decode cX8_told 13 = .ok (.invokestatic 98, 3) := by decide +kernel
theorem dX8_told_16 : decode cX8_told 16 = .ok (.ifCond .eq 13, 3) := by decide +kernel
theorem dX8_told_19 : decode cX8_told 19 = .ok (.iload_n 3, 1) := by decide +kernel
theorem dX8_told_20 : decode cX8_told 20 = .ok (.iconst 0, 1) := by decide +kernel
theorem dX8_told_21 : decode cX8_told 21 = .ok (.bipush 8, 2) := by decide +kernel
theorem dX8_told_23 : decode cX8_told 23 = .ok (.invokestatic 98, 3) := by decide +kernel
theorem dX8_told_26 : decode cX8_told 26 = .ok (.ifCond .ne 6, 3) := by decide +kernel
theorem dX8_told_29 : decode cX8_told 29 = .ok (.bipush (-2), 2) := by decide +kernel
theorem dX8_told_31 : decode cX8_told 31 = .ok (.ireturn, 1) := by decide +kernel
theorem dX8_told_32 : decode cX8_told 32 = .ok (.aload_n 0, 1) := by decide +kernel
theorem dX8_told_33 : decode cX8_told 33 = .ok (.getfield 235, 3) := by decide +kernel
theorem dX8_told_36 : decode cX8_told 36 = .ok (.bipush 8, 2) := by decide +kernel
theorem dX8_told_38 : decode cX8_told 38 = .ok (.if_icmp .ne 6, 3) := by decide +kernel
theorem dX8_told_41 : decode cX8_told 41 = .ok (.bipush (-4), 2) := by decide +kernel
theorem dX8_told_43 : decode cX8_told 43 = .ok (.ireturn, 1) := by decide +kernel
theorem dX8_told_44 : decode cX8_told 44 = .ok (.aload_n 0, 1) := by decide +kernel
theorem dX8_told_45 : decode cX8_told 45 = .ok (.getfield 56, 3) := by decide +kernel
theorem dX8_told_48 : decode cX8_told 48 = .ok (.aload_n 0, 1) := by decide +kernel
theorem dX8_told_49 : decode cX8_told 49 = .ok (.getfield 235, 3) := by decide +kernel
theorem dX8_told_52 : decode cX8_told 52 = .ok (.iload_n 1, 1) := by decide +kernel
theorem dX8_told_53 : decode cX8_told 53 = .ok (.iastore, 1) := by decide +kernel
theorem dX8_told_54 : decode cX8_told 54 = .ok (.aload_n 0, 1) := by decide +kernel
theorem dX8_told_55 : decode cX8_told 55 = .ok (.getfield 59, 3) := by decide +kernel
theorem dX8_told_58 : decode cX8_told 58 = .ok (.aload_n 0, 1) := by decide +kernel
theorem dX8_told_59 : decode cX8_told 59 = .ok (.getfield 235, 3) := by decide +kernel
theorem dX8_told_62 : decode cX8_told 62 = .ok (.iload_n 2, 1) := by decide +kernel
theorem dX8_told_63 : decode cX8_told 63 = .ok (.iastore, 1) := by decide +kernel
theorem dX8_told_64 : decode cX8_told 64 = .ok (.aload_n 0, 1) := by decide +kernel
theorem dX8_told_65 : decode cX8_told 65 = .ok (.getfield 62, 3) := by decide +kernel
theorem dX8_told_68 : decode cX8_told 68 = .ok (.aload_n 0, 1) := by decide +kernel
theorem dX8_told_69 : decode cX8_told 69 = .ok (.getfield 235, 3) := by decide +kernel
theorem dX8_told_72 : decode cX8_told 72 = .ok (.iload_n 3, 1) := by decide +kernel
theorem dX8_told_73 : decode cX8_told 73 = .ok (.iastore, 1) := by decide +kernel
theorem dX8_told_74 : decode cX8_told 74 = .ok (.aload_n 0, 1) := by decide +kernel
theorem dX8_told_75 : decode cX8_told 75 = .ok (.dup, 1) := by decide +kernel
theorem dX8_told_76 : decode cX8_told 76 = .ok (.getfield 235, 3) := by decide +kernel
theorem dX8_told_79 : decode cX8_told 79 = .ok (.iconst 1, 1) := by decide +kernel
theorem dX8_told_80 : decode cX8_told 80 = .ok (.iadd, 1) := by decide +kernel
theorem dX8_told_81 : decode cX8_told 81 = .ok (.putfield 235, 3) := by decide +kernel
theorem dX8_told_84 : decode cX8_told 84 = .ok (.aload_n 0, 1) := by decide +kernel
theorem dX8_told_85 : decode cX8_told 85 = .ok (.getfield 235, 3) := by decide +kernel
theorem dX8_told_88 : decode cX8_told 88 = .ok (.ireturn, 1) := by decide +kernel
theorem dX8_forget_0 : decode cX8_forget 0 = .ok (.aload_n 0, 1) := by decide +kernel
theorem dX8_forget_1 : decode cX8_forget 1 = .ok (.getfield 235, 3) := by decide +kernel
theorem dX8_forget_4 : decode cX8_forget 4 = .ok (.istore_n 1, 1) := by decide +kernel
theorem dX8_forget_5 : decode cX8_forget 5 = .ok (.aload_n 0, 1) := by decide +kernel
theorem dX8_forget_6 : decode cX8_forget 6 = .ok (.iconst 0, 1) := by decide +kernel
theorem dX8_forget_7 : decode cX8_forget 7 = .ok (.putfield 235, 3) := by decide +kernel
theorem dX8_forget_10 : decode cX8_forget 10 = .ok (.iload_n 1, 1) := by decide +kernel
theorem dX8_forget_11 : decode cX8_forget 11 = .ok (.ireturn, 1) := by decide +kernel
theorem dX8_read_0 : decode cX8_read 0 = .ok (.iload_n 1, 1) := by decide +kernel
theorem dX8_read_1 : decode cX8_read 1 = .ok (.invokestatic 238, 3) := by decide +kernel
theorem dX8_read_4 : decode cX8_read 4 = .ok (.ifCond .ne 6, 3) := by decide +kernel
theorem dX8_read_7 : decode cX8_read 7 = .ok (.bipush (-2), 2) := by decide +kernel
theorem dX8_read_9 : decode cX8_read 9 = .ok (.ireturn, 1) := by decide +kernel
theorem dX8_read_10 : decode cX8_read 10 = .ok (.aload_n 0, 1) := by decide +kernel
theorem dX8_read_11 : decode cX8_read 11 = .ok (.getfield 71, 3) := by decide +kernel
theorem dX8_read_14 : decode cX8_read 14 = .ok (.iload_n 1, 1) := by decide +kernel
theorem dX8_read_15 : decode cX8_read 15 = .ok (.baload, 1) := by decide +kernel
theorem dX8_read_16 : decode cX8_read 16 = .ok (.ifCond .ne 9, 3) := by decide +kernel
theorem dX8_read_19 : decode cX8_read 19 = .ok (.aload_n 0, 1) := by decide +kernel
theorem dX8_read_20 : decode cX8_read 20 = .ok (.iconst 1, 1) := by decide +kernel
theorem dX8_read_21 : decode cX8_read 21 = .ok (.invokevirtual 241, 3) := by decide +kernel
theorem dX8_read_24 : decode cX8_read 24 = .ok (.ireturn, 1) := by decide +kernel
theorem dX8_read_25 : decode cX8_read 25 = .ok (.iconst 0, 1) := by decide +kernel
theorem dX8_read_26 : decode cX8_read 26 = .ok (.istore_n 2, 1) := by decide +kernel
theorem dX8_read_27 : decode cX8_read 27 = .ok (.iconst 3, 1) := by decide +kernel
theorem dX8_read_28 : decode cX8_read 28 = .ok (.iload_n 2, 1) := by decide +kernel
theorem dX8_read_29 : decode cX8_read 29 = .ok (.imul, 1) := by decide +kernel
theorem dX8_read_30 : decode cX8_read 30 = .ok (.iconst 2, 1) := by decide +kernel
theorem dX8_read_31 : decode cX8_read 31 = .ok (.iadd, 1) := by decide +kernel
theorem dX8_read_32 : decode cX8_read 32 = .ok (.aload_n 0, 1) := by decide +kernel
theorem dX8_read_33 : decode cX8_read 33 = .ok (.getfield 77, 3) := by decide +kernel
theorem dX8_read_36 : decode cX8_read 36 = .ok (.iload_n 1, 1) := by decide +kernel
theorem dX8_read_37 : decode cX8_read 37 = .ok (.iaload, 1) := by decide +kernel
theorem dX8_read_38 : decode cX8_read 38 = .ok (.if_icmp .ge 59, 3) := by decide +kernel
theorem dX8_read_41 : decode cX8_read 41 = .ok (.aload_n 0, 1) := by decide +kernel
theorem dX8_read_42 : decode cX8_read 42 = .ok (.aload_n 0, 1) := by decide +kernel
theorem dX8_read_43 : decode cX8_read 43 = .ok (.getfield 80, 3) := by decide +kernel
theorem dX8_read_46 : decode cX8_read 46 = .ok (.bipush 60, 2) := by decide +kernel
theorem dX8_read_48 : decode cX8_read 48 = .ok (.iload_n 1, 1) := by decide +kernel
theorem dX8_read_49 : decode cX8_read 49 = .ok (.imul, 1) := by decide +kernel
theorem dX8_read_50 : decode cX8_read 50 = .ok (.iconst 3, 1) := by decide +kernel
theorem dX8_read_51 : decode cX8_read 51 = .ok (.iload_n 2, 1) := by decide +kernel
theorem dX8_read_52 : decode cX8_read 52 = .ok (.imul, 1) := by decide +kernel
theorem dX8_read_53 : decode cX8_read 53 = .ok (.iadd, 1) := by decide +kernel
theorem dX8_read_54 : decode cX8_read 54 = .ok (.iaload, 1) := by decide +kernel
theorem dX8_read_55 : decode cX8_read 55 = .ok (.aload_n 0, 1) := by decide +kernel
theorem dX8_read_56 : decode cX8_read 56 = .ok (.getfield 80, 3) := by decide +kernel
theorem dX8_read_59 : decode cX8_read 59 = .ok (.bipush 60, 2) := by decide +kernel
theorem dX8_read_61 : decode cX8_read 61 = .ok (.iload_n 1, 1) := by decide +kernel
theorem dX8_read_62 : decode cX8_read 62 = .ok (.imul, 1) := by decide +kernel
theorem dX8_read_63 : decode cX8_read 63 = .ok (.iconst 3, 1) := by decide +kernel
theorem dX8_read_64 : decode cX8_read 64 = .ok (.iload_n 2, 1) := by decide +kernel
theorem dX8_read_65 : decode cX8_read 65 = .ok (.imul, 1) := by decide +kernel
theorem dX8_read_66 : decode cX8_read 66 = .ok (.iadd, 1) := by decide +kernel
theorem dX8_read_67 : decode cX8_read 67 = .ok (.iconst 1, 1) := by decide +kernel
theorem dX8_read_68 : decode cX8_read 68 = .ok (.iadd, 1) := by decide +kernel
theorem dX8_read_69 : decode cX8_read 69 = .ok (.iaload, 1) := by decide +kernel
theorem dX8_read_70 : decode cX8_read 70 = .ok (.aload_n 0, 1) := by decide +kernel
theorem dX8_read_71 : decode cX8_read 71 = .ok (.getfield 80, 3) := by decide +kernel
theorem dX8_read_74 : decode cX8_read 74 = .ok (.bipush 60, 2) := by decide +kernel
theorem dX8_read_76 : decode cX8_read 76 = .ok (.iload_n 1, 1) := by decide +kernel
theorem dX8_read_77 : decode cX8_read 77 = .ok (.imul, 1) := by decide +kernel
theorem dX8_read_78 : decode cX8_read 78 = .ok (.iconst 3, 1) := by decide +kernel
theorem dX8_read_79 : decode cX8_read 79 = .ok (.iload_n 2, 1) := by decide +kernel
theorem dX8_read_80 : decode cX8_read 80 = .ok (.imul, 1) := by decide +kernel
theorem dX8_read_81 : decode cX8_read 81 = .ok (.iadd, 1) := by decide +kernel
theorem dX8_read_82 : decode cX8_read 82 = .ok (.iconst 2, 1) := by decide +kernel
theorem dX8_read_83 : decode cX8_read 83 = .ok (.iadd, 1) := by decide +kernel
theorem dX8_read_84 : decode cX8_read 84 = .ok (.iaload, 1) := by decide +kernel
theorem dX8_read_85 : decode cX8_read 85 = .ok (.invokevirtual 244, 3) := by decide +kernel
theorem dX8_read_88 : decode cX8_read 88 = .ok (.ifCond .le 9, 3) := by decide +kernel
theorem dX8_read_91 : decode cX8_read 91 = .ok (.iinc 2 1, 3) := by decide +kernel
theorem dX8_read_94 : decode cX8_read 94 = .ok (.goto (-67), 3) := by decide +kernel
theorem dX8_read_97 : decode cX8_read 97 = .ok (.iload_n 2, 1) := by decide +kernel
theorem dX8_read_98 : decode cX8_read 98 = .ok (.ireturn, 1) := by decide +kernel
theorem dX8_marksOf_0 : decode cX8_marksOf 0 = .ok (.iconst 0, 1) := by decide +kernel
theorem dX8_marksOf_1 : decode cX8_marksOf 1 = .ok (.istore_n 3, 1) := by decide +kernel
theorem dX8_marksOf_2 : decode cX8_marksOf 2 = .ok (.iconst 0, 1) := by decide +kernel
theorem dX8_marksOf_3 : decode cX8_marksOf 3 = .ok (.istore 4, 2) := by decide +kernel
theorem dX8_marksOf_5 : decode cX8_marksOf 5 = .ok (.iload 4, 2) := by decide +kernel
theorem dX8_marksOf_7 : decode cX8_marksOf 7 = .ok (.aload_n 0, 1) := by decide +kernel
theorem dX8_marksOf_8 : decode cX8_marksOf 8 = .ok (.getfield 117, 3) := by decide +kernel
theorem dX8_marksOf_11 : decode cX8_marksOf 11 = .ok (.if_icmp .ge 49, 3) := by decide +kernel
theorem dX8_marksOf_14 : decode cX8_marksOf 14 = .ok (.iload_n 3, 1) := by decide +kernel
theorem dX8_marksOf_15 : decode cX8_marksOf 15 = .ok (.aload_n 0, 1) := by decide +kernel
theorem dX8_marksOf_16 : decode cX8_marksOf 16 = .ok (.getfield 44, 3) := by decide +kernel
theorem dX8_marksOf_19 : decode cX8_marksOf 19 = .ok (.bipush 8, 2) := by decide +kernel
theorem dX8_marksOf_21 : decode cX8_marksOf 21 = .ok (.iload 4, 2) := by decide +kernel
theorem dX8_marksOf_23 : decode cX8_marksOf 23 = .ok (.imul, 1) := by decide +kernel
theorem dX8_marksOf_24 : decode cX8_marksOf 24 = .ok (.iload_n 1, 1) := by decide +kernel
theorem dX8_marksOf_25 : decode cX8_marksOf 25 = .ok (.iadd, 1) := by decide +kernel
theorem dX8_marksOf_26 : decode cX8_marksOf 26 = .ok (.iaload, 1) := by decide +kernel
theorem dX8_marksOf_27 : decode cX8_marksOf 27 = .ok (.iconst 3, 1) := by decide +kernel
theorem dX8_marksOf_28 : decode cX8_marksOf 28 = .ok (.if_icmp .ne 23, 3) := by decide +kernel
theorem dX8_marksOf_31 : decode cX8_marksOf 31 = .ok (.iload_n 2, 1) := by decide +kernel
theorem dX8_marksOf_32 : decode cX8_marksOf 32 = .ok (.iconst (-1), 1) := by decide +kernel
theorem dX8_marksOf_33 : decode cX8_marksOf 33 = .ok (.if_icmp .eq 14, 3) := by decide +kernel
theorem dX8_marksOf_36 : decode cX8_marksOf 36 = .ok (.aload_n 0, 1) := by decide +kernel
theorem dX8_marksOf_37 : decode cX8_marksOf 37 = .ok (.getfield 34, 3) := by decide +kernel
theorem dX8_marksOf_40 : decode cX8_marksOf 40 = .ok (.iload 4, 2) := by decide +kernel
theorem dX8_marksOf_42 : decode cX8_marksOf 42 = .ok (.iaload, 1) := by decide +kernel
theorem dX8_marksOf_43 : decode cX8_marksOf 43 = .ok (.iload_n 2, 1) := by decide +kernel
theorem dX8_marksOf_44 : decode cX8_marksOf 44 = .ok (.if_icmp .ne 7, 3) := by decide +kernel
theorem dX8_marksOf_47 : decode cX8_marksOf 47 = .ok (.iconst 1, 1) := by decide +kernel
theorem dX8_marksOf_48 : decode cX8_marksOf 48 = .ok (.goto 4, 3) := by decide +kernel
theorem dX8_marksOf_51 : decode cX8_marksOf 51 = .ok (.iconst 0, 1) := by decide +kernel
theorem dX8_marksOf_52 : decode cX8_marksOf 52 = .ok (.iadd, 1) := by decide +kernel
theorem dX8_marksOf_53 : decode cX8_marksOf 53 = .ok (.istore_n 3, 1) := by decide +kernel
theorem dX8_marksOf_54 : decode cX8_marksOf 54 = .ok (.iinc 4 1, 3) := by decide +kernel
theorem dX8_marksOf_57 : decode cX8_marksOf 57 = .ok (.goto (-52), 3) := by decide +kernel
theorem dX8_marksOf_60 : decode cX8_marksOf 60 = .ok (.iload_n 3, 1) := by decide +kernel
theorem dX8_marksOf_61 : decode cX8_marksOf 61 = .ok (.ireturn, 1) := by decide +kernel
theorem dX8_isTold_0 : decode cX8_isTold 0 = .ok (.aload_n 0, 1) := by decide +kernel
theorem dX8_isTold_1 : decode cX8_isTold 1 = .ok (.invokevirtual 174, 3) := by decide +kernel
theorem dX8_isTold_4 : decode cX8_isTold 4 = .ok (.iconst 1, 1) := by decide +kernel
theorem dX8_isTold_5 : decode cX8_isTold 5 = .ok (.istore_n 1, 1) := by decide +kernel
theorem dX8_isTold_6 : decode cX8_isTold 6 = .ok (.iconst 0, 1) := by decide +kernel
theorem dX8_isTold_7 : decode cX8_isTold 7 = .ok (.istore_n 2, 1) := by decide +kernel
theorem dX8_isTold_8 : decode cX8_isTold 8 = .ok (.iload_n 2, 1) := by decide +kernel
theorem dX8_isTold_9 : decode cX8_isTold 9 = .ok (.aload_n 0, 1) := by decide +kernel
theorem dX8_isTold_10 : decode cX8_isTold 10 = .ok (.getfield 235, 3) := by decide +kernel
theorem dX8_isTold_13 : decode cX8_isTold 13 = .ok (.if_icmp .ge 57, 3) := by decide +kernel
theorem dX8_isTold_16 : decode cX8_isTold 16 = .ok (.iload_n 1, 1) := by decide +kernel
theorem dX8_isTold_17 : decode cX8_isTold 17 = .ok (.ifCond .eq 53, 3) := by decide +kernel
theorem dX8_isTold_20 : decode cX8_isTold 20 = .ok (.aload_n 0, 1) := by decide +kernel
theorem dX8_isTold_21 : decode cX8_isTold 21 = .ok (.getfield 56, 3) := by decide +kernel
theorem dX8_isTold_24 : decode cX8_isTold 24 = .ok (.iload_n 2, 1) := by decide +kernel
theorem dX8_isTold_25 : decode cX8_isTold 25 = .ok (.iaload, 1) := by decide +kernel
theorem dX8_isTold_26 : decode cX8_isTold 26 = .ok (.aload_n 0, 1) := by decide +kernel
theorem dX8_isTold_27 : decode cX8_isTold 27 = .ok (.getfield 114, 3) := by decide +kernel
theorem dX8_isTold_30 : decode cX8_isTold 30 = .ok (.if_icmp .ge 32, 3) := by decide +kernel
theorem dX8_isTold_33 : decode cX8_isTold 33 = .ok (.aload_n 0, 1) := by decide +kernel
theorem dX8_isTold_34 : decode cX8_isTold 34 = .ok (.aload_n 0, 1) := by decide +kernel
theorem dX8_isTold_35 : decode cX8_isTold 35 = .ok (.getfield 56, 3) := by decide +kernel
theorem dX8_isTold_38 : decode cX8_isTold 38 = .ok (.iload_n 2, 1) := by decide +kernel
theorem dX8_isTold_39 : decode cX8_isTold 39 = .ok (.iaload, 1) := by decide +kernel
theorem dX8_isTold_40 : decode cX8_isTold 40 = .ok (.aload_n 0, 1) := by decide +kernel
theorem dX8_isTold_41 : decode cX8_isTold 41 = .ok (.getfield 59, 3) := by decide +kernel
theorem dX8_isTold_44 : decode cX8_isTold 44 = .ok (.iload_n 2, 1) := by decide +kernel
theorem dX8_isTold_45 : decode cX8_isTold 45 = .ok (.iaload, 1) := by decide +kernel
theorem dX8_isTold_46 : decode cX8_isTold 46 = .ok (.invokevirtual 247, 3) := by decide +kernel
theorem dX8_isTold_49 : decode cX8_isTold 49 = .ok (.aload_n 0, 1) := by decide +kernel
theorem dX8_isTold_50 : decode cX8_isTold 50 = .ok (.getfield 62, 3) := by decide +kernel
theorem dX8_isTold_53 : decode cX8_isTold 53 = .ok (.iload_n 2, 1) := by decide +kernel
theorem dX8_isTold_54 : decode cX8_isTold 54 = .ok (.iaload, 1) := by decide +kernel
theorem dX8_isTold_55 : decode cX8_isTold 55 = .ok (.if_icmp .ne 7, 3) := by decide +kernel
theorem dX8_isTold_58 : decode cX8_isTold 58 = .ok (.iconst 1, 1) := by decide +kernel
theorem dX8_isTold_59 : decode cX8_isTold 59 = .ok (.goto 4, 3) := by decide +kernel
theorem dX8_isTold_62 : decode cX8_isTold 62 = .ok (.iconst 0, 1) := by decide +kernel
theorem dX8_isTold_63 : decode cX8_isTold 63 = .ok (.istore_n 1, 1) := by decide +kernel
theorem dX8_isTold_64 : decode cX8_isTold 64 = .ok (.iinc 2 1, 3) := by decide +kernel
theorem dX8_isTold_67 : decode cX8_isTold 67 = .ok (.goto (-59), 3) := by decide +kernel
theorem dX8_isTold_70 : decode cX8_isTold 70 = .ok (.iload_n 1, 1) := by decide +kernel
theorem dX8_isTold_71 : decode cX8_isTold 71 = .ok (.ireturn, 1) := by decide +kernel
theorem dX8_neverNow_0 : decode cX8_neverNow 0 = .ok (.aload_n 0, 1) := by decide +kernel
theorem dX8_neverNow_1 : decode cX8_neverNow 1 = .ok (.invokevirtual 171, 3) := by decide +kernel
theorem dX8_neverNow_4 : decode cX8_neverNow 4 = .ok (.iconst 0, 1) := by decide +kernel
theorem dX8_neverNow_5 : decode cX8_neverNow 5 = .ok (.istore_n 1, 1) := by decide +kernel
theorem dX8_neverNow_6 : decode cX8_neverNow 6 = .ok (.iconst 0, 1) := by decide +kernel
theorem dX8_neverNow_7 : decode cX8_neverNow 7 = .ok (.istore_n 2, 1) := by decide +kernel
theorem dX8_neverNow_8 : decode cX8_neverNow 8 = .ok (.iload_n 2, 1) := by decide +kernel
theorem dX8_neverNow_9 : decode cX8_neverNow 9 = .ok (.aload_n 0, 1) := by decide +kernel
theorem dX8_neverNow_10 : decode cX8_neverNow 10 = .ok (.getfield 117, 3) := by decide +kernel
theorem dX8_neverNow_13 : decode cX8_neverNow 13 = .ok (.if_icmp .ge 33, 3) := by decide +kernel
theorem dX8_neverNow_16 : decode cX8_neverNow 16 = .ok (.aload_n 0, 1) := by decide +kernel
theorem dX8_neverNow_17 : decode cX8_neverNow 17 = .ok (.iconst 1, 1) := by decide +kernel
theorem dX8_neverNow_18 : decode cX8_neverNow 18 = .ok (.iload_n 2, 1) := by decide +kernel
theorem dX8_neverNow_19 : decode cX8_neverNow 19 = .ok (.ishl, 1) := by decide +kernel
theorem dX8_neverNow_20 : decode cX8_neverNow 20 = .ok (.putfield 154, 3) := by decide +kernel
theorem dX8_neverNow_23 : decode cX8_neverNow 23 = .ok (.iload_n 1, 1) := by decide +kernel
theorem dX8_neverNow_24 : decode cX8_neverNow 24 = .ok (.aload_n 0, 1) := by decide +kernel
theorem dX8_neverNow_25 : decode cX8_neverNow 25 = .ok (.invokevirtual 250, 3) := by decide +kernel
theorem dX8_neverNow_28 : decode cX8_neverNow 28 = .ok (.ifCond .eq 9, 3) := by decide +kernel
theorem dX8_neverNow_31 : decode cX8_neverNow 31 = .ok (.iconst 1, 1) := by decide +kernel
theorem dX8_neverNow_32 : decode cX8_neverNow 32 = .ok (.iload_n 2, 1) := by decide +kernel
theorem dX8_neverNow_33 : decode cX8_neverNow 33 = .ok (.ishl, 1) := by decide +kernel
theorem dX8_neverNow_34 : decode cX8_neverNow 34 = .ok (.goto 4, 3) := by decide +kernel
theorem dX8_neverNow_37 : decode cX8_neverNow 37 = .ok (.iconst 0, 1) := by decide +kernel
theorem dX8_neverNow_38 : decode cX8_neverNow 38 = .ok (.ior, 1) := by decide +kernel
theorem dX8_neverNow_39 : decode cX8_neverNow 39 = .ok (.istore_n 1, 1) := by decide +kernel
theorem dX8_neverNow_40 : decode cX8_neverNow 40 = .ok (.iinc 2 1, 3) := by decide +kernel
theorem dX8_neverNow_43 : decode cX8_neverNow 43 = .ok (.goto (-35), 3) := by decide +kernel
theorem dX8_neverNow_46 : decode cX8_neverNow 46 = .ok (.iload_n 1, 1) := by decide +kernel
theorem dX8_neverNow_47 : decode cX8_neverNow 47 = .ok (.ireturn, 1) := by decide +kernel
theorem dX8_never_0 : decode cX8_never 0 = .ok (.aload_n 0, 1) := by decide +kernel
theorem dX8_never_1 : decode cX8_never 1 = .ok (.invokevirtual 254, 3) := by decide +kernel
theorem dX8_never_4 : decode cX8_never 4 = .ok (.ireturn, 1) := by decide +kernel
theorem dX8_placeOf_0 : decode cX8_placeOf 0 = .ok (.aload_n 0, 1) := by decide +kernel
theorem dX8_placeOf_1 : decode cX8_placeOf 1 = .ok (.invokevirtual 171, 3) := by decide +kernel
theorem dX8_placeOf_4 : decode cX8_placeOf 4 = .ok (.aload_n 0, 1) := by decide +kernel
theorem dX8_placeOf_5 : decode cX8_placeOf 5 = .ok (.getfield 31, 3) := by decide +kernel
theorem dX8_placeOf_8 : decode cX8_placeOf 8 = .ok (.iload_n 1, 1) := by decide +kernel
theorem dX8_placeOf_9 : decode cX8_placeOf 9 = .ok (.iaload, 1) := by decide +kernel
theorem dX8_placeOf_10 : decode cX8_placeOf 10 = .ok (.istore_n 2, 1) := by decide +kernel
theorem dX8_placeOf_11 : decode cX8_placeOf 11 = .ok (.iconst 0, 1) := by decide +kernel
theorem dX8_placeOf_12 : decode cX8_placeOf 12 = .ok (.istore_n 3, 1) := by decide +kernel
theorem dX8_placeOf_13 : decode cX8_placeOf 13 = .ok (.iconst 0, 1) := by decide +kernel
theorem dX8_placeOf_14 : decode cX8_placeOf 14 = .ok (.istore 4, 2) := by decide +kernel
theorem dX8_placeOf_16 : decode cX8_placeOf 16 = .ok (.iload 4, 2) := by decide +kernel
theorem dX8_placeOf_18 : decode cX8_placeOf 18 = .ok (.bipush 10, 2) := by decide +kernel
theorem dX8_placeOf_20 : decode cX8_placeOf 20 = .ok (.if_icmp .ge 35, 3) := by decide +kernel
theorem dX8_placeOf_23 : decode cX8_placeOf 23 = .ok (.aload_n 0, 1) := by decide +kernel
theorem dX8_placeOf_24 : decode cX8_placeOf 24 = .ok (.getfield 31, 3) := by decide +kernel
theorem dX8_placeOf_27 : decode cX8_placeOf 27 = .ok (.iload_n 1, 1) := by decide +kernel
theorem dX8_placeOf_28 : decode cX8_placeOf 28 = .ok (.iload 4, 2) := by decide +kernel
theorem dX8_placeOf_30 : decode cX8_placeOf 30 = .ok (.iastore, 1) := by decide +kernel
theorem dX8_placeOf_31 : decode cX8_placeOf 31 = .ok (.iload_n 3, 1) := by decide +kernel
theorem dX8_placeOf_32 : decode cX8_placeOf 32 = .ok (.aload_n 0, 1) := by decide +kernel
theorem dX8_placeOf_33 : decode cX8_placeOf 33 = .ok (.invokevirtual 250, 3) := by decide +kernel
theorem dX8_placeOf_36 : decode cX8_placeOf 36 = .ok (.ifCond .eq 10, 3) := by decide +kernel
theorem dX8_placeOf_39 : decode cX8_placeOf 39 = .ok (.iconst 1, 1) := by decide +kernel
theorem dX8_placeOf_40 : decode cX8_placeOf 40 = .ok (.iload 4, 2) := by decide +kernel
theorem dX8_placeOf_42 : decode cX8_placeOf 42 = .ok (.ishl, 1) := by decide +kernel
theorem dX8_placeOf_43 : decode cX8_placeOf 43 = .ok (.goto 4, 3) := by decide +kernel
theorem dX8_placeOf_46 : decode cX8_placeOf 46 = .ok (.iconst 0, 1) := by decide +kernel
theorem dX8_placeOf_47 : decode cX8_placeOf 47 = .ok (.ior, 1) := by decide +kernel
theorem dX8_placeOf_48 : decode cX8_placeOf 48 = .ok (.istore_n 3, 1) := by decide +kernel
theorem dX8_placeOf_49 : decode cX8_placeOf 49 = .ok (.iinc 4 1, 3) := by decide +kernel
theorem dX8_placeOf_52 : decode cX8_placeOf 52 = .ok (.goto (-36), 3) := by decide +kernel
theorem dX8_placeOf_55 : decode cX8_placeOf 55 = .ok (.aload_n 0, 1) := by decide +kernel
theorem dX8_placeOf_56 : decode cX8_placeOf 56 = .ok (.getfield 31, 3) := by decide +kernel
theorem dX8_placeOf_59 : decode cX8_placeOf 59 = .ok (.iload_n 1, 1) := by decide +kernel
theorem dX8_placeOf_60 : decode cX8_placeOf 60 = .ok (.iload_n 2, 1) := by decide +kernel
theorem dX8_placeOf_61 : decode cX8_placeOf 61 = .ok (.iastore, 1) := by decide +kernel
theorem dX8_placeOf_62 : decode cX8_placeOf 62 = .ok (.iload_n 3, 1) := by decide +kernel
theorem dX8_placeOf_63 : decode cX8_placeOf 63 = .ok (.ireturn, 1) := by decide +kernel
theorem dX8_place_0 : decode cX8_place 0 = .ok (.aload_n 0, 1) := by decide +kernel
theorem dX8_place_1 : decode cX8_place 1 = .ok (.iload_n 1, 1) := by decide +kernel
theorem dX8_place_2 : decode cX8_place 2 = .ok (.invokevirtual 142, 3) := by decide +kernel
theorem dX8_place_5 : decode cX8_place 5 = .ok (.ifCond .eq 11, 3) := by decide +kernel
theorem dX8_place_8 : decode cX8_place 8 = .ok (.aload_n 0, 1) := by decide +kernel
theorem dX8_place_9 : decode cX8_place 9 = .ok (.iload_n 1, 1) := by decide +kernel
theorem dX8_place_10 : decode cX8_place 10 = .ok (.invokevirtual 257, 3) := by decide +kernel
theorem dX8_place_13 : decode cX8_place 13 = .ok (.goto 5, 3) := by decide +kernel
theorem dX8_place_16 : decode cX8_place 16 = .ok (.bipush (-2), 2) := by decide +kernel
theorem dX8_place_18 : decode cX8_place 18 = .ok (.ireturn, 1) := by decide +kernel
theorem dX8_askNow_0 : decode cX8_askNow 0 = .ok (.aload_n 0, 1) := by decide +kernel
theorem dX8_askNow_1 : decode cX8_askNow 1 = .ok (.invokevirtual 254, 3) := by decide +kernel
theorem dX8_askNow_4 : decode cX8_askNow 4 = .ok (.istore_n 1, 1) := by decide +kernel
theorem dX8_askNow_5 : decode cX8_askNow 5 = .ok (.iconst 0, 1) := by decide +kernel
theorem dX8_askNow_6 : decode cX8_askNow 6 = .ok (.istore_n 2, 1) := by decide +kernel
theorem dX8_askNow_7 : decode cX8_askNow 7 = .ok (.iload_n 2, 1) := by decide +kernel
theorem dX8_askNow_8 : decode cX8_askNow 8 = .ok (.aload_n 0, 1) := by decide +kernel
theorem dX8_askNow_9 : decode cX8_askNow 9 = .ok (.getfield 117, 3) := by decide +kernel
theorem dX8_askNow_12 : decode cX8_askNow 12 = .ok (.if_icmp .ge 53, 3) := by decide +kernel
theorem dX8_askNow_15 : decode cX8_askNow 15 = .ok (.aload_n 0, 1) := by decide +kernel
theorem dX8_askNow_16 : decode cX8_askNow 16 = .ok (.iconst 1, 1) := by decide +kernel
theorem dX8_askNow_17 : decode cX8_askNow 17 = .ok (.iload_n 2, 1) := by decide +kernel
theorem dX8_askNow_18 : decode cX8_askNow 18 = .ok (.ishl, 1) := by decide +kernel
theorem dX8_askNow_19 : decode cX8_askNow 19 = .ok (.putfield 154, 3) := by decide +kernel
theorem dX8_askNow_22 : decode cX8_askNow 22 = .ok (.aload_n 0, 1) := by decide +kernel
theorem dX8_askNow_23 : decode cX8_askNow 23 = .ok (.invokevirtual 174, 3) := by decide +kernel
theorem dX8_askNow_26 : decode cX8_askNow 26 = .ok (.iconst 0, 1) := by decide +kernel
theorem dX8_askNow_27 : decode cX8_askNow 27 = .ok (.istore_n 3, 1) := by decide +kernel
theorem dX8_askNow_28 : decode cX8_askNow 28 = .ok (.iload_n 3, 1) := by decide +kernel
theorem dX8_askNow_29 : decode cX8_askNow 29 = .ok (.aload_n 0, 1) := by decide +kernel
theorem dX8_askNow_30 : decode cX8_askNow 30 = .ok (.getfield 114, 3) := by decide +kernel
theorem dX8_askNow_33 : decode cX8_askNow 33 = .ok (.if_icmp .ge 26, 3) := by decide +kernel
theorem dX8_askNow_36 : decode cX8_askNow 36 = .ok (.aload_n 0, 1) := by decide +kernel
theorem dX8_askNow_37 : decode cX8_askNow 37 = .ok (.getfield 65, 3) := by decide +kernel
theorem dX8_askNow_40 : decode cX8_askNow 40 = .ok (.bipush 8, 2) := by decide +kernel
theorem dX8_askNow_42 : decode cX8_askNow 42 = .ok (.iload_n 2, 1) := by decide +kernel
theorem dX8_askNow_43 : decode cX8_askNow 43 = .ok (.imul, 1) := by decide +kernel
theorem dX8_askNow_44 : decode cX8_askNow 44 = .ok (.iload_n 3, 1) := by decide +kernel
theorem dX8_askNow_45 : decode cX8_askNow 45 = .ok (.iadd, 1) := by decide +kernel
theorem dX8_askNow_46 : decode cX8_askNow 46 = .ok (.aload_n 0, 1) := by decide +kernel
theorem dX8_askNow_47 : decode cX8_askNow 47 = .ok (.iload_n 3, 1) := by decide +kernel
theorem dX8_askNow_48 : decode cX8_askNow 48 = .ok (.iconst (-1), 1) := by decide +kernel
theorem dX8_askNow_49 : decode cX8_askNow 49 = .ok (.invokevirtual 247, 3) := by decide +kernel
theorem dX8_askNow_52 : decode cX8_askNow 52 = .ok (.iastore, 1) := by decide +kernel
theorem dX8_askNow_53 : decode cX8_askNow 53 = .ok (.iinc 3 1, 3) := by decide +kernel
theorem dX8_askNow_56 : decode cX8_askNow 56 = .ok (.goto (-28), 3) := by decide +kernel
theorem dX8_askNow_59 : decode cX8_askNow 59 = .ok (.iinc 2 1, 3) := by decide +kernel
theorem dX8_askNow_62 : decode cX8_askNow 62 = .ok (.goto (-55), 3) := by decide +kernel
theorem dX8_askNow_65 : decode cX8_askNow 65 = .ok (.iconst (-1), 1) := by decide +kernel
theorem dX8_askNow_66 : decode cX8_askNow 66 = .ok (.istore_n 2, 1) := by decide +kernel
theorem dX8_askNow_67 : decode cX8_askNow 67 = .ok (.iconst 0, 1) := by decide +kernel
theorem dX8_askNow_68 : decode cX8_askNow 68 = .ok (.istore_n 3, 1) := by decide +kernel
theorem dX8_askNow_69 : decode cX8_askNow 69 = .ok (.iconst 0, 1) := by decide +kernel
theorem dX8_askNow_70 : decode cX8_askNow 70 = .ok (.istore 4, 2) := by decide +kernel
theorem dX8_askNow_72 : decode cX8_askNow 72 = .ok (.iload 4, 2) := by decide +kernel
theorem dX8_askNow_74 : decode cX8_askNow 74 = .ok (.aload_n 0, 1) := by decide +kernel
theorem dX8_askNow_75 : decode cX8_askNow 75 = .ok (.getfield 114, 3) := by decide +kernel
theorem dX8_askNow_78 : decode cX8_askNow 78 = .ok (.if_icmp .ge 166, 3) := by decide +kernel
theorem dX8_askNow_81 : decode cX8_askNow 81 = .ok (.iconst 0, 1) := by decide +kernel
theorem dX8_askNow_82 : decode cX8_askNow 82 = .ok (.istore 5, 2) := by decide +kernel
theorem dX8_askNow_84 : decode cX8_askNow 84 = .ok (.iconst 0, 1) := by decide +kernel
theorem dX8_askNow_85 : decode cX8_askNow 85 = .ok (.istore 6, 2) := by decide +kernel
theorem dX8_askNow_87 : decode cX8_askNow 87 = .ok (.iload 6, 2) := by decide +kernel
theorem dX8_askNow_89 : decode cX8_askNow 89 = .ok (.aload_n 0, 1) := by decide +kernel
theorem dX8_askNow_90 : decode cX8_askNow 90 = .ok (.getfield 117, 3) := by decide +kernel
theorem dX8_askNow_93 : decode cX8_askNow 93 = .ok (.if_icmp .ge 103, 3) := by decide +kernel
theorem dX8_askNow_96 : decode cX8_askNow 96 = .ok (.iconst 0, 1) := by decide +kernel
theorem dX8_askNow_97 : decode cX8_askNow 97 = .ok (.istore 7, 2) := by decide +kernel
theorem dX8_askNow_99 : decode cX8_askNow 99 = .ok (.iconst 0, 1) := by decide +kernel
theorem dX8_askNow_100 : decode cX8_askNow 100 = .ok (.istore 8, 2) := by decide +kernel
theorem dX8_askNow_102 : decode cX8_askNow 102 = .ok (.iload 8, 2) := by decide +kernel
theorem dX8_askNow_104 : decode cX8_askNow 104 = .ok (.aload_n 0, 1) := by decide +kernel
theorem dX8_askNow_105 : decode cX8_askNow 105 = .ok (.getfield 117, 3) := by decide +kernel
theorem dX8_askNow_108 : decode cX8_askNow 108 = .ok (.if_icmp .ge 66, 3) := by decide +kernel
theorem dX8_askNow_111 : decode cX8_askNow 111 = .ok (.iload 7, 2) := by decide +kernel
theorem dX8_askNow_113 : decode cX8_askNow 113 = .ok (.iload_n 1, 1) := by decide +kernel
theorem dX8_askNow_114 : decode cX8_askNow 114 = .ok (.iload 6, 2) := by decide +kernel
theorem dX8_askNow_116 : decode cX8_askNow 116 = .ok (.invokestatic 157, 3) := by decide +kernel
theorem dX8_askNow_119 : decode cX8_askNow 119 = .ok (.ifCond .eq 45, 3) := by decide +kernel
theorem dX8_askNow_122 : decode cX8_askNow 122 = .ok (.iload_n 1, 1) := by decide +kernel
theorem dX8_askNow_123 : decode cX8_askNow 123 = .ok (.iload 8, 2) := by decide +kernel
theorem dX8_askNow_125 : decode cX8_askNow 125 = .ok (.invokestatic 157, 3) := by decide +kernel
theorem dX8_askNow_128 : decode cX8_askNow 128 = .ok (.ifCond .eq 36, 3) := by decide +kernel
theorem dX8_askNow_131 : decode cX8_askNow 131 = .ok (.aload_n 0, 1) := by decide +kernel
theorem dX8_askNow_132 : decode cX8_askNow 132 = .ok (.getfield 65, 3) := by decide +kernel
theorem dX8_askNow_135 : decode cX8_askNow 135 = .ok (.bipush 8, 2) := by decide +kernel
theorem dX8_askNow_137 : decode cX8_askNow 137 = .ok (.iload 6, 2) := by decide +kernel
theorem dX8_askNow_139 : decode cX8_askNow 139 = .ok (.imul, 1) := by decide +kernel
theorem dX8_askNow_140 : decode cX8_askNow 140 = .ok (.iload 4, 2) := by decide +kernel
theorem dX8_askNow_142 : decode cX8_askNow 142 = .ok (.iadd, 1) := by decide +kernel
theorem dX8_askNow_143 : decode cX8_askNow 143 = .ok (.iaload, 1) := by decide +kernel
theorem dX8_askNow_144 : decode cX8_askNow 144 = .ok (.aload_n 0, 1) := by decide +kernel
theorem dX8_askNow_145 : decode cX8_askNow 145 = .ok (.getfield 65, 3) := by decide +kernel
theorem dX8_askNow_148 : decode cX8_askNow 148 = .ok (.bipush 8, 2) := by decide +kernel
theorem dX8_askNow_150 : decode cX8_askNow 150 = .ok (.iload 8, 2) := by decide +kernel
theorem dX8_askNow_152 : decode cX8_askNow 152 = .ok (.imul, 1) := by decide +kernel
theorem dX8_askNow_153 : decode cX8_askNow 153 = .ok (.iload 4, 2) := by decide +kernel
theorem dX8_askNow_155 : decode cX8_askNow 155 = .ok (.iadd, 1) := by decide +kernel
theorem dX8_askNow_156 : decode cX8_askNow 156 = .ok (.iaload, 1) := by decide +kernel
theorem dX8_askNow_157 : decode cX8_askNow 157 = .ok (.if_icmp .ne 7, 3) := by decide +kernel
theorem dX8_askNow_160 : decode cX8_askNow 160 = .ok (.iconst 1, 1) := by decide +kernel
theorem dX8_askNow_161 : decode cX8_askNow 161 = .ok (.goto 4, 3) := by decide +kernel
theorem dX8_askNow_164 : decode cX8_askNow 164 = .ok (.iconst 0, 1) := by decide +kernel
theorem dX8_askNow_165 : decode cX8_askNow 165 = .ok (.iadd, 1) := by decide +kernel
theorem dX8_askNow_166 : decode cX8_askNow 166 = .ok (.istore 7, 2) := by decide +kernel
theorem dX8_askNow_168 : decode cX8_askNow 168 = .ok (.iinc 8 1, 3) := by decide +kernel
theorem dX8_askNow_171 : decode cX8_askNow 171 = .ok (.goto (-69), 3) := by decide +kernel
theorem dX8_askNow_174 : decode cX8_askNow 174 = .ok (.iload 7, 2) := by decide +kernel
theorem dX8_askNow_176 : decode cX8_askNow 176 = .ok (.iload 5, 2) := by decide +kernel
theorem dX8_askNow_178 : decode cX8_askNow 178 = .ok (.if_icmp .le 8, 3) := by decide +kernel
theorem dX8_askNow_181 : decode cX8_askNow 181 = .ok (.iload 7, 2) := by decide +kernel
theorem dX8_askNow_183 : decode cX8_askNow 183 = .ok (.goto 5, 3) := by decide +kernel
theorem dX8_askNow_186 : decode cX8_askNow 186 = .ok (.iload 5, 2) := by decide +kernel
theorem dX8_askNow_188 : decode cX8_askNow 188 = .ok (.istore 5, 2) := by decide +kernel
theorem dX8_askNow_190 : decode cX8_askNow 190 = .ok (.iinc 6 1, 3) := by decide +kernel
theorem dX8_askNow_193 : decode cX8_askNow 193 = .ok (.goto (-106), 3) := by decide +kernel
theorem dX8_askNow_196 : decode cX8_askNow 196 = .ok (.iload_n 2, 1) := by decide +kernel
theorem dX8_askNow_197 : decode cX8_askNow 197 = .ok (.iconst (-1), 1) := by decide +kernel
theorem dX8_askNow_198 : decode cX8_askNow 198 = .ok (.if_icmp .eq 9, 3) := by decide +kernel
theorem dX8_askNow_201 : decode cX8_askNow 201 = .ok (.iload 5, 2) := by decide +kernel
theorem dX8_askNow_203 : decode cX8_askNow 203 = .ok (.iload_n 3, 1) := by decide +kernel
theorem dX8_askNow_204 : decode cX8_askNow 204 = .ok (.if_icmp .ge 7, 3) := by decide +kernel
theorem dX8_askNow_207 : decode cX8_askNow 207 = .ok (.iconst 1, 1) := by decide +kernel
theorem dX8_askNow_208 : decode cX8_askNow 208 = .ok (.goto 4, 3) := by decide +kernel
theorem dX8_askNow_211 : decode cX8_askNow 211 = .ok (.iconst 0, 1) := by decide +kernel
theorem dX8_askNow_212 : decode cX8_askNow 212 = .ok (.istore 6, 2) := by decide +kernel
theorem dX8_askNow_214 : decode cX8_askNow 214 = .ok (.iload 6, 2) := by decide +kernel
theorem dX8_askNow_216 : decode cX8_askNow 216 = .ok (.ifCond .eq 8, 3) := by decide +kernel
theorem dX8_askNow_219 : decode cX8_askNow 219 = .ok (.iload 4, 2) := by decide +kernel
theorem dX8_askNow_221 : decode cX8_askNow 221 = .ok (.goto 4, 3) := by decide +kernel
theorem dX8_askNow_224 : decode cX8_askNow 224 = .ok (.iload_n 2, 1) := by decide +kernel
theorem dX8_askNow_225 : decode cX8_askNow 225 = .ok (.istore_n 2, 1) := by decide +kernel
theorem dX8_askNow_226 : decode cX8_askNow 226 = .ok (.iload 6, 2) := by decide +kernel
theorem dX8_askNow_228 : decode cX8_askNow 228 = .ok (.ifCond .eq 8, 3) := by decide +kernel
theorem dX8_askNow_231 : decode cX8_askNow 231 = .ok (.iload 5, 2) := by decide +kernel
theorem dX8_askNow_233 : decode cX8_askNow 233 = .ok (.goto 4, 3) := by decide +kernel
theorem dX8_askNow_236 : decode cX8_askNow 236 = .ok (.iload_n 3, 1) := by decide +kernel
theorem dX8_askNow_237 : decode cX8_askNow 237 = .ok (.istore_n 3, 1) := by decide +kernel
theorem dX8_askNow_238 : decode cX8_askNow 238 = .ok (.iinc 4 1, 3) := by decide +kernel
theorem dX8_askNow_241 : decode cX8_askNow 241 = .ok (.goto (-169), 3) := by decide +kernel
theorem dX8_askNow_244 : decode cX8_askNow 244 = .ok (.iload_n 2, 1) := by decide +kernel
theorem dX8_askNow_245 : decode cX8_askNow 245 = .ok (.ireturn, 1) := by decide +kernel
theorem dX8_ask_0 : decode cX8_ask 0 = .ok (.aload_n 0, 1) := by decide +kernel
theorem dX8_ask_1 : decode cX8_ask 1 = .ok (.invokevirtual 260, 3) := by decide +kernel
theorem dX8_ask_4 : decode cX8_ask 4 = .ok (.ireturn, 1) := by decide +kernel
theorem dX8_feignOf_0 : decode cX8_feignOf 0 = .ok (.aload_n 0, 1) := by decide +kernel
theorem dX8_feignOf_1 : decode cX8_feignOf 1 = .ok (.invokevirtual 171, 3) := by decide +kernel
theorem dX8_feignOf_4 : decode cX8_feignOf 4 = .ok (.lconst 0, 1) := by decide +kernel
theorem dX8_feignOf_5 : decode cX8_feignOf 5 = .ok (.lstore 4, 2) := by decide +kernel
theorem dX8_feignOf_7 : decode cX8_feignOf 7 = .ok (.iconst 0, 1) := by decide +kernel
theorem dX8_feignOf_8 : decode cX8_feignOf 8 = .ok (.istore 6, 2) := by decide +kernel
theorem dX8_feignOf_10 : decode cX8_feignOf 10 = .ok (.iload 6, 2) := by decide +kernel
theorem dX8_feignOf_12 : decode cX8_feignOf 12 = .ok (.aload_n 0, 1) := by decide +kernel
theorem dX8_feignOf_13 : decode cX8_feignOf 13 = .ok (.getfield 114, 3) := by decide +kernel
theorem dX8_feignOf_16 : decode cX8_feignOf 16 = .ok (.if_icmp .ge 23, 3) := by decide +kernel
theorem dX8_feignOf_19 : decode cX8_feignOf 19 = .ok (.aload_n 0, 1) := by decide +kernel
theorem dX8_feignOf_20 : decode cX8_feignOf 20 = .ok (.getfield 68, 3) := by decide +kernel
theorem dX8_feignOf_23 : decode cX8_feignOf 23 = .ok (.iload 6, 2) := by decide +kernel
theorem dX8_feignOf_25 : decode cX8_feignOf 25 = .ok (.aload_n 0, 1) := by decide +kernel
theorem dX8_feignOf_26 : decode cX8_feignOf 26 = .ok (.getfield 25, 3) := by decide +kernel
theorem dX8_feignOf_29 : decode cX8_feignOf 29 = .ok (.iload 6, 2) := by decide +kernel
theorem dX8_feignOf_31 : decode cX8_feignOf 31 = .ok (.iaload, 1) := by decide +kernel
theorem dX8_feignOf_32 : decode cX8_feignOf 32 = .ok (.iastore, 1) := by decide +kernel
theorem dX8_feignOf_33 : decode cX8_feignOf 33 = .ok (.iinc 6 1, 3) := by decide +kernel
theorem dX8_feignOf_36 : decode cX8_feignOf 36 = .ok (.goto (-26), 3) := by decide +kernel
theorem dX8_feignOf_39 : decode cX8_feignOf 39 = .ok (.iconst 0, 1) := by decide +kernel
theorem dX8_feignOf_40 : decode cX8_feignOf 40 = .ok (.istore 6, 2) := by decide +kernel
theorem dX8_feignOf_42 : decode cX8_feignOf 42 = .ok (.iload 6, 2) := by decide +kernel
theorem dX8_feignOf_44 : decode cX8_feignOf 44 = .ok (.iconst 1, 1) := by decide +kernel
theorem dX8_feignOf_45 : decode cX8_feignOf 45 = .ok (.aload_n 0, 1) := by decide +kernel
theorem dX8_feignOf_46 : decode cX8_feignOf 46 = .ok (.getfield 114, 3) := by decide +kernel
theorem dX8_feignOf_49 : decode cX8_feignOf 49 = .ok (.ishl, 1) := by decide +kernel
theorem dX8_feignOf_50 : decode cX8_feignOf 50 = .ok (.if_icmp .ge 106, 3) := by decide +kernel
theorem dX8_feignOf_53 : decode cX8_feignOf 53 = .ok (.lconst 1, 1) := by decide +kernel
theorem dX8_feignOf_54 : decode cX8_feignOf 54 = .ok (.lstore 7, 2) := by decide +kernel
theorem dX8_feignOf_56 : decode cX8_feignOf 56 = .ok (.iconst 0, 1) := by decide +kernel
theorem dX8_feignOf_57 : decode cX8_feignOf 57 = .ok (.istore 9, 2) := by decide +kernel
theorem dX8_feignOf_59 : decode cX8_feignOf 59 = .ok (.iload 9, 2) := by decide +kernel
theorem dX8_feignOf_61 : decode cX8_feignOf 61 = .ok (.aload_n 0, 1) := by decide +kernel
theorem dX8_feignOf_62 : decode cX8_feignOf 62 = .ok (.getfield 114, 3) := by decide +kernel
theorem dX8_feignOf_65 : decode cX8_feignOf 65 = .ok (.if_icmp .ge 62, 3) := by decide +kernel
theorem dX8_feignOf_68 : decode cX8_feignOf 68 = .ok (.lload 7, 2) := by decide +kernel
theorem dX8_feignOf_70 : decode cX8_feignOf 70 = .ok (.iload 6, 2) := by decide +kernel
theorem dX8_feignOf_72 : decode cX8_feignOf 72 = .ok (.iload 9, 2) := by decide +kernel
theorem dX8_feignOf_74 : decode cX8_feignOf 74 = .ok (.invokestatic 157, 3) := by decide +kernel
theorem dX8_feignOf_77 : decode cX8_feignOf 77 = .ok (.ifCond .eq 8, 3) := by decide +kernel
theorem dX8_feignOf_80 : decode cX8_feignOf 80 = .ok (.iload_n 1, 1) := by decide +kernel
theorem dX8_feignOf_81 : decode cX8_feignOf 81 = .ok (.i2l, 1) := by decide +kernel
theorem dX8_feignOf_82 : decode cX8_feignOf 82 = .ok (.goto 8, 3) := by decide +kernel
theorem dX8_feignOf_85 : decode cX8_feignOf 85 = .ok (.bipush 16, 2) := by decide +kernel
theorem dX8_feignOf_87 : decode cX8_feignOf 87 = .ok (.iload_n 1, 1) := by decide +kernel
theorem dX8_feignOf_88 : decode cX8_feignOf 88 = .ok (.isub, 1) := by decide +kernel
theorem dX8_feignOf_89 : decode cX8_feignOf 89 = .ok (.i2l, 1) := by decide +kernel
theorem dX8_feignOf_90 : decode cX8_feignOf 90 = .ok (.lmul, 1) := by decide +kernel
theorem dX8_feignOf_91 : decode cX8_feignOf 91 = .ok (.lstore 7, 2) := by decide +kernel
theorem dX8_feignOf_93 : decode cX8_feignOf 93 = .ok (.aload_n 0, 1) := by decide +kernel
theorem dX8_feignOf_94 : decode cX8_feignOf 94 = .ok (.getfield 25, 3) := by decide +kernel
theorem dX8_feignOf_97 : decode cX8_feignOf 97 = .ok (.iload 9, 2) := by decide +kernel
theorem dX8_feignOf_99 : decode cX8_feignOf 99 = .ok (.iload 6, 2) := by decide +kernel
theorem dX8_feignOf_101 : decode cX8_feignOf 101 = .ok (.iload 9, 2) := by decide +kernel
theorem dX8_feignOf_103 : decode cX8_feignOf 103 = .ok (.invokestatic 157, 3) := by decide +kernel
theorem dX8_feignOf_106 : decode cX8_feignOf 106 = .ok (.ifCond .eq 7, 3) := by decide +kernel
theorem dX8_feignOf_109 : decode cX8_feignOf 109 = .ok (.iconst 3, 1) := by decide +kernel
theorem dX8_feignOf_110 : decode cX8_feignOf 110 = .ok (.goto 10, 3) := by decide +kernel
theorem dX8_feignOf_113 : decode cX8_feignOf 113 = .ok (.aload_n 0, 1) := by decide +kernel
theorem dX8_feignOf_114 : decode cX8_feignOf 114 = .ok (.getfield 68, 3) := by decide +kernel
theorem dX8_feignOf_117 : decode cX8_feignOf 117 = .ok (.iload 9, 2) := by decide +kernel
theorem dX8_feignOf_119 : decode cX8_feignOf 119 = .ok (.iaload, 1) := by decide +kernel
theorem dX8_feignOf_120 : decode cX8_feignOf 120 = .ok (.iastore, 1) := by decide +kernel
theorem dX8_feignOf_121 : decode cX8_feignOf 121 = .ok (.iinc 9 1, 3) := by decide +kernel
theorem dX8_feignOf_124 : decode cX8_feignOf 124 = .ok (.goto (-65), 3) := by decide +kernel
theorem dX8_feignOf_127 : decode cX8_feignOf 127 = .ok (.aload_n 0, 1) := by decide +kernel
theorem dX8_feignOf_128 : decode cX8_feignOf 128 = .ok (.invokevirtual 174, 3) := by decide +kernel
theorem dX8_feignOf_131 : decode cX8_feignOf 131 = .ok (.lload 4, 2) := by decide +kernel
theorem dX8_feignOf_133 : decode cX8_feignOf 133 = .ok (.aload_n 0, 1) := by decide +kernel
theorem dX8_feignOf_134 : decode cX8_feignOf 134 = .ok (.iload_n 2, 1) := by decide +kernel
theorem dX8_feignOf_135 : decode cX8_feignOf 135 = .ok (.invokevirtual 211, 3) := by decide +kernel
theorem dX8_feignOf_138 : decode cX8_feignOf 138 = .ok (.ifCond .eq 8, 3) := by decide +kernel
end
section
theorem dX8_feignOf_141 : decode cX8_feignOf 141 = .ok (.lload 7, 2) := by decide +kernel
theorem dX8_feignOf_143 : decode cX8_feignOf 143 = .ok (.goto 4, 3) := by decide +kernel
theorem dX8_feignOf_146 : decode cX8_feignOf 146 = .ok (.lconst 0, 1) := by decide +kernel
theorem dX8_feignOf_147 : decode cX8_feignOf 147 = .ok (.ladd, 1) := by decide +kernel
theorem dX8_feignOf_148 : decode cX8_feignOf 148 = .ok (.lstore 4, 2) := by decide +kernel
theorem dX8_feignOf_150 : decode cX8_feignOf 150 = .ok (.iinc 6 1, 3) := by decide +kernel
theorem dX8_feignOf_153 : decode cX8_feignOf 153 = .ok (.goto (-111), 3) := by decide +kernel
theorem dX8_feignOf_156 : decode cX8_feignOf 156 = .ok (.iconst 0, 1) := by decide +kernel
theorem dX8_feignOf_157 : decode cX8_feignOf 157 = .ok (.istore 6, 2) := by decide +kernel
theorem dX8_feignOf_159 : decode cX8_feignOf 159 = .ok (.iload 6, 2) := by decide +kernel
theorem dX8_feignOf_161 : decode cX8_feignOf 161 = .ok (.aload_n 0, 1) := by decide +kernel
theorem dX8_feignOf_162 : decode cX8_feignOf 162 = .ok (.getfield 114, 3) := by decide +kernel
theorem dX8_feignOf_165 : decode cX8_feignOf 165 = .ok (.if_icmp .ge 23, 3) := by decide +kernel
theorem dX8_feignOf_168 : decode cX8_feignOf 168 = .ok (.aload_n 0, 1) := by decide +kernel
theorem dX8_feignOf_169 : decode cX8_feignOf 169 = .ok (.getfield 25, 3) := by decide +kernel
theorem dX8_feignOf_172 : decode cX8_feignOf 172 = .ok (.iload 6, 2) := by decide +kernel
theorem dX8_feignOf_174 : decode cX8_feignOf 174 = .ok (.aload_n 0, 1) := by decide +kernel
theorem dX8_feignOf_175 : decode cX8_feignOf 175 = .ok (.getfield 68, 3) := by decide +kernel
theorem dX8_feignOf_178 : decode cX8_feignOf 178 = .ok (.iload 6, 2) := by decide +kernel
theorem dX8_feignOf_180 : decode cX8_feignOf 180 = .ok (.iaload, 1) := by decide +kernel
theorem dX8_feignOf_181 : decode cX8_feignOf 181 = .ok (.iastore, 1) := by decide +kernel
theorem dX8_feignOf_182 : decode cX8_feignOf 182 = .ok (.iinc 6 1, 3) := by decide +kernel
theorem dX8_feignOf_185 : decode cX8_feignOf 185 = .ok (.goto (-26), 3) := by decide +kernel
theorem dX8_feignOf_188 : decode cX8_feignOf 188 = .ok (.lload 4, 2) := by decide +kernel
theorem dX8_feignOf_190 : decode cX8_feignOf 190 = .ok (.lconst 1, 1) := by decide +kernel
theorem dX8_feignOf_191 : decode cX8_feignOf 191 = .ok (.iconst 4, 1) := by decide +kernel
theorem dX8_feignOf_192 : decode cX8_feignOf 192 = .ok (.aload_n 0, 1) := by decide +kernel
theorem dX8_feignOf_193 : decode cX8_feignOf 193 = .ok (.getfield 114, 3) := by decide +kernel
theorem dX8_feignOf_196 : decode cX8_feignOf 196 = .ok (.imul, 1) := by decide +kernel
theorem dX8_feignOf_197 : decode cX8_feignOf 197 = .ok (.lshl, 1) := by decide +kernel
theorem dX8_feignOf_198 : decode cX8_feignOf 198 = .ok (.iload_n 3, 1) := by decide +kernel
theorem dX8_feignOf_199 : decode cX8_feignOf 199 = .ok (.invokestatic 263, 3) := by decide +kernel
theorem dX8_feignOf_202 : decode cX8_feignOf 202 = .ok (.lreturn, 1) := by decide +kernel
theorem dX8_feign_0 : decode cX8_feign 0 = .ok (.iload_n 1, 1) := by decide +kernel
theorem dX8_feign_1 : decode cX8_feign 1 = .ok (.iconst 0, 1) := by decide +kernel
theorem dX8_feign_2 : decode cX8_feign 2 = .ok (.bipush 16, 2) := by decide +kernel
theorem dX8_feign_4 : decode cX8_feign 4 = .ok (.invokestatic 98, 3) := by decide +kernel
theorem dX8_feign_7 : decode cX8_feign 7 = .ok (.ifCond .eq 30, 3) := by decide +kernel
theorem dX8_feign_10 : decode cX8_feign 10 = .ok (.aload_n 0, 1) := by decide +kernel
theorem dX8_feign_11 : decode cX8_feign 11 = .ok (.iload_n 2, 1) := by decide +kernel
theorem dX8_feign_12 : decode cX8_feign 12 = .ok (.invokevirtual 142, 3) := by decide +kernel
theorem dX8_feign_15 : decode cX8_feign 15 = .ok (.ifCond .eq 22, 3) := by decide +kernel
theorem dX8_feign_18 : decode cX8_feign 18 = .ok (.iload_n 3, 1) := by decide +kernel
theorem dX8_feign_19 : decode cX8_feign 19 = .ok (.iconst 0, 1) := by decide +kernel
theorem dX8_feign_20 : decode cX8_feign 20 = .ok (.iconst 1, 1) := by decide +kernel
theorem dX8_feign_21 : decode cX8_feign 21 = .ok (.invokestatic 98, 3) := by decide +kernel
theorem dX8_feign_24 : decode cX8_feign 24 = .ok (.ifCond .eq 13, 3) := by decide +kernel
theorem dX8_feign_27 : decode cX8_feign 27 = .ok (.aload_n 0, 1) := by decide +kernel
theorem dX8_feign_28 : decode cX8_feign 28 = .ok (.iload_n 1, 1) := by decide +kernel
theorem dX8_feign_29 : decode cX8_feign 29 = .ok (.iload_n 2, 1) := by decide +kernel
theorem dX8_feign_30 : decode cX8_feign 30 = .ok (.iload_n 3, 1) := by decide +kernel
theorem dX8_feign_31 : decode cX8_feign 31 = .ok (.invokevirtual 267, 3) := by decide +kernel
theorem dX8_feign_34 : decode cX8_feign 34 = .ok (.goto 8, 3) := by decide +kernel
theorem dX8_feign_37 : decode cX8_feign 37 = .ok (.bipush (-2), 2) := by decide +kernel
theorem dX8_feign_39 : decode cX8_feign 39 = .ok (.invokestatic 271, 3) := by decide +kernel
theorem dX8_feign_42 : decode cX8_feign 42 = .ok (.lreturn, 1) := by decide +kernel
theorem dX8_marksNow_0 : decode cX8_marksNow 0 = .ok (.iconst 0, 1) := by decide +kernel
theorem dX8_marksNow_1 : decode cX8_marksNow 1 = .ok (.istore_n 1, 1) := by decide +kernel
theorem dX8_marksNow_2 : decode cX8_marksNow 2 = .ok (.iconst 0, 1) := by decide +kernel
theorem dX8_marksNow_3 : decode cX8_marksNow 3 = .ok (.istore_n 2, 1) := by decide +kernel
theorem dX8_marksNow_4 : decode cX8_marksNow 4 = .ok (.iload_n 2, 1) := by decide +kernel
theorem dX8_marksNow_5 : decode cX8_marksNow 5 = .ok (.aload_n 0, 1) := by decide +kernel
theorem dX8_marksNow_6 : decode cX8_marksNow 6 = .ok (.getfield 114, 3) := by decide +kernel
theorem dX8_marksNow_9 : decode cX8_marksNow 9 = .ok (.if_icmp .ge 18, 3) := by decide +kernel
theorem dX8_marksNow_12 : decode cX8_marksNow 12 = .ok (.iload_n 1, 1) := by decide +kernel
theorem dX8_marksNow_13 : decode cX8_marksNow 13 = .ok (.aload_n 0, 1) := by decide +kernel
theorem dX8_marksNow_14 : decode cX8_marksNow 14 = .ok (.iload_n 2, 1) := by decide +kernel
theorem dX8_marksNow_15 : decode cX8_marksNow 15 = .ok (.iconst (-1), 1) := by decide +kernel
theorem dX8_marksNow_16 : decode cX8_marksNow 16 = .ok (.invokevirtual 247, 3) := by decide +kernel
theorem dX8_marksNow_19 : decode cX8_marksNow 19 = .ok (.iadd, 1) := by decide +kernel
theorem dX8_marksNow_20 : decode cX8_marksNow 20 = .ok (.istore_n 1, 1) := by decide +kernel
theorem dX8_marksNow_21 : decode cX8_marksNow 21 = .ok (.iinc 2 1, 3) := by decide +kernel
theorem dX8_marksNow_24 : decode cX8_marksNow 24 = .ok (.goto (-20), 3) := by decide +kernel
theorem dX8_marksNow_27 : decode cX8_marksNow 27 = .ok (.iload_n 1, 1) := by decide +kernel
theorem dX8_marksNow_28 : decode cX8_marksNow 28 = .ok (.ireturn, 1) := by decide +kernel
theorem dX8_courtOf_0 : decode cX8_courtOf 0 = .ok (.aload_n 0, 1) := by decide +kernel
theorem dX8_courtOf_1 : decode cX8_courtOf 1 = .ok (.invokevirtual 171, 3) := by decide +kernel
theorem dX8_courtOf_4 : decode cX8_courtOf 4 = .ok (.iload_n 1, 1) := by decide +kernel
theorem dX8_courtOf_5 : decode cX8_courtOf 5 = .ok (.istore 4, 2) := by decide +kernel
theorem dX8_courtOf_7 : decode cX8_courtOf 7 = .ok (.aload_n 0, 1) := by decide +kernel
theorem dX8_courtOf_8 : decode cX8_courtOf 8 = .ok (.iload_n 2, 1) := by decide +kernel
theorem dX8_courtOf_9 : decode cX8_courtOf 9 = .ok (.putfield 117, 3) := by decide +kernel
theorem dX8_courtOf_12 : decode cX8_courtOf 12 = .ok (.iconst 0, 1) := by decide +kernel
theorem dX8_courtOf_13 : decode cX8_courtOf 13 = .ok (.istore 5, 2) := by decide +kernel
theorem dX8_courtOf_15 : decode cX8_courtOf 15 = .ok (.iload 5, 2) := by decide +kernel
theorem dX8_courtOf_17 : decode cX8_courtOf 17 = .ok (.iload_n 2, 1) := by decide +kernel
theorem dX8_courtOf_18 : decode cX8_courtOf 18 = .ok (.if_icmp .ge 89, 3) := by decide +kernel
theorem dX8_courtOf_21 : decode cX8_courtOf 21 = .ok (.ldc_w 275, 3) := by decide +kernel
theorem dX8_courtOf_24 : decode cX8_courtOf 24 = .ok (.iload 4, 2) := by decide +kernel
theorem dX8_courtOf_26 : decode cX8_courtOf 26 = .ok (.imul, 1) := by decide +kernel
theorem dX8_courtOf_27 : decode cX8_courtOf 27 = .ok (.sipush 12345, 3) := by decide +kernel
theorem dX8_courtOf_30 : decode cX8_courtOf 30 = .ok (.iadd, 1) := by decide +kernel
theorem dX8_courtOf_31 : decode cX8_courtOf 31 = .ok (.istore 4, 2) := by decide +kernel
theorem dX8_courtOf_33 : decode cX8_courtOf 33 = .ok (.aload_n 0, 1) := by decide +kernel
theorem dX8_courtOf_34 : decode cX8_courtOf 34 = .ok (.getfield 28, 3) := by decide +kernel
theorem dX8_courtOf_37 : decode cX8_courtOf 37 = .ok (.iload 5, 2) := by decide +kernel
theorem dX8_courtOf_39 : decode cX8_courtOf 39 = .ok (.iload 4, 2) := by decide +kernel
theorem dX8_courtOf_41 : decode cX8_courtOf 41 = .ok (.bipush 16, 2) := by decide +kernel
theorem dX8_courtOf_43 : decode cX8_courtOf 43 = .ok (.iushr, 1) := by decide +kernel
theorem dX8_courtOf_44 : decode cX8_courtOf 44 = .ok (.bipush 50, 2) := by decide +kernel
theorem dX8_courtOf_46 : decode cX8_courtOf 46 = .ok (.irem, 1) := by decide +kernel
theorem dX8_courtOf_47 : decode cX8_courtOf 47 = .ok (.iastore, 1) := by decide +kernel
theorem dX8_courtOf_48 : decode cX8_courtOf 48 = .ok (.ldc_w 275, 3) := by decide +kernel
theorem dX8_courtOf_51 : decode cX8_courtOf 51 = .ok (.iload 4, 2) := by decide +kernel
theorem dX8_courtOf_53 : decode cX8_courtOf 53 = .ok (.imul, 1) := by decide +kernel
theorem dX8_courtOf_54 : decode cX8_courtOf 54 = .ok (.sipush 12345, 3) := by decide +kernel
theorem dX8_courtOf_57 : decode cX8_courtOf 57 = .ok (.iadd, 1) := by decide +kernel
theorem dX8_courtOf_58 : decode cX8_courtOf 58 = .ok (.istore 4, 2) := by decide +kernel
theorem dX8_courtOf_60 : decode cX8_courtOf 60 = .ok (.aload_n 0, 1) := by decide +kernel
theorem dX8_courtOf_61 : decode cX8_courtOf 61 = .ok (.getfield 31, 3) := by decide +kernel
theorem dX8_courtOf_64 : decode cX8_courtOf 64 = .ok (.iload 5, 2) := by decide +kernel
theorem dX8_courtOf_66 : decode cX8_courtOf 66 = .ok (.iload 4, 2) := by decide +kernel
theorem dX8_courtOf_68 : decode cX8_courtOf 68 = .ok (.bipush 16, 2) := by decide +kernel
theorem dX8_courtOf_70 : decode cX8_courtOf 70 = .ok (.iushr, 1) := by decide +kernel
theorem dX8_courtOf_71 : decode cX8_courtOf 71 = .ok (.bipush 10, 2) := by decide +kernel
theorem dX8_courtOf_73 : decode cX8_courtOf 73 = .ok (.irem, 1) := by decide +kernel
theorem dX8_courtOf_74 : decode cX8_courtOf 74 = .ok (.iastore, 1) := by decide +kernel
theorem dX8_courtOf_75 : decode cX8_courtOf 75 = .ok (.ldc_w 275, 3) := by decide +kernel
theorem dX8_courtOf_78 : decode cX8_courtOf 78 = .ok (.iload 4, 2) := by decide +kernel
theorem dX8_courtOf_80 : decode cX8_courtOf 80 = .ok (.imul, 1) := by decide +kernel
theorem dX8_courtOf_81 : decode cX8_courtOf 81 = .ok (.sipush 12345, 3) := by decide +kernel
theorem dX8_courtOf_84 : decode cX8_courtOf 84 = .ok (.iadd, 1) := by decide +kernel
theorem dX8_courtOf_85 : decode cX8_courtOf 85 = .ok (.istore 4, 2) := by decide +kernel
theorem dX8_courtOf_87 : decode cX8_courtOf 87 = .ok (.aload_n 0, 1) := by decide +kernel
theorem dX8_courtOf_88 : decode cX8_courtOf 88 = .ok (.getfield 34, 3) := by decide +kernel
theorem dX8_courtOf_91 : decode cX8_courtOf 91 = .ok (.iload 5, 2) := by decide +kernel
theorem dX8_courtOf_93 : decode cX8_courtOf 93 = .ok (.iload 4, 2) := by decide +kernel
theorem dX8_courtOf_95 : decode cX8_courtOf 95 = .ok (.bipush 16, 2) := by decide +kernel
theorem dX8_courtOf_97 : decode cX8_courtOf 97 = .ok (.iushr, 1) := by decide +kernel
theorem dX8_courtOf_98 : decode cX8_courtOf 98 = .ok (.iconst 4, 1) := by decide +kernel
theorem dX8_courtOf_99 : decode cX8_courtOf 99 = .ok (.irem, 1) := by decide +kernel
theorem dX8_courtOf_100 : decode cX8_courtOf 100 = .ok (.iastore, 1) := by decide +kernel
theorem dX8_courtOf_101 : decode cX8_courtOf 101 = .ok (.iinc 5 1, 3) := by decide +kernel
theorem dX8_courtOf_104 : decode cX8_courtOf 104 = .ok (.goto (-89), 3) := by decide +kernel
theorem dX8_courtOf_107 : decode cX8_courtOf 107 = .ok (.aload_n 0, 1) := by decide +kernel
theorem dX8_courtOf_108 : decode cX8_courtOf 108 = .ok (.invokevirtual 174, 3) := by decide +kernel
theorem dX8_courtOf_111 : decode cX8_courtOf 111 = .ok (.iload_n 3, 1) := by decide +kernel
theorem dX8_courtOf_112 : decode cX8_courtOf 112 = .ok (.ifCond .ne 10, 3) := by decide +kernel
theorem dX8_courtOf_115 : decode cX8_courtOf 115 = .ok (.aload_n 0, 1) := by decide +kernel
theorem dX8_courtOf_116 : decode cX8_courtOf 116 = .ok (.invokevirtual 217, 3) := by decide +kernel
theorem dX8_courtOf_119 : decode cX8_courtOf 119 = .ok (.goto 7, 3) := by decide +kernel
theorem dX8_courtOf_122 : decode cX8_courtOf 122 = .ok (.aload_n 0, 1) := by decide +kernel
theorem dX8_courtOf_123 : decode cX8_courtOf 123 = .ok (.invokevirtual 276, 3) := by decide +kernel
theorem dX8_courtOf_126 : decode cX8_courtOf 126 = .ok (.ireturn, 1) := by decide +kernel
theorem dX8_court_0 : decode cX8_court 0 = .ok (.iload_n 2, 1) := by decide +kernel
theorem dX8_court_1 : decode cX8_court 1 = .ok (.iconst 1, 1) := by decide +kernel
theorem dX8_court_2 : decode cX8_court 2 = .ok (.bipush 8, 2) := by decide +kernel
theorem dX8_court_4 : decode cX8_court 4 = .ok (.invokestatic 98, 3) := by decide +kernel
theorem dX8_court_7 : decode cX8_court 7 = .ok (.ifCond .eq 22, 3) := by decide +kernel
theorem dX8_court_10 : decode cX8_court 10 = .ok (.iload_n 3, 1) := by decide +kernel
theorem dX8_court_11 : decode cX8_court 11 = .ok (.iconst 0, 1) := by decide +kernel
theorem dX8_court_12 : decode cX8_court 12 = .ok (.iconst 1, 1) := by decide +kernel
theorem dX8_court_13 : decode cX8_court 13 = .ok (.invokestatic 98, 3) := by decide +kernel
theorem dX8_court_16 : decode cX8_court 16 = .ok (.ifCond .eq 13, 3) := by decide +kernel
theorem dX8_court_19 : decode cX8_court 19 = .ok (.aload_n 0, 1) := by decide +kernel
theorem dX8_court_20 : decode cX8_court 20 = .ok (.iload_n 1, 1) := by decide +kernel
theorem dX8_court_21 : decode cX8_court 21 = .ok (.iload_n 2, 1) := by decide +kernel
theorem dX8_court_22 : decode cX8_court 22 = .ok (.iload_n 3, 1) := by decide +kernel
theorem dX8_court_23 : decode cX8_court 23 = .ok (.invokevirtual 279, 3) := by decide +kernel
theorem dX8_court_26 : decode cX8_court 26 = .ok (.goto 5, 3) := by decide +kernel
theorem dX8_court_29 : decode cX8_court 29 = .ok (.bipush (-2), 2) := by decide +kernel
theorem dX8_court_31 : decode cX8_court 31 = .ok (.ireturn, 1) := by decide +kernel
theorem dX8_meets_0 : decode cX8_meets 0 = .ok (.aload_n 0, 1) := by decide +kernel
theorem dX8_meets_1 : decode cX8_meets 1 = .ok (.iload_n 1, 1) := by decide +kernel
theorem dX8_meets_2 : decode cX8_meets 2 = .ok (.putfield 282, 3) := by decide +kernel
theorem dX8_meets_5 : decode cX8_meets 5 = .ok (.bipush (-10), 2) := by decide +kernel
theorem dX8_meets_7 : decode cX8_meets 7 = .ok (.iload_n 1, 1) := by decide +kernel
theorem dX8_meets_8 : decode cX8_meets 8 = .ok (.isub, 1) := by decide +kernel
theorem dX8_meets_9 : decode cX8_meets 9 = .ok (.ireturn, 1) := by decide +kernel
theorem dX8_isSheet_0 : decode cX8_isSheet 0 = .ok (.iload_n 0, 1) := by decide +kernel
theorem dX8_isSheet_1 : decode cX8_isSheet 1 = .ok (.iconst 0, 1) := by decide +kernel
theorem dX8_isSheet_2 : decode cX8_isSheet 2 = .ok (.iconst 3, 1) := by decide +kernel
theorem dX8_isSheet_3 : decode cX8_isSheet 3 = .ok (.invokestatic 98, 3) := by decide +kernel
theorem dX8_isSheet_6 : decode cX8_isSheet 6 = .ok (.ireturn, 1) := by decide +kernel
theorem dX8_sheet_0 : decode cX8_sheet 0 = .ok (.iload_n 1, 1) := by decide +kernel
theorem dX8_sheet_1 : decode cX8_sheet 1 = .ok (.invokestatic 238, 3) := by decide +kernel
theorem dX8_sheet_4 : decode cX8_sheet 4 = .ok (.ifCond .eq 18, 3) := by decide +kernel
theorem dX8_sheet_7 : decode cX8_sheet 7 = .ok (.iload_n 2, 1) := by decide +kernel
theorem dX8_sheet_8 : decode cX8_sheet 8 = .ok (.iconst 0, 1) := by decide +kernel
theorem dX8_sheet_9 : decode cX8_sheet 9 = .ok (.iconst 2, 1) := by decide +kernel
theorem dX8_sheet_10 : decode cX8_sheet 10 = .ok (.invokestatic 98, 3) := by decide +kernel
theorem dX8_sheet_13 : decode cX8_sheet 13 = .ok (.ifCond .eq 9, 3) := by decide +kernel
theorem dX8_sheet_16 : decode cX8_sheet 16 = .ok (.iload_n 3, 1) := by decide +kernel
theorem dX8_sheet_17 : decode cX8_sheet 17 = .ok (.bipush 60, 2) := by decide +kernel
theorem dX8_sheet_19 : decode cX8_sheet 19 = .ok (.if_icmp .le 6, 3) := by decide +kernel
theorem dX8_sheet_22 : decode cX8_sheet 22 = .ok (.bipush (-2), 2) := by decide +kernel
theorem dX8_sheet_24 : decode cX8_sheet 24 = .ok (.ireturn, 1) := by decide +kernel
theorem dX8_sheet_25 : decode cX8_sheet 25 = .ok (.iload_n 3, 1) := by decide +kernel
theorem dX8_sheet_26 : decode cX8_sheet 26 = .ok (.ifCond .ge 9, 3) := by decide +kernel
theorem dX8_sheet_29 : decode cX8_sheet 29 = .ok (.aload_n 0, 1) := by decide +kernel
theorem dX8_sheet_30 : decode cX8_sheet 30 = .ok (.iconst 5, 1) := by decide +kernel
theorem dX8_sheet_31 : decode cX8_sheet 31 = .ok (.invokevirtual 241, 3) := by decide +kernel
theorem dX8_sheet_34 : decode cX8_sheet 34 = .ok (.ireturn, 1) := by decide +kernel
theorem dX8_sheet_35 : decode cX8_sheet 35 = .ok (.aload_n 0, 1) := by decide +kernel
theorem dX8_sheet_36 : decode cX8_sheet 36 = .ok (.getfield 71, 3) := by decide +kernel
theorem dX8_sheet_39 : decode cX8_sheet 39 = .ok (.iload_n 1, 1) := by decide +kernel
theorem dX8_sheet_40 : decode cX8_sheet 40 = .ok (.iconst 1, 1) := by decide +kernel
theorem dX8_sheet_41 : decode cX8_sheet 41 = .ok (.bastore, 1) := by decide +kernel
theorem dX8_sheet_42 : decode cX8_sheet 42 = .ok (.aload_n 0, 1) := by decide +kernel
theorem dX8_sheet_43 : decode cX8_sheet 43 = .ok (.getfield 74, 3) := by decide +kernel
theorem dX8_sheet_46 : decode cX8_sheet 46 = .ok (.iload_n 1, 1) := by decide +kernel
theorem dX8_sheet_47 : decode cX8_sheet 47 = .ok (.iload_n 2, 1) := by decide +kernel
theorem dX8_sheet_48 : decode cX8_sheet 48 = .ok (.iastore, 1) := by decide +kernel
theorem dX8_sheet_49 : decode cX8_sheet 49 = .ok (.aload_n 0, 1) := by decide +kernel
theorem dX8_sheet_50 : decode cX8_sheet 50 = .ok (.getfield 77, 3) := by decide +kernel
theorem dX8_sheet_53 : decode cX8_sheet 53 = .ok (.iload_n 1, 1) := by decide +kernel
theorem dX8_sheet_54 : decode cX8_sheet 54 = .ok (.iload_n 3, 1) := by decide +kernel
theorem dX8_sheet_55 : decode cX8_sheet 55 = .ok (.iastore, 1) := by decide +kernel
theorem dX8_sheet_56 : decode cX8_sheet 56 = .ok (.iconst 0, 1) := by decide +kernel
theorem dX8_sheet_57 : decode cX8_sheet 57 = .ok (.istore 4, 2) := by decide +kernel
theorem dX8_sheet_59 : decode cX8_sheet 59 = .ok (.iload 4, 2) := by decide +kernel
theorem dX8_sheet_61 : decode cX8_sheet 61 = .ok (.bipush 60, 2) := by decide +kernel
theorem dX8_sheet_63 : decode cX8_sheet 63 = .ok (.if_icmp .ge 22, 3) := by decide +kernel
theorem dX8_sheet_66 : decode cX8_sheet 66 = .ok (.aload_n 0, 1) := by decide +kernel
theorem dX8_sheet_67 : decode cX8_sheet 67 = .ok (.getfield 80, 3) := by decide +kernel
theorem dX8_sheet_70 : decode cX8_sheet 70 = .ok (.bipush 60, 2) := by decide +kernel
theorem dX8_sheet_72 : decode cX8_sheet 72 = .ok (.iload_n 1, 1) := by decide +kernel
theorem dX8_sheet_73 : decode cX8_sheet 73 = .ok (.imul, 1) := by decide +kernel
theorem dX8_sheet_74 : decode cX8_sheet 74 = .ok (.iload 4, 2) := by decide +kernel
theorem dX8_sheet_76 : decode cX8_sheet 76 = .ok (.iadd, 1) := by decide +kernel
theorem dX8_sheet_77 : decode cX8_sheet 77 = .ok (.iconst 0, 1) := by decide +kernel
theorem dX8_sheet_78 : decode cX8_sheet 78 = .ok (.iastore, 1) := by decide +kernel
theorem dX8_sheet_79 : decode cX8_sheet 79 = .ok (.iinc 4 1, 3) := by decide +kernel
theorem dX8_sheet_82 : decode cX8_sheet 82 = .ok (.goto (-23), 3) := by decide +kernel
theorem dX8_sheet_85 : decode cX8_sheet 85 = .ok (.iload_n 3, 1) := by decide +kernel
theorem dX8_sheet_86 : decode cX8_sheet 86 = .ok (.ireturn, 1) := by decide +kernel
theorem dX8_lose_0 : decode cX8_lose 0 = .ok (.iload_n 1, 1) := by decide +kernel
theorem dX8_lose_1 : decode cX8_lose 1 = .ok (.invokestatic 238, 3) := by decide +kernel
theorem dX8_lose_4 : decode cX8_lose 4 = .ok (.ifCond .ne 6, 3) := by decide +kernel
theorem dX8_lose_7 : decode cX8_lose 7 = .ok (.bipush (-2), 2) := by decide +kernel
theorem dX8_lose_9 : decode cX8_lose 9 = .ok (.ireturn, 1) := by decide +kernel
theorem dX8_lose_10 : decode cX8_lose 10 = .ok (.aload_n 0, 1) := by decide +kernel
theorem dX8_lose_11 : decode cX8_lose 11 = .ok (.getfield 71, 3) := by decide +kernel
theorem dX8_lose_14 : decode cX8_lose 14 = .ok (.iload_n 1, 1) := by decide +kernel
theorem dX8_lose_15 : decode cX8_lose 15 = .ok (.baload, 1) := by decide +kernel
theorem dX8_lose_16 : decode cX8_lose 16 = .ok (.ifCond .ne 9, 3) := by decide +kernel
theorem dX8_lose_19 : decode cX8_lose 19 = .ok (.aload_n 0, 1) := by decide +kernel
theorem dX8_lose_20 : decode cX8_lose 20 = .ok (.iconst 1, 1) := by decide +kernel
theorem dX8_lose_21 : decode cX8_lose 21 = .ok (.invokevirtual 241, 3) := by decide +kernel
theorem dX8_lose_24 : decode cX8_lose 24 = .ok (.ireturn, 1) := by decide +kernel
theorem dX8_lose_25 : decode cX8_lose 25 = .ok (.aload_n 0, 1) := by decide +kernel
theorem dX8_lose_26 : decode cX8_lose 26 = .ok (.getfield 71, 3) := by decide +kernel
theorem dX8_lose_29 : decode cX8_lose 29 = .ok (.iload_n 1, 1) := by decide +kernel
theorem dX8_lose_30 : decode cX8_lose 30 = .ok (.iconst 0, 1) := by decide +kernel
theorem dX8_lose_31 : decode cX8_lose 31 = .ok (.bastore, 1) := by decide +kernel
theorem dX8_lose_32 : decode cX8_lose 32 = .ok (.aload_n 0, 1) := by decide +kernel
theorem dX8_lose_33 : decode cX8_lose 33 = .ok (.getfield 77, 3) := by decide +kernel
theorem dX8_lose_36 : decode cX8_lose 36 = .ok (.iload_n 1, 1) := by decide +kernel
theorem dX8_lose_37 : decode cX8_lose 37 = .ok (.iaload, 1) := by decide +kernel
theorem dX8_lose_38 : decode cX8_lose 38 = .ok (.ireturn, 1) := by decide +kernel
theorem dX8_lacks_0 : decode cX8_lacks 0 = .ok (.aload_n 0, 1) := by decide +kernel
theorem dX8_lacks_1 : decode cX8_lacks 1 = .ok (.getfield 71, 3) := by decide +kernel
theorem dX8_lacks_4 : decode cX8_lacks 4 = .ok (.iload_n 1, 1) := by decide +kernel
theorem dX8_lacks_5 : decode cX8_lacks 5 = .ok (.baload, 1) := by decide +kernel
theorem dX8_lacks_6 : decode cX8_lacks 6 = .ok (.ifCond .ne 7, 3) := by decide +kernel
theorem dX8_lacks_9 : decode cX8_lacks 9 = .ok (.iconst 1, 1) := by decide +kernel
theorem dX8_lacks_10 : decode cX8_lacks 10 = .ok (.goto 38, 3) := by decide +kernel
theorem dX8_lacks_13 : decode cX8_lacks 13 = .ok (.aload_n 0, 1) := by decide +kernel
theorem dX8_lacks_14 : decode cX8_lacks 14 = .ok (.getfield 74, 3) := by decide +kernel
theorem dX8_lacks_17 : decode cX8_lacks 17 = .ok (.iload_n 1, 1) := by decide +kernel
theorem dX8_lacks_18 : decode cX8_lacks 18 = .ok (.iaload, 1) := by decide +kernel
theorem dX8_lacks_19 : decode cX8_lacks 19 = .ok (.iload_n 2, 1) := by decide +kernel
theorem dX8_lacks_20 : decode cX8_lacks 20 = .ok (.if_icmp .eq 7, 3) := by decide +kernel
theorem dX8_lacks_23 : decode cX8_lacks 23 = .ok (.iconst 3, 1) := by decide +kernel
theorem dX8_lacks_24 : decode cX8_lacks 24 = .ok (.goto 24, 3) := by decide +kernel
theorem dX8_lacks_27 : decode cX8_lacks 27 = .ok (.iload_n 3, 1) := by decide +kernel
theorem dX8_lacks_28 : decode cX8_lacks 28 = .ok (.iconst 0, 1) := by decide +kernel
theorem dX8_lacks_29 : decode cX8_lacks 29 = .ok (.aload_n 0, 1) := by decide +kernel
theorem dX8_lacks_30 : decode cX8_lacks 30 = .ok (.getfield 77, 3) := by decide +kernel
theorem dX8_lacks_33 : decode cX8_lacks 33 = .ok (.iload_n 1, 1) := by decide +kernel
theorem dX8_lacks_34 : decode cX8_lacks 34 = .ok (.iaload, 1) := by decide +kernel
theorem dX8_lacks_35 : decode cX8_lacks 35 = .ok (.iconst 1, 1) := by decide +kernel
theorem dX8_lacks_36 : decode cX8_lacks 36 = .ok (.isub, 1) := by decide +kernel
theorem dX8_lacks_37 : decode cX8_lacks 37 = .ok (.invokestatic 98, 3) := by decide +kernel
theorem dX8_lacks_40 : decode cX8_lacks 40 = .ok (.ifCond .eq 7, 3) := by decide +kernel
theorem dX8_lacks_43 : decode cX8_lacks 43 = .ok (.iconst 0, 1) := by decide +kernel
theorem dX8_lacks_44 : decode cX8_lacks 44 = .ok (.goto 4, 3) := by decide +kernel
theorem dX8_lacks_47 : decode cX8_lacks 47 = .ok (.iconst 2, 1) := by decide +kernel
theorem dX8_lacks_48 : decode cX8_lacks 48 = .ok (.ireturn, 1) := by decide +kernel
theorem dX8_keep_0 : decode cX8_keep 0 = .ok (.aload_n 0, 1) := by decide +kernel
theorem dX8_keep_1 : decode cX8_keep 1 = .ok (.getfield 80, 3) := by decide +kernel
theorem dX8_keep_4 : decode cX8_keep 4 = .ok (.bipush 60, 2) := by decide +kernel
theorem dX8_keep_6 : decode cX8_keep 6 = .ok (.iload_n 1, 1) := by decide +kernel
theorem dX8_keep_7 : decode cX8_keep 7 = .ok (.imul, 1) := by decide +kernel
theorem dX8_keep_8 : decode cX8_keep 8 = .ok (.iload_n 2, 1) := by decide +kernel
theorem dX8_keep_9 : decode cX8_keep 9 = .ok (.iadd, 1) := by decide +kernel
theorem dX8_keep_10 : decode cX8_keep 10 = .ok (.aload_n 0, 1) := by decide +kernel
theorem dX8_keep_11 : decode cX8_keep 11 = .ok (.getfield 74, 3) := by decide +kernel
theorem dX8_keep_14 : decode cX8_keep 14 = .ok (.iload_n 1, 1) := by decide +kernel
theorem dX8_keep_15 : decode cX8_keep 15 = .ok (.iaload, 1) := by decide +kernel
theorem dX8_keep_16 : decode cX8_keep 16 = .ok (.ifCond .ne 8, 3) := by decide +kernel
theorem dX8_keep_19 : decode cX8_keep 19 = .ok (.iload_n 3, 1) := by decide +kernel
theorem dX8_keep_20 : decode cX8_keep 20 = .ok (.i2b, 1) := by decide +kernel
theorem dX8_keep_21 : decode cX8_keep 21 = .ok (.goto 19, 3) := by decide +kernel
theorem dX8_keep_24 : decode cX8_keep 24 = .ok (.aload_n 0, 1) := by decide +kernel
theorem dX8_keep_25 : decode cX8_keep 25 = .ok (.getfield 74, 3) := by decide +kernel
theorem dX8_keep_28 : decode cX8_keep 28 = .ok (.iload_n 1, 1) := by decide +kernel
theorem dX8_keep_29 : decode cX8_keep 29 = .ok (.iaload, 1) := by decide +kernel
theorem dX8_keep_30 : decode cX8_keep 30 = .ok (.iconst 1, 1) := by decide +kernel
theorem dX8_keep_31 : decode cX8_keep 31 = .ok (.if_icmp .ne 8, 3) := by decide +kernel
theorem dX8_keep_34 : decode cX8_keep 34 = .ok (.iload_n 3, 1) := by decide +kernel
theorem dX8_keep_35 : decode cX8_keep 35 = .ok (.i2s, 1) := by decide +kernel
theorem dX8_keep_36 : decode cX8_keep 36 = .ok (.goto 4, 3) := by decide +kernel
theorem dX8_keep_39 : decode cX8_keep 39 = .ok (.iload_n 3, 1) := by decide +kernel
theorem dX8_keep_40 : decode cX8_keep 40 = .ok (.iastore, 1) := by decide +kernel
theorem dX8_keep_41 : decode cX8_keep 41 = .ok (.return_, 1) := by decide +kernel
theorem dX8_put_0 : decode cX8_put 0 = .ok (.iload_n 1, 1) := by decide +kernel
theorem dX8_put_1 : decode cX8_put 1 = .ok (.invokestatic 238, 3) := by decide +kernel
theorem dX8_put_4 : decode cX8_put 4 = .ok (.ifCond .eq 12, 3) := by decide +kernel
theorem dX8_put_7 : decode cX8_put 7 = .ok (.iload_n 2, 1) := by decide +kernel
theorem dX8_put_8 : decode cX8_put 8 = .ok (.iconst 0, 1) := by decide +kernel
theorem dX8_put_9 : decode cX8_put 9 = .ok (.iconst 2, 1) := by decide +kernel
theorem dX8_put_10 : decode cX8_put 10 = .ok (.invokestatic 98, 3) := by decide +kernel
theorem dX8_put_13 : decode cX8_put 13 = .ok (.ifCond .ne 6, 3) := by decide +kernel
theorem dX8_put_16 : decode cX8_put 16 = .ok (.bipush (-2), 2) := by decide +kernel
theorem dX8_put_18 : decode cX8_put 18 = .ok (.ireturn, 1) := by decide +kernel
theorem dX8_put_19 : decode cX8_put 19 = .ok (.aload_n 0, 1) := by decide +kernel
theorem dX8_put_20 : decode cX8_put 20 = .ok (.iload_n 1, 1) := by decide +kernel
theorem dX8_put_21 : decode cX8_put 21 = .ok (.iload_n 2, 1) := by decide +kernel
theorem dX8_put_22 : decode cX8_put 22 = .ok (.iload_n 3, 1) := by decide +kernel
theorem dX8_put_23 : decode cX8_put 23 = .ok (.invokevirtual 285, 3) := by decide +kernel
theorem dX8_put_26 : decode cX8_put 26 = .ok (.istore 5, 2) := by decide +kernel
theorem dX8_put_28 : decode cX8_put 28 = .ok (.iload 5, 2) := by decide +kernel
theorem dX8_put_30 : decode cX8_put 30 = .ok (.ifCond .le 10, 3) := by decide +kernel
theorem dX8_put_33 : decode cX8_put 33 = .ok (.aload_n 0, 1) := by decide +kernel
theorem dX8_put_34 : decode cX8_put 34 = .ok (.iload 5, 2) := by decide +kernel
theorem dX8_put_36 : decode cX8_put 36 = .ok (.invokevirtual 241, 3) := by decide +kernel
theorem dX8_put_39 : decode cX8_put 39 = .ok (.ireturn, 1) := by decide +kernel
theorem dX8_put_40 : decode cX8_put 40 = .ok (.aload_n 0, 1) := by decide +kernel
theorem dX8_put_41 : decode cX8_put 41 = .ok (.iload_n 1, 1) := by decide +kernel
theorem dX8_put_42 : decode cX8_put 42 = .ok (.iload_n 3, 1) := by decide +kernel
theorem dX8_put_43 : decode cX8_put 43 = .ok (.iload 4, 2) := by decide +kernel
theorem dX8_put_45 : decode cX8_put 45 = .ok (.invokevirtual 288, 3) := by decide +kernel
theorem dX8_put_48 : decode cX8_put 48 = .ok (.iconst 1, 1) := by decide +kernel
theorem dX8_put_49 : decode cX8_put 49 = .ok (.ireturn, 1) := by decide +kernel
theorem dX8_get_0 : decode cX8_get 0 = .ok (.iload_n 1, 1) := by decide +kernel
theorem dX8_get_1 : decode cX8_get 1 = .ok (.invokestatic 238, 3) := by decide +kernel
theorem dX8_get_4 : decode cX8_get 4 = .ok (.ifCond .eq 12, 3) := by decide +kernel
theorem dX8_get_7 : decode cX8_get 7 = .ok (.iload_n 2, 1) := by decide +kernel
theorem dX8_get_8 : decode cX8_get 8 = .ok (.iconst 0, 1) := by decide +kernel
theorem dX8_get_9 : decode cX8_get 9 = .ok (.iconst 2, 1) := by decide +kernel
theorem dX8_get_10 : decode cX8_get 10 = .ok (.invokestatic 98, 3) := by decide +kernel
theorem dX8_get_13 : decode cX8_get 13 = .ok (.ifCond .ne 7, 3) := by decide +kernel
theorem dX8_get_16 : decode cX8_get 16 = .ok (.ldc_w 292, 3) := by decide +kernel
theorem dX8_get_19 : decode cX8_get 19 = .ok (.ireturn, 1) := by decide +kernel
theorem dX8_get_20 : decode cX8_get 20 = .ok (.aload_n 0, 1) := by decide +kernel
theorem dX8_get_21 : decode cX8_get 21 = .ok (.iload_n 1, 1) := by decide +kernel
theorem dX8_get_22 : decode cX8_get 22 = .ok (.iload_n 2, 1) := by decide +kernel
theorem dX8_get_23 : decode cX8_get 23 = .ok (.iload_n 3, 1) := by decide +kernel
theorem dX8_get_24 : decode cX8_get 24 = .ok (.invokevirtual 285, 3) := by decide +kernel
theorem dX8_get_27 : decode cX8_get 27 = .ok (.istore 4, 2) := by decide +kernel
theorem dX8_get_29 : decode cX8_get 29 = .ok (.iload 4, 2) := by decide +kernel
theorem dX8_get_31 : decode cX8_get 31 = .ok (.ifCond .le 13, 3) := by decide +kernel
theorem dX8_get_34 : decode cX8_get 34 = .ok (.aload_n 0, 1) := by decide +kernel
theorem dX8_get_35 : decode cX8_get 35 = .ok (.iload 4, 2) := by decide +kernel
theorem dX8_get_37 : decode cX8_get 37 = .ok (.putfield 282, 3) := by decide +kernel
theorem dX8_get_40 : decode cX8_get 40 = .ok (.ldc_w 292, 3) := by decide +kernel
theorem dX8_get_43 : decode cX8_get 43 = .ok (.ireturn, 1) := by decide +kernel
theorem dX8_get_44 : decode cX8_get 44 = .ok (.aload_n 0, 1) := by decide +kernel
theorem dX8_get_45 : decode cX8_get 45 = .ok (.getfield 80, 3) := by decide +kernel
theorem dX8_get_48 : decode cX8_get 48 = .ok (.bipush 60, 2) := by decide +kernel
theorem dX8_get_50 : decode cX8_get 50 = .ok (.iload_n 1, 1) := by decide +kernel
theorem dX8_get_51 : decode cX8_get 51 = .ok (.imul, 1) := by decide +kernel
theorem dX8_get_52 : decode cX8_get 52 = .ok (.iload_n 3, 1) := by decide +kernel
theorem dX8_get_53 : decode cX8_get 53 = .ok (.iadd, 1) := by decide +kernel
theorem dX8_get_54 : decode cX8_get 54 = .ok (.iaload, 1) := by decide +kernel
theorem dX8_get_55 : decode cX8_get 55 = .ok (.ireturn, 1) := by decide +kernel
theorem dX8_copy_0 : decode cX8_copy 0 = .ok (.iload_n 1, 1) := by decide +kernel
theorem dX8_copy_1 : decode cX8_copy 1 = .ok (.invokestatic 238, 3) := by decide +kernel
theorem dX8_copy_4 : decode cX8_copy 4 = .ok (.ifCond .eq 10, 3) := by decide +kernel
theorem dX8_copy_7 : decode cX8_copy 7 = .ok (.iload_n 3, 1) := by decide +kernel
theorem dX8_copy_8 : decode cX8_copy 8 = .ok (.invokestatic 238, 3) := by decide +kernel
theorem dX8_copy_11 : decode cX8_copy 11 = .ok (.ifCond .ne 6, 3) := by decide +kernel
theorem dX8_copy_14 : decode cX8_copy 14 = .ok (.bipush (-2), 2) := by decide +kernel
theorem dX8_copy_16 : decode cX8_copy 16 = .ok (.ireturn, 1) := by decide +kernel
theorem dX8_copy_17 : decode cX8_copy 17 = .ok (.aload_n 0, 1) := by decide +kernel
theorem dX8_copy_18 : decode cX8_copy 18 = .ok (.getfield 71, 3) := by decide +kernel
theorem dX8_copy_21 : decode cX8_copy 21 = .ok (.iload_n 1, 1) := by decide +kernel
theorem dX8_copy_22 : decode cX8_copy 22 = .ok (.baload, 1) := by decide +kernel
theorem dX8_copy_23 : decode cX8_copy 23 = .ok (.ifCond .eq 12, 3) := by decide +kernel
theorem dX8_copy_26 : decode cX8_copy 26 = .ok (.aload_n 0, 1) := by decide +kernel
theorem dX8_copy_27 : decode cX8_copy 27 = .ok (.getfield 71, 3) := by decide +kernel
theorem dX8_copy_30 : decode cX8_copy 30 = .ok (.iload_n 3, 1) := by decide +kernel
theorem dX8_copy_31 : decode cX8_copy 31 = .ok (.baload, 1) := by decide +kernel
theorem dX8_copy_32 : decode cX8_copy 32 = .ok (.ifCond .ne 9, 3) := by decide +kernel
theorem dX8_copy_35 : decode cX8_copy 35 = .ok (.aload_n 0, 1) := by decide +kernel
theorem dX8_copy_36 : decode cX8_copy 36 = .ok (.iconst 1, 1) := by decide +kernel
theorem dX8_copy_37 : decode cX8_copy 37 = .ok (.invokevirtual 241, 3) := by decide +kernel
theorem dX8_copy_40 : decode cX8_copy 40 = .ok (.ireturn, 1) := by decide +kernel
theorem dX8_copy_41 : decode cX8_copy 41 = .ok (.aload_n 0, 1) := by decide +kernel
theorem dX8_copy_42 : decode cX8_copy 42 = .ok (.getfield 74, 3) := by decide +kernel
theorem dX8_copy_45 : decode cX8_copy 45 = .ok (.iload_n 1, 1) := by decide +kernel
theorem dX8_copy_46 : decode cX8_copy 46 = .ok (.iaload, 1) := by decide +kernel
theorem dX8_copy_47 : decode cX8_copy 47 = .ok (.aload_n 0, 1) := by decide +kernel
theorem dX8_copy_48 : decode cX8_copy 48 = .ok (.getfield 74, 3) := by decide +kernel
theorem dX8_copy_51 : decode cX8_copy 51 = .ok (.iload_n 3, 1) := by decide +kernel
theorem dX8_copy_52 : decode cX8_copy 52 = .ok (.iaload, 1) := by decide +kernel
theorem dX8_copy_53 : decode cX8_copy 53 = .ok (.if_icmp .eq 9, 3) := by decide +kernel
theorem dX8_copy_56 : decode cX8_copy 56 = .ok (.aload_n 0, 1) := by decide +kernel
theorem dX8_copy_57 : decode cX8_copy 57 = .ok (.iconst 4, 1) := by decide +kernel
theorem dX8_copy_58 : decode cX8_copy 58 = .ok (.invokevirtual 241, 3) := by decide +kernel
theorem dX8_copy_61 : decode cX8_copy 61 = .ok (.ireturn, 1) := by decide +kernel
theorem dX8_copy_62 : decode cX8_copy 62 = .ok (.iload_n 2, 1) := by decide +kernel
theorem dX8_copy_63 : decode cX8_copy 63 = .ok (.ifCond .lt 48, 3) := by decide +kernel
theorem dX8_copy_66 : decode cX8_copy 66 = .ok (.iload 4, 2) := by decide +kernel
theorem dX8_copy_68 : decode cX8_copy 68 = .ok (.ifCond .lt 43, 3) := by decide +kernel
theorem dX8_copy_71 : decode cX8_copy 71 = .ok (.iload 5, 2) := by decide +kernel
theorem dX8_copy_73 : decode cX8_copy 73 = .ok (.ifCond .lt 38, 3) := by decide +kernel
theorem dX8_copy_76 : decode cX8_copy 76 = .ok (.iload_n 2, 1) := by decide +kernel
theorem dX8_copy_77 : decode cX8_copy 77 = .ok (.i2l, 1) := by decide +kernel
theorem dX8_copy_78 : decode cX8_copy 78 = .ok (.iload 5, 2) := by decide +kernel
theorem dX8_copy_80 : decode cX8_copy 80 = .ok (.i2l, 1) := by decide +kernel
theorem dX8_copy_81 : decode cX8_copy 81 = .ok (.ladd, 1) := by decide +kernel
theorem dX8_copy_82 : decode cX8_copy 82 = .ok (.aload_n 0, 1) := by decide +kernel
theorem dX8_copy_83 : decode cX8_copy 83 = .ok (.getfield 77, 3) := by decide +kernel
theorem dX8_copy_86 : decode cX8_copy 86 = .ok (.iload_n 1, 1) := by decide +kernel
theorem dX8_copy_87 : decode cX8_copy 87 = .ok (.iaload, 1) := by decide +kernel
theorem dX8_copy_88 : decode cX8_copy 88 = .ok (.i2l, 1) := by decide +kernel
theorem dX8_copy_89 : decode cX8_copy 89 = .ok (.lcmp, 1) := by decide +kernel
theorem dX8_copy_90 : decode cX8_copy 90 = .ok (.ifCond .gt 21, 3) := by decide +kernel
theorem dX8_copy_93 : decode cX8_copy 93 = .ok (.iload 4, 2) := by decide +kernel
theorem dX8_copy_95 : decode cX8_copy 95 = .ok (.i2l, 1) := by decide +kernel
theorem dX8_copy_96 : decode cX8_copy 96 = .ok (.iload 5, 2) := by decide +kernel
theorem dX8_copy_98 : decode cX8_copy 98 = .ok (.i2l, 1) := by decide +kernel
theorem dX8_copy_99 : decode cX8_copy 99 = .ok (.ladd, 1) := by decide +kernel
theorem dX8_copy_100 : decode cX8_copy 100 = .ok (.aload_n 0, 1) := by decide +kernel
theorem dX8_copy_101 : decode cX8_copy 101 = .ok (.getfield 77, 3) := by decide +kernel
theorem dX8_copy_104 : decode cX8_copy 104 = .ok (.iload_n 3, 1) := by decide +kernel
theorem dX8_copy_105 : decode cX8_copy 105 = .ok (.iaload, 1) := by decide +kernel
theorem dX8_copy_106 : decode cX8_copy 106 = .ok (.i2l, 1) := by decide +kernel
theorem dX8_copy_107 : decode cX8_copy 107 = .ok (.lcmp, 1) := by decide +kernel
theorem dX8_copy_108 : decode cX8_copy 108 = .ok (.ifCond .le 9, 3) := by decide +kernel
theorem dX8_copy_111 : decode cX8_copy 111 = .ok (.aload_n 0, 1) := by decide +kernel
theorem dX8_copy_112 : decode cX8_copy 112 = .ok (.iconst 2, 1) := by decide +kernel
theorem dX8_copy_113 : decode cX8_copy 113 = .ok (.invokevirtual 241, 3) := by decide +kernel
theorem dX8_copy_116 : decode cX8_copy 116 = .ok (.ireturn, 1) := by decide +kernel
theorem dX8_copy_117 : decode cX8_copy 117 = .ok (.iconst 0, 1) := by decide +kernel
theorem dX8_copy_118 : decode cX8_copy 118 = .ok (.istore 6, 2) := by decide +kernel
theorem dX8_copy_120 : decode cX8_copy 120 = .ok (.iload 6, 2) := by decide +kernel
theorem dX8_copy_122 : decode cX8_copy 122 = .ok (.iload 5, 2) := by decide +kernel
theorem dX8_copy_124 : decode cX8_copy 124 = .ok (.if_icmp .ge 30, 3) := by decide +kernel
theorem dX8_copy_127 : decode cX8_copy 127 = .ok (.aload_n 0, 1) := by decide +kernel
theorem dX8_copy_128 : decode cX8_copy 128 = .ok (.getfield 83, 3) := by decide +kernel
theorem dX8_copy_131 : decode cX8_copy 131 = .ok (.iload 6, 2) := by decide +kernel
theorem dX8_copy_133 : decode cX8_copy 133 = .ok (.aload_n 0, 1) := by decide +kernel
theorem dX8_copy_134 : decode cX8_copy 134 = .ok (.getfield 80, 3) := by decide +kernel
theorem dX8_copy_137 : decode cX8_copy 137 = .ok (.bipush 60, 2) := by decide +kernel
theorem dX8_copy_139 : decode cX8_copy 139 = .ok (.iload_n 1, 1) := by decide +kernel
theorem dX8_copy_140 : decode cX8_copy 140 = .ok (.imul, 1) := by decide +kernel
theorem dX8_copy_141 : decode cX8_copy 141 = .ok (.iload_n 2, 1) := by decide +kernel
theorem dX8_copy_142 : decode cX8_copy 142 = .ok (.iadd, 1) := by decide +kernel
theorem dX8_copy_143 : decode cX8_copy 143 = .ok (.iload 6, 2) := by decide +kernel
theorem dX8_copy_145 : decode cX8_copy 145 = .ok (.iadd, 1) := by decide +kernel
theorem dX8_copy_146 : decode cX8_copy 146 = .ok (.iaload, 1) := by decide +kernel
theorem dX8_copy_147 : decode cX8_copy 147 = .ok (.iastore, 1) := by decide +kernel
theorem dX8_copy_148 : decode cX8_copy 148 = .ok (.iinc 6 1, 3) := by decide +kernel
theorem dX8_copy_151 : decode cX8_copy 151 = .ok (.goto (-31), 3) := by decide +kernel
theorem dX8_copy_154 : decode cX8_copy 154 = .ok (.iconst 0, 1) := by decide +kernel
theorem dX8_copy_155 : decode cX8_copy 155 = .ok (.istore 6, 2) := by decide +kernel
theorem dX8_copy_157 : decode cX8_copy 157 = .ok (.iload 6, 2) := by decide +kernel
theorem dX8_copy_159 : decode cX8_copy 159 = .ok (.iload 5, 2) := by decide +kernel
theorem dX8_copy_161 : decode cX8_copy 161 = .ok (.if_icmp .ge 31, 3) := by decide +kernel
theorem dX8_copy_164 : decode cX8_copy 164 = .ok (.aload_n 0, 1) := by decide +kernel
theorem dX8_copy_165 : decode cX8_copy 165 = .ok (.getfield 80, 3) := by decide +kernel
theorem dX8_copy_168 : decode cX8_copy 168 = .ok (.bipush 60, 2) := by decide +kernel
theorem dX8_copy_170 : decode cX8_copy 170 = .ok (.iload_n 3, 1) := by decide +kernel
theorem dX8_copy_171 : decode cX8_copy 171 = .ok (.imul, 1) := by decide +kernel
theorem dX8_copy_172 : decode cX8_copy 172 = .ok (.iload 4, 2) := by decide +kernel
theorem dX8_copy_174 : decode cX8_copy 174 = .ok (.iadd, 1) := by decide +kernel
theorem dX8_copy_175 : decode cX8_copy 175 = .ok (.iload 6, 2) := by decide +kernel
theorem dX8_copy_177 : decode cX8_copy 177 = .ok (.iadd, 1) := by decide +kernel
theorem dX8_copy_178 : decode cX8_copy 178 = .ok (.aload_n 0, 1) := by decide +kernel
theorem dX8_copy_179 : decode cX8_copy 179 = .ok (.getfield 83, 3) := by decide +kernel
theorem dX8_copy_182 : decode cX8_copy 182 = .ok (.iload 6, 2) := by decide +kernel
theorem dX8_copy_184 : decode cX8_copy 184 = .ok (.iaload, 1) := by decide +kernel
theorem dX8_copy_185 : decode cX8_copy 185 = .ok (.iastore, 1) := by decide +kernel
theorem dX8_copy_186 : decode cX8_copy 186 = .ok (.iinc 6 1, 3) := by decide +kernel
theorem dX8_copy_189 : decode cX8_copy 189 = .ok (.goto (-32), 3) := by decide +kernel
theorem dX8_copy_192 : decode cX8_copy 192 = .ok (.iconst 1, 1) := by decide +kernel
theorem dX8_copy_193 : decode cX8_copy 193 = .ok (.ireturn, 1) := by decide +kernel
theorem dX8_write_0 : decode cX8_write 0 = .ok (.aload_n 0, 1) := by decide +kernel
theorem dX8_write_1 : decode cX8_write 1 = .ok (.iload_n 1, 1) := by decide +kernel
theorem dX8_write_2 : decode cX8_write 2 = .ok (.invokevirtual 136, 3) := by decide +kernel
theorem dX8_write_5 : decode cX8_write 5 = .ok (.ifCond .eq 10, 3) := by decide +kernel
theorem dX8_write_8 : decode cX8_write 8 = .ok (.iload_n 2, 1) := by decide +kernel
theorem dX8_write_9 : decode cX8_write 9 = .ok (.invokestatic 238, 3) := by decide +kernel
theorem dX8_write_12 : decode cX8_write 12 = .ok (.ifCond .ne 6, 3) := by decide +kernel
theorem dX8_write_15 : decode cX8_write 15 = .ok (.bipush (-2), 2) := by decide +kernel
theorem dX8_write_17 : decode cX8_write 17 = .ok (.ireturn, 1) := by decide +kernel
theorem dX8_write_18 : decode cX8_write 18 = .ok (.aload_n 0, 1) := by decide +kernel
theorem dX8_write_19 : decode cX8_write 19 = .ok (.getfield 71, 3) := by decide +kernel
theorem dX8_write_22 : decode cX8_write 22 = .ok (.iload_n 2, 1) := by decide +kernel
theorem dX8_write_23 : decode cX8_write 23 = .ok (.baload, 1) := by decide +kernel
theorem dX8_write_24 : decode cX8_write 24 = .ok (.ifCond .ne 9, 3) := by decide +kernel
theorem dX8_write_27 : decode cX8_write 27 = .ok (.aload_n 0, 1) := by decide +kernel
theorem dX8_write_28 : decode cX8_write 28 = .ok (.iconst 1, 1) := by decide +kernel
theorem dX8_write_29 : decode cX8_write 29 = .ok (.invokevirtual 241, 3) := by decide +kernel
theorem dX8_write_32 : decode cX8_write 32 = .ok (.ireturn, 1) := by decide +kernel
theorem dX8_write_33 : decode cX8_write 33 = .ok (.iconst 0, 1) := by decide +kernel
theorem dX8_write_34 : decode cX8_write 34 = .ok (.istore_n 3, 1) := by decide +kernel
theorem dX8_write_35 : decode cX8_write 35 = .ok (.iload_n 3, 1) := by decide +kernel
theorem dX8_write_36 : decode cX8_write 36 = .ok (.aload_n 0, 1) := by decide +kernel
theorem dX8_write_37 : decode cX8_write 37 = .ok (.getfield 77, 3) := by decide +kernel
theorem dX8_write_40 : decode cX8_write 40 = .ok (.iload_n 2, 1) := by decide +kernel
theorem dX8_write_41 : decode cX8_write 41 = .ok (.iaload, 1) := by decide +kernel
theorem dX8_write_42 : decode cX8_write 42 = .ok (.if_icmp .ge 27, 3) := by decide +kernel
theorem dX8_write_45 : decode cX8_write 45 = .ok (.iload_n 3, 1) := by decide +kernel
theorem dX8_write_46 : decode cX8_write 46 = .ok (.bipush 50, 2) := by decide +kernel
theorem dX8_write_48 : decode cX8_write 48 = .ok (.if_icmp .ge 21, 3) := by decide +kernel
theorem dX8_write_51 : decode cX8_write 51 = .ok (.aload_n 0, 1) := by decide +kernel
theorem dX8_write_52 : decode cX8_write 52 = .ok (.iload_n 2, 1) := by decide +kernel
theorem dX8_write_53 : decode cX8_write 53 = .ok (.iload_n 3, 1) := by decide +kernel
theorem dX8_write_54 : decode cX8_write 54 = .ok (.aload_n 0, 1) := by decide +kernel
theorem dX8_write_55 : decode cX8_write 55 = .ok (.iload_n 3, 1) := by decide +kernel
theorem dX8_write_56 : decode cX8_write 56 = .ok (.iload_n 1, 1) := by decide +kernel
theorem dX8_write_57 : decode cX8_write 57 = .ok (.invokevirtual 183, 3) := by decide +kernel
theorem dX8_write_60 : decode cX8_write 60 = .ok (.invokevirtual 288, 3) := by decide +kernel
theorem dX8_write_63 : decode cX8_write 63 = .ok (.iinc 3 1, 3) := by decide +kernel
theorem dX8_write_66 : decode cX8_write 66 = .ok (.goto (-31), 3) := by decide +kernel
theorem dX8_write_69 : decode cX8_write 69 = .ok (.iload_n 3, 1) := by decide +kernel
theorem dX8_write_70 : decode cX8_write 70 = .ok (.ireturn, 1) := by decide +kernel
theorem dX8_wakingsNow_0 : decode cX8_wakingsNow 0 = .ok (.iconst 0, 1) := by decide +kernel
theorem dX8_wakingsNow_1 : decode cX8_wakingsNow 1 = .ok (.istore_n 1, 1) := by decide +kernel
theorem dX8_wakingsNow_2 : decode cX8_wakingsNow 2 = .ok (.iconst 0, 1) := by decide +kernel
theorem dX8_wakingsNow_3 : decode cX8_wakingsNow 3 = .ok (.istore_n 2, 1) := by decide +kernel
theorem dX8_wakingsNow_4 : decode cX8_wakingsNow 4 = .ok (.iload_n 2, 1) := by decide +kernel
theorem dX8_wakingsNow_5 : decode cX8_wakingsNow 5 = .ok (.aload_n 0, 1) := by decide +kernel
theorem dX8_wakingsNow_6 : decode cX8_wakingsNow 6 = .ok (.getfield 114, 3) := by decide +kernel
theorem dX8_wakingsNow_9 : decode cX8_wakingsNow 9 = .ok (.if_icmp .ge 18, 3) := by decide +kernel
theorem dX8_wakingsNow_12 : decode cX8_wakingsNow 12 = .ok (.iload_n 1, 1) := by decide +kernel
theorem dX8_wakingsNow_13 : decode cX8_wakingsNow 13 = .ok (.aload_n 0, 1) := by decide +kernel
theorem dX8_wakingsNow_14 : decode cX8_wakingsNow 14 = .ok (.getfield 50, 3) := by decide +kernel
theorem dX8_wakingsNow_17 : decode cX8_wakingsNow 17 = .ok (.iload_n 2, 1) := by decide +kernel
theorem dX8_wakingsNow_18 : decode cX8_wakingsNow 18 = .ok (.iaload, 1) := by decide +kernel
theorem dX8_wakingsNow_19 : decode cX8_wakingsNow 19 = .ok (.iadd, 1) := by decide +kernel
theorem dX8_wakingsNow_20 : decode cX8_wakingsNow 20 = .ok (.istore_n 1, 1) := by decide +kernel
theorem dX8_wakingsNow_21 : decode cX8_wakingsNow 21 = .ok (.iinc 2 1, 3) := by decide +kernel
theorem dX8_wakingsNow_24 : decode cX8_wakingsNow 24 = .ok (.goto (-20), 3) := by decide +kernel
theorem dX8_wakingsNow_27 : decode cX8_wakingsNow 27 = .ok (.iload_n 1, 1) := by decide +kernel
theorem dX8_wakingsNow_28 : decode cX8_wakingsNow 28 = .ok (.ireturn, 1) := by decide +kernel
theorem dX8_sumOf_0 : decode cX8_sumOf 0 = .ok (.aload_n 0, 1) := by decide +kernel
theorem dX8_sumOf_1 : decode cX8_sumOf 1 = .ok (.invokevirtual 177, 3) := by decide +kernel
theorem dX8_sumOf_4 : decode cX8_sumOf 4 = .ok (.iload_n 1, 1) := by decide +kernel
theorem dX8_sumOf_5 : decode cX8_sumOf 5 = .ok (.ifCond .ne 10, 3) := by decide +kernel
theorem dX8_sumOf_8 : decode cX8_sumOf 8 = .ok (.aload_n 0, 1) := by decide +kernel
theorem dX8_sumOf_9 : decode cX8_sumOf 9 = .ok (.getfield 114, 3) := by decide +kernel
theorem dX8_sumOf_12 : decode cX8_sumOf 12 = .ok (.goto 43, 3) := by decide +kernel
theorem dX8_sumOf_15 : decode cX8_sumOf 15 = .ok (.iload_n 1, 1) := by decide +kernel
theorem dX8_sumOf_16 : decode cX8_sumOf 16 = .ok (.iconst 1, 1) := by decide +kernel
theorem dX8_sumOf_17 : decode cX8_sumOf 17 = .ok (.if_icmp .ne 10, 3) := by decide +kernel
theorem dX8_sumOf_20 : decode cX8_sumOf 20 = .ok (.aload_n 0, 1) := by decide +kernel
theorem dX8_sumOf_21 : decode cX8_sumOf 21 = .ok (.getfield 117, 3) := by decide +kernel
theorem dX8_sumOf_24 : decode cX8_sumOf 24 = .ok (.goto 31, 3) := by decide +kernel
theorem dX8_sumOf_27 : decode cX8_sumOf 27 = .ok (.iload_n 1, 1) := by decide +kernel
theorem dX8_sumOf_28 : decode cX8_sumOf 28 = .ok (.iconst 4, 1) := by decide +kernel
theorem dX8_sumOf_29 : decode cX8_sumOf 29 = .ok (.if_icmp .ne 10, 3) := by decide +kernel
theorem dX8_sumOf_32 : decode cX8_sumOf 32 = .ok (.aload_n 0, 1) := by decide +kernel
theorem dX8_sumOf_33 : decode cX8_sumOf 33 = .ok (.invokevirtual 217, 3) := by decide +kernel
theorem dX8_sumOf_36 : decode cX8_sumOf 36 = .ok (.goto 19, 3) := by decide +kernel
theorem dX8_sumOf_39 : decode cX8_sumOf 39 = .ok (.iload_n 1, 1) := by decide +kernel
theorem dX8_sumOf_40 : decode cX8_sumOf 40 = .ok (.iconst 5, 1) := by decide +kernel
theorem dX8_sumOf_41 : decode cX8_sumOf 41 = .ok (.if_icmp .ne 10, 3) := by decide +kernel
theorem dX8_sumOf_44 : decode cX8_sumOf 44 = .ok (.aload_n 0, 1) := by decide +kernel
theorem dX8_sumOf_45 : decode cX8_sumOf 45 = .ok (.invokevirtual 276, 3) := by decide +kernel
theorem dX8_sumOf_48 : decode cX8_sumOf 48 = .ok (.goto 7, 3) := by decide +kernel
theorem dX8_sumOf_51 : decode cX8_sumOf 51 = .ok (.aload_n 0, 1) := by decide +kernel
theorem dX8_sumOf_52 : decode cX8_sumOf 52 = .ok (.invokevirtual 293, 3) := by decide +kernel
theorem dX8_sumOf_55 : decode cX8_sumOf 55 = .ok (.ireturn, 1) := by decide +kernel
theorem dX8_count_0 : decode cX8_count 0 = .ok (.iload_n 1, 1) := by decide +kernel
theorem dX8_count_1 : decode cX8_count 1 = .ok (.tableswitch 76 0 8 #[51, 51, 57, 57, 51, 51, 51, 66, 71], 51) := by decide +kernel
theorem dX8_count_52 : decode cX8_count 52 = .ok (.aload_n 0, 1) := by decide +kernel
theorem dX8_count_53 : decode cX8_count 53 = .ok (.iload_n 1, 1) := by decide +kernel
theorem dX8_count_54 : decode cX8_count 54 = .ok (.invokevirtual 296, 3) := by decide +kernel
theorem dX8_count_57 : decode cX8_count 57 = .ok (.ireturn, 1) := by decide +kernel
theorem dX8_count_58 : decode cX8_count 58 = .ok (.aload_n 0, 1) := by decide +kernel
theorem dX8_count_59 : decode cX8_count 59 = .ok (.getfield 7, 3) := by decide +kernel
theorem dX8_count_62 : decode cX8_count 62 = .ok (.iload_n 1, 1) := by decide +kernel
theorem dX8_count_63 : decode cX8_count 63 = .ok (.iconst 2, 1) := by decide +kernel
theorem dX8_count_64 : decode cX8_count 64 = .ok (.isub, 1) := by decide +kernel
theorem dX8_count_65 : decode cX8_count 65 = .ok (.iaload, 1) := by decide +kernel
theorem dX8_count_66 : decode cX8_count 66 = .ok (.ireturn, 1) := by decide +kernel
theorem dX8_count_67 : decode cX8_count 67 = .ok (.aload_n 0, 1) := by decide +kernel
theorem dX8_count_68 : decode cX8_count 68 = .ok (.getfield 235, 3) := by decide +kernel
theorem dX8_count_71 : decode cX8_count 71 = .ok (.ireturn, 1) := by decide +kernel
theorem dX8_count_72 : decode cX8_count 72 = .ok (.aload_n 0, 1) := by decide +kernel
theorem dX8_count_73 : decode cX8_count 73 = .ok (.getfield 282, 3) := by decide +kernel
theorem dX8_count_76 : decode cX8_count 76 = .ok (.ireturn, 1) := by decide +kernel
theorem dX8_count_77 : decode cX8_count 77 = .ok (.bipush (-2), 2) := by decide +kernel
theorem dX8_count_79 : decode cX8_count 79 = .ok (.ireturn, 1) := by decide +kernel
theorem dX8_sleeperDigest_0 : decode cX8_sleeperDigest 0 = .ok (.lload_n 1, 1) := by decide +kernel
theorem dX8_sleeperDigest_1 : decode cX8_sleeperDigest 1 = .ok (.lstore 4, 2) := by decide +kernel
theorem dX8_sleeperDigest_3 : decode cX8_sleeperDigest 3 = .ok (.iconst 0, 1) := by decide +kernel
theorem dX8_sleeperDigest_4 : decode cX8_sleeperDigest 4 = .ok (.istore 6, 2) := by decide +kernel
theorem dX8_sleeperDigest_6 : decode cX8_sleeperDigest 6 = .ok (.iload 6, 2) := by decide +kernel
theorem dX8_sleeperDigest_8 : decode cX8_sleeperDigest 8 = .ok (.iconst 4, 1) := by decide +kernel
theorem dX8_sleeperDigest_9 : decode cX8_sleeperDigest 9 = .ok (.if_icmp .ge 26, 3) := by decide +kernel
theorem dX8_sleeperDigest_12 : decode cX8_sleeperDigest 12 = .ok (.ldc2_w 299, 3) := by decide +kernel
theorem dX8_sleeperDigest_15 : decode cX8_sleeperDigest 15 = .ok (.lload 4, 2) := by decide +kernel
theorem dX8_sleeperDigest_17 : decode cX8_sleeperDigest 17 = .ok (.lmul, 1) := by decide +kernel
theorem dX8_sleeperDigest_18 : decode cX8_sleeperDigest 18 = .ok (.aload_n 0, 1) := by decide +kernel
theorem dX8_sleeperDigest_19 : decode cX8_sleeperDigest 19 = .ok (.iload_n 3, 1) := by decide +kernel
theorem dX8_sleeperDigest_20 : decode cX8_sleeperDigest 20 = .ok (.iload 6, 2) := by decide +kernel
theorem dX8_sleeperDigest_22 : decode cX8_sleeperDigest 22 = .ok (.invokevirtual 139, 3) := by decide +kernel
theorem dX8_sleeperDigest_25 : decode cX8_sleeperDigest 25 = .ok (.i2l, 1) := by decide +kernel
theorem dX8_sleeperDigest_26 : decode cX8_sleeperDigest 26 = .ok (.ladd, 1) := by decide +kernel
theorem dX8_sleeperDigest_27 : decode cX8_sleeperDigest 27 = .ok (.lstore 4, 2) := by decide +kernel
theorem dX8_sleeperDigest_29 : decode cX8_sleeperDigest 29 = .ok (.iinc 6 1, 3) := by decide +kernel
theorem dX8_sleeperDigest_32 : decode cX8_sleeperDigest 32 = .ok (.goto (-26), 3) := by decide +kernel
theorem dX8_sleeperDigest_35 : decode cX8_sleeperDigest 35 = .ok (.ldc2_w 299, 3) := by decide +kernel
theorem dX8_sleeperDigest_38 : decode cX8_sleeperDigest 38 = .ok (.lload 4, 2) := by decide +kernel
theorem dX8_sleeperDigest_40 : decode cX8_sleeperDigest 40 = .ok (.lmul, 1) := by decide +kernel
theorem dX8_sleeperDigest_41 : decode cX8_sleeperDigest 41 = .ok (.aload_n 0, 1) := by decide +kernel
theorem dX8_sleeperDigest_42 : decode cX8_sleeperDigest 42 = .ok (.iconst 5, 1) := by decide +kernel
theorem dX8_sleeperDigest_43 : decode cX8_sleeperDigest 43 = .ok (.iload_n 3, 1) := by decide +kernel
theorem dX8_sleeperDigest_44 : decode cX8_sleeperDigest 44 = .ok (.invokevirtual 183, 3) := by decide +kernel
theorem dX8_sleeperDigest_47 : decode cX8_sleeperDigest 47 = .ok (.i2l, 1) := by decide +kernel
theorem dX8_sleeperDigest_48 : decode cX8_sleeperDigest 48 = .ok (.ladd, 1) := by decide +kernel
theorem dX8_sleeperDigest_49 : decode cX8_sleeperDigest 49 = .ok (.lstore 4, 2) := by decide +kernel
theorem dX8_sleeperDigest_51 : decode cX8_sleeperDigest 51 = .ok (.ldc2_w 299, 3) := by decide +kernel
theorem dX8_sleeperDigest_54 : decode cX8_sleeperDigest 54 = .ok (.lload 4, 2) := by decide +kernel
theorem dX8_sleeperDigest_56 : decode cX8_sleeperDigest 56 = .ok (.lmul, 1) := by decide +kernel
theorem dX8_sleeperDigest_57 : decode cX8_sleeperDigest 57 = .ok (.aload_n 0, 1) := by decide +kernel
theorem dX8_sleeperDigest_58 : decode cX8_sleeperDigest 58 = .ok (.bipush 20, 2) := by decide +kernel
theorem dX8_sleeperDigest_60 : decode cX8_sleeperDigest 60 = .ok (.iload_n 3, 1) := by decide +kernel
theorem dX8_sleeperDigest_61 : decode cX8_sleeperDigest 61 = .ok (.invokevirtual 183, 3) := by decide +kernel
theorem dX8_sleeperDigest_64 : decode cX8_sleeperDigest 64 = .ok (.i2l, 1) := by decide +kernel
theorem dX8_sleeperDigest_65 : decode cX8_sleeperDigest 65 = .ok (.ladd, 1) := by decide +kernel
theorem dX8_sleeperDigest_66 : decode cX8_sleeperDigest 66 = .ok (.lstore 4, 2) := by decide +kernel
theorem dX8_sleeperDigest_68 : decode cX8_sleeperDigest 68 = .ok (.ldc2_w 299, 3) := by decide +kernel
theorem dX8_sleeperDigest_71 : decode cX8_sleeperDigest 71 = .ok (.lload 4, 2) := by decide +kernel
theorem dX8_sleeperDigest_73 : decode cX8_sleeperDigest 73 = .ok (.lmul, 1) := by decide +kernel
theorem dX8_sleeperDigest_74 : decode cX8_sleeperDigest 74 = .ok (.aload_n 0, 1) := by decide +kernel
theorem dX8_sleeperDigest_75 : decode cX8_sleeperDigest 75 = .ok (.bipush 49, 2) := by decide +kernel
theorem dX8_sleeperDigest_77 : decode cX8_sleeperDigest 77 = .ok (.iload_n 3, 1) := by decide +kernel
theorem dX8_sleeperDigest_78 : decode cX8_sleeperDigest 78 = .ok (.invokevirtual 183, 3) := by decide +kernel
theorem dX8_sleeperDigest_81 : decode cX8_sleeperDigest 81 = .ok (.i2l, 1) := by decide +kernel
theorem dX8_sleeperDigest_82 : decode cX8_sleeperDigest 82 = .ok (.ladd, 1) := by decide +kernel
theorem dX8_sleeperDigest_83 : decode cX8_sleeperDigest 83 = .ok (.lstore 4, 2) := by decide +kernel
theorem dX8_sleeperDigest_85 : decode cX8_sleeperDigest 85 = .ok (.ldc2_w 299, 3) := by decide +kernel
theorem dX8_sleeperDigest_88 : decode cX8_sleeperDigest 88 = .ok (.lload 4, 2) := by decide +kernel
theorem dX8_sleeperDigest_90 : decode cX8_sleeperDigest 90 = .ok (.lmul, 1) := by decide +kernel
theorem dX8_sleeperDigest_91 : decode cX8_sleeperDigest 91 = .ok (.aload_n 0, 1) := by decide +kernel
theorem dX8_sleeperDigest_92 : decode cX8_sleeperDigest 92 = .ok (.iload_n 3, 1) := by decide +kernel
theorem dX8_sleeperDigest_93 : decode cX8_sleeperDigest 93 = .ok (.iconst 0, 1) := by decide +kernel
theorem dX8_sleeperDigest_94 : decode cX8_sleeperDigest 94 = .ok (.invokevirtual 201, 3) := by decide +kernel
theorem dX8_sleeperDigest_97 : decode cX8_sleeperDigest 97 = .ok (.i2l, 1) := by decide +kernel
theorem dX8_sleeperDigest_98 : decode cX8_sleeperDigest 98 = .ok (.ladd, 1) := by decide +kernel
theorem dX8_sleeperDigest_99 : decode cX8_sleeperDigest 99 = .ok (.lstore 4, 2) := by decide +kernel
theorem dX8_sleeperDigest_101 : decode cX8_sleeperDigest 101 = .ok (.ldc2_w 299, 3) := by decide +kernel
theorem dX8_sleeperDigest_104 : decode cX8_sleeperDigest 104 = .ok (.lload 4, 2) := by decide +kernel
theorem dX8_sleeperDigest_106 : decode cX8_sleeperDigest 106 = .ok (.lmul, 1) := by decide +kernel
theorem dX8_sleeperDigest_107 : decode cX8_sleeperDigest 107 = .ok (.aload_n 0, 1) := by decide +kernel
theorem dX8_sleeperDigest_108 : decode cX8_sleeperDigest 108 = .ok (.iload_n 3, 1) := by decide +kernel
theorem dX8_sleeperDigest_109 : decode cX8_sleeperDigest 109 = .ok (.iconst 1, 1) := by decide +kernel
theorem dX8_sleeperDigest_110 : decode cX8_sleeperDigest 110 = .ok (.invokevirtual 201, 3) := by decide +kernel
theorem dX8_sleeperDigest_113 : decode cX8_sleeperDigest 113 = .ok (.i2l, 1) := by decide +kernel
theorem dX8_sleeperDigest_114 : decode cX8_sleeperDigest 114 = .ok (.ladd, 1) := by decide +kernel
theorem dX8_sleeperDigest_115 : decode cX8_sleeperDigest 115 = .ok (.lstore 4, 2) := by decide +kernel
theorem dX8_sleeperDigest_117 : decode cX8_sleeperDigest 117 = .ok (.ldc2_w 299, 3) := by decide +kernel
theorem dX8_sleeperDigest_120 : decode cX8_sleeperDigest 120 = .ok (.lload 4, 2) := by decide +kernel
theorem dX8_sleeperDigest_122 : decode cX8_sleeperDigest 122 = .ok (.lmul, 1) := by decide +kernel
theorem dX8_sleeperDigest_123 : decode cX8_sleeperDigest 123 = .ok (.aload_n 0, 1) := by decide +kernel
theorem dX8_sleeperDigest_124 : decode cX8_sleeperDigest 124 = .ok (.iload_n 3, 1) := by decide +kernel
theorem dX8_sleeperDigest_125 : decode cX8_sleeperDigest 125 = .ok (.iconst 0, 1) := by decide +kernel
theorem dX8_sleeperDigest_126 : decode cX8_sleeperDigest 126 = .ok (.invokevirtual 220, 3) := by decide +kernel
theorem dX8_sleeperDigest_129 : decode cX8_sleeperDigest 129 = .ok (.i2l, 1) := by decide +kernel
theorem dX8_sleeperDigest_130 : decode cX8_sleeperDigest 130 = .ok (.ladd, 1) := by decide +kernel
theorem dX8_sleeperDigest_131 : decode cX8_sleeperDigest 131 = .ok (.lstore 4, 2) := by decide +kernel
theorem dX8_sleeperDigest_133 : decode cX8_sleeperDigest 133 = .ok (.ldc2_w 299, 3) := by decide +kernel
theorem dX8_sleeperDigest_136 : decode cX8_sleeperDigest 136 = .ok (.lload 4, 2) := by decide +kernel
theorem dX8_sleeperDigest_138 : decode cX8_sleeperDigest 138 = .ok (.lmul, 1) := by decide +kernel
theorem dX8_sleeperDigest_139 : decode cX8_sleeperDigest 139 = .ok (.aload_n 0, 1) := by decide +kernel
theorem dX8_sleeperDigest_140 : decode cX8_sleeperDigest 140 = .ok (.iload_n 3, 1) := by decide +kernel
theorem dX8_sleeperDigest_141 : decode cX8_sleeperDigest 141 = .ok (.iconst 1, 1) := by decide +kernel
theorem dX8_sleeperDigest_142 : decode cX8_sleeperDigest 142 = .ok (.invokevirtual 220, 3) := by decide +kernel
theorem dX8_sleeperDigest_145 : decode cX8_sleeperDigest 145 = .ok (.i2l, 1) := by decide +kernel
theorem dX8_sleeperDigest_146 : decode cX8_sleeperDigest 146 = .ok (.ladd, 1) := by decide +kernel
theorem dX8_sleeperDigest_147 : decode cX8_sleeperDigest 147 = .ok (.lstore 4, 2) := by decide +kernel
theorem dX8_sleeperDigest_149 : decode cX8_sleeperDigest 149 = .ok (.ldc2_w 299, 3) := by decide +kernel
theorem dX8_sleeperDigest_152 : decode cX8_sleeperDigest 152 = .ok (.lload 4, 2) := by decide +kernel
theorem dX8_sleeperDigest_154 : decode cX8_sleeperDigest 154 = .ok (.lmul, 1) := by decide +kernel
theorem dX8_sleeperDigest_155 : decode cX8_sleeperDigest 155 = .ok (.aload_n 0, 1) := by decide +kernel
theorem dX8_sleeperDigest_156 : decode cX8_sleeperDigest 156 = .ok (.iload_n 3, 1) := by decide +kernel
theorem dX8_sleeperDigest_157 : decode cX8_sleeperDigest 157 = .ok (.iconst 0, 1) := by decide +kernel
theorem dX8_sleeperDigest_158 : decode cX8_sleeperDigest 158 = .ok (.invokevirtual 232, 3) := by decide +kernel
theorem dX8_sleeperDigest_161 : decode cX8_sleeperDigest 161 = .ok (.i2l, 1) := by decide +kernel
theorem dX8_sleeperDigest_162 : decode cX8_sleeperDigest 162 = .ok (.ladd, 1) := by decide +kernel
theorem dX8_sleeperDigest_163 : decode cX8_sleeperDigest 163 = .ok (.lstore 4, 2) := by decide +kernel
theorem dX8_sleeperDigest_165 : decode cX8_sleeperDigest 165 = .ok (.ldc2_w 299, 3) := by decide +kernel
theorem dX8_sleeperDigest_168 : decode cX8_sleeperDigest 168 = .ok (.lload 4, 2) := by decide +kernel
theorem dX8_sleeperDigest_170 : decode cX8_sleeperDigest 170 = .ok (.lmul, 1) := by decide +kernel
theorem dX8_sleeperDigest_171 : decode cX8_sleeperDigest 171 = .ok (.aload_n 0, 1) := by decide +kernel
theorem dX8_sleeperDigest_172 : decode cX8_sleeperDigest 172 = .ok (.iload_n 3, 1) := by decide +kernel
theorem dX8_sleeperDigest_173 : decode cX8_sleeperDigest 173 = .ok (.iconst 1, 1) := by decide +kernel
theorem dX8_sleeperDigest_174 : decode cX8_sleeperDigest 174 = .ok (.invokevirtual 232, 3) := by decide +kernel
theorem dX8_sleeperDigest_177 : decode cX8_sleeperDigest 177 = .ok (.i2l, 1) := by decide +kernel
theorem dX8_sleeperDigest_178 : decode cX8_sleeperDigest 178 = .ok (.ladd, 1) := by decide +kernel
theorem dX8_sleeperDigest_179 : decode cX8_sleeperDigest 179 = .ok (.lreturn, 1) := by decide +kernel
theorem dX8_deedDigest_0 : decode cX8_deedDigest 0 = .ok (.lload_n 1, 1) := by decide +kernel
theorem dX8_deedDigest_1 : decode cX8_deedDigest 1 = .ok (.lstore 4, 2) := by decide +kernel
theorem dX8_deedDigest_3 : decode cX8_deedDigest 3 = .ok (.iconst 0, 1) := by decide +kernel
theorem dX8_deedDigest_4 : decode cX8_deedDigest 4 = .ok (.istore 6, 2) := by decide +kernel
theorem dX8_deedDigest_6 : decode cX8_deedDigest 6 = .ok (.iload 6, 2) := by decide +kernel
theorem dX8_deedDigest_8 : decode cX8_deedDigest 8 = .ok (.iconst 3, 1) := by decide +kernel
theorem dX8_deedDigest_9 : decode cX8_deedDigest 9 = .ok (.if_icmp .ge 26, 3) := by decide +kernel
theorem dX8_deedDigest_12 : decode cX8_deedDigest 12 = .ok (.ldc2_w 299, 3) := by decide +kernel
theorem dX8_deedDigest_15 : decode cX8_deedDigest 15 = .ok (.lload 4, 2) := by decide +kernel
theorem dX8_deedDigest_17 : decode cX8_deedDigest 17 = .ok (.lmul, 1) := by decide +kernel
theorem dX8_deedDigest_18 : decode cX8_deedDigest 18 = .ok (.aload_n 0, 1) := by decide +kernel
theorem dX8_deedDigest_19 : decode cX8_deedDigest 19 = .ok (.iload_n 3, 1) := by decide +kernel
theorem dX8_deedDigest_20 : decode cX8_deedDigest 20 = .ok (.iload 6, 2) := by decide +kernel
theorem dX8_deedDigest_22 : decode cX8_deedDigest 22 = .ok (.invokevirtual 145, 3) := by decide +kernel
theorem dX8_deedDigest_25 : decode cX8_deedDigest 25 = .ok (.i2l, 1) := by decide +kernel
theorem dX8_deedDigest_26 : decode cX8_deedDigest 26 = .ok (.ladd, 1) := by decide +kernel
theorem dX8_deedDigest_27 : decode cX8_deedDigest 27 = .ok (.lstore 4, 2) := by decide +kernel
theorem dX8_deedDigest_29 : decode cX8_deedDigest 29 = .ok (.iinc 6 1, 3) := by decide +kernel
theorem dX8_deedDigest_32 : decode cX8_deedDigest 32 = .ok (.goto (-26), 3) := by decide +kernel
theorem dX8_deedDigest_35 : decode cX8_deedDigest 35 = .ok (.iconst 0, 1) := by decide +kernel
theorem dX8_deedDigest_36 : decode cX8_deedDigest 36 = .ok (.istore 6, 2) := by decide +kernel
theorem dX8_deedDigest_38 : decode cX8_deedDigest 38 = .ok (.iload 6, 2) := by decide +kernel
theorem dX8_deedDigest_40 : decode cX8_deedDigest 40 = .ok (.iconst 3, 1) := by decide +kernel
theorem dX8_deedDigest_41 : decode cX8_deedDigest 41 = .ok (.if_icmp .ge 26, 3) := by decide +kernel
theorem dX8_deedDigest_44 : decode cX8_deedDigest 44 = .ok (.ldc2_w 299, 3) := by decide +kernel
theorem dX8_deedDigest_47 : decode cX8_deedDigest 47 = .ok (.lload 4, 2) := by decide +kernel
theorem dX8_deedDigest_49 : decode cX8_deedDigest 49 = .ok (.lmul, 1) := by decide +kernel
theorem dX8_deedDigest_50 : decode cX8_deedDigest 50 = .ok (.aload_n 0, 1) := by decide +kernel
theorem dX8_deedDigest_51 : decode cX8_deedDigest 51 = .ok (.iload_n 3, 1) := by decide +kernel
theorem dX8_deedDigest_52 : decode cX8_deedDigest 52 = .ok (.iload 6, 2) := by decide +kernel
theorem dX8_deedDigest_54 : decode cX8_deedDigest 54 = .ok (.invokevirtual 195, 3) := by decide +kernel
theorem dX8_deedDigest_57 : decode cX8_deedDigest 57 = .ok (.i2l, 1) := by decide +kernel
theorem dX8_deedDigest_58 : decode cX8_deedDigest 58 = .ok (.ladd, 1) := by decide +kernel
theorem dX8_deedDigest_59 : decode cX8_deedDigest 59 = .ok (.lstore 4, 2) := by decide +kernel
theorem dX8_deedDigest_61 : decode cX8_deedDigest 61 = .ok (.iinc 6 1, 3) := by decide +kernel
theorem dX8_deedDigest_64 : decode cX8_deedDigest 64 = .ok (.goto (-26), 3) := by decide +kernel
theorem dX8_deedDigest_67 : decode cX8_deedDigest 67 = .ok (.ldc2_w 299, 3) := by decide +kernel
theorem dX8_deedDigest_70 : decode cX8_deedDigest 70 = .ok (.lload 4, 2) := by decide +kernel
theorem dX8_deedDigest_72 : decode cX8_deedDigest 72 = .ok (.lmul, 1) := by decide +kernel
theorem dX8_deedDigest_73 : decode cX8_deedDigest 73 = .ok (.aload_n 0, 1) := by decide +kernel
theorem dX8_deedDigest_74 : decode cX8_deedDigest 74 = .ok (.iload_n 3, 1) := by decide +kernel
theorem dX8_deedDigest_75 : decode cX8_deedDigest 75 = .ok (.invokevirtual 257, 3) := by decide +kernel
theorem dX8_deedDigest_78 : decode cX8_deedDigest 78 = .ok (.i2l, 1) := by decide +kernel
theorem dX8_deedDigest_79 : decode cX8_deedDigest 79 = .ok (.ladd, 1) := by decide +kernel
theorem dX8_deedDigest_80 : decode cX8_deedDigest 80 = .ok (.lstore 4, 2) := by decide +kernel
theorem dX8_deedDigest_82 : decode cX8_deedDigest 82 = .ok (.aload_n 0, 1) := by decide +kernel
theorem dX8_deedDigest_83 : decode cX8_deedDigest 83 = .ok (.iload_n 3, 1) := by decide +kernel
theorem dX8_deedDigest_84 : decode cX8_deedDigest 84 = .ok (.invokevirtual 226, 3) := by decide +kernel
theorem dX8_deedDigest_87 : decode cX8_deedDigest 87 = .ok (.istore 6, 2) := by decide +kernel
theorem dX8_deedDigest_89 : decode cX8_deedDigest 89 = .ok (.ldc2_w 299, 3) := by decide +kernel
theorem dX8_deedDigest_92 : decode cX8_deedDigest 92 = .ok (.lload 4, 2) := by decide +kernel
theorem dX8_deedDigest_94 : decode cX8_deedDigest 94 = .ok (.lmul, 1) := by decide +kernel
theorem dX8_deedDigest_95 : decode cX8_deedDigest 95 = .ok (.iload 6, 2) := by decide +kernel
theorem dX8_deedDigest_97 : decode cX8_deedDigest 97 = .ok (.i2l, 1) := by decide +kernel
theorem dX8_deedDigest_98 : decode cX8_deedDigest 98 = .ok (.ladd, 1) := by decide +kernel
theorem dX8_deedDigest_99 : decode cX8_deedDigest 99 = .ok (.lstore 4, 2) := by decide +kernel
theorem dX8_deedDigest_101 : decode cX8_deedDigest 101 = .ok (.ldc2_w 299, 3) := by decide +kernel
theorem dX8_deedDigest_104 : decode cX8_deedDigest 104 = .ok (.lload 4, 2) := by decide +kernel
theorem dX8_deedDigest_106 : decode cX8_deedDigest 106 = .ok (.lmul, 1) := by decide +kernel
theorem dX8_deedDigest_107 : decode cX8_deedDigest 107 = .ok (.aload_n 0, 1) := by decide +kernel
theorem dX8_deedDigest_108 : decode cX8_deedDigest 108 = .ok (.iload 6, 2) := by decide +kernel
theorem dX8_deedDigest_110 : decode cX8_deedDigest 110 = .ok (.iconst 0, 1) := by decide +kernel
theorem dX8_deedDigest_111 : decode cX8_deedDigest 111 = .ok (.invokevirtual 229, 3) := by decide +kernel
theorem dX8_deedDigest_114 : decode cX8_deedDigest 114 = .ok (.i2l, 1) := by decide +kernel
theorem dX8_deedDigest_115 : decode cX8_deedDigest 115 = .ok (.ladd, 1) := by decide +kernel
theorem dX8_deedDigest_116 : decode cX8_deedDigest 116 = .ok (.lstore 4, 2) := by decide +kernel
theorem dX8_deedDigest_118 : decode cX8_deedDigest 118 = .ok (.ldc2_w 299, 3) := by decide +kernel
theorem dX8_deedDigest_121 : decode cX8_deedDigest 121 = .ok (.lload 4, 2) := by decide +kernel
theorem dX8_deedDigest_123 : decode cX8_deedDigest 123 = .ok (.lmul, 1) := by decide +kernel
theorem dX8_deedDigest_124 : decode cX8_deedDigest 124 = .ok (.aload_n 0, 1) := by decide +kernel
theorem dX8_deedDigest_125 : decode cX8_deedDigest 125 = .ok (.iconst 5, 1) := by decide +kernel
theorem dX8_deedDigest_126 : decode cX8_deedDigest 126 = .ok (.iload_n 3, 1) := by decide +kernel
theorem dX8_deedDigest_127 : decode cX8_deedDigest 127 = .ok (.iconst 0, 1) := by decide +kernel
theorem dX8_deedDigest_128 : decode cX8_deedDigest 128 = .ok (.invokevirtual 267, 3) := by decide +kernel
theorem dX8_deedDigest_131 : decode cX8_deedDigest 131 = .ok (.ladd, 1) := by decide +kernel
theorem dX8_deedDigest_132 : decode cX8_deedDigest 132 = .ok (.lstore 4, 2) := by decide +kernel
theorem dX8_deedDigest_134 : decode cX8_deedDigest 134 = .ok (.ldc2_w 299, 3) := by decide +kernel
theorem dX8_deedDigest_137 : decode cX8_deedDigest 137 = .ok (.lload 4, 2) := by decide +kernel
theorem dX8_deedDigest_139 : decode cX8_deedDigest 139 = .ok (.lmul, 1) := by decide +kernel
theorem dX8_deedDigest_140 : decode cX8_deedDigest 140 = .ok (.aload_n 0, 1) := by decide +kernel
theorem dX8_deedDigest_141 : decode cX8_deedDigest 141 = .ok (.iconst 5, 1) := by decide +kernel
theorem dX8_deedDigest_142 : decode cX8_deedDigest 142 = .ok (.iload_n 3, 1) := by decide +kernel
theorem dX8_deedDigest_143 : decode cX8_deedDigest 143 = .ok (.iconst 1, 1) := by decide +kernel
theorem dX8_deedDigest_144 : decode cX8_deedDigest 144 = .ok (.invokevirtual 267, 3) := by decide +kernel
theorem dX8_deedDigest_147 : decode cX8_deedDigest 147 = .ok (.ladd, 1) := by decide +kernel
theorem dX8_deedDigest_148 : decode cX8_deedDigest 148 = .ok (.lstore 4, 2) := by decide +kernel
theorem dX8_deedDigest_150 : decode cX8_deedDigest 150 = .ok (.iconst 0, 1) := by decide +kernel
theorem dX8_deedDigest_151 : decode cX8_deedDigest 151 = .ok (.istore 7, 2) := by decide +kernel
theorem dX8_deedDigest_153 : decode cX8_deedDigest 153 = .ok (.iload 7, 2) := by decide +kernel
theorem dX8_deedDigest_155 : decode cX8_deedDigest 155 = .ok (.aload_n 0, 1) := by decide +kernel
theorem dX8_deedDigest_156 : decode cX8_deedDigest 156 = .ok (.getfield 114, 3) := by decide +kernel
theorem dX8_deedDigest_159 : decode cX8_deedDigest 159 = .ok (.if_icmp .ge 43, 3) := by decide +kernel
theorem dX8_deedDigest_162 : decode cX8_deedDigest 162 = .ok (.iconst 0, 1) := by decide +kernel
theorem dX8_deedDigest_163 : decode cX8_deedDigest 163 = .ok (.istore 8, 2) := by decide +kernel
theorem dX8_deedDigest_165 : decode cX8_deedDigest 165 = .ok (.iload 8, 2) := by decide +kernel
theorem dX8_deedDigest_167 : decode cX8_deedDigest 167 = .ok (.iconst 3, 1) := by decide +kernel
theorem dX8_deedDigest_168 : decode cX8_deedDigest 168 = .ok (.if_icmp .ge 28, 3) := by decide +kernel
theorem dX8_deedDigest_171 : decode cX8_deedDigest 171 = .ok (.ldc2_w 299, 3) := by decide +kernel
theorem dX8_deedDigest_174 : decode cX8_deedDigest 174 = .ok (.lload 4, 2) := by decide +kernel
theorem dX8_deedDigest_176 : decode cX8_deedDigest 176 = .ok (.lmul, 1) := by decide +kernel
theorem dX8_deedDigest_177 : decode cX8_deedDigest 177 = .ok (.aload_n 0, 1) := by decide +kernel
theorem dX8_deedDigest_178 : decode cX8_deedDigest 178 = .ok (.iload_n 3, 1) := by decide +kernel
theorem dX8_deedDigest_179 : decode cX8_deedDigest 179 = .ok (.iload 7, 2) := by decide +kernel
theorem dX8_deedDigest_181 : decode cX8_deedDigest 181 = .ok (.iload 8, 2) := by decide +kernel
theorem dX8_deedDigest_183 : decode cX8_deedDigest 183 = .ok (.invokevirtual 186, 3) := by decide +kernel
theorem dX8_deedDigest_186 : decode cX8_deedDigest 186 = .ok (.i2l, 1) := by decide +kernel
theorem dX8_deedDigest_187 : decode cX8_deedDigest 187 = .ok (.ladd, 1) := by decide +kernel
theorem dX8_deedDigest_188 : decode cX8_deedDigest 188 = .ok (.lstore 4, 2) := by decide +kernel
theorem dX8_deedDigest_190 : decode cX8_deedDigest 190 = .ok (.iinc 8 1, 3) := by decide +kernel
theorem dX8_deedDigest_193 : decode cX8_deedDigest 193 = .ok (.goto (-28), 3) := by decide +kernel
theorem dX8_deedDigest_196 : decode cX8_deedDigest 196 = .ok (.iinc 7 1, 3) := by decide +kernel
theorem dX8_deedDigest_199 : decode cX8_deedDigest 199 = .ok (.goto (-46), 3) := by decide +kernel
theorem dX8_deedDigest_202 : decode cX8_deedDigest 202 = .ok (.lload 4, 2) := by decide +kernel
theorem dX8_deedDigest_204 : decode cX8_deedDigest 204 = .ok (.lreturn, 1) := by decide +kernel
theorem dX8_digest_0 : decode cX8_digest 0 = .ok (.ldc2_w 301, 3) := by decide +kernel
theorem dX8_digest_3 : decode cX8_digest 3 = .ok (.lstore_n 1, 1) := by decide +kernel
theorem dX8_digest_4 : decode cX8_digest 4 = .ok (.iconst 0, 1) := by decide +kernel
theorem dX8_digest_5 : decode cX8_digest 5 = .ok (.istore_n 3, 1) := by decide +kernel
theorem dX8_digest_6 : decode cX8_digest 6 = .ok (.iload_n 3, 1) := by decide +kernel
theorem dX8_digest_7 : decode cX8_digest 7 = .ok (.bipush 8, 2) := by decide +kernel
theorem dX8_digest_9 : decode cX8_digest 9 = .ok (.if_icmp .ge 22, 3) := by decide +kernel
theorem dX8_digest_12 : decode cX8_digest 12 = .ok (.ldc2_w 299, 3) := by decide +kernel
theorem dX8_digest_15 : decode cX8_digest 15 = .ok (.lload_n 1, 1) := by decide +kernel
theorem dX8_digest_16 : decode cX8_digest 16 = .ok (.lmul, 1) := by decide +kernel
theorem dX8_digest_17 : decode cX8_digest 17 = .ok (.aload_n 0, 1) := by decide +kernel
theorem dX8_digest_18 : decode cX8_digest 18 = .ok (.iload_n 3, 1) := by decide +kernel
theorem dX8_digest_19 : decode cX8_digest 19 = .ok (.invokevirtual 303, 3) := by decide +kernel
theorem dX8_digest_22 : decode cX8_digest 22 = .ok (.i2l, 1) := by decide +kernel
theorem dX8_digest_23 : decode cX8_digest 23 = .ok (.ladd, 1) := by decide +kernel
theorem dX8_digest_24 : decode cX8_digest 24 = .ok (.lstore_n 1, 1) := by decide +kernel
theorem dX8_digest_25 : decode cX8_digest 25 = .ok (.iinc 3 1, 3) := by decide +kernel
theorem dX8_digest_28 : decode cX8_digest 28 = .ok (.goto (-22), 3) := by decide +kernel
theorem dX8_digest_31 : decode cX8_digest 31 = .ok (.ldc2_w 299, 3) := by decide +kernel
theorem dX8_digest_34 : decode cX8_digest 34 = .ok (.lload_n 1, 1) := by decide +kernel
theorem dX8_digest_35 : decode cX8_digest 35 = .ok (.lmul, 1) := by decide +kernel
theorem dX8_digest_36 : decode cX8_digest 36 = .ok (.aload_n 0, 1) := by decide +kernel
theorem dX8_digest_37 : decode cX8_digest 37 = .ok (.iconst 0, 1) := by decide +kernel
theorem dX8_digest_38 : decode cX8_digest 38 = .ok (.invokevirtual 130, 3) := by decide +kernel
theorem dX8_digest_41 : decode cX8_digest 41 = .ok (.i2l, 1) := by decide +kernel
theorem dX8_digest_42 : decode cX8_digest 42 = .ok (.ladd, 1) := by decide +kernel
theorem dX8_digest_43 : decode cX8_digest 43 = .ok (.lstore_n 1, 1) := by decide +kernel
theorem dX8_digest_44 : decode cX8_digest 44 = .ok (.ldc2_w 299, 3) := by decide +kernel
theorem dX8_digest_47 : decode cX8_digest 47 = .ok (.lload_n 1, 1) := by decide +kernel
theorem dX8_digest_48 : decode cX8_digest 48 = .ok (.lmul, 1) := by decide +kernel
theorem dX8_digest_49 : decode cX8_digest 49 = .ok (.aload_n 0, 1) := by decide +kernel
theorem dX8_digest_50 : decode cX8_digest 50 = .ok (.iconst 1, 1) := by decide +kernel
theorem dX8_digest_51 : decode cX8_digest 51 = .ok (.invokevirtual 130, 3) := by decide +kernel
theorem dX8_digest_54 : decode cX8_digest 54 = .ok (.i2l, 1) := by decide +kernel
theorem dX8_digest_55 : decode cX8_digest 55 = .ok (.ladd, 1) := by decide +kernel
theorem dX8_digest_56 : decode cX8_digest 56 = .ok (.lstore_n 1, 1) := by decide +kernel
theorem dX8_digest_57 : decode cX8_digest 57 = .ok (.iconst 0, 1) := by decide +kernel
theorem dX8_digest_58 : decode cX8_digest 58 = .ok (.istore_n 3, 1) := by decide +kernel
theorem dX8_digest_59 : decode cX8_digest 59 = .ok (.iload_n 3, 1) := by decide +kernel
theorem dX8_digest_60 : decode cX8_digest 60 = .ok (.aload_n 0, 1) := by decide +kernel
theorem dX8_digest_61 : decode cX8_digest 61 = .ok (.getfield 114, 3) := by decide +kernel
theorem dX8_digest_64 : decode cX8_digest 64 = .ok (.if_icmp .ge 16, 3) := by decide +kernel
theorem dX8_digest_67 : decode cX8_digest 67 = .ok (.aload_n 0, 1) := by decide +kernel
theorem dX8_digest_68 : decode cX8_digest 68 = .ok (.lload_n 1, 1) := by decide +kernel
theorem dX8_digest_69 : decode cX8_digest 69 = .ok (.iload_n 3, 1) := by decide +kernel
theorem dX8_digest_70 : decode cX8_digest 70 = .ok (.invokevirtual 306, 3) := by decide +kernel
theorem dX8_digest_73 : decode cX8_digest 73 = .ok (.lstore_n 1, 1) := by decide +kernel
theorem dX8_digest_74 : decode cX8_digest 74 = .ok (.iinc 3 1, 3) := by decide +kernel
theorem dX8_digest_77 : decode cX8_digest 77 = .ok (.goto (-18), 3) := by decide +kernel
theorem dX8_digest_80 : decode cX8_digest 80 = .ok (.iconst 0, 1) := by decide +kernel
theorem dX8_digest_81 : decode cX8_digest 81 = .ok (.istore_n 3, 1) := by decide +kernel
theorem dX8_digest_82 : decode cX8_digest 82 = .ok (.iload_n 3, 1) := by decide +kernel
theorem dX8_digest_83 : decode cX8_digest 83 = .ok (.aload_n 0, 1) := by decide +kernel
theorem dX8_digest_84 : decode cX8_digest 84 = .ok (.getfield 117, 3) := by decide +kernel
theorem dX8_digest_87 : decode cX8_digest 87 = .ok (.if_icmp .ge 16, 3) := by decide +kernel
theorem dX8_digest_90 : decode cX8_digest 90 = .ok (.aload_n 0, 1) := by decide +kernel
theorem dX8_digest_91 : decode cX8_digest 91 = .ok (.lload_n 1, 1) := by decide +kernel
theorem dX8_digest_92 : decode cX8_digest 92 = .ok (.iload_n 3, 1) := by decide +kernel
theorem dX8_digest_93 : decode cX8_digest 93 = .ok (.invokevirtual 310, 3) := by decide +kernel
theorem dX8_digest_96 : decode cX8_digest 96 = .ok (.lstore_n 1, 1) := by decide +kernel
theorem dX8_digest_97 : decode cX8_digest 97 = .ok (.iinc 3 1, 3) := by decide +kernel
theorem dX8_digest_100 : decode cX8_digest 100 = .ok (.goto (-18), 3) := by decide +kernel
theorem dX8_digest_103 : decode cX8_digest 103 = .ok (.iconst 0, 1) := by decide +kernel
theorem dX8_digest_104 : decode cX8_digest 104 = .ok (.istore_n 3, 1) := by decide +kernel
theorem dX8_digest_105 : decode cX8_digest 105 = .ok (.iload_n 3, 1) := by decide +kernel
theorem dX8_digest_106 : decode cX8_digest 106 = .ok (.iconst 4, 1) := by decide +kernel
theorem dX8_digest_107 : decode cX8_digest 107 = .ok (.if_icmp .ge 39, 3) := by decide +kernel
theorem dX8_digest_110 : decode cX8_digest 110 = .ok (.ldc2_w 299, 3) := by decide +kernel
theorem dX8_digest_113 : decode cX8_digest 113 = .ok (.lload_n 1, 1) := by decide +kernel
theorem dX8_digest_114 : decode cX8_digest 114 = .ok (.lmul, 1) := by decide +kernel
theorem dX8_digest_115 : decode cX8_digest 115 = .ok (.aload_n 0, 1) := by decide +kernel
theorem dX8_digest_116 : decode cX8_digest 116 = .ok (.iconst 4, 1) := by decide +kernel
theorem dX8_digest_117 : decode cX8_digest 117 = .ok (.iload_n 3, 1) := by decide +kernel
theorem dX8_digest_118 : decode cX8_digest 118 = .ok (.iconst (-1), 1) := by decide +kernel
theorem dX8_digest_119 : decode cX8_digest 119 = .ok (.invokevirtual 214, 3) := by decide +kernel
theorem dX8_digest_122 : decode cX8_digest 122 = .ok (.i2l, 1) := by decide +kernel
theorem dX8_digest_123 : decode cX8_digest 123 = .ok (.ladd, 1) := by decide +kernel
theorem dX8_digest_124 : decode cX8_digest 124 = .ok (.lstore_n 1, 1) := by decide +kernel
theorem dX8_digest_125 : decode cX8_digest 125 = .ok (.ldc2_w 299, 3) := by decide +kernel
theorem dX8_digest_128 : decode cX8_digest 128 = .ok (.lload_n 1, 1) := by decide +kernel
theorem dX8_digest_129 : decode cX8_digest 129 = .ok (.lmul, 1) := by decide +kernel
theorem dX8_digest_130 : decode cX8_digest 130 = .ok (.aload_n 0, 1) := by decide +kernel
theorem dX8_digest_131 : decode cX8_digest 131 = .ok (.iconst 4, 1) := by decide +kernel
theorem dX8_digest_132 : decode cX8_digest 132 = .ok (.iload_n 3, 1) := by decide +kernel
theorem dX8_digest_133 : decode cX8_digest 133 = .ok (.iconst 0, 1) := by decide +kernel
theorem dX8_digest_134 : decode cX8_digest 134 = .ok (.invokevirtual 214, 3) := by decide +kernel
theorem dX8_digest_137 : decode cX8_digest 137 = .ok (.i2l, 1) := by decide +kernel
theorem dX8_digest_138 : decode cX8_digest 138 = .ok (.ladd, 1) := by decide +kernel
theorem dX8_digest_139 : decode cX8_digest 139 = .ok (.lstore_n 1, 1) := by decide +kernel
theorem dX8_digest_140 : decode cX8_digest 140 = .ok (.iinc 3 1, 3) := by decide +kernel
theorem dX8_digest_143 : decode cX8_digest 143 = .ok (.goto (-38), 3) := by decide +kernel
theorem dX8_digest_146 : decode cX8_digest 146 = .ok (.ldc2_w 299, 3) := by decide +kernel
theorem dX8_digest_149 : decode cX8_digest 149 = .ok (.lload_n 1, 1) := by decide +kernel
theorem dX8_digest_150 : decode cX8_digest 150 = .ok (.lmul, 1) := by decide +kernel
theorem dX8_digest_151 : decode cX8_digest 151 = .ok (.aload_n 0, 1) := by decide +kernel
theorem dX8_digest_152 : decode cX8_digest 152 = .ok (.invokevirtual 204, 3) := by decide +kernel
theorem dX8_digest_155 : decode cX8_digest 155 = .ok (.i2l, 1) := by decide +kernel
theorem dX8_digest_156 : decode cX8_digest 156 = .ok (.ladd, 1) := by decide +kernel
theorem dX8_digest_157 : decode cX8_digest 157 = .ok (.lstore_n 1, 1) := by decide +kernel
theorem dX8_digest_158 : decode cX8_digest 158 = .ok (.ldc2_w 299, 3) := by decide +kernel
theorem dX8_digest_161 : decode cX8_digest 161 = .ok (.lload_n 1, 1) := by decide +kernel
theorem dX8_digest_162 : decode cX8_digest 162 = .ok (.lmul, 1) := by decide +kernel
theorem dX8_digest_163 : decode cX8_digest 163 = .ok (.aload_n 0, 1) := by decide +kernel
theorem dX8_digest_164 : decode cX8_digest 164 = .ok (.invokevirtual 208, 3) := by decide +kernel
theorem dX8_digest_167 : decode cX8_digest 167 = .ok (.i2l, 1) := by decide +kernel
theorem dX8_digest_168 : decode cX8_digest 168 = .ok (.ladd, 1) := by decide +kernel
theorem dX8_digest_169 : decode cX8_digest 169 = .ok (.lstore_n 1, 1) := by decide +kernel
theorem dX8_digest_170 : decode cX8_digest 170 = .ok (.ldc2_w 299, 3) := by decide +kernel
theorem dX8_digest_173 : decode cX8_digest 173 = .ok (.lload_n 1, 1) := by decide +kernel
theorem dX8_digest_174 : decode cX8_digest 174 = .ok (.lmul, 1) := by decide +kernel
theorem dX8_digest_175 : decode cX8_digest 175 = .ok (.aload_n 0, 1) := by decide +kernel
theorem dX8_digest_176 : decode cX8_digest 176 = .ok (.invokevirtual 254, 3) := by decide +kernel
theorem dX8_digest_179 : decode cX8_digest 179 = .ok (.i2l, 1) := by decide +kernel
theorem dX8_digest_180 : decode cX8_digest 180 = .ok (.ladd, 1) := by decide +kernel
theorem dX8_digest_181 : decode cX8_digest 181 = .ok (.lstore_n 1, 1) := by decide +kernel
theorem dX8_digest_182 : decode cX8_digest 182 = .ok (.ldc2_w 299, 3) := by decide +kernel
theorem dX8_digest_185 : decode cX8_digest 185 = .ok (.lload_n 1, 1) := by decide +kernel
theorem dX8_digest_186 : decode cX8_digest 186 = .ok (.lmul, 1) := by decide +kernel
theorem dX8_digest_187 : decode cX8_digest 187 = .ok (.aload_n 0, 1) := by decide +kernel
theorem dX8_digest_188 : decode cX8_digest 188 = .ok (.invokevirtual 260, 3) := by decide +kernel
theorem dX8_digest_191 : decode cX8_digest 191 = .ok (.i2l, 1) := by decide +kernel
theorem dX8_digest_192 : decode cX8_digest 192 = .ok (.ladd, 1) := by decide +kernel
theorem dX8_digest_193 : decode cX8_digest 193 = .ok (.lstore_n 1, 1) := by decide +kernel
theorem dX8_digest_194 : decode cX8_digest 194 = .ok (.ldc2_w 299, 3) := by decide +kernel
theorem dX8_digest_197 : decode cX8_digest 197 = .ok (.lload_n 1, 1) := by decide +kernel
theorem dX8_digest_198 : decode cX8_digest 198 = .ok (.lmul, 1) := by decide +kernel
theorem dX8_digest_199 : decode cX8_digest 199 = .ok (.aload_n 0, 1) := by decide +kernel
theorem dX8_digest_200 : decode cX8_digest 200 = .ok (.bipush 7, 2) := by decide +kernel
theorem dX8_digest_202 : decode cX8_digest 202 = .ok (.bipush 8, 2) := by decide +kernel
theorem dX8_digest_204 : decode cX8_digest 204 = .ok (.iconst 0, 1) := by decide +kernel
theorem dX8_digest_205 : decode cX8_digest 205 = .ok (.invokevirtual 279, 3) := by decide +kernel
theorem dX8_digest_208 : decode cX8_digest 208 = .ok (.i2l, 1) := by decide +kernel
theorem dX8_digest_209 : decode cX8_digest 209 = .ok (.ladd, 1) := by decide +kernel
theorem dX8_digest_210 : decode cX8_digest 210 = .ok (.lstore_n 1, 1) := by decide +kernel
theorem dX8_digest_211 : decode cX8_digest 211 = .ok (.ldc2_w 299, 3) := by decide +kernel
theorem dX8_digest_214 : decode cX8_digest 214 = .ok (.lload_n 1, 1) := by decide +kernel
theorem dX8_digest_215 : decode cX8_digest 215 = .ok (.lmul, 1) := by decide +kernel
theorem dX8_digest_216 : decode cX8_digest 216 = .ok (.aload_n 0, 1) := by decide +kernel
theorem dX8_digest_217 : decode cX8_digest 217 = .ok (.bipush 7, 2) := by decide +kernel
theorem dX8_digest_219 : decode cX8_digest 219 = .ok (.bipush 8, 2) := by decide +kernel
theorem dX8_digest_221 : decode cX8_digest 221 = .ok (.iconst 1, 1) := by decide +kernel
theorem dX8_digest_222 : decode cX8_digest 222 = .ok (.invokevirtual 279, 3) := by decide +kernel
theorem dX8_digest_225 : decode cX8_digest 225 = .ok (.i2l, 1) := by decide +kernel
theorem dX8_digest_226 : decode cX8_digest 226 = .ok (.ladd, 1) := by decide +kernel
theorem dX8_digest_227 : decode cX8_digest 227 = .ok (.lreturn, 1) := by decide +kernel
end
section
theorem dL_law_0 : decode cL_law 0 = .ok (.new 7, 3) := by decide +kernel
theorem dL_law_3 : decode cL_law 3 = .ok (.dup, 1) := by decide +kernel
theorem dL_law_4 : decode cL_law 4 = .ok (.invokespecial 9, 3) := by decide +kernel
theorem dL_law_7 : decode cL_law 7 = .ok (.astore_n 1, 1) := by decide +kernel
theorem dL_law_8 : decode cL_law 8 = .ok (.new 10, 3) := by decide +kernel
theorem dL_law_11 : decode cL_law 11 = .ok (.dup, 1) := by decide +kernel
theorem dL_law_12 : decode cL_law 12 = .ok (.invokespecial 12, 3) := by decide +kernel
theorem dL_law_15 : decode cL_law 15 = .ok (.astore_n 2, 1) := by decide +kernel
theorem dL_law_16 : decode cL_law 16 = .ok (.iconst 0, 1) := by decide +kernel
theorem dL_law_17 : decode cL_law 17 = .ok (.istore_n 3, 1) := by decide +kernel
theorem dL_law_18 : decode cL_law 18 = .ok (.iload_n 3, 1) := by decide +kernel
theorem dL_law_19 : decode cL_law 19 = .ok (.aload_n 0, 1) := by decide +kernel
theorem dL_law_20 : decode cL_law 20 = .ok (.arraylength, 1) := by decide +kernel
theorem dL_law_21 : decode cL_law 21 = .ok (.bipush 6, 2) := by decide +kernel
theorem dL_law_23 : decode cL_law 23 = .ok (.isub, 1) := by decide +kernel
theorem dL_law_24 : decode cL_law 24 = .ok (.if_icmp .gt 1183, 3) := by decide +kernel
theorem dL_law_27 : decode cL_law 27 = .ok (.aload_n 0, 1) := by decide +kernel
theorem dL_law_28 : decode cL_law 28 = .ok (.iload_n 3, 1) := by decide +kernel
theorem dL_law_29 : decode cL_law 29 = .ok (.iaload, 1) := by decide +kernel
theorem dL_law_30 : decode cL_law 30 = .ok (.bipush 63, 2) := by decide +kernel
theorem dL_law_32 : decode cL_law 32 = .ok (.iand, 1) := by decide +kernel
theorem dL_law_33 : decode cL_law 33 = .ok (.tableswitch 1168 0 32 #[147, 180, 203, 226, 249, 282, 315, 348, 381, 424, 457, 490, 503, 516, 559, 592, 625, 658, 701, 714, 737, 750, 773, 786, 830, 873, 916, 939, 992, 1035, 1098, 1131, 1154], 147) := by decide +kernel
theorem dL_law_180 : decode cL_law 180 = .ok (.aload_n 1, 1) := by decide +kernel
theorem dL_law_181 : decode cL_law 181 = .ok (.aload_n 0, 1) := by decide +kernel
theorem dL_law_182 : decode cL_law 182 = .ok (.iload_n 3, 1) := by decide +kernel
theorem dL_law_183 : decode cL_law 183 = .ok (.iconst 1, 1) := by decide +kernel
theorem dL_law_184 : decode cL_law 184 = .ok (.iadd, 1) := by decide +kernel
theorem dL_law_185 : decode cL_law 185 = .ok (.iaload, 1) := by decide +kernel
theorem dL_law_186 : decode cL_law 186 = .ok (.aload_n 0, 1) := by decide +kernel
theorem dL_law_187 : decode cL_law 187 = .ok (.iload_n 3, 1) := by decide +kernel
theorem dL_law_188 : decode cL_law 188 = .ok (.iconst 2, 1) := by decide +kernel
theorem dL_law_189 : decode cL_law 189 = .ok (.iadd, 1) := by decide +kernel
theorem dL_law_190 : decode cL_law 190 = .ok (.iaload, 1) := by decide +kernel
theorem dL_law_191 : decode cL_law 191 = .ok (.invokevirtual 13, 3) := by decide +kernel
theorem dL_law_194 : decode cL_law 194 = .ok (.aload_n 2, 1) := by decide +kernel
theorem dL_law_195 : decode cL_law 195 = .ok (.aload_n 0, 1) := by decide +kernel
theorem dL_law_196 : decode cL_law 196 = .ok (.iload_n 3, 1) := by decide +kernel
theorem dL_law_197 : decode cL_law 197 = .ok (.iconst 1, 1) := by decide +kernel
theorem dL_law_198 : decode cL_law 198 = .ok (.iadd, 1) := by decide +kernel
theorem dL_law_199 : decode cL_law 199 = .ok (.iaload, 1) := by decide +kernel
theorem dL_law_200 : decode cL_law 200 = .ok (.aload_n 0, 1) := by decide +kernel
theorem dL_law_201 : decode cL_law 201 = .ok (.iload_n 3, 1) := by decide +kernel
theorem dL_law_202 : decode cL_law 202 = .ok (.iconst 2, 1) := by decide +kernel
theorem dL_law_203 : decode cL_law 203 = .ok (.iadd, 1) := by decide +kernel
theorem dL_law_204 : decode cL_law 204 = .ok (.iaload, 1) := by decide +kernel
theorem dL_law_205 : decode cL_law 205 = .ok (.invokevirtual 17, 3) := by decide +kernel
theorem dL_law_208 : decode cL_law 208 = .ok (.if_icmp .eq 993, 3) := by decide +kernel
theorem dL_law_211 : decode cL_law 211 = .ok (.iconst 0, 1) := by decide +kernel
theorem dL_law_212 : decode cL_law 212 = .ok (.ireturn, 1) := by decide +kernel
theorem dL_law_213 : decode cL_law 213 = .ok (.aload_n 1, 1) := by decide +kernel
theorem dL_law_214 : decode cL_law 214 = .ok (.aload_n 0, 1) := by decide +kernel
theorem dL_law_215 : decode cL_law 215 = .ok (.iload_n 3, 1) := by decide +kernel
theorem dL_law_216 : decode cL_law 216 = .ok (.iconst 1, 1) := by decide +kernel
theorem dL_law_217 : decode cL_law 217 = .ok (.iadd, 1) := by decide +kernel
theorem dL_law_218 : decode cL_law 218 = .ok (.iaload, 1) := by decide +kernel
theorem dL_law_219 : decode cL_law 219 = .ok (.invokevirtual 18, 3) := by decide +kernel
theorem dL_law_222 : decode cL_law 222 = .ok (.aload_n 2, 1) := by decide +kernel
theorem dL_law_223 : decode cL_law 223 = .ok (.aload_n 0, 1) := by decide +kernel
theorem dL_law_224 : decode cL_law 224 = .ok (.iload_n 3, 1) := by decide +kernel
theorem dL_law_225 : decode cL_law 225 = .ok (.iconst 1, 1) := by decide +kernel
theorem dL_law_226 : decode cL_law 226 = .ok (.iadd, 1) := by decide +kernel
theorem dL_law_227 : decode cL_law 227 = .ok (.iaload, 1) := by decide +kernel
theorem dL_law_228 : decode cL_law 228 = .ok (.invokevirtual 22, 3) := by decide +kernel
theorem dL_law_231 : decode cL_law 231 = .ok (.if_icmp .eq 970, 3) := by decide +kernel
theorem dL_law_234 : decode cL_law 234 = .ok (.iconst 0, 1) := by decide +kernel
theorem dL_law_235 : decode cL_law 235 = .ok (.ireturn, 1) := by decide +kernel
theorem dL_law_236 : decode cL_law 236 = .ok (.aload_n 1, 1) := by decide +kernel
theorem dL_law_237 : decode cL_law 237 = .ok (.aload_n 0, 1) := by decide +kernel
theorem dL_law_238 : decode cL_law 238 = .ok (.iload_n 3, 1) := by decide +kernel
theorem dL_law_239 : decode cL_law 239 = .ok (.iconst 1, 1) := by decide +kernel
theorem dL_law_240 : decode cL_law 240 = .ok (.iadd, 1) := by decide +kernel
theorem dL_law_241 : decode cL_law 241 = .ok (.iaload, 1) := by decide +kernel
theorem dL_law_242 : decode cL_law 242 = .ok (.invokevirtual 23, 3) := by decide +kernel
theorem dL_law_245 : decode cL_law 245 = .ok (.aload_n 2, 1) := by decide +kernel
theorem dL_law_246 : decode cL_law 246 = .ok (.aload_n 0, 1) := by decide +kernel
theorem dL_law_247 : decode cL_law 247 = .ok (.iload_n 3, 1) := by decide +kernel
theorem dL_law_248 : decode cL_law 248 = .ok (.iconst 1, 1) := by decide +kernel
theorem dL_law_249 : decode cL_law 249 = .ok (.iadd, 1) := by decide +kernel
theorem dL_law_250 : decode cL_law 250 = .ok (.iaload, 1) := by decide +kernel
theorem dL_law_251 : decode cL_law 251 = .ok (.invokevirtual 26, 3) := by decide +kernel
theorem dL_law_254 : decode cL_law 254 = .ok (.if_icmp .eq 947, 3) := by decide +kernel
theorem dL_law_257 : decode cL_law 257 = .ok (.iconst 0, 1) := by decide +kernel
theorem dL_law_258 : decode cL_law 258 = .ok (.ireturn, 1) := by decide +kernel
theorem dL_law_259 : decode cL_law 259 = .ok (.aload_n 1, 1) := by decide +kernel
theorem dL_law_260 : decode cL_law 260 = .ok (.aload_n 0, 1) := by decide +kernel
theorem dL_law_261 : decode cL_law 261 = .ok (.iload_n 3, 1) := by decide +kernel
theorem dL_law_262 : decode cL_law 262 = .ok (.iconst 1, 1) := by decide +kernel
theorem dL_law_263 : decode cL_law 263 = .ok (.iadd, 1) := by decide +kernel
theorem dL_law_264 : decode cL_law 264 = .ok (.iaload, 1) := by decide +kernel
theorem dL_law_265 : decode cL_law 265 = .ok (.invokevirtual 27, 3) := by decide +kernel
theorem dL_law_268 : decode cL_law 268 = .ok (.aload_n 2, 1) := by decide +kernel
theorem dL_law_269 : decode cL_law 269 = .ok (.aload_n 0, 1) := by decide +kernel
theorem dL_law_270 : decode cL_law 270 = .ok (.iload_n 3, 1) := by decide +kernel
theorem dL_law_271 : decode cL_law 271 = .ok (.iconst 1, 1) := by decide +kernel
theorem dL_law_272 : decode cL_law 272 = .ok (.iadd, 1) := by decide +kernel
theorem dL_law_273 : decode cL_law 273 = .ok (.iaload, 1) := by decide +kernel
theorem dL_law_274 : decode cL_law 274 = .ok (.invokevirtual 30, 3) := by decide +kernel
theorem dL_law_277 : decode cL_law 277 = .ok (.if_icmp .eq 924, 3) := by decide +kernel
theorem dL_law_280 : decode cL_law 280 = .ok (.iconst 0, 1) := by decide +kernel
theorem dL_law_281 : decode cL_law 281 = .ok (.ireturn, 1) := by decide +kernel
theorem dL_law_282 : decode cL_law 282 = .ok (.aload_n 1, 1) := by decide +kernel
theorem dL_law_283 : decode cL_law 283 = .ok (.aload_n 0, 1) := by decide +kernel
theorem dL_law_284 : decode cL_law 284 = .ok (.iload_n 3, 1) := by decide +kernel
theorem dL_law_285 : decode cL_law 285 = .ok (.iconst 1, 1) := by decide +kernel
theorem dL_law_286 : decode cL_law 286 = .ok (.iadd, 1) := by decide +kernel
theorem dL_law_287 : decode cL_law 287 = .ok (.iaload, 1) := by decide +kernel
theorem dL_law_288 : decode cL_law 288 = .ok (.aload_n 0, 1) := by decide +kernel
theorem dL_law_289 : decode cL_law 289 = .ok (.iload_n 3, 1) := by decide +kernel
theorem dL_law_290 : decode cL_law 290 = .ok (.iconst 2, 1) := by decide +kernel
theorem dL_law_291 : decode cL_law 291 = .ok (.iadd, 1) := by decide +kernel
theorem dL_law_292 : decode cL_law 292 = .ok (.iaload, 1) := by decide +kernel
theorem dL_law_293 : decode cL_law 293 = .ok (.invokevirtual 31, 3) := by decide +kernel
theorem dL_law_296 : decode cL_law 296 = .ok (.aload_n 2, 1) := by decide +kernel
theorem dL_law_297 : decode cL_law 297 = .ok (.aload_n 0, 1) := by decide +kernel
theorem dL_law_298 : decode cL_law 298 = .ok (.iload_n 3, 1) := by decide +kernel
theorem dL_law_299 : decode cL_law 299 = .ok (.iconst 1, 1) := by decide +kernel
theorem dL_law_300 : decode cL_law 300 = .ok (.iadd, 1) := by decide +kernel
theorem dL_law_301 : decode cL_law 301 = .ok (.iaload, 1) := by decide +kernel
theorem dL_law_302 : decode cL_law 302 = .ok (.aload_n 0, 1) := by decide +kernel
theorem dL_law_303 : decode cL_law 303 = .ok (.iload_n 3, 1) := by decide +kernel
theorem dL_law_304 : decode cL_law 304 = .ok (.iconst 2, 1) := by decide +kernel
theorem dL_law_305 : decode cL_law 305 = .ok (.iadd, 1) := by decide +kernel
theorem dL_law_306 : decode cL_law 306 = .ok (.iaload, 1) := by decide +kernel
theorem dL_law_307 : decode cL_law 307 = .ok (.invokevirtual 34, 3) := by decide +kernel
theorem dL_law_310 : decode cL_law 310 = .ok (.if_icmp .eq 891, 3) := by decide +kernel
theorem dL_law_313 : decode cL_law 313 = .ok (.iconst 0, 1) := by decide +kernel
theorem dL_law_314 : decode cL_law 314 = .ok (.ireturn, 1) := by decide +kernel
theorem dL_law_315 : decode cL_law 315 = .ok (.aload_n 1, 1) := by decide +kernel
theorem dL_law_316 : decode cL_law 316 = .ok (.aload_n 0, 1) := by decide +kernel
theorem dL_law_317 : decode cL_law 317 = .ok (.iload_n 3, 1) := by decide +kernel
theorem dL_law_318 : decode cL_law 318 = .ok (.iconst 1, 1) := by decide +kernel
theorem dL_law_319 : decode cL_law 319 = .ok (.iadd, 1) := by decide +kernel
theorem dL_law_320 : decode cL_law 320 = .ok (.iaload, 1) := by decide +kernel
theorem dL_law_321 : decode cL_law 321 = .ok (.aload_n 0, 1) := by decide +kernel
theorem dL_law_322 : decode cL_law 322 = .ok (.iload_n 3, 1) := by decide +kernel
theorem dL_law_323 : decode cL_law 323 = .ok (.iconst 2, 1) := by decide +kernel
theorem dL_law_324 : decode cL_law 324 = .ok (.iadd, 1) := by decide +kernel
theorem dL_law_325 : decode cL_law 325 = .ok (.iaload, 1) := by decide +kernel
theorem dL_law_326 : decode cL_law 326 = .ok (.invokevirtual 35, 3) := by decide +kernel
theorem dL_law_329 : decode cL_law 329 = .ok (.aload_n 2, 1) := by decide +kernel
theorem dL_law_330 : decode cL_law 330 = .ok (.aload_n 0, 1) := by decide +kernel
theorem dL_law_331 : decode cL_law 331 = .ok (.iload_n 3, 1) := by decide +kernel
theorem dL_law_332 : decode cL_law 332 = .ok (.iconst 1, 1) := by decide +kernel
theorem dL_law_333 : decode cL_law 333 = .ok (.iadd, 1) := by decide +kernel
theorem dL_law_334 : decode cL_law 334 = .ok (.iaload, 1) := by decide +kernel
theorem dL_law_335 : decode cL_law 335 = .ok (.aload_n 0, 1) := by decide +kernel
theorem dL_law_336 : decode cL_law 336 = .ok (.iload_n 3, 1) := by decide +kernel
theorem dL_law_337 : decode cL_law 337 = .ok (.iconst 2, 1) := by decide +kernel
theorem dL_law_338 : decode cL_law 338 = .ok (.iadd, 1) := by decide +kernel
theorem dL_law_339 : decode cL_law 339 = .ok (.iaload, 1) := by decide +kernel
theorem dL_law_340 : decode cL_law 340 = .ok (.invokevirtual 38, 3) := by decide +kernel
theorem dL_law_343 : decode cL_law 343 = .ok (.if_icmp .eq 858, 3) := by decide +kernel
theorem dL_law_346 : decode cL_law 346 = .ok (.iconst 0, 1) := by decide +kernel
theorem dL_law_347 : decode cL_law 347 = .ok (.ireturn, 1) := by decide +kernel
theorem dL_law_348 : decode cL_law 348 = .ok (.aload_n 1, 1) := by decide +kernel
theorem dL_law_349 : decode cL_law 349 = .ok (.aload_n 0, 1) := by decide +kernel
theorem dL_law_350 : decode cL_law 350 = .ok (.iload_n 3, 1) := by decide +kernel
theorem dL_law_351 : decode cL_law 351 = .ok (.iconst 1, 1) := by decide +kernel
theorem dL_law_352 : decode cL_law 352 = .ok (.iadd, 1) := by decide +kernel
theorem dL_law_353 : decode cL_law 353 = .ok (.iaload, 1) := by decide +kernel
theorem dL_law_354 : decode cL_law 354 = .ok (.aload_n 0, 1) := by decide +kernel
theorem dL_law_355 : decode cL_law 355 = .ok (.iload_n 3, 1) := by decide +kernel
theorem dL_law_356 : decode cL_law 356 = .ok (.iconst 2, 1) := by decide +kernel
theorem dL_law_357 : decode cL_law 357 = .ok (.iadd, 1) := by decide +kernel
theorem dL_law_358 : decode cL_law 358 = .ok (.iaload, 1) := by decide +kernel
theorem dL_law_359 : decode cL_law 359 = .ok (.invokevirtual 39, 3) := by decide +kernel
theorem dL_law_362 : decode cL_law 362 = .ok (.aload_n 2, 1) := by decide +kernel
theorem dL_law_363 : decode cL_law 363 = .ok (.aload_n 0, 1) := by decide +kernel
theorem dL_law_364 : decode cL_law 364 = .ok (.iload_n 3, 1) := by decide +kernel
theorem dL_law_365 : decode cL_law 365 = .ok (.iconst 1, 1) := by decide +kernel
theorem dL_law_366 : decode cL_law 366 = .ok (.iadd, 1) := by decide +kernel
theorem dL_law_367 : decode cL_law 367 = .ok (.iaload, 1) := by decide +kernel
theorem dL_law_368 : decode cL_law 368 = .ok (.aload_n 0, 1) := by decide +kernel
theorem dL_law_369 : decode cL_law 369 = .ok (.iload_n 3, 1) := by decide +kernel
theorem dL_law_370 : decode cL_law 370 = .ok (.iconst 2, 1) := by decide +kernel
theorem dL_law_371 : decode cL_law 371 = .ok (.iadd, 1) := by decide +kernel
theorem dL_law_372 : decode cL_law 372 = .ok (.iaload, 1) := by decide +kernel
theorem dL_law_373 : decode cL_law 373 = .ok (.invokevirtual 42, 3) := by decide +kernel
theorem dL_law_376 : decode cL_law 376 = .ok (.if_icmp .eq 825, 3) := by decide +kernel
theorem dL_law_379 : decode cL_law 379 = .ok (.iconst 0, 1) := by decide +kernel
theorem dL_law_380 : decode cL_law 380 = .ok (.ireturn, 1) := by decide +kernel
theorem dL_law_381 : decode cL_law 381 = .ok (.aload_n 1, 1) := by decide +kernel
theorem dL_law_382 : decode cL_law 382 = .ok (.aload_n 0, 1) := by decide +kernel
theorem dL_law_383 : decode cL_law 383 = .ok (.iload_n 3, 1) := by decide +kernel
theorem dL_law_384 : decode cL_law 384 = .ok (.iconst 1, 1) := by decide +kernel
theorem dL_law_385 : decode cL_law 385 = .ok (.iadd, 1) := by decide +kernel
theorem dL_law_386 : decode cL_law 386 = .ok (.iaload, 1) := by decide +kernel
theorem dL_law_387 : decode cL_law 387 = .ok (.aload_n 0, 1) := by decide +kernel
theorem dL_law_388 : decode cL_law 388 = .ok (.iload_n 3, 1) := by decide +kernel
theorem dL_law_389 : decode cL_law 389 = .ok (.iconst 2, 1) := by decide +kernel
theorem dL_law_390 : decode cL_law 390 = .ok (.iadd, 1) := by decide +kernel
theorem dL_law_391 : decode cL_law 391 = .ok (.iaload, 1) := by decide +kernel
theorem dL_law_392 : decode cL_law 392 = .ok (.invokevirtual 43, 3) := by decide +kernel
theorem dL_law_395 : decode cL_law 395 = .ok (.aload_n 2, 1) := by decide +kernel
theorem dL_law_396 : decode cL_law 396 = .ok (.aload_n 0, 1) := by decide +kernel
theorem dL_law_397 : decode cL_law 397 = .ok (.iload_n 3, 1) := by decide +kernel
theorem dL_law_398 : decode cL_law 398 = .ok (.iconst 1, 1) := by decide +kernel
theorem dL_law_399 : decode cL_law 399 = .ok (.iadd, 1) := by decide +kernel
theorem dL_law_400 : decode cL_law 400 = .ok (.iaload, 1) := by decide +kernel
theorem dL_law_401 : decode cL_law 401 = .ok (.aload_n 0, 1) := by decide +kernel
theorem dL_law_402 : decode cL_law 402 = .ok (.iload_n 3, 1) := by decide +kernel
theorem dL_law_403 : decode cL_law 403 = .ok (.iconst 2, 1) := by decide +kernel
theorem dL_law_404 : decode cL_law 404 = .ok (.iadd, 1) := by decide +kernel
theorem dL_law_405 : decode cL_law 405 = .ok (.iaload, 1) := by decide +kernel
theorem dL_law_406 : decode cL_law 406 = .ok (.invokevirtual 46, 3) := by decide +kernel
theorem dL_law_409 : decode cL_law 409 = .ok (.if_icmp .eq 792, 3) := by decide +kernel
theorem dL_law_412 : decode cL_law 412 = .ok (.iconst 0, 1) := by decide +kernel
theorem dL_law_413 : decode cL_law 413 = .ok (.ireturn, 1) := by decide +kernel
theorem dL_law_414 : decode cL_law 414 = .ok (.aload_n 1, 1) := by decide +kernel
theorem dL_law_415 : decode cL_law 415 = .ok (.aload_n 0, 1) := by decide +kernel
theorem dL_law_416 : decode cL_law 416 = .ok (.iload_n 3, 1) := by decide +kernel
theorem dL_law_417 : decode cL_law 417 = .ok (.iconst 1, 1) := by decide +kernel
theorem dL_law_418 : decode cL_law 418 = .ok (.iadd, 1) := by decide +kernel
theorem dL_law_419 : decode cL_law 419 = .ok (.iaload, 1) := by decide +kernel
theorem dL_law_420 : decode cL_law 420 = .ok (.aload_n 0, 1) := by decide +kernel
theorem dL_law_421 : decode cL_law 421 = .ok (.iload_n 3, 1) := by decide +kernel
theorem dL_law_422 : decode cL_law 422 = .ok (.iconst 2, 1) := by decide +kernel
theorem dL_law_423 : decode cL_law 423 = .ok (.iadd, 1) := by decide +kernel
theorem dL_law_424 : decode cL_law 424 = .ok (.iaload, 1) := by decide +kernel
theorem dL_law_425 : decode cL_law 425 = .ok (.aload_n 0, 1) := by decide +kernel
theorem dL_law_426 : decode cL_law 426 = .ok (.iload_n 3, 1) := by decide +kernel
theorem dL_law_427 : decode cL_law 427 = .ok (.iconst 3, 1) := by decide +kernel
theorem dL_law_428 : decode cL_law 428 = .ok (.iadd, 1) := by decide +kernel
theorem dL_law_429 : decode cL_law 429 = .ok (.iaload, 1) := by decide +kernel
theorem dL_law_430 : decode cL_law 430 = .ok (.invokevirtual 47, 3) := by decide +kernel
theorem dL_law_433 : decode cL_law 433 = .ok (.aload_n 2, 1) := by decide +kernel
theorem dL_law_434 : decode cL_law 434 = .ok (.aload_n 0, 1) := by decide +kernel
theorem dL_law_435 : decode cL_law 435 = .ok (.iload_n 3, 1) := by decide +kernel
theorem dL_law_436 : decode cL_law 436 = .ok (.iconst 1, 1) := by decide +kernel
theorem dL_law_437 : decode cL_law 437 = .ok (.iadd, 1) := by decide +kernel
theorem dL_law_438 : decode cL_law 438 = .ok (.iaload, 1) := by decide +kernel
theorem dL_law_439 : decode cL_law 439 = .ok (.aload_n 0, 1) := by decide +kernel
theorem dL_law_440 : decode cL_law 440 = .ok (.iload_n 3, 1) := by decide +kernel
theorem dL_law_441 : decode cL_law 441 = .ok (.iconst 2, 1) := by decide +kernel
theorem dL_law_442 : decode cL_law 442 = .ok (.iadd, 1) := by decide +kernel
theorem dL_law_443 : decode cL_law 443 = .ok (.iaload, 1) := by decide +kernel
theorem dL_law_444 : decode cL_law 444 = .ok (.aload_n 0, 1) := by decide +kernel
theorem dL_law_445 : decode cL_law 445 = .ok (.iload_n 3, 1) := by decide +kernel
theorem dL_law_446 : decode cL_law 446 = .ok (.iconst 3, 1) := by decide +kernel
theorem dL_law_447 : decode cL_law 447 = .ok (.iadd, 1) := by decide +kernel
theorem dL_law_448 : decode cL_law 448 = .ok (.iaload, 1) := by decide +kernel
theorem dL_law_449 : decode cL_law 449 = .ok (.invokevirtual 51, 3) := by decide +kernel
theorem dL_law_452 : decode cL_law 452 = .ok (.if_icmp .eq 749, 3) := by decide +kernel
theorem dL_law_455 : decode cL_law 455 = .ok (.iconst 0, 1) := by decide +kernel
theorem dL_law_456 : decode cL_law 456 = .ok (.ireturn, 1) := by decide +kernel
theorem dL_law_457 : decode cL_law 457 = .ok (.aload_n 1, 1) := by decide +kernel
theorem dL_law_458 : decode cL_law 458 = .ok (.aload_n 0, 1) := by decide +kernel
theorem dL_law_459 : decode cL_law 459 = .ok (.iload_n 3, 1) := by decide +kernel
theorem dL_law_460 : decode cL_law 460 = .ok (.iconst 1, 1) := by decide +kernel
theorem dL_law_461 : decode cL_law 461 = .ok (.iadd, 1) := by decide +kernel
theorem dL_law_462 : decode cL_law 462 = .ok (.iaload, 1) := by decide +kernel
theorem dL_law_463 : decode cL_law 463 = .ok (.aload_n 0, 1) := by decide +kernel
theorem dL_law_464 : decode cL_law 464 = .ok (.iload_n 3, 1) := by decide +kernel
theorem dL_law_465 : decode cL_law 465 = .ok (.iconst 2, 1) := by decide +kernel
theorem dL_law_466 : decode cL_law 466 = .ok (.iadd, 1) := by decide +kernel
theorem dL_law_467 : decode cL_law 467 = .ok (.iaload, 1) := by decide +kernel
theorem dL_law_468 : decode cL_law 468 = .ok (.invokevirtual 52, 3) := by decide +kernel
theorem dL_law_471 : decode cL_law 471 = .ok (.aload_n 2, 1) := by decide +kernel
theorem dL_law_472 : decode cL_law 472 = .ok (.aload_n 0, 1) := by decide +kernel
theorem dL_law_473 : decode cL_law 473 = .ok (.iload_n 3, 1) := by decide +kernel
theorem dL_law_474 : decode cL_law 474 = .ok (.iconst 1, 1) := by decide +kernel
theorem dL_law_475 : decode cL_law 475 = .ok (.iadd, 1) := by decide +kernel
theorem dL_law_476 : decode cL_law 476 = .ok (.iaload, 1) := by decide +kernel
theorem dL_law_477 : decode cL_law 477 = .ok (.aload_n 0, 1) := by decide +kernel
theorem dL_law_478 : decode cL_law 478 = .ok (.iload_n 3, 1) := by decide +kernel
theorem dL_law_479 : decode cL_law 479 = .ok (.iconst 2, 1) := by decide +kernel
theorem dL_law_480 : decode cL_law 480 = .ok (.iadd, 1) := by decide +kernel
theorem dL_law_481 : decode cL_law 481 = .ok (.iaload, 1) := by decide +kernel
theorem dL_law_482 : decode cL_law 482 = .ok (.invokevirtual 55, 3) := by decide +kernel
theorem dL_law_485 : decode cL_law 485 = .ok (.if_icmp .eq 716, 3) := by decide +kernel
theorem dL_law_488 : decode cL_law 488 = .ok (.iconst 0, 1) := by decide +kernel
theorem dL_law_489 : decode cL_law 489 = .ok (.ireturn, 1) := by decide +kernel
theorem dL_law_490 : decode cL_law 490 = .ok (.aload_n 1, 1) := by decide +kernel
theorem dL_law_491 : decode cL_law 491 = .ok (.aload_n 0, 1) := by decide +kernel
theorem dL_law_492 : decode cL_law 492 = .ok (.iload_n 3, 1) := by decide +kernel
theorem dL_law_493 : decode cL_law 493 = .ok (.iconst 1, 1) := by decide +kernel
theorem dL_law_494 : decode cL_law 494 = .ok (.iadd, 1) := by decide +kernel
theorem dL_law_495 : decode cL_law 495 = .ok (.iaload, 1) := by decide +kernel
theorem dL_law_496 : decode cL_law 496 = .ok (.aload_n 0, 1) := by decide +kernel
theorem dL_law_497 : decode cL_law 497 = .ok (.iload_n 3, 1) := by decide +kernel
theorem dL_law_498 : decode cL_law 498 = .ok (.iconst 2, 1) := by decide +kernel
theorem dL_law_499 : decode cL_law 499 = .ok (.iadd, 1) := by decide +kernel
theorem dL_law_500 : decode cL_law 500 = .ok (.iaload, 1) := by decide +kernel
theorem dL_law_501 : decode cL_law 501 = .ok (.invokevirtual 56, 3) := by decide +kernel
theorem dL_law_504 : decode cL_law 504 = .ok (.aload_n 2, 1) := by decide +kernel
theorem dL_law_505 : decode cL_law 505 = .ok (.aload_n 0, 1) := by decide +kernel
theorem dL_law_506 : decode cL_law 506 = .ok (.iload_n 3, 1) := by decide +kernel
theorem dL_law_507 : decode cL_law 507 = .ok (.iconst 1, 1) := by decide +kernel
theorem dL_law_508 : decode cL_law 508 = .ok (.iadd, 1) := by decide +kernel
theorem dL_law_509 : decode cL_law 509 = .ok (.iaload, 1) := by decide +kernel
theorem dL_law_510 : decode cL_law 510 = .ok (.aload_n 0, 1) := by decide +kernel
theorem dL_law_511 : decode cL_law 511 = .ok (.iload_n 3, 1) := by decide +kernel
theorem dL_law_512 : decode cL_law 512 = .ok (.iconst 2, 1) := by decide +kernel
theorem dL_law_513 : decode cL_law 513 = .ok (.iadd, 1) := by decide +kernel
theorem dL_law_514 : decode cL_law 514 = .ok (.iaload, 1) := by decide +kernel
theorem dL_law_515 : decode cL_law 515 = .ok (.invokevirtual 59, 3) := by decide +kernel
theorem dL_law_518 : decode cL_law 518 = .ok (.if_icmp .eq 683, 3) := by decide +kernel
theorem dL_law_521 : decode cL_law 521 = .ok (.iconst 0, 1) := by decide +kernel
theorem dL_law_522 : decode cL_law 522 = .ok (.ireturn, 1) := by decide +kernel
theorem dL_law_523 : decode cL_law 523 = .ok (.aload_n 1, 1) := by decide +kernel
theorem dL_law_524 : decode cL_law 524 = .ok (.invokevirtual 60, 3) := by decide +kernel
theorem dL_law_527 : decode cL_law 527 = .ok (.aload_n 2, 1) := by decide +kernel
theorem dL_law_528 : decode cL_law 528 = .ok (.invokevirtual 64, 3) := by decide +kernel
theorem dL_law_531 : decode cL_law 531 = .ok (.if_icmp .eq 670, 3) := by decide +kernel
theorem dL_law_534 : decode cL_law 534 = .ok (.iconst 0, 1) := by decide +kernel
theorem dL_law_535 : decode cL_law 535 = .ok (.ireturn, 1) := by decide +kernel
theorem dL_law_536 : decode cL_law 536 = .ok (.aload_n 1, 1) := by decide +kernel
theorem dL_law_537 : decode cL_law 537 = .ok (.invokevirtual 65, 3) := by decide +kernel
theorem dL_law_540 : decode cL_law 540 = .ok (.aload_n 2, 1) := by decide +kernel
theorem dL_law_541 : decode cL_law 541 = .ok (.invokevirtual 68, 3) := by decide +kernel
theorem dL_law_544 : decode cL_law 544 = .ok (.if_icmp .eq 657, 3) := by decide +kernel
theorem dL_law_547 : decode cL_law 547 = .ok (.iconst 0, 1) := by decide +kernel
theorem dL_law_548 : decode cL_law 548 = .ok (.ireturn, 1) := by decide +kernel
theorem dL_law_549 : decode cL_law 549 = .ok (.aload_n 1, 1) := by decide +kernel
theorem dL_law_550 : decode cL_law 550 = .ok (.aload_n 0, 1) := by decide +kernel
theorem dL_law_551 : decode cL_law 551 = .ok (.iload_n 3, 1) := by decide +kernel
theorem dL_law_552 : decode cL_law 552 = .ok (.iconst 1, 1) := by decide +kernel
theorem dL_law_553 : decode cL_law 553 = .ok (.iadd, 1) := by decide +kernel
theorem dL_law_554 : decode cL_law 554 = .ok (.iaload, 1) := by decide +kernel
theorem dL_law_555 : decode cL_law 555 = .ok (.aload_n 0, 1) := by decide +kernel
theorem dL_law_556 : decode cL_law 556 = .ok (.iload_n 3, 1) := by decide +kernel
theorem dL_law_557 : decode cL_law 557 = .ok (.iconst 2, 1) := by decide +kernel
theorem dL_law_558 : decode cL_law 558 = .ok (.iadd, 1) := by decide +kernel
theorem dL_law_559 : decode cL_law 559 = .ok (.iaload, 1) := by decide +kernel
theorem dL_law_560 : decode cL_law 560 = .ok (.aload_n 0, 1) := by decide +kernel
theorem dL_law_561 : decode cL_law 561 = .ok (.iload_n 3, 1) := by decide +kernel
theorem dL_law_562 : decode cL_law 562 = .ok (.iconst 3, 1) := by decide +kernel
theorem dL_law_563 : decode cL_law 563 = .ok (.iadd, 1) := by decide +kernel
theorem dL_law_564 : decode cL_law 564 = .ok (.iaload, 1) := by decide +kernel
theorem dL_law_565 : decode cL_law 565 = .ok (.invokevirtual 69, 3) := by decide +kernel
theorem dL_law_568 : decode cL_law 568 = .ok (.aload_n 2, 1) := by decide +kernel
theorem dL_law_569 : decode cL_law 569 = .ok (.aload_n 0, 1) := by decide +kernel
theorem dL_law_570 : decode cL_law 570 = .ok (.iload_n 3, 1) := by decide +kernel
theorem dL_law_571 : decode cL_law 571 = .ok (.iconst 1, 1) := by decide +kernel
theorem dL_law_572 : decode cL_law 572 = .ok (.iadd, 1) := by decide +kernel
theorem dL_law_573 : decode cL_law 573 = .ok (.iaload, 1) := by decide +kernel
theorem dL_law_574 : decode cL_law 574 = .ok (.aload_n 0, 1) := by decide +kernel
theorem dL_law_575 : decode cL_law 575 = .ok (.iload_n 3, 1) := by decide +kernel
theorem dL_law_576 : decode cL_law 576 = .ok (.iconst 2, 1) := by decide +kernel
theorem dL_law_577 : decode cL_law 577 = .ok (.iadd, 1) := by decide +kernel
theorem dL_law_578 : decode cL_law 578 = .ok (.iaload, 1) := by decide +kernel
theorem dL_law_579 : decode cL_law 579 = .ok (.aload_n 0, 1) := by decide +kernel
theorem dL_law_580 : decode cL_law 580 = .ok (.iload_n 3, 1) := by decide +kernel
theorem dL_law_581 : decode cL_law 581 = .ok (.iconst 3, 1) := by decide +kernel
theorem dL_law_582 : decode cL_law 582 = .ok (.iadd, 1) := by decide +kernel
theorem dL_law_583 : decode cL_law 583 = .ok (.iaload, 1) := by decide +kernel
theorem dL_law_584 : decode cL_law 584 = .ok (.invokevirtual 72, 3) := by decide +kernel
theorem dL_law_587 : decode cL_law 587 = .ok (.if_icmp .eq 614, 3) := by decide +kernel
theorem dL_law_590 : decode cL_law 590 = .ok (.iconst 0, 1) := by decide +kernel
theorem dL_law_591 : decode cL_law 591 = .ok (.ireturn, 1) := by decide +kernel
theorem dL_law_592 : decode cL_law 592 = .ok (.aload_n 1, 1) := by decide +kernel
theorem dL_law_593 : decode cL_law 593 = .ok (.aload_n 0, 1) := by decide +kernel
theorem dL_law_594 : decode cL_law 594 = .ok (.iload_n 3, 1) := by decide +kernel
theorem dL_law_595 : decode cL_law 595 = .ok (.iconst 1, 1) := by decide +kernel
theorem dL_law_596 : decode cL_law 596 = .ok (.iadd, 1) := by decide +kernel
theorem dL_law_597 : decode cL_law 597 = .ok (.iaload, 1) := by decide +kernel
theorem dL_law_598 : decode cL_law 598 = .ok (.aload_n 0, 1) := by decide +kernel
theorem dL_law_599 : decode cL_law 599 = .ok (.iload_n 3, 1) := by decide +kernel
theorem dL_law_600 : decode cL_law 600 = .ok (.iconst 2, 1) := by decide +kernel
theorem dL_law_601 : decode cL_law 601 = .ok (.iadd, 1) := by decide +kernel
theorem dL_law_602 : decode cL_law 602 = .ok (.iaload, 1) := by decide +kernel
theorem dL_law_603 : decode cL_law 603 = .ok (.invokevirtual 73, 3) := by decide +kernel
theorem dL_law_606 : decode cL_law 606 = .ok (.aload_n 2, 1) := by decide +kernel
theorem dL_law_607 : decode cL_law 607 = .ok (.aload_n 0, 1) := by decide +kernel
theorem dL_law_608 : decode cL_law 608 = .ok (.iload_n 3, 1) := by decide +kernel
theorem dL_law_609 : decode cL_law 609 = .ok (.iconst 1, 1) := by decide +kernel
theorem dL_law_610 : decode cL_law 610 = .ok (.iadd, 1) := by decide +kernel
theorem dL_law_611 : decode cL_law 611 = .ok (.iaload, 1) := by decide +kernel
theorem dL_law_612 : decode cL_law 612 = .ok (.aload_n 0, 1) := by decide +kernel
theorem dL_law_613 : decode cL_law 613 = .ok (.iload_n 3, 1) := by decide +kernel
theorem dL_law_614 : decode cL_law 614 = .ok (.iconst 2, 1) := by decide +kernel
theorem dL_law_615 : decode cL_law 615 = .ok (.iadd, 1) := by decide +kernel
theorem dL_law_616 : decode cL_law 616 = .ok (.iaload, 1) := by decide +kernel
theorem dL_law_617 : decode cL_law 617 = .ok (.invokevirtual 76, 3) := by decide +kernel
theorem dL_law_620 : decode cL_law 620 = .ok (.if_icmp .eq 581, 3) := by decide +kernel
theorem dL_law_623 : decode cL_law 623 = .ok (.iconst 0, 1) := by decide +kernel
theorem dL_law_624 : decode cL_law 624 = .ok (.ireturn, 1) := by decide +kernel
theorem dL_law_625 : decode cL_law 625 = .ok (.aload_n 1, 1) := by decide +kernel
theorem dL_law_626 : decode cL_law 626 = .ok (.aload_n 0, 1) := by decide +kernel
theorem dL_law_627 : decode cL_law 627 = .ok (.iload_n 3, 1) := by decide +kernel
theorem dL_law_628 : decode cL_law 628 = .ok (.iconst 1, 1) := by decide +kernel
theorem dL_law_629 : decode cL_law 629 = .ok (.iadd, 1) := by decide +kernel
theorem dL_law_630 : decode cL_law 630 = .ok (.iaload, 1) := by decide +kernel
theorem dL_law_631 : decode cL_law 631 = .ok (.aload_n 0, 1) := by decide +kernel
theorem dL_law_632 : decode cL_law 632 = .ok (.iload_n 3, 1) := by decide +kernel
theorem dL_law_633 : decode cL_law 633 = .ok (.iconst 2, 1) := by decide +kernel
theorem dL_law_634 : decode cL_law 634 = .ok (.iadd, 1) := by decide +kernel
theorem dL_law_635 : decode cL_law 635 = .ok (.iaload, 1) := by decide +kernel
theorem dL_law_636 : decode cL_law 636 = .ok (.invokevirtual 77, 3) := by decide +kernel
theorem dL_law_639 : decode cL_law 639 = .ok (.aload_n 2, 1) := by decide +kernel
theorem dL_law_640 : decode cL_law 640 = .ok (.aload_n 0, 1) := by decide +kernel
theorem dL_law_641 : decode cL_law 641 = .ok (.iload_n 3, 1) := by decide +kernel
theorem dL_law_642 : decode cL_law 642 = .ok (.iconst 1, 1) := by decide +kernel
theorem dL_law_643 : decode cL_law 643 = .ok (.iadd, 1) := by decide +kernel
theorem dL_law_644 : decode cL_law 644 = .ok (.iaload, 1) := by decide +kernel
theorem dL_law_645 : decode cL_law 645 = .ok (.aload_n 0, 1) := by decide +kernel
theorem dL_law_646 : decode cL_law 646 = .ok (.iload_n 3, 1) := by decide +kernel
theorem dL_law_647 : decode cL_law 647 = .ok (.iconst 2, 1) := by decide +kernel
theorem dL_law_648 : decode cL_law 648 = .ok (.iadd, 1) := by decide +kernel
theorem dL_law_649 : decode cL_law 649 = .ok (.iaload, 1) := by decide +kernel
theorem dL_law_650 : decode cL_law 650 = .ok (.invokevirtual 80, 3) := by decide +kernel
theorem dL_law_653 : decode cL_law 653 = .ok (.if_icmp .eq 548, 3) := by decide +kernel
theorem dL_law_656 : decode cL_law 656 = .ok (.iconst 0, 1) := by decide +kernel
theorem dL_law_657 : decode cL_law 657 = .ok (.ireturn, 1) := by decide +kernel
theorem dL_law_658 : decode cL_law 658 = .ok (.aload_n 1, 1) := by decide +kernel
theorem dL_law_659 : decode cL_law 659 = .ok (.aload_n 0, 1) := by decide +kernel
theorem dL_law_660 : decode cL_law 660 = .ok (.iload_n 3, 1) := by decide +kernel
theorem dL_law_661 : decode cL_law 661 = .ok (.iconst 1, 1) := by decide +kernel
theorem dL_law_662 : decode cL_law 662 = .ok (.iadd, 1) := by decide +kernel
theorem dL_law_663 : decode cL_law 663 = .ok (.iaload, 1) := by decide +kernel
theorem dL_law_664 : decode cL_law 664 = .ok (.aload_n 0, 1) := by decide +kernel
theorem dL_law_665 : decode cL_law 665 = .ok (.iload_n 3, 1) := by decide +kernel
theorem dL_law_666 : decode cL_law 666 = .ok (.iconst 2, 1) := by decide +kernel
theorem dL_law_667 : decode cL_law 667 = .ok (.iadd, 1) := by decide +kernel
theorem dL_law_668 : decode cL_law 668 = .ok (.iaload, 1) := by decide +kernel
theorem dL_law_669 : decode cL_law 669 = .ok (.invokevirtual 81, 3) := by decide +kernel
theorem dL_law_672 : decode cL_law 672 = .ok (.aload_n 2, 1) := by decide +kernel
theorem dL_law_673 : decode cL_law 673 = .ok (.aload_n 0, 1) := by decide +kernel
theorem dL_law_674 : decode cL_law 674 = .ok (.iload_n 3, 1) := by decide +kernel
theorem dL_law_675 : decode cL_law 675 = .ok (.iconst 1, 1) := by decide +kernel
theorem dL_law_676 : decode cL_law 676 = .ok (.iadd, 1) := by decide +kernel
theorem dL_law_677 : decode cL_law 677 = .ok (.iaload, 1) := by decide +kernel
theorem dL_law_678 : decode cL_law 678 = .ok (.aload_n 0, 1) := by decide +kernel
theorem dL_law_679 : decode cL_law 679 = .ok (.iload_n 3, 1) := by decide +kernel
theorem dL_law_680 : decode cL_law 680 = .ok (.iconst 2, 1) := by decide +kernel
theorem dL_law_681 : decode cL_law 681 = .ok (.iadd, 1) := by decide +kernel
theorem dL_law_682 : decode cL_law 682 = .ok (.iaload, 1) := by decide +kernel
theorem dL_law_683 : decode cL_law 683 = .ok (.invokevirtual 84, 3) := by decide +kernel
theorem dL_law_686 : decode cL_law 686 = .ok (.if_icmp .eq 515, 3) := by decide +kernel
theorem dL_law_689 : decode cL_law 689 = .ok (.iconst 0, 1) := by decide +kernel
theorem dL_law_690 : decode cL_law 690 = .ok (.ireturn, 1) := by decide +kernel
theorem dL_law_691 : decode cL_law 691 = .ok (.aload_n 1, 1) := by decide +kernel
theorem dL_law_692 : decode cL_law 692 = .ok (.aload_n 0, 1) := by decide +kernel
theorem dL_law_693 : decode cL_law 693 = .ok (.iload_n 3, 1) := by decide +kernel
theorem dL_law_694 : decode cL_law 694 = .ok (.iconst 1, 1) := by decide +kernel
theorem dL_law_695 : decode cL_law 695 = .ok (.iadd, 1) := by decide +kernel
theorem dL_law_696 : decode cL_law 696 = .ok (.iaload, 1) := by decide +kernel
theorem dL_law_697 : decode cL_law 697 = .ok (.aload_n 0, 1) := by decide +kernel
theorem dL_law_698 : decode cL_law 698 = .ok (.iload_n 3, 1) := by decide +kernel
theorem dL_law_699 : decode cL_law 699 = .ok (.iconst 2, 1) := by decide +kernel
theorem dL_law_700 : decode cL_law 700 = .ok (.iadd, 1) := by decide +kernel
theorem dL_law_701 : decode cL_law 701 = .ok (.iaload, 1) := by decide +kernel
theorem dL_law_702 : decode cL_law 702 = .ok (.aload_n 0, 1) := by decide +kernel
theorem dL_law_703 : decode cL_law 703 = .ok (.iload_n 3, 1) := by decide +kernel
theorem dL_law_704 : decode cL_law 704 = .ok (.iconst 3, 1) := by decide +kernel
theorem dL_law_705 : decode cL_law 705 = .ok (.iadd, 1) := by decide +kernel
theorem dL_law_706 : decode cL_law 706 = .ok (.iaload, 1) := by decide +kernel
theorem dL_law_707 : decode cL_law 707 = .ok (.invokevirtual 85, 3) := by decide +kernel
theorem dL_law_710 : decode cL_law 710 = .ok (.aload_n 2, 1) := by decide +kernel
theorem dL_law_711 : decode cL_law 711 = .ok (.aload_n 0, 1) := by decide +kernel
theorem dL_law_712 : decode cL_law 712 = .ok (.iload_n 3, 1) := by decide +kernel
theorem dL_law_713 : decode cL_law 713 = .ok (.iconst 1, 1) := by decide +kernel
theorem dL_law_714 : decode cL_law 714 = .ok (.iadd, 1) := by decide +kernel
theorem dL_law_715 : decode cL_law 715 = .ok (.iaload, 1) := by decide +kernel
theorem dL_law_716 : decode cL_law 716 = .ok (.aload_n 0, 1) := by decide +kernel
theorem dL_law_717 : decode cL_law 717 = .ok (.iload_n 3, 1) := by decide +kernel
theorem dL_law_718 : decode cL_law 718 = .ok (.iconst 2, 1) := by decide +kernel
theorem dL_law_719 : decode cL_law 719 = .ok (.iadd, 1) := by decide +kernel
theorem dL_law_720 : decode cL_law 720 = .ok (.iaload, 1) := by decide +kernel
theorem dL_law_721 : decode cL_law 721 = .ok (.aload_n 0, 1) := by decide +kernel
theorem dL_law_722 : decode cL_law 722 = .ok (.iload_n 3, 1) := by decide +kernel
theorem dL_law_723 : decode cL_law 723 = .ok (.iconst 3, 1) := by decide +kernel
theorem dL_law_724 : decode cL_law 724 = .ok (.iadd, 1) := by decide +kernel
theorem dL_law_725 : decode cL_law 725 = .ok (.iaload, 1) := by decide +kernel
theorem dL_law_726 : decode cL_law 726 = .ok (.invokevirtual 88, 3) := by decide +kernel
theorem dL_law_729 : decode cL_law 729 = .ok (.if_icmp .eq 472, 3) := by decide +kernel
theorem dL_law_732 : decode cL_law 732 = .ok (.iconst 0, 1) := by decide +kernel
theorem dL_law_733 : decode cL_law 733 = .ok (.ireturn, 1) := by decide +kernel
theorem dL_law_734 : decode cL_law 734 = .ok (.aload_n 1, 1) := by decide +kernel
theorem dL_law_735 : decode cL_law 735 = .ok (.invokevirtual 89, 3) := by decide +kernel
theorem dL_law_738 : decode cL_law 738 = .ok (.aload_n 2, 1) := by decide +kernel
theorem dL_law_739 : decode cL_law 739 = .ok (.invokevirtual 92, 3) := by decide +kernel
theorem dL_law_742 : decode cL_law 742 = .ok (.if_icmp .eq 459, 3) := by decide +kernel
theorem dL_law_745 : decode cL_law 745 = .ok (.iconst 0, 1) := by decide +kernel
theorem dL_law_746 : decode cL_law 746 = .ok (.ireturn, 1) := by decide +kernel
theorem dL_law_747 : decode cL_law 747 = .ok (.aload_n 1, 1) := by decide +kernel
theorem dL_law_748 : decode cL_law 748 = .ok (.aload_n 0, 1) := by decide +kernel
theorem dL_law_749 : decode cL_law 749 = .ok (.iload_n 3, 1) := by decide +kernel
theorem dL_law_750 : decode cL_law 750 = .ok (.iconst 1, 1) := by decide +kernel
theorem dL_law_751 : decode cL_law 751 = .ok (.iadd, 1) := by decide +kernel
theorem dL_law_752 : decode cL_law 752 = .ok (.iaload, 1) := by decide +kernel
theorem dL_law_753 : decode cL_law 753 = .ok (.invokevirtual 93, 3) := by decide +kernel
theorem dL_law_756 : decode cL_law 756 = .ok (.aload_n 2, 1) := by decide +kernel
theorem dL_law_757 : decode cL_law 757 = .ok (.aload_n 0, 1) := by decide +kernel
theorem dL_law_758 : decode cL_law 758 = .ok (.iload_n 3, 1) := by decide +kernel
theorem dL_law_759 : decode cL_law 759 = .ok (.iconst 1, 1) := by decide +kernel
theorem dL_law_760 : decode cL_law 760 = .ok (.iadd, 1) := by decide +kernel
theorem dL_law_761 : decode cL_law 761 = .ok (.iaload, 1) := by decide +kernel
theorem dL_law_762 : decode cL_law 762 = .ok (.invokevirtual 96, 3) := by decide +kernel
theorem dL_law_765 : decode cL_law 765 = .ok (.if_icmp .eq 436, 3) := by decide +kernel
theorem dL_law_768 : decode cL_law 768 = .ok (.iconst 0, 1) := by decide +kernel
theorem dL_law_769 : decode cL_law 769 = .ok (.ireturn, 1) := by decide +kernel
theorem dL_law_770 : decode cL_law 770 = .ok (.aload_n 1, 1) := by decide +kernel
theorem dL_law_771 : decode cL_law 771 = .ok (.invokevirtual 97, 3) := by decide +kernel
theorem dL_law_774 : decode cL_law 774 = .ok (.aload_n 2, 1) := by decide +kernel
theorem dL_law_775 : decode cL_law 775 = .ok (.invokevirtual 100, 3) := by decide +kernel
theorem dL_law_778 : decode cL_law 778 = .ok (.if_icmp .eq 423, 3) := by decide +kernel
theorem dL_law_781 : decode cL_law 781 = .ok (.iconst 0, 1) := by decide +kernel
theorem dL_law_782 : decode cL_law 782 = .ok (.ireturn, 1) := by decide +kernel
theorem dL_law_783 : decode cL_law 783 = .ok (.aload_n 1, 1) := by decide +kernel
theorem dL_law_784 : decode cL_law 784 = .ok (.aload_n 0, 1) := by decide +kernel
theorem dL_law_785 : decode cL_law 785 = .ok (.iload_n 3, 1) := by decide +kernel
theorem dL_law_786 : decode cL_law 786 = .ok (.iconst 1, 1) := by decide +kernel
theorem dL_law_787 : decode cL_law 787 = .ok (.iadd, 1) := by decide +kernel
theorem dL_law_788 : decode cL_law 788 = .ok (.iaload, 1) := by decide +kernel
theorem dL_law_789 : decode cL_law 789 = .ok (.invokevirtual 101, 3) := by decide +kernel
theorem dL_law_792 : decode cL_law 792 = .ok (.aload_n 2, 1) := by decide +kernel
theorem dL_law_793 : decode cL_law 793 = .ok (.aload_n 0, 1) := by decide +kernel
theorem dL_law_794 : decode cL_law 794 = .ok (.iload_n 3, 1) := by decide +kernel
theorem dL_law_795 : decode cL_law 795 = .ok (.iconst 1, 1) := by decide +kernel
theorem dL_law_796 : decode cL_law 796 = .ok (.iadd, 1) := by decide +kernel
theorem dL_law_797 : decode cL_law 797 = .ok (.iaload, 1) := by decide +kernel
theorem dL_law_798 : decode cL_law 798 = .ok (.invokevirtual 104, 3) := by decide +kernel
theorem dL_law_801 : decode cL_law 801 = .ok (.if_icmp .eq 400, 3) := by decide +kernel
theorem dL_law_804 : decode cL_law 804 = .ok (.iconst 0, 1) := by decide +kernel
theorem dL_law_805 : decode cL_law 805 = .ok (.ireturn, 1) := by decide +kernel
theorem dL_law_806 : decode cL_law 806 = .ok (.aload_n 1, 1) := by decide +kernel
theorem dL_law_807 : decode cL_law 807 = .ok (.invokevirtual 105, 3) := by decide +kernel
theorem dL_law_810 : decode cL_law 810 = .ok (.aload_n 2, 1) := by decide +kernel
theorem dL_law_811 : decode cL_law 811 = .ok (.invokevirtual 108, 3) := by decide +kernel
theorem dL_law_814 : decode cL_law 814 = .ok (.if_icmp .eq 387, 3) := by decide +kernel
theorem dL_law_817 : decode cL_law 817 = .ok (.iconst 0, 1) := by decide +kernel
theorem dL_law_818 : decode cL_law 818 = .ok (.ireturn, 1) := by decide +kernel
theorem dL_law_819 : decode cL_law 819 = .ok (.aload_n 1, 1) := by decide +kernel
theorem dL_law_820 : decode cL_law 820 = .ok (.aload_n 0, 1) := by decide +kernel
theorem dL_law_821 : decode cL_law 821 = .ok (.iload_n 3, 1) := by decide +kernel
theorem dL_law_822 : decode cL_law 822 = .ok (.iconst 1, 1) := by decide +kernel
theorem dL_law_823 : decode cL_law 823 = .ok (.iadd, 1) := by decide +kernel
theorem dL_law_824 : decode cL_law 824 = .ok (.iaload, 1) := by decide +kernel
theorem dL_law_825 : decode cL_law 825 = .ok (.aload_n 0, 1) := by decide +kernel
theorem dL_law_826 : decode cL_law 826 = .ok (.iload_n 3, 1) := by decide +kernel
theorem dL_law_827 : decode cL_law 827 = .ok (.iconst 2, 1) := by decide +kernel
theorem dL_law_828 : decode cL_law 828 = .ok (.iadd, 1) := by decide +kernel
theorem dL_law_829 : decode cL_law 829 = .ok (.iaload, 1) := by decide +kernel
theorem dL_law_830 : decode cL_law 830 = .ok (.aload_n 0, 1) := by decide +kernel
theorem dL_law_831 : decode cL_law 831 = .ok (.iload_n 3, 1) := by decide +kernel
theorem dL_law_832 : decode cL_law 832 = .ok (.iconst 3, 1) := by decide +kernel
theorem dL_law_833 : decode cL_law 833 = .ok (.iadd, 1) := by decide +kernel
theorem dL_law_834 : decode cL_law 834 = .ok (.iaload, 1) := by decide +kernel
theorem dL_law_835 : decode cL_law 835 = .ok (.invokevirtual 109, 3) := by decide +kernel
theorem dL_law_838 : decode cL_law 838 = .ok (.aload_n 2, 1) := by decide +kernel
theorem dL_law_839 : decode cL_law 839 = .ok (.aload_n 0, 1) := by decide +kernel
theorem dL_law_840 : decode cL_law 840 = .ok (.iload_n 3, 1) := by decide +kernel
theorem dL_law_841 : decode cL_law 841 = .ok (.iconst 1, 1) := by decide +kernel
theorem dL_law_842 : decode cL_law 842 = .ok (.iadd, 1) := by decide +kernel
theorem dL_law_843 : decode cL_law 843 = .ok (.iaload, 1) := by decide +kernel
theorem dL_law_844 : decode cL_law 844 = .ok (.aload_n 0, 1) := by decide +kernel
theorem dL_law_845 : decode cL_law 845 = .ok (.iload_n 3, 1) := by decide +kernel
theorem dL_law_846 : decode cL_law 846 = .ok (.iconst 2, 1) := by decide +kernel
theorem dL_law_847 : decode cL_law 847 = .ok (.iadd, 1) := by decide +kernel
theorem dL_law_848 : decode cL_law 848 = .ok (.iaload, 1) := by decide +kernel
theorem dL_law_849 : decode cL_law 849 = .ok (.aload_n 0, 1) := by decide +kernel
theorem dL_law_850 : decode cL_law 850 = .ok (.iload_n 3, 1) := by decide +kernel
theorem dL_law_851 : decode cL_law 851 = .ok (.iconst 3, 1) := by decide +kernel
theorem dL_law_852 : decode cL_law 852 = .ok (.iadd, 1) := by decide +kernel
theorem dL_law_853 : decode cL_law 853 = .ok (.iaload, 1) := by decide +kernel
theorem dL_law_854 : decode cL_law 854 = .ok (.invokevirtual 113, 3) := by decide +kernel
theorem dL_law_857 : decode cL_law 857 = .ok (.lcmp, 1) := by decide +kernel
theorem dL_law_858 : decode cL_law 858 = .ok (.ifCond .eq 343, 3) := by decide +kernel
theorem dL_law_861 : decode cL_law 861 = .ok (.iconst 0, 1) := by decide +kernel
theorem dL_law_862 : decode cL_law 862 = .ok (.ireturn, 1) := by decide +kernel
theorem dL_law_863 : decode cL_law 863 = .ok (.aload_n 1, 1) := by decide +kernel
theorem dL_law_864 : decode cL_law 864 = .ok (.aload_n 0, 1) := by decide +kernel
theorem dL_law_865 : decode cL_law 865 = .ok (.iload_n 3, 1) := by decide +kernel
theorem dL_law_866 : decode cL_law 866 = .ok (.iconst 1, 1) := by decide +kernel
theorem dL_law_867 : decode cL_law 867 = .ok (.iadd, 1) := by decide +kernel
theorem dL_law_868 : decode cL_law 868 = .ok (.iaload, 1) := by decide +kernel
theorem dL_law_869 : decode cL_law 869 = .ok (.aload_n 0, 1) := by decide +kernel
theorem dL_law_870 : decode cL_law 870 = .ok (.iload_n 3, 1) := by decide +kernel
theorem dL_law_871 : decode cL_law 871 = .ok (.iconst 2, 1) := by decide +kernel
theorem dL_law_872 : decode cL_law 872 = .ok (.iadd, 1) := by decide +kernel
theorem dL_law_873 : decode cL_law 873 = .ok (.iaload, 1) := by decide +kernel
theorem dL_law_874 : decode cL_law 874 = .ok (.aload_n 0, 1) := by decide +kernel
theorem dL_law_875 : decode cL_law 875 = .ok (.iload_n 3, 1) := by decide +kernel
theorem dL_law_876 : decode cL_law 876 = .ok (.iconst 3, 1) := by decide +kernel
theorem dL_law_877 : decode cL_law 877 = .ok (.iadd, 1) := by decide +kernel
theorem dL_law_878 : decode cL_law 878 = .ok (.iaload, 1) := by decide +kernel
theorem dL_law_879 : decode cL_law 879 = .ok (.invokevirtual 114, 3) := by decide +kernel
theorem dL_law_882 : decode cL_law 882 = .ok (.aload_n 2, 1) := by decide +kernel
theorem dL_law_883 : decode cL_law 883 = .ok (.aload_n 0, 1) := by decide +kernel
theorem dL_law_884 : decode cL_law 884 = .ok (.iload_n 3, 1) := by decide +kernel
theorem dL_law_885 : decode cL_law 885 = .ok (.iconst 1, 1) := by decide +kernel
theorem dL_law_886 : decode cL_law 886 = .ok (.iadd, 1) := by decide +kernel
theorem dL_law_887 : decode cL_law 887 = .ok (.iaload, 1) := by decide +kernel
theorem dL_law_888 : decode cL_law 888 = .ok (.aload_n 0, 1) := by decide +kernel
theorem dL_law_889 : decode cL_law 889 = .ok (.iload_n 3, 1) := by decide +kernel
theorem dL_law_890 : decode cL_law 890 = .ok (.iconst 2, 1) := by decide +kernel
theorem dL_law_891 : decode cL_law 891 = .ok (.iadd, 1) := by decide +kernel
theorem dL_law_892 : decode cL_law 892 = .ok (.iaload, 1) := by decide +kernel
theorem dL_law_893 : decode cL_law 893 = .ok (.aload_n 0, 1) := by decide +kernel
theorem dL_law_894 : decode cL_law 894 = .ok (.iload_n 3, 1) := by decide +kernel
theorem dL_law_895 : decode cL_law 895 = .ok (.iconst 3, 1) := by decide +kernel
theorem dL_law_896 : decode cL_law 896 = .ok (.iadd, 1) := by decide +kernel
theorem dL_law_897 : decode cL_law 897 = .ok (.iaload, 1) := by decide +kernel
theorem dL_law_898 : decode cL_law 898 = .ok (.invokevirtual 117, 3) := by decide +kernel
theorem dL_law_901 : decode cL_law 901 = .ok (.if_icmp .eq 300, 3) := by decide +kernel
theorem dL_law_904 : decode cL_law 904 = .ok (.iconst 0, 1) := by decide +kernel
theorem dL_law_905 : decode cL_law 905 = .ok (.ireturn, 1) := by decide +kernel
theorem dL_law_906 : decode cL_law 906 = .ok (.aload_n 1, 1) := by decide +kernel
theorem dL_law_907 : decode cL_law 907 = .ok (.aload_n 0, 1) := by decide +kernel
theorem dL_law_908 : decode cL_law 908 = .ok (.iload_n 3, 1) := by decide +kernel
theorem dL_law_909 : decode cL_law 909 = .ok (.iconst 1, 1) := by decide +kernel
theorem dL_law_910 : decode cL_law 910 = .ok (.iadd, 1) := by decide +kernel
theorem dL_law_911 : decode cL_law 911 = .ok (.iaload, 1) := by decide +kernel
theorem dL_law_912 : decode cL_law 912 = .ok (.aload_n 0, 1) := by decide +kernel
theorem dL_law_913 : decode cL_law 913 = .ok (.iload_n 3, 1) := by decide +kernel
theorem dL_law_914 : decode cL_law 914 = .ok (.iconst 2, 1) := by decide +kernel
theorem dL_law_915 : decode cL_law 915 = .ok (.iadd, 1) := by decide +kernel
theorem dL_law_916 : decode cL_law 916 = .ok (.iaload, 1) := by decide +kernel
theorem dL_law_917 : decode cL_law 917 = .ok (.aload_n 0, 1) := by decide +kernel
theorem dL_law_918 : decode cL_law 918 = .ok (.iload_n 3, 1) := by decide +kernel
theorem dL_law_919 : decode cL_law 919 = .ok (.iconst 3, 1) := by decide +kernel
theorem dL_law_920 : decode cL_law 920 = .ok (.iadd, 1) := by decide +kernel
theorem dL_law_921 : decode cL_law 921 = .ok (.iaload, 1) := by decide +kernel
theorem dL_law_922 : decode cL_law 922 = .ok (.invokevirtual 118, 3) := by decide +kernel
theorem dL_law_925 : decode cL_law 925 = .ok (.aload_n 2, 1) := by decide +kernel
theorem dL_law_926 : decode cL_law 926 = .ok (.aload_n 0, 1) := by decide +kernel
theorem dL_law_927 : decode cL_law 927 = .ok (.iload_n 3, 1) := by decide +kernel
theorem dL_law_928 : decode cL_law 928 = .ok (.iconst 1, 1) := by decide +kernel
theorem dL_law_929 : decode cL_law 929 = .ok (.iadd, 1) := by decide +kernel
theorem dL_law_930 : decode cL_law 930 = .ok (.iaload, 1) := by decide +kernel
theorem dL_law_931 : decode cL_law 931 = .ok (.aload_n 0, 1) := by decide +kernel
theorem dL_law_932 : decode cL_law 932 = .ok (.iload_n 3, 1) := by decide +kernel
theorem dL_law_933 : decode cL_law 933 = .ok (.iconst 2, 1) := by decide +kernel
theorem dL_law_934 : decode cL_law 934 = .ok (.iadd, 1) := by decide +kernel
theorem dL_law_935 : decode cL_law 935 = .ok (.iaload, 1) := by decide +kernel
theorem dL_law_936 : decode cL_law 936 = .ok (.aload_n 0, 1) := by decide +kernel
theorem dL_law_937 : decode cL_law 937 = .ok (.iload_n 3, 1) := by decide +kernel
theorem dL_law_938 : decode cL_law 938 = .ok (.iconst 3, 1) := by decide +kernel
theorem dL_law_939 : decode cL_law 939 = .ok (.iadd, 1) := by decide +kernel
theorem dL_law_940 : decode cL_law 940 = .ok (.iaload, 1) := by decide +kernel
theorem dL_law_941 : decode cL_law 941 = .ok (.invokevirtual 121, 3) := by decide +kernel
theorem dL_law_944 : decode cL_law 944 = .ok (.if_icmp .eq 257, 3) := by decide +kernel
theorem dL_law_947 : decode cL_law 947 = .ok (.iconst 0, 1) := by decide +kernel
theorem dL_law_948 : decode cL_law 948 = .ok (.ireturn, 1) := by decide +kernel
theorem dL_law_949 : decode cL_law 949 = .ok (.aload_n 1, 1) := by decide +kernel
theorem dL_law_950 : decode cL_law 950 = .ok (.aload_n 0, 1) := by decide +kernel
theorem dL_law_951 : decode cL_law 951 = .ok (.iload_n 3, 1) := by decide +kernel
theorem dL_law_952 : decode cL_law 952 = .ok (.iconst 1, 1) := by decide +kernel
theorem dL_law_953 : decode cL_law 953 = .ok (.iadd, 1) := by decide +kernel
theorem dL_law_954 : decode cL_law 954 = .ok (.iaload, 1) := by decide +kernel
theorem dL_law_955 : decode cL_law 955 = .ok (.invokevirtual 122, 3) := by decide +kernel
theorem dL_law_958 : decode cL_law 958 = .ok (.aload_n 2, 1) := by decide +kernel
theorem dL_law_959 : decode cL_law 959 = .ok (.aload_n 0, 1) := by decide +kernel
theorem dL_law_960 : decode cL_law 960 = .ok (.iload_n 3, 1) := by decide +kernel
theorem dL_law_961 : decode cL_law 961 = .ok (.iconst 1, 1) := by decide +kernel
theorem dL_law_962 : decode cL_law 962 = .ok (.iadd, 1) := by decide +kernel
theorem dL_law_963 : decode cL_law 963 = .ok (.iaload, 1) := by decide +kernel
theorem dL_law_964 : decode cL_law 964 = .ok (.invokevirtual 125, 3) := by decide +kernel
theorem dL_law_967 : decode cL_law 967 = .ok (.if_icmp .eq 234, 3) := by decide +kernel
theorem dL_law_970 : decode cL_law 970 = .ok (.iconst 0, 1) := by decide +kernel
theorem dL_law_971 : decode cL_law 971 = .ok (.ireturn, 1) := by decide +kernel
theorem dL_law_972 : decode cL_law 972 = .ok (.aload_n 1, 1) := by decide +kernel
theorem dL_law_973 : decode cL_law 973 = .ok (.aload_n 0, 1) := by decide +kernel
theorem dL_law_974 : decode cL_law 974 = .ok (.iload_n 3, 1) := by decide +kernel
theorem dL_law_975 : decode cL_law 975 = .ok (.iconst 1, 1) := by decide +kernel
theorem dL_law_976 : decode cL_law 976 = .ok (.iadd, 1) := by decide +kernel
theorem dL_law_977 : decode cL_law 977 = .ok (.iaload, 1) := by decide +kernel
theorem dL_law_978 : decode cL_law 978 = .ok (.aload_n 0, 1) := by decide +kernel
theorem dL_law_979 : decode cL_law 979 = .ok (.iload_n 3, 1) := by decide +kernel
theorem dL_law_980 : decode cL_law 980 = .ok (.iconst 2, 1) := by decide +kernel
theorem dL_law_981 : decode cL_law 981 = .ok (.iadd, 1) := by decide +kernel
theorem dL_law_982 : decode cL_law 982 = .ok (.iaload, 1) := by decide +kernel
theorem dL_law_983 : decode cL_law 983 = .ok (.aload_n 0, 1) := by decide +kernel
theorem dL_law_984 : decode cL_law 984 = .ok (.iload_n 3, 1) := by decide +kernel
theorem dL_law_985 : decode cL_law 985 = .ok (.iconst 3, 1) := by decide +kernel
theorem dL_law_986 : decode cL_law 986 = .ok (.iadd, 1) := by decide +kernel
theorem dL_law_987 : decode cL_law 987 = .ok (.iaload, 1) := by decide +kernel
theorem dL_law_988 : decode cL_law 988 = .ok (.aload_n 0, 1) := by decide +kernel
theorem dL_law_989 : decode cL_law 989 = .ok (.iload_n 3, 1) := by decide +kernel
theorem dL_law_990 : decode cL_law 990 = .ok (.iconst 4, 1) := by decide +kernel
theorem dL_law_991 : decode cL_law 991 = .ok (.iadd, 1) := by decide +kernel
theorem dL_law_992 : decode cL_law 992 = .ok (.iaload, 1) := by decide +kernel
theorem dL_law_993 : decode cL_law 993 = .ok (.invokevirtual 126, 3) := by decide +kernel
theorem dL_law_996 : decode cL_law 996 = .ok (.aload_n 2, 1) := by decide +kernel
theorem dL_law_997 : decode cL_law 997 = .ok (.aload_n 0, 1) := by decide +kernel
theorem dL_law_998 : decode cL_law 998 = .ok (.iload_n 3, 1) := by decide +kernel
theorem dL_law_999 : decode cL_law 999 = .ok (.iconst 1, 1) := by decide +kernel
theorem dL_law_1000 : decode cL_law 1000 = .ok (.iadd, 1) := by decide +kernel
theorem dL_law_1001 : decode cL_law 1001 = .ok (.iaload, 1) := by decide +kernel
theorem dL_law_1002 : decode cL_law 1002 = .ok (.aload_n 0, 1) := by decide +kernel
theorem dL_law_1003 : decode cL_law 1003 = .ok (.iload_n 3, 1) := by decide +kernel
theorem dL_law_1004 : decode cL_law 1004 = .ok (.iconst 2, 1) := by decide +kernel
theorem dL_law_1005 : decode cL_law 1005 = .ok (.iadd, 1) := by decide +kernel
theorem dL_law_1006 : decode cL_law 1006 = .ok (.iaload, 1) := by decide +kernel
theorem dL_law_1007 : decode cL_law 1007 = .ok (.aload_n 0, 1) := by decide +kernel
theorem dL_law_1008 : decode cL_law 1008 = .ok (.iload_n 3, 1) := by decide +kernel
theorem dL_law_1009 : decode cL_law 1009 = .ok (.iconst 3, 1) := by decide +kernel
theorem dL_law_1010 : decode cL_law 1010 = .ok (.iadd, 1) := by decide +kernel
theorem dL_law_1011 : decode cL_law 1011 = .ok (.iaload, 1) := by decide +kernel
theorem dL_law_1012 : decode cL_law 1012 = .ok (.aload_n 0, 1) := by decide +kernel
theorem dL_law_1013 : decode cL_law 1013 = .ok (.iload_n 3, 1) := by decide +kernel
theorem dL_law_1014 : decode cL_law 1014 = .ok (.iconst 4, 1) := by decide +kernel
theorem dL_law_1015 : decode cL_law 1015 = .ok (.iadd, 1) := by decide +kernel
theorem dL_law_1016 : decode cL_law 1016 = .ok (.iaload, 1) := by decide +kernel
theorem dL_law_1017 : decode cL_law 1017 = .ok (.invokevirtual 130, 3) := by decide +kernel
theorem dL_law_1020 : decode cL_law 1020 = .ok (.if_icmp .eq 181, 3) := by decide +kernel
theorem dL_law_1023 : decode cL_law 1023 = .ok (.iconst 0, 1) := by decide +kernel
theorem dL_law_1024 : decode cL_law 1024 = .ok (.ireturn, 1) := by decide +kernel
theorem dL_law_1025 : decode cL_law 1025 = .ok (.aload_n 1, 1) := by decide +kernel
theorem dL_law_1026 : decode cL_law 1026 = .ok (.aload_n 0, 1) := by decide +kernel
theorem dL_law_1027 : decode cL_law 1027 = .ok (.iload_n 3, 1) := by decide +kernel
theorem dL_law_1028 : decode cL_law 1028 = .ok (.iconst 1, 1) := by decide +kernel
theorem dL_law_1029 : decode cL_law 1029 = .ok (.iadd, 1) := by decide +kernel
theorem dL_law_1030 : decode cL_law 1030 = .ok (.iaload, 1) := by decide +kernel
theorem dL_law_1031 : decode cL_law 1031 = .ok (.aload_n 0, 1) := by decide +kernel
theorem dL_law_1032 : decode cL_law 1032 = .ok (.iload_n 3, 1) := by decide +kernel
theorem dL_law_1033 : decode cL_law 1033 = .ok (.iconst 2, 1) := by decide +kernel
theorem dL_law_1034 : decode cL_law 1034 = .ok (.iadd, 1) := by decide +kernel
theorem dL_law_1035 : decode cL_law 1035 = .ok (.iaload, 1) := by decide +kernel
theorem dL_law_1036 : decode cL_law 1036 = .ok (.aload_n 0, 1) := by decide +kernel
theorem dL_law_1037 : decode cL_law 1037 = .ok (.iload_n 3, 1) := by decide +kernel
theorem dL_law_1038 : decode cL_law 1038 = .ok (.iconst 3, 1) := by decide +kernel
theorem dL_law_1039 : decode cL_law 1039 = .ok (.iadd, 1) := by decide +kernel
theorem dL_law_1040 : decode cL_law 1040 = .ok (.iaload, 1) := by decide +kernel
theorem dL_law_1041 : decode cL_law 1041 = .ok (.invokevirtual 131, 3) := by decide +kernel
theorem dL_law_1044 : decode cL_law 1044 = .ok (.aload_n 2, 1) := by decide +kernel
theorem dL_law_1045 : decode cL_law 1045 = .ok (.aload_n 0, 1) := by decide +kernel
theorem dL_law_1046 : decode cL_law 1046 = .ok (.iload_n 3, 1) := by decide +kernel
theorem dL_law_1047 : decode cL_law 1047 = .ok (.iconst 1, 1) := by decide +kernel
theorem dL_law_1048 : decode cL_law 1048 = .ok (.iadd, 1) := by decide +kernel
theorem dL_law_1049 : decode cL_law 1049 = .ok (.iaload, 1) := by decide +kernel
theorem dL_law_1050 : decode cL_law 1050 = .ok (.aload_n 0, 1) := by decide +kernel
theorem dL_law_1051 : decode cL_law 1051 = .ok (.iload_n 3, 1) := by decide +kernel
theorem dL_law_1052 : decode cL_law 1052 = .ok (.iconst 2, 1) := by decide +kernel
theorem dL_law_1053 : decode cL_law 1053 = .ok (.iadd, 1) := by decide +kernel
theorem dL_law_1054 : decode cL_law 1054 = .ok (.iaload, 1) := by decide +kernel
theorem dL_law_1055 : decode cL_law 1055 = .ok (.aload_n 0, 1) := by decide +kernel
theorem dL_law_1056 : decode cL_law 1056 = .ok (.iload_n 3, 1) := by decide +kernel
theorem dL_law_1057 : decode cL_law 1057 = .ok (.iconst 3, 1) := by decide +kernel
theorem dL_law_1058 : decode cL_law 1058 = .ok (.iadd, 1) := by decide +kernel
theorem dL_law_1059 : decode cL_law 1059 = .ok (.iaload, 1) := by decide +kernel
theorem dL_law_1060 : decode cL_law 1060 = .ok (.invokevirtual 134, 3) := by decide +kernel
theorem dL_law_1063 : decode cL_law 1063 = .ok (.if_icmp .eq 138, 3) := by decide +kernel
theorem dL_law_1066 : decode cL_law 1066 = .ok (.iconst 0, 1) := by decide +kernel
theorem dL_law_1067 : decode cL_law 1067 = .ok (.ireturn, 1) := by decide +kernel
theorem dL_law_1068 : decode cL_law 1068 = .ok (.aload_n 1, 1) := by decide +kernel
theorem dL_law_1069 : decode cL_law 1069 = .ok (.aload_n 0, 1) := by decide +kernel
theorem dL_law_1070 : decode cL_law 1070 = .ok (.iload_n 3, 1) := by decide +kernel
theorem dL_law_1071 : decode cL_law 1071 = .ok (.iconst 1, 1) := by decide +kernel
theorem dL_law_1072 : decode cL_law 1072 = .ok (.iadd, 1) := by decide +kernel
theorem dL_law_1073 : decode cL_law 1073 = .ok (.iaload, 1) := by decide +kernel
theorem dL_law_1074 : decode cL_law 1074 = .ok (.aload_n 0, 1) := by decide +kernel
theorem dL_law_1075 : decode cL_law 1075 = .ok (.iload_n 3, 1) := by decide +kernel
theorem dL_law_1076 : decode cL_law 1076 = .ok (.iconst 2, 1) := by decide +kernel
theorem dL_law_1077 : decode cL_law 1077 = .ok (.iadd, 1) := by decide +kernel
theorem dL_law_1078 : decode cL_law 1078 = .ok (.iaload, 1) := by decide +kernel
theorem dL_law_1079 : decode cL_law 1079 = .ok (.aload_n 0, 1) := by decide +kernel
theorem dL_law_1080 : decode cL_law 1080 = .ok (.iload_n 3, 1) := by decide +kernel
theorem dL_law_1081 : decode cL_law 1081 = .ok (.iconst 3, 1) := by decide +kernel
theorem dL_law_1082 : decode cL_law 1082 = .ok (.iadd, 1) := by decide +kernel
theorem dL_law_1083 : decode cL_law 1083 = .ok (.iaload, 1) := by decide +kernel
theorem dL_law_1084 : decode cL_law 1084 = .ok (.aload_n 0, 1) := by decide +kernel
theorem dL_law_1085 : decode cL_law 1085 = .ok (.iload_n 3, 1) := by decide +kernel
theorem dL_law_1086 : decode cL_law 1086 = .ok (.iconst 4, 1) := by decide +kernel
theorem dL_law_1087 : decode cL_law 1087 = .ok (.iadd, 1) := by decide +kernel
theorem dL_law_1088 : decode cL_law 1088 = .ok (.iaload, 1) := by decide +kernel
theorem dL_law_1089 : decode cL_law 1089 = .ok (.aload_n 0, 1) := by decide +kernel
theorem dL_law_1090 : decode cL_law 1090 = .ok (.iload_n 3, 1) := by decide +kernel
theorem dL_law_1091 : decode cL_law 1091 = .ok (.iconst 5, 1) := by decide +kernel
theorem dL_law_1092 : decode cL_law 1092 = .ok (.iadd, 1) := by decide +kernel
theorem dL_law_1093 : decode cL_law 1093 = .ok (.iaload, 1) := by decide +kernel
theorem dL_law_1094 : decode cL_law 1094 = .ok (.invokevirtual 135, 3) := by decide +kernel
theorem dL_law_1097 : decode cL_law 1097 = .ok (.aload_n 2, 1) := by decide +kernel
theorem dL_law_1098 : decode cL_law 1098 = .ok (.aload_n 0, 1) := by decide +kernel
theorem dL_law_1099 : decode cL_law 1099 = .ok (.iload_n 3, 1) := by decide +kernel
theorem dL_law_1100 : decode cL_law 1100 = .ok (.iconst 1, 1) := by decide +kernel
theorem dL_law_1101 : decode cL_law 1101 = .ok (.iadd, 1) := by decide +kernel
theorem dL_law_1102 : decode cL_law 1102 = .ok (.iaload, 1) := by decide +kernel
theorem dL_law_1103 : decode cL_law 1103 = .ok (.aload_n 0, 1) := by decide +kernel
theorem dL_law_1104 : decode cL_law 1104 = .ok (.iload_n 3, 1) := by decide +kernel
theorem dL_law_1105 : decode cL_law 1105 = .ok (.iconst 2, 1) := by decide +kernel
theorem dL_law_1106 : decode cL_law 1106 = .ok (.iadd, 1) := by decide +kernel
theorem dL_law_1107 : decode cL_law 1107 = .ok (.iaload, 1) := by decide +kernel
theorem dL_law_1108 : decode cL_law 1108 = .ok (.aload_n 0, 1) := by decide +kernel
theorem dL_law_1109 : decode cL_law 1109 = .ok (.iload_n 3, 1) := by decide +kernel
theorem dL_law_1110 : decode cL_law 1110 = .ok (.iconst 3, 1) := by decide +kernel
theorem dL_law_1111 : decode cL_law 1111 = .ok (.iadd, 1) := by decide +kernel
theorem dL_law_1112 : decode cL_law 1112 = .ok (.iaload, 1) := by decide +kernel
theorem dL_law_1113 : decode cL_law 1113 = .ok (.aload_n 0, 1) := by decide +kernel
theorem dL_law_1114 : decode cL_law 1114 = .ok (.iload_n 3, 1) := by decide +kernel
theorem dL_law_1115 : decode cL_law 1115 = .ok (.iconst 4, 1) := by decide +kernel
theorem dL_law_1116 : decode cL_law 1116 = .ok (.iadd, 1) := by decide +kernel
theorem dL_law_1117 : decode cL_law 1117 = .ok (.iaload, 1) := by decide +kernel
theorem dL_law_1118 : decode cL_law 1118 = .ok (.aload_n 0, 1) := by decide +kernel
theorem dL_law_1119 : decode cL_law 1119 = .ok (.iload_n 3, 1) := by decide +kernel
theorem dL_law_1120 : decode cL_law 1120 = .ok (.iconst 5, 1) := by decide +kernel
theorem dL_law_1121 : decode cL_law 1121 = .ok (.iadd, 1) := by decide +kernel
theorem dL_law_1122 : decode cL_law 1122 = .ok (.iaload, 1) := by decide +kernel
theorem dL_law_1123 : decode cL_law 1123 = .ok (.invokevirtual 139, 3) := by decide +kernel
theorem dL_law_1126 : decode cL_law 1126 = .ok (.if_icmp .eq 75, 3) := by decide +kernel
theorem dL_law_1129 : decode cL_law 1129 = .ok (.iconst 0, 1) := by decide +kernel
theorem dL_law_1130 : decode cL_law 1130 = .ok (.ireturn, 1) := by decide +kernel
theorem dL_law_1131 : decode cL_law 1131 = .ok (.aload_n 1, 1) := by decide +kernel
theorem dL_law_1132 : decode cL_law 1132 = .ok (.aload_n 0, 1) := by decide +kernel
theorem dL_law_1133 : decode cL_law 1133 = .ok (.iload_n 3, 1) := by decide +kernel
theorem dL_law_1134 : decode cL_law 1134 = .ok (.iconst 1, 1) := by decide +kernel
theorem dL_law_1135 : decode cL_law 1135 = .ok (.iadd, 1) := by decide +kernel
theorem dL_law_1136 : decode cL_law 1136 = .ok (.iaload, 1) := by decide +kernel
theorem dL_law_1137 : decode cL_law 1137 = .ok (.aload_n 0, 1) := by decide +kernel
theorem dL_law_1138 : decode cL_law 1138 = .ok (.iload_n 3, 1) := by decide +kernel
theorem dL_law_1139 : decode cL_law 1139 = .ok (.iconst 2, 1) := by decide +kernel
theorem dL_law_1140 : decode cL_law 1140 = .ok (.iadd, 1) := by decide +kernel
theorem dL_law_1141 : decode cL_law 1141 = .ok (.iaload, 1) := by decide +kernel
theorem dL_law_1142 : decode cL_law 1142 = .ok (.invokevirtual 140, 3) := by decide +kernel
theorem dL_law_1145 : decode cL_law 1145 = .ok (.aload_n 2, 1) := by decide +kernel
theorem dL_law_1146 : decode cL_law 1146 = .ok (.aload_n 0, 1) := by decide +kernel
theorem dL_law_1147 : decode cL_law 1147 = .ok (.iload_n 3, 1) := by decide +kernel
theorem dL_law_1148 : decode cL_law 1148 = .ok (.iconst 1, 1) := by decide +kernel
theorem dL_law_1149 : decode cL_law 1149 = .ok (.iadd, 1) := by decide +kernel
theorem dL_law_1150 : decode cL_law 1150 = .ok (.iaload, 1) := by decide +kernel
theorem dL_law_1151 : decode cL_law 1151 = .ok (.aload_n 0, 1) := by decide +kernel
theorem dL_law_1152 : decode cL_law 1152 = .ok (.iload_n 3, 1) := by decide +kernel
theorem dL_law_1153 : decode cL_law 1153 = .ok (.iconst 2, 1) := by decide +kernel
theorem dL_law_1154 : decode cL_law 1154 = .ok (.iadd, 1) := by decide +kernel
theorem dL_law_1155 : decode cL_law 1155 = .ok (.iaload, 1) := by decide +kernel
theorem dL_law_1156 : decode cL_law 1156 = .ok (.invokevirtual 143, 3) := by decide +kernel
theorem dL_law_1159 : decode cL_law 1159 = .ok (.if_icmp .eq 42, 3) := by decide +kernel
theorem dL_law_1162 : decode cL_law 1162 = .ok (.iconst 0, 1) := by decide +kernel
theorem dL_law_1163 : decode cL_law 1163 = .ok (.ireturn, 1) := by decide +kernel
theorem dL_law_1164 : decode cL_law 1164 = .ok (.aload_n 1, 1) := by decide +kernel
theorem dL_law_1165 : decode cL_law 1165 = .ok (.aload_n 0, 1) := by decide +kernel
theorem dL_law_1166 : decode cL_law 1166 = .ok (.iload_n 3, 1) := by decide +kernel
theorem dL_law_1167 : decode cL_law 1167 = .ok (.iconst 1, 1) := by decide +kernel
theorem dL_law_1168 : decode cL_law 1168 = .ok (.iadd, 1) := by decide +kernel
theorem dL_law_1169 : decode cL_law 1169 = .ok (.iaload, 1) := by decide +kernel
theorem dL_law_1170 : decode cL_law 1170 = .ok (.invokevirtual 144, 3) := by decide +kernel
theorem dL_law_1173 : decode cL_law 1173 = .ok (.aload_n 2, 1) := by decide +kernel
theorem dL_law_1174 : decode cL_law 1174 = .ok (.aload_n 0, 1) := by decide +kernel
theorem dL_law_1175 : decode cL_law 1175 = .ok (.iload_n 3, 1) := by decide +kernel
theorem dL_law_1176 : decode cL_law 1176 = .ok (.iconst 1, 1) := by decide +kernel
theorem dL_law_1177 : decode cL_law 1177 = .ok (.iadd, 1) := by decide +kernel
theorem dL_law_1178 : decode cL_law 1178 = .ok (.iaload, 1) := by decide +kernel
theorem dL_law_1179 : decode cL_law 1179 = .ok (.invokevirtual 147, 3) := by decide +kernel
theorem dL_law_1182 : decode cL_law 1182 = .ok (.if_icmp .eq 19, 3) := by decide +kernel
theorem dL_law_1185 : decode cL_law 1185 = .ok (.iconst 0, 1) := by decide +kernel
theorem dL_law_1186 : decode cL_law 1186 = .ok (.ireturn, 1) := by decide +kernel
theorem dL_law_1187 : decode cL_law 1187 = .ok (.aload_n 1, 1) := by decide +kernel
theorem dL_law_1188 : decode cL_law 1188 = .ok (.invokevirtual 148, 3) := by decide +kernel
theorem dL_law_1191 : decode cL_law 1191 = .ok (.aload_n 2, 1) := by decide +kernel
theorem dL_law_1192 : decode cL_law 1192 = .ok (.invokevirtual 152, 3) := by decide +kernel
theorem dL_law_1195 : decode cL_law 1195 = .ok (.lcmp, 1) := by decide +kernel
theorem dL_law_1196 : decode cL_law 1196 = .ok (.ifCond .eq 5, 3) := by decide +kernel
theorem dL_law_1199 : decode cL_law 1199 = .ok (.iconst 0, 1) := by decide +kernel
theorem dL_law_1200 : decode cL_law 1200 = .ok (.ireturn, 1) := by decide +kernel
theorem dL_law_1201 : decode cL_law 1201 = .ok (.iinc 3 6, 3) := by decide +kernel
theorem dL_law_1204 : decode cL_law 1204 = .ok (.goto (-1186), 3) := by decide +kernel
theorem dL_law_1207 : decode cL_law 1207 = .ok (.iconst 1, 1) := by decide +kernel
theorem dL_law_1208 : decode cL_law 1208 = .ok (.ireturn, 1) := by decide +kernel
end
section
/-! numbers as Ints: I z, Jl z are the machine's numbers of z -/
abbrev Mem : Type := Nat → Int → Int
def I (z : Int) : Int32 := Int32.ofInt z
def Jl (z : Int) : Int64 := Int64.ofInt z
def up (σ : Mem) (i : Nat) (k v : Int) : Mem := fun i' k' => if i' = i ∧ k' = k then v else σ i' k'
abbrev rng (a : Int) : Prop := -2147483648 ≤ a ∧ a < 2147483648
abbrev rngL (a : Int) : Prop := -9223372036854775808 ≤ a ∧ a < 9223372036854775808
theorem I_toInt {a : Int} (h : rng a) : (I a).toInt = a := Int32.toInt_ofInt_of_le h.1 h.2
theorem Jl_toInt {a : Int} (h : rngL a) : (Jl a).toInt = a := Int64.toInt_ofInt_of_le h.1 h.2
theorem I_add (a b : Int) : I a + I b = I (a + b) := (Int32.ofInt_add a b).symm
theorem I_sub (a b : Int) : I a - I b = I (a - b) := (Int32.ofInt_sub a b).symm
theorem I_mul (a b : Int) : I a * I b = I (a * b) := (Int32.ofInt_mul a b).symm
theorem Jl_add (a b : Int) : Jl a + Jl b = Jl (a + b) := (Int64.ofInt_add a b).symm
theorem Jl_sub (a b : Int) : Jl a - Jl b = Jl (a - b) := (Int64.ofInt_sub a b).symm
theorem Jl_mul (a b : Int) : Jl a * Jl b = Jl (a * b) := (Int64.ofInt_mul a b).symm
theorem I_lt {a b : Int} (ha : rng a) (hb : rng b) : I a < I b ↔ a < b := by rw [Int32.lt_iff_toInt_lt, I_toInt ha, I_toInt hb]
theorem I_le {a b : Int} (ha : rng a) (hb : rng b) : I a ≤ I b ↔ a ≤ b := by rw [Int32.le_iff_toInt_le, I_toInt ha, I_toInt hb]
theorem I_inj {a b : Int} (ha : rng a) (hb : rng b) : I a = I b ↔ a = b := by rw [← Int32.toInt_inj, I_toInt ha, I_toInt hb]
theorem I_0 : I 0 = 0 := rfl
theorem I_of (x : Int32) : I x.toInt = x := Int32.ofInt_toInt x
theorem I_rng (x : Int32) : rng x.toInt := ⟨Int32.le_toInt x, Int32.toInt_lt x⟩
theorem I_vin {x : Int} {n : Nat} (hn : n < 2147483648) (h : 0 ≤ x ∧ x < n) : vp_in (I x) n := by
  rw [vp_in_iff, I_toInt (by omega)]; exact h
theorem I_cl {x : Int} (h : 0 ≤ x ∧ x < 2147483648) : (((I x).toNatClampNeg : Nat) : Int) = x := by
  have : (I x).toNatClampNeg = (I x).toInt.toNat := rfl
  rw [this, I_toInt (by omega)]; omega
theorem up_s (σ : Mem) (i : Nat) (k v : Int) : up σ i k v i k = v := by simp [up]
theorem up_n {σ : Mem} {i i' : Nat} {k k' v : Int} (h : ¬ (i' = i ∧ k' = k)) : up σ i k v i' k' = σ i' k' := by simp [up, h]
theorem up_i {σ : Mem} {i i' : Nat} {k k' v : Int} (h : i' ≠ i) : up σ i k v i' k' = σ i' k' := by simp [up, h]

/-! the shape of the heap: 22 objects (their classes), 56 arrays (their kinds and lengths) -/
abbrev classes : List vw_C := [(RX0, TX0, 5), (RX1, TX1, 4), (RX2, TX2, 9), (RX3, TX3, 4), (RX4, TX4, 4), (RX5, TX5, 4), (RX6, TX6, 4), (RX7, TX7, 15), (RX8, TX8, 34)]
def nfl (c : Nat) : Nat := [5, 4, 9, 4, 4, 4, 4, 15, 34].getD c 0
def clsOf (i : Nat) : Nat := [7, 8, 0, 0, 5, 2, 1, 4, 4, 4, 4, 4, 4, 4, 4, 4, 6, 6, 3, 3, 3, 3].getD i 99
/-- 0 int, 1 long, 2 boolean, 3 Text, 4 Sleeper, 5 Sheet; the length -/
def arrOf (i : Nat) : Nat × Nat := if i < 22 then (9, 0) else [(3, 2), (4, 8), (5, 4), (0, 3), (1, 8), (0, 9), (1, 9), (0, 39), (0, 39), (0, 3), (0, 3), (0, 8), (0, 8), (0, 8), (0, 8), (0, 8), (0, 8), (0, 8), (0, 8), (0, 8), (0, 8), (0, 8), (0, 8), (0, 8), (0, 8), (0, 4), (0, 8), (0, 60), (0, 60), (0, 60), (0, 60),
  (0, 2), (0, 78), (0, 9), (0, 9), (0, 9), (0, 9), (0, 9), (0, 9), (0, 9), (0, 400), (2, 400), (0, 72), (2, 72), (0, 8), (0, 2), (0, 8), (0, 8), (0, 8), (0, 64), (0, 8), (2, 4), (0, 4), (0, 4), (0, 240), (0, 60)].getD (i - 22) (9, 0)
/-- a field's kind by its class: 0 int, 1 long, 2 reference, 3 boolean, 4 a text -/
def fty (c k : Nat) : Nat := ([[2, 2, 2, 2, 0], [2, 0, 0, 0], [2, 2, 2, 2, 0, 0, 0, 0, 1], [2, 3, 0, 0], [0, 0, 0, 0], [2, 2, 2, 0], [2, 2, 4, 0], [2, 2, 0, 2, 2, 2, 2, 0, 2, 2, 2, 2, 2, 2, 2],
  [2, 2, 0, 2, 2, 2, 2, 0, 2, 2, 2, 0, 0, 0, 0, 0, 2, 2, 2, 2, 2, 2, 0, 2, 2, 2, 2, 2, 2, 2, 2, 2, 2, 0]].getD c []).getD k 9
/-- which cell a reference field holds -/
def rid (i k : Nat) : Nat := if i = 0 then [22, 23, 0, 2, 25, 4, 24, 0, 7, 3, 5, 6, 26, 27, 28].getD k 0 else if i = 1 then [53, 54, 0, 55, 56, 57, 58, 0, 59, 60, 61, 0, 0, 0, 0, 0, 62, 63, 64, 65, 66, 67, 0, 68, 69, 70, 71, 72, 73, 74, 75, 76, 77, 0].getD k 0
  else if i = 2 then 33 + k else if i = 3 then 37 + k else if i = 4 then 41 + k else if i = 5 then 44 + k else if i = 6 then 48 else if i < 18 then (if k = 0 then i + 13 else i + 15) else i + 31
/-- the first cell of an array of references: the others follow -/
def rba (i : Nat) : Nat := if i = 22 then 16 else if i = 23 then 8 else 18
/-- where all lies: the launch, classes, array classes, cells, static arrays, texts and their bytes -/
abbrev Th : Type := Launch × va_G × (Nat → ClassId) × (Nat → Nat) × (Nat → Nat) × (Nat → Nat) × (Nat → Nat)
def Th.l (Θ : Th) : Launch := Θ.1
def Th.D (Θ : Th) : va_G := Θ.2.1
def Th.ca (Θ : Th) : Nat → ClassId := Θ.2.2.1
def Th.r (Θ : Th) : Nat → Nat := Θ.2.2.2.1
def Th.st (Θ : Th) : Nat → Nat := Θ.2.2.2.2.1
def Th.tx (Θ : Th) : Nat → Nat := Θ.2.2.2.2.2.1
def Th.by (Θ : Th) : Nat → Nat := Θ.2.2.2.2.2.2
def fv (Θ : Th) (σ : Mem) (i k : Nat) : Value := match fty (clsOf i) k with
  | 0 => .int (I (σ i k))
  | 1 => .long (Jl (σ i k))
  | 3 => .int (I (σ i k))
  | 4 => .ref (Th.tx Θ (i - 16))
  | _ => .ref (Th.r Θ (rid i k))
def av (Θ : Th) (σ : Mem) (i : Nat) : (Nat → Int32) ⊕ (Nat → Int64) ⊕ (Nat → UInt32) ⊕ (Nat → UInt64) ⊕ (Nat → Option Nat) := match (arrOf i).1 with
  | 0 => .inl (fun j => I (σ i j))
  | 1 => .inr (.inl (fun j => Jl (σ i j)))
  | 2 => .inl (fun j => I (σ i j))
  | _ => .inr (.inr (.inr (.inr (fun j => some (Th.r Θ (rba i + j))))))
def cellE (Θ : Th) (σ : Mem) (i : Nat) : va_E := if i < 22 then .inr (clsOf i, (List.range (nfl (clsOf i))).map (fv Θ σ i)) else .inl (Th.ca Θ (arrOf i).1, (arrOf i).2, av Θ σ i)
def cells (Θ : Th) (σ : Mem) : va_W := (List.range 78).map (fun i => (Th.r Θ i, cellE Θ σ i))
theorem cells_get (Θ : Th) (σ : Mem) {i : Nat} (h : i < 78) : (cells Θ σ)[i]? = some (Th.r Θ i, cellE Θ σ i) := by
  simp [cells, List.getElem?_map, List.getElem?_range h]
theorem cells_inv {Θ : Th} {σ : Mem} {i : Nat} {q : Nat × va_E} (h : (cells Θ σ)[i]? = some q) : i < 78 ∧ q = (Th.r Θ i, cellE Θ σ i) := by
  have hi : i < 78 := by
    have := (List.getElem?_eq_some_iff.mp h).1
    simpa [cells] using this
  refine ⟨hi, ?_⟩
  rw [cells_get Θ σ hi] at h
  exact (Option.some.inj h).symm
theorem clsOf_lt {i c : Nat} (h : clsOf i = c) (hc : c < 9) : i < 22 := by
  rcases Nat.lt_or_ge i 22 with h1 | h1
  · exact h1
  · exfalso
    have : clsOf i = 99 := by
      unfold clsOf
      rw [List.getD_eq_getElem?_getD, List.getElem?_eq_none (by simpa using h1)]; rfl
    omega
theorem arrOf_ge {i t n : Nat} (h : arrOf i = (t, n)) (ht : t < 9) : 22 ≤ i ∧ i < 78 := by
  rcases Nat.lt_or_ge i 22 with h1 | h1
  · exfalso; simp [arrOf, h1] at h; omega
  · rcases Nat.lt_or_ge i 78 with h2 | h2
    · exact ⟨h1, h2⟩
    · exfalso
      have h3 : ¬ i < 22 := by omega
      unfold arrOf at h
      rw [if_neg h3, List.getD_eq_getElem?_getD, List.getElem?_eq_none (by simp; omega)] at h
      simp at h; omega
theorem cellE_o {Θ : Th} {σ : Mem} {i c : Nat} (h : clsOf i = c) (hc : c < 9) : cellE Θ σ i = .inr (c, (List.range (nfl c)).map (fv Θ σ i)) := by
  have := clsOf_lt h hc
  simp [cellE, this, h]
theorem cellE_a {Θ : Th} {σ : Mem} {i t n : Nat} (h : arrOf i = (t, n)) (ht : t < 9) : cellE Θ σ i = .inl (Th.ca Θ t, n, av Θ σ i) := by
  have := arrOf_ge h ht
  have h1 : ¬ i < 22 := by omega
  simp [cellE, h1, h]
theorem fv_up_o (Θ : Th) (σ : Mem) (i k i' k' : Nat) (v : Int) (h : ¬ (i' = i ∧ k' = k)) : fv Θ (up σ i k v) i' k' = fv Θ σ i' k' := by
  have : up σ i k v i' k' = σ i' k' := up_n (fun q => h ⟨q.1, by omega⟩)
  simp only [fv, this]
/-- one field of an object is written -/
theorem cells_put {Θ : Th} {σ : Mem} {i k c : Nat} {v : Int} (hc : clsOf i = c) (h9 : c < 9) (hk : k < nfl c) : (cells Θ σ).set i (Th.r Θ i, .inr (c, ((List.range (nfl c)).map (fv Θ σ i)).set k (fv Θ (up σ i k v) i k))) = cells Θ (up σ i k v) := by
  have hi := clsOf_lt hc h9
  apply List.ext_getElem?
  intro j
  rw [List.getElem?_set]
  by_cases hj : i = j
  · subst hj
    rw [if_pos rfl, if_pos (by simp [cells]; omega), cells_get Θ _ (by omega), cellE_o hc h9]
    congr 4
    apply List.ext_getElem?
    intro n
    rw [List.getElem?_set]
    by_cases hn : k = n
    · subst hn
      rw [if_pos rfl, if_pos (by simpa using hk)]
      simp [List.getElem?_map, List.getElem?_range hk]
    · rw [if_neg hn]
      simp only [List.getElem?_map]
      rcases Nat.lt_or_ge n (nfl c) with h1 | h1
      · rw [List.getElem?_range h1]
        simp only [Option.map_some]
        rw [fv_up_o Θ σ i k i n v (by omega)]
      · rw [List.getElem?_eq_none (by simpa using h1)]
        rfl
  · rw [if_neg hj]
    rcases Nat.lt_or_ge j 78 with h1 | h1
    · rw [cells_get Θ _ h1, cells_get Θ _ h1]
      congr 2
      have e1 : ∀ n, fv Θ (up σ i k v) j n = fv Θ σ j n := fun n => fv_up_o Θ σ i k j n v (by omega)
      have e2 : ∀ n : Int, up σ i k v j n = σ j n := fun n => up_i (by omega)
      simp only [cellE, av, e2]
      rw [show fv Θ (up σ i k v) j = fv Θ σ j from funext e1]
    · rw [List.getElem?_eq_none (by simpa [cells] using h1), List.getElem?_eq_none (by simpa [cells] using h1)]
/-- one item of an array is written -/
theorem cells_ast {Θ : Th} {σ : Mem} {i t n : Nat} {k v : Int} (ha : arrOf i = (t, n)) (h9 : t < 9) : (cells Θ σ).set i (Th.r Θ i, .inl (Th.ca Θ t, n, av Θ (up σ i k v) i)) = cells Θ (up σ i k v) := by
  have hi := arrOf_ge ha h9
  apply List.ext_getElem?
  intro j
  rw [List.getElem?_set]
  by_cases hj : i = j
  · subst hj
    rw [if_pos rfl, if_pos (by simp [cells]; omega), cells_get Θ _ (by omega), cellE_a ha h9]
  · rw [if_neg hj]
    rcases Nat.lt_or_ge j 78 with h1 | h1
    · rw [cells_get Θ _ h1, cells_get Θ _ h1]
      congr 2
      have e2 : ∀ n : Int, up σ i k v j n = σ j n := fun n => up_i (by omega)
      have e1 : ∀ n, fv Θ (up σ i k v) j n = fv Θ σ j n := fun n => by simp only [fv, e2]
      simp only [cellE, av, e2]
      rw [show fv Θ (up σ i k v) j = fv Θ σ j from funext e1]
    · rw [List.getElem?_eq_none (by simpa [cells] using h1), List.getElem?_eq_none (by simpa [cells] using h1)]
end
section
/-! the words that every method has; where static arrays and texts are; a machine's walk over the memory -/
def TT : List Cond := lw_tbl.filter goodWord
theorem TT_of {w : Cond} (h : w ∈ lw_tbl) (hg : goodWord w = true) : w ∈ TT := List.mem_filter.mpr ⟨h, hg⟩
theorem TT_good {w : Cond} (h : w ∈ TT) : (w.onTables && w.keeps) = true ∨ ∃ ty, w = .arrayClass ty := good_of_word (List.mem_filter.mp h).2
theorem TT_in : GoodIn TT TT := fun _ h => ⟨h, TT_good h⟩
abbrev tys (Θ : Th) : List (ClassId × FieldType) := [(Th.ca Θ 0, .int), (Th.ca Θ 1, .long), (Th.ca Θ 2, .boolean), (Th.ca Θ 3, .object RX6), (Th.ca Θ 4, .object RX4), (Th.ca Θ 5, .object RX3)]
def AA (Θ : Th) : Nat → Prop := fun q => ∃ i, i < 78 ∧ q = Th.r Θ i
def sname (t : Nat) : String := ["CYCLE", "LOUD", "LAW_LOW", "LAW_HIGH"].getD t ""
def slen (t : Nat) : Nat := [6, 4, 3, 3].getD t 0
def sval (t : Nat) (k : Nat) : Int := ([[1, 3, 5, 6, 4, 2], [6, 4, 9, 3], [0, 0, 1], [9, 9, 8]].getD t []).getD k 0
def NW (U : State) : Prop := va_Nw (.fieldLinkNest RX2 95 RX7 "LOUD" "[I" RX7) U ∧ va_Nw (.fieldLinkNest RX4 24 RX7 "CYCLE" "[I" RX7) U ∧ va_Nw (.methodLinkNest RX5 21 yX7_within RX7) U
def KS (Θ : Th) (U : State) : Prop := va_K (Th.D Θ) classes (tys Θ) U ∧ (∀ i j, i < 78 → j < 78 → Th.r Θ i = Th.r Θ j → i = j) ∧
  (∀ t, t < 4 → va_Z RX7 (sname t) "[I" (.ref (Th.st Θ t)) (AA Θ) U U.heap ∧ va_T .int (Th.st Θ t) (slen t) (fun j => .int (I (sval t j))) (AA Θ) U U.heap) ∧
  va_Z RJ0 "COMPACT_STRINGS" "Z" (.int 1) (AA Θ) U U.heap ∧ vk_S 2 [4, 4] [[121, 111, 119, 105], [107, 118, 102, 100]] (Th.tx Θ) (Th.by Θ) (AA Θ) U U.heap ∧ NW U
theorem KS.step {Θ : Th} {s U : State} {locs : List Loc} (h : KS Θ s) (hW : s.WarmedH U.vm) (hS : va_S (AA Θ) s.heap U.heap locs) : KS Θ U := by
  obtain ⟨h1, h2, h3, h4, h5, h6, h7, h8⟩ := h
  have hvm := hW.alike
  exact ⟨va_K.moved hvm h1, h2, fun t ht => ⟨((h3 t ht).1.moved hvm).kept hS.2.1, ((h3 t ht).2.moved hvm).kept hS.2.1⟩, (h4.moved hvm).kept hS.2.1, (h5.moved hvm).kept hS.2.1, h6.warmF hW, h7.warmF hW, h8.warmM hW⟩
theorem KS.same {Θ : Th} {s U : State} (h : KS Θ s) (hv : U.vm = s.vm) (hh : U.heap = s.heap) : KS Θ U := by
  obtain ⟨h1, h2, h3, h4, h5, h6, h7, h8⟩ := h
  have hvm : s.vm.Alike U.vm := by rw [hv]; exact Vm.Alike.refl s.vm
  exact ⟨va_K.moved hvm h1, h2, fun t ht => ⟨by rw [hh]; exact (h3 t ht).1.moved hvm, by rw [hh]; exact (h3 t ht).2.moved hvm⟩, by rw [hh]; exact h4.moved hvm, by rw [hh]; exact h5.moved hvm, va_tabs rfl hv.symm h6, va_tabs rfl hv.symm h7, va_tabs rfl hv.symm h8⟩
theorem cells_D {Θ : Th} {U : State} (h : KS Θ U) (σ : Mem) : va_D (AA Θ) (cells Θ σ) := by
  refine ⟨fun i j p q hi hj hpq => ?_, fun k q hk => ?_⟩
  · obtain ⟨a1, rfl⟩ := cells_inv hi
    obtain ⟨b1, rfl⟩ := cells_inv hj
    exact h.2.1 i j a1 b1 hpq
  · obtain ⟨a1, rfl⟩ := cells_inv hk
    exact ⟨k, a1, rfl⟩
/-- a method: name, code, locals, answer, frames and words below it -/
abbrev Mt : Type := MethodName × ByteArray × Nat × Option FieldType × Nat × Nat
abbrev Gm : Type := Program × Env × Room × State × MethodId × Array Value × List Frame × Method × Code × Nat × Nat × (State → Prop)
def Gm.p (Γ : Gm) : Program := Γ.1
def Gm.e (Γ : Gm) : Env := Γ.2.1
def Gm.R (Γ : Gm) : Room := Γ.2.2.1
def Gm.s (Γ : Gm) : State := Γ.2.2.2.1
def Gm.m (Γ : Gm) : MethodId := Γ.2.2.2.2.1
def Gm.a (Γ : Gm) : Array Value := Γ.2.2.2.2.2.1
def Gm.b (Γ : Gm) : List Frame := Γ.2.2.2.2.2.2.1
def Gm.t (Γ : Gm) : Method := Γ.2.2.2.2.2.2.2.1
def Gm.c (Γ : Gm) : Code := Γ.2.2.2.2.2.2.2.2.1
def Gm.nc (Γ : Gm) : Nat := Γ.2.2.2.2.2.2.2.2.2.1
def Gm.ns (Γ : Gm) : Nat := Γ.2.2.2.2.2.2.2.2.2.2.1
def Gm.Q (Γ : Gm) : State → Prop := Γ.2.2.2.2.2.2.2.2.2.2.2
/-- what holds of a machine that walks the method Y -/
def Base (Θ : Th) (Γ : Gm) (Y : Mt) : Prop := ((Gm.p Γ).tables.exec = Jvm.exec ∧ (Gm.c Γ).code = Y.2.1 ∧ (Gm.c Γ).maxLocals = Y.2.2.1 ∧ (Gm.s Γ).vm.findClass Y.1.cls = some (Gm.m Γ).cls ∧ ∀ w ∈ TT, w.before (Gm.a Γ) (Gm.s Γ) = true) ∧ KS Θ (Gm.s Γ) ∧
  (Gm.R Γ).frames = Y.2.2.2.2.1 ∧ (Gm.R Γ).locals = Y.2.2.2.2.2 ∧ (Gm.nc Γ ≤ (Gm.R Γ).cells ∧ Gm.ns Γ ≤ (Gm.R Γ).slots) ∧ (Gm.t Γ).sig.returnType = Y.2.2.2.1 ∧ (Gm.t Γ).locks = false
/-- every number of the memory is one of the machine's -/
def Canon (σ : Mem) : Prop := ∀ i k, rngL (σ i k) ∧ (i ≠ 26 → i ≠ 28 → ¬ (i = 5 ∧ k = 8) → rng (σ i k))
def Run (Θ : Th) (Γ : Gm) (pc : Nat) (L : List (Nat × Value)) (st : List Value) (σ : Mem) : Prop :=
  Canon σ → ∀ (H : Heap) (ls : Array Slot) (locs : List Loc), lv_has ls (Gm.c Γ).maxLocals L → va_P (Th.D Θ) classes (cells Θ σ) H → va_S (AA Θ) (Gm.s Γ).heap H locs →
    W (Gm.p Γ) (Th.l Θ) (Gm.e Γ) (Gm.R Γ) (Gm.s Γ) (Gm.m Γ) (Gm.a Γ) (Gm.b Γ) (Gm.t Γ) (Gm.c Γ) H locs (Gm.nc Γ) (Gm.ns Γ) (Gm.Q Γ) (F0 (Gm.m Γ) pc ls st)
theorem R_canon {Θ : Th} {Γ : Gm} {pc : Nat} {L : List (Nat × Value)} {st : List Value} {σ : Mem} (k : Canon σ → Run Θ Γ pc L st σ) : Run Θ Γ pc L st σ := fun h => k h h
theorem Canon.i {σ : Mem} (h : Canon σ) (i : Nat) (k : Int) (h1 : i ≠ 26) (h2 : i ≠ 28) (h3 : i ≠ 5) : rng (σ i k) := (h i k).2 h1 h2 (fun q => h3 q.1)
theorem Canon.f {σ : Mem} (h : Canon σ) (k : Int) (h3 : k ≠ 8) : rng (σ 5 k) := (h 5 k).2 (by decide) (by decide) (fun q => h3 q.2)
theorem cn_up {σ : Mem} (h : Canon σ) {i : Nat} {k v : Int} (hv : rng v) : Canon (up σ i k v) := by
  intro i' k'
  unfold up
  split
  · exact ⟨by omega, fun _ _ _ => hv⟩
  · exact h i' k'
theorem cn_upL {σ : Mem} (h : Canon σ) {i : Nat} {k v : Int} (hv : rngL v) (hi : i = 26 ∨ i = 28 ∨ (i = 5 ∧ k = 8)) : Canon (up σ i k v) := by
  intro i' k'
  unfold up
  split
  · rename_i q
    obtain ⟨rfl, rfl⟩ := q
    exact ⟨hv, fun h1 h2 h3 => by omega⟩
  · exact h i' k'
section RULES
variable {Θ : Th} {Γ : Gm} {Y : Mt} {pc : Nat} {L L' : List (Nat × Value)} {st : List Value} {σ : Mem}
theorem R_sub (ks : List Nat) (hl : lv_pick L ks = L') (k : Run Θ Γ pc L' st σ) : Run Θ Γ pc L st σ :=
  fun hc H ls locs hL hP hS => k hc H ls locs (lv_sub hL ks hl) hP hS
theorem R_iconst (hB : Base Θ Γ Y) {n : Int} (hd : decode Y.2.1 pc = .ok (.iconst n, 1)) (k : Run Θ Γ (pc + 1) L (.int (I n) :: st) σ) : Run Θ Γ pc L st σ :=
  fun hc H ls locs hL hP hS => lv_iconst hB.1.1 hB.1.2.1 hd rfl (k hc H ls locs hL hP hS)
theorem R_bipush (hB : Base Θ Γ Y) {n : Int} (hd : decode Y.2.1 pc = .ok (.bipush n, 2)) (hn : (Int8.ofInt n).toInt32 = I n) (k : Run Θ Γ (pc + 2) L (.int (I n) :: st) σ) : Run Θ Γ pc L st σ :=
  fun hc H ls locs hL hP hS => lv_bipush hB.1.1 hB.1.2.1 hd hn (k hc H ls locs hL hP hS)
theorem R_sipush (hB : Base Θ Γ Y) {n : Int} (hd : decode Y.2.1 pc = .ok (.sipush n, 3)) (hn : (Int16.ofInt n).toInt32 = I n) (k : Run Θ Γ (pc + 3) L (.int (I n) :: st) σ) : Run Θ Γ pc L st σ :=
  fun hc H ls locs hL hP hS => lv_sipush hB.1.1 hB.1.2.1 hd hn (k hc H ls locs hL hP hS)
theorem R_lconst (hB : Base Θ Γ Y) {n : Fin 2} {z : Int} (hd : decode Y.2.1 pc = .ok (.lconst n, 1)) (hn : Int64.ofNat (n : Nat) = Jl z) (k : Run Θ Γ (pc + 1) L (.long (Jl z) :: st) σ) : Run Θ Γ pc L st σ :=
  fun hc H ls locs hL hP hS => lv_lconst hB.1.1 hB.1.2.1 hd hn (k hc H ls locs hL hP hS)
theorem R_ldc (hB : Base Θ Γ Y) {x : Nat} {z : Int} (hd : decode Y.2.1 pc = .ok (.ldc x, 2)) (hw : Cond.constant Y.1.cls x (I z) ∈ TT) (k : Run Θ Γ (pc + 2) L (.int (I z) :: st) σ) : Run Θ Γ pc L st σ :=
  fun hc H ls locs hL hP hS => lv_ldc hB.1.1 hB.1.2.1 hB.1.2.2.2.1 (hB.1.2.2.2.2 _ hw) hd (k hc H ls locs hL hP hS)
theorem R_ldcw (hB : Base Θ Γ Y) {x : Nat} {z : Int} (hd : decode Y.2.1 pc = .ok (.ldc_w x, 3)) (hw : Cond.constant Y.1.cls x (I z) ∈ TT) (k : Run Θ Γ (pc + 3) L (.int (I z) :: st) σ) : Run Θ Γ pc L st σ :=
  fun hc H ls locs hL hP hS => lv_ldcw hB.1.1 hB.1.2.1 hB.1.2.2.2.1 (hB.1.2.2.2.2 _ hw) hd (k hc H ls locs hL hP hS)
theorem R_ldc2 (hB : Base Θ Γ Y) {x : Nat} {z : Int} (hd : decode Y.2.1 pc = .ok (.ldc2_w x, 3)) (hw : Cond.constantLong Y.1.cls x (Jl z) ∈ TT) (k : Run Θ Γ (pc + 3) L (.long (Jl z) :: st) σ) : Run Θ Γ pc L st σ :=
  fun hc H ls locs hL hP hS => lv_ldc2 hB.1.1 hB.1.2.1 hB.1.2.2.2.1 (hB.1.2.2.2.2 _ hw) hd (k hc H ls locs hL hP hS)
theorem R_iload_n (hB : Base Θ Γ Y) {n : Fin 4} {j i : Nat} {x : Int32} (hd : decode Y.2.1 pc = .ok (.iload_n n, 1)) (hl : L[j]? = some (i, .int x)) (hi : (n : Nat) = i) (k : Run Θ Γ (pc + 1) L (.int x :: st) σ) : Run Θ Γ pc L st σ :=
  fun hc H ls locs hL hP hS => lv_iload_n hB.1.1 hB.1.2.1 hd hi (lv_at hL j hl) (k hc H ls locs hL hP hS)
theorem R_iload (hB : Base Θ Γ Y) {j i : Nat} {x : Int32} (hd : decode Y.2.1 pc = .ok (.iload i, 2)) (hl : L[j]? = some (i, .int x)) (k : Run Θ Γ (pc + 2) L (.int x :: st) σ) : Run Θ Γ pc L st σ :=
  fun hc H ls locs hL hP hS => lv_iload hB.1.1 hB.1.2.1 hd (lv_at hL j hl) (k hc H ls locs hL hP hS)
theorem R_lload_n (hB : Base Θ Γ Y) {n : Fin 4} {j i : Nat} {x : Int64} (hd : decode Y.2.1 pc = .ok (.lload_n n, 1)) (hl : L[j]? = some (i, .long x)) (hi : (n : Nat) = i) (k : Run Θ Γ (pc + 1) L (.long x :: st) σ) : Run Θ Γ pc L st σ :=
  fun hc H ls locs hL hP hS => lv_lload_n hB.1.1 hB.1.2.1 hd hi (lv_at hL j hl) (k hc H ls locs hL hP hS)
theorem R_lload (hB : Base Θ Γ Y) {j i : Nat} {x : Int64} (hd : decode Y.2.1 pc = .ok (.lload i, 2)) (hl : L[j]? = some (i, .long x)) (k : Run Θ Γ (pc + 2) L (.long x :: st) σ) : Run Θ Γ pc L st σ :=
  fun hc H ls locs hL hP hS => lv_lload hB.1.1 hB.1.2.1 hd (lv_at hL j hl) (k hc H ls locs hL hP hS)
theorem R_aload_n (hB : Base Θ Γ Y) {n : Fin 4} {j i : Nat} {x : Nat} (hd : decode Y.2.1 pc = .ok (.aload_n n, 1)) (hl : L[j]? = some (i, .ref x)) (hi : (n : Nat) = i) (k : Run Θ Γ (pc + 1) L (.ref x :: st) σ) : Run Θ Γ pc L st σ :=
  fun hc H ls locs hL hP hS => lv_aload_n hB.1.1 hB.1.2.1 hd hi (lv_at hL j hl) (k hc H ls locs hL hP hS)
theorem R_aload (hB : Base Θ Γ Y) {j i : Nat} {x : Nat} (hd : decode Y.2.1 pc = .ok (.aload i, 2)) (hl : L[j]? = some (i, .ref x)) (k : Run Θ Γ (pc + 2) L (.ref x :: st) σ) : Run Θ Γ pc L st σ :=
  fun hc H ls locs hL hP hS => lv_aload hB.1.1 hB.1.2.1 hd (lv_at hL j hl) (k hc H ls locs hL hP hS)
theorem R_istore_n (hB : Base Θ Γ Y) {n : Fin 4} {i : Nat} {x : Int32} (hd : decode Y.2.1 pc = .ok (.istore_n n, 1)) (hi : (n : Nat) = i) (hn : i < Y.2.2.1) (hl : (i, Value.int x) :: L.filter (fun q => !(q.1 == i) && !(q.1 + 1 == i && q.2.category == 2)) = L') (k : Run Θ Γ (pc + 1) L' st σ) : Run Θ Γ pc L (.int x :: st) σ :=
  fun hc H ls locs hL hP hS => lv_istore_n hB.1.1 hB.1.2.1 hd hi hL (by rw [hB.1.2.2.1]; exact hn) hl (fun ls1 h1 => k hc H ls1 locs h1 hP hS)
theorem R_istore (hB : Base Θ Γ Y) {i : Nat} {x : Int32} (hd : decode Y.2.1 pc = .ok (.istore i, 2)) (hn : i < Y.2.2.1) (hl : (i, Value.int x) :: L.filter (fun q => !(q.1 == i) && !(q.1 + 1 == i && q.2.category == 2)) = L') (k : Run Θ Γ (pc + 2) L' st σ) : Run Θ Γ pc L (.int x :: st) σ :=
  fun hc H ls locs hL hP hS => lv_istore hB.1.1 hB.1.2.1 hd hL (by rw [hB.1.2.2.1]; exact hn) hl (fun ls1 h1 => k hc H ls1 locs h1 hP hS)
theorem R_astore_n (hB : Base Θ Γ Y) {n : Fin 4} {i : Nat} {x : Nat} (hd : decode Y.2.1 pc = .ok (.astore_n n, 1)) (hi : (n : Nat) = i) (hn : i < Y.2.2.1) (hl : (i, Value.ref x) :: L.filter (fun q => !(q.1 == i) && !(q.1 + 1 == i && q.2.category == 2)) = L') (k : Run Θ Γ (pc + 1) L' st σ) : Run Θ Γ pc L (.ref x :: st) σ :=
  fun hc H ls locs hL hP hS => lv_astore_n hB.1.1 hB.1.2.1 hd hi hL (by rw [hB.1.2.2.1]; exact hn) hl (fun ls1 h1 => k hc H ls1 locs h1 hP hS)
theorem R_astore (hB : Base Θ Γ Y) {i : Nat} {x : Nat} (hd : decode Y.2.1 pc = .ok (.astore i, 2)) (hn : i < Y.2.2.1) (hl : (i, Value.ref x) :: L.filter (fun q => !(q.1 == i) && !(q.1 + 1 == i && q.2.category == 2)) = L') (k : Run Θ Γ (pc + 2) L' st σ) : Run Θ Γ pc L (.ref x :: st) σ :=
  fun hc H ls locs hL hP hS => lv_astore hB.1.1 hB.1.2.1 hd hL (by rw [hB.1.2.2.1]; exact hn) hl (fun ls1 h1 => k hc H ls1 locs h1 hP hS)
theorem R_lstore_n (hB : Base Θ Γ Y) {n : Fin 4} {i : Nat} {x : Int64} (hd : decode Y.2.1 pc = .ok (.lstore_n n, 1)) (hi : (n : Nat) = i) (hn : i + 1 < Y.2.2.1) (hl : (i, Value.long x) :: L.filter (fun q => !(q.1 == i) && (!(q.1 == i + 1) && !(q.1 + 1 == i && q.2.category == 2))) = L') (k : Run Θ Γ (pc + 1) L' st σ) : Run Θ Γ pc L (.long x :: st) σ :=
  fun hc H ls locs hL hP hS => lv_lstore_n hB.1.1 hB.1.2.1 hd hi hL (by rw [hB.1.2.2.1]; exact hn) hl (fun ls1 h1 => k hc H ls1 locs h1 hP hS)
theorem R_lstore (hB : Base Θ Γ Y) {i : Nat} {x : Int64} (hd : decode Y.2.1 pc = .ok (.lstore i, 2)) (hn : i + 1 < Y.2.2.1) (hl : (i, Value.long x) :: L.filter (fun q => !(q.1 == i) && (!(q.1 == i + 1) && !(q.1 + 1 == i && q.2.category == 2))) = L') (k : Run Θ Γ (pc + 2) L' st σ) : Run Θ Γ pc L (.long x :: st) σ :=
  fun hc H ls locs hL hP hS => lv_lstore hB.1.1 hB.1.2.1 hd hL (by rw [hB.1.2.2.1]; exact hn) hl (fun ls1 h1 => k hc H ls1 locs h1 hP hS)
theorem R_iinc (hB : Base Θ Γ Y) {i j : Nat} {n a : Int} (hd : decode Y.2.1 pc = .ok (.iinc i n, 3)) (hj : L[j]? = some (i, .int (I a))) (hn : i < Y.2.2.1) (hl : (i, Value.int (I (a + n))) :: L.filter (fun q => !(q.1 == i) && !(q.1 + 1 == i && q.2.category == 2)) = L') (k : Run Θ Γ (pc + 3) L' st σ) : Run Θ Γ pc L st σ :=
  fun hc H ls locs hL hP hS => lv_iinc hB.1.1 hB.1.2.1 hd hL hj (I_add a n) (by rw [hB.1.2.2.1]; exact hn) hl (fun ls1 h1 => k hc H ls1 locs h1 hP hS)
theorem R_iadd (hB : Base Θ Γ Y) {a b : Int} (hd : decode Y.2.1 pc = .ok (.iadd, 1)) (k : Run Θ Γ (pc + 1) L (.int (I (a + b)) :: st) σ) : Run Θ Γ pc L (.int (I b) :: .int (I a) :: st) σ :=
  fun hc H ls locs hL hP hS => lv_iadd hB.1.1 hB.1.2.1 hd (by rw [I_add]; exact k hc H ls locs hL hP hS)
theorem R_isub (hB : Base Θ Γ Y) {a b : Int} (hd : decode Y.2.1 pc = .ok (.isub, 1)) (k : Run Θ Γ (pc + 1) L (.int (I (a - b)) :: st) σ) : Run Θ Γ pc L (.int (I b) :: .int (I a) :: st) σ :=
  fun hc H ls locs hL hP hS => lv_isub hB.1.1 hB.1.2.1 hd (by rw [I_sub]; exact k hc H ls locs hL hP hS)
theorem R_imul (hB : Base Θ Γ Y) {a b : Int} (hd : decode Y.2.1 pc = .ok (.imul, 1)) (k : Run Θ Γ (pc + 1) L (.int (I (a * b)) :: st) σ) : Run Θ Γ pc L (.int (I b) :: .int (I a) :: st) σ :=
  fun hc H ls locs hL hP hS => lv_imul hB.1.1 hB.1.2.1 hd (by rw [I_mul]; exact k hc H ls locs hL hP hS)
theorem R_ladd (hB : Base Θ Γ Y) {a b : Int} (hd : decode Y.2.1 pc = .ok (.ladd, 1)) (k : Run Θ Γ (pc + 1) L (.long (Jl (a + b)) :: st) σ) : Run Θ Γ pc L (.long (Jl b) :: .long (Jl a) :: st) σ :=
  fun hc H ls locs hL hP hS => lv_ladd hB.1.1 hB.1.2.1 hd (by rw [Jl_add]; exact k hc H ls locs hL hP hS)
theorem R_lsub (hB : Base Θ Γ Y) {a b : Int} (hd : decode Y.2.1 pc = .ok (.lsub, 1)) (k : Run Θ Γ (pc + 1) L (.long (Jl (a - b)) :: st) σ) : Run Θ Γ pc L (.long (Jl b) :: .long (Jl a) :: st) σ :=
  fun hc H ls locs hL hP hS => lv_lsub hB.1.1 hB.1.2.1 hd (by rw [Jl_sub]; exact k hc H ls locs hL hP hS)
theorem R_lmul (hB : Base Θ Γ Y) {a b : Int} (hd : decode Y.2.1 pc = .ok (.lmul, 1)) (k : Run Θ Γ (pc + 1) L (.long (Jl (a * b)) :: st) σ) : Run Θ Γ pc L (.long (Jl b) :: .long (Jl a) :: st) σ :=
  fun hc H ls locs hL hP hS => lv_lmul hB.1.1 hB.1.2.1 hd (by rw [Jl_mul]; exact k hc H ls locs hL hP hS)
/-- an operation whose number is told by an equation -/
theorem R_iand (hB : Base Θ Γ Y) {a b : Int} (z : Int) (hz : I a &&& I b = I z) (hd : decode Y.2.1 pc = .ok (.iand, 1)) (k : Run Θ Γ (pc + 1) L (.int (I z) :: st) σ) : Run Θ Γ pc L (.int (I b) :: .int (I a) :: st) σ :=
  fun hc H ls locs hL hP hS => lv_iand hB.1.1 hB.1.2.1 hd (by rw [hz]; exact k hc H ls locs hL hP hS)
theorem R_ior (hB : Base Θ Γ Y) {a b : Int} (z : Int) (hz : I a ||| I b = I z) (hd : decode Y.2.1 pc = .ok (.ior, 1)) (k : Run Θ Γ (pc + 1) L (.int (I z) :: st) σ) : Run Θ Γ pc L (.int (I b) :: .int (I a) :: st) σ :=
  fun hc H ls locs hL hP hS => lv_ior hB.1.1 hB.1.2.1 hd (by rw [hz]; exact k hc H ls locs hL hP hS)
theorem R_ishl (hB : Base Θ Γ Y) {a b : Int} (z : Int) (hz : I a <<< (I b &&& 31) = I z) (hd : decode Y.2.1 pc = .ok (.ishl, 1)) (k : Run Θ Γ (pc + 1) L (.int (I z) :: st) σ) : Run Θ Γ pc L (.int (I b) :: .int (I a) :: st) σ :=
  fun hc H ls locs hL hP hS => lv_ishl hB.1.1 hB.1.2.1 hd (by rw [hz]; exact k hc H ls locs hL hP hS)
theorem R_ishr (hB : Base Θ Γ Y) {a b : Int} (z : Int) (hz : I a >>> (I b &&& 31) = I z) (hd : decode Y.2.1 pc = .ok (.ishr, 1)) (k : Run Θ Γ (pc + 1) L (.int (I z) :: st) σ) : Run Θ Γ pc L (.int (I b) :: .int (I a) :: st) σ :=
  fun hc H ls locs hL hP hS => lv_ishr hB.1.1 hB.1.2.1 hd (by rw [hz]; exact k hc H ls locs hL hP hS)
theorem R_iushr (hB : Base Θ Γ Y) {a b : Int} (z : Int) (hz : ((I a).toUInt32 >>> ((I b).toUInt32 &&& Int32.toUInt32 31)).toInt32 = I z) (hd : decode Y.2.1 pc = .ok (.iushr, 1)) (k : Run Θ Γ (pc + 1) L (.int (I z) :: st) σ) : Run Θ Γ pc L (.int (I b) :: .int (I a) :: st) σ :=
  fun hc H ls locs hL hP hS => lv_iushr hB.1.1 hB.1.2.1 hd hz (k hc H ls locs hL hP hS)
theorem R_irem (hB : Base Θ Γ Y) {a b : Int} (z : Int) (hne : ¬ I b = 0) (hz : I a - I a / I b * I b = I z) (hd : decode Y.2.1 pc = .ok (.irem, 1)) (k : Run Θ Γ (pc + 1) L (.int (I z) :: st) σ) : Run Θ Γ pc L (.int (I b) :: .int (I a) :: st) σ :=
  fun hc H ls locs hL hP hS => lv_irem hB.1.1 hB.1.2.1 hd hne (by rw [hz]; exact k hc H ls locs hL hP hS)
theorem R_idiv (hB : Base Θ Γ Y) {a b : Int} (z : Int) (hne : ¬ I b = 0) (hz : I a / I b = I z) (hd : decode Y.2.1 pc = .ok (.idiv, 1)) (k : Run Θ Γ (pc + 1) L (.int (I z) :: st) σ) : Run Θ Γ pc L (.int (I b) :: .int (I a) :: st) σ :=
  fun hc H ls locs hL hP hS => lv_idiv hB.1.1 hB.1.2.1 hd hne (by rw [hz]; exact k hc H ls locs hL hP hS)
theorem R_ineg (hB : Base Θ Γ Y) {a : Int} (hd : decode Y.2.1 pc = .ok (.ineg, 1)) (k : Run Θ Γ (pc + 1) L (.int (I (-a)) :: st) σ) : Run Θ Γ pc L (.int (I a) :: st) σ :=
  fun hc H ls locs hL hP hS => lv_ineg hB.1.1 hB.1.2.1 hd (by rw [show -I a = I (-a) from (Int32.ofInt_neg a).symm]; exact k hc H ls locs hL hP hS)
theorem R_ldiv (hB : Base Θ Γ Y) {a b : Int} (z : Int) (hne : ¬ Jl b = 0) (hz : Jl a / Jl b = Jl z) (hd : decode Y.2.1 pc = .ok (.ldiv, 1)) (k : Run Θ Γ (pc + 1) L (.long (Jl z) :: st) σ) : Run Θ Γ pc L (.long (Jl b) :: .long (Jl a) :: st) σ :=
  fun hc H ls locs hL hP hS => lv_ldiv hB.1.1 hB.1.2.1 hd hne (by rw [hz]; exact k hc H ls locs hL hP hS)
theorem R_lrem (hB : Base Θ Γ Y) {a b : Int} (z : Int) (hne : ¬ Jl b = 0) (hz : Jl a - Jl a / Jl b * Jl b = Jl z) (hd : decode Y.2.1 pc = .ok (.lrem, 1)) (k : Run Θ Γ (pc + 1) L (.long (Jl z) :: st) σ) : Run Θ Γ pc L (.long (Jl b) :: .long (Jl a) :: st) σ :=
  fun hc H ls locs hL hP hS => lv_lrem hB.1.1 hB.1.2.1 hd hne (by rw [hz]; exact k hc H ls locs hL hP hS)
theorem R_land (hB : Base Θ Γ Y) {a b : Int} (z : Int) (hz : Jl a &&& Jl b = Jl z) (hd : decode Y.2.1 pc = .ok (.land, 1)) (k : Run Θ Γ (pc + 1) L (.long (Jl z) :: st) σ) : Run Θ Γ pc L (.long (Jl b) :: .long (Jl a) :: st) σ :=
  fun hc H ls locs hL hP hS => lv_land hB.1.1 hB.1.2.1 hd (by rw [hz]; exact k hc H ls locs hL hP hS)
theorem R_lor (hB : Base Θ Γ Y) {a b : Int} (z : Int) (hz : Jl a ||| Jl b = Jl z) (hd : decode Y.2.1 pc = .ok (.lor, 1)) (k : Run Θ Γ (pc + 1) L (.long (Jl z) :: st) σ) : Run Θ Γ pc L (.long (Jl b) :: .long (Jl a) :: st) σ :=
  fun hc H ls locs hL hP hS => lv_lor hB.1.1 hB.1.2.1 hd (by rw [hz]; exact k hc H ls locs hL hP hS)
theorem R_lshl (hB : Base Θ Γ Y) {a b : Int} (z : Int) (hz : Jl a <<< ((I b).toInt64 &&& 63) = Jl z) (hd : decode Y.2.1 pc = .ok (.lshl, 1)) (k : Run Θ Γ (pc + 1) L (.long (Jl z) :: st) σ) : Run Θ Γ pc L (.int (I b) :: .long (Jl a) :: st) σ :=
  fun hc H ls locs hL hP hS => lv_lshl hB.1.1 hB.1.2.1 hd hz (k hc H ls locs hL hP hS)
theorem R_lshr (hB : Base Θ Γ Y) {a b : Int} (z : Int) (hz : Jl a >>> ((I b).toInt64 &&& 63) = Jl z) (hd : decode Y.2.1 pc = .ok (.lshr, 1)) (k : Run Θ Γ (pc + 1) L (.long (Jl z) :: st) σ) : Run Θ Γ pc L (.int (I b) :: .long (Jl a) :: st) σ :=
  fun hc H ls locs hL hP hS => lv_lshr hB.1.1 hB.1.2.1 hd hz (k hc H ls locs hL hP hS)
theorem R_i2l (hB : Base Θ Γ Y) {a : Int} (ha : rng a) (hd : decode Y.2.1 pc = .ok (.i2l, 1)) (k : Run Θ Γ (pc + 1) L (.long (Jl a) :: st) σ) : Run Θ Γ pc L (.int (I a) :: st) σ :=
  fun hc H ls locs hL hP hS => lv_i2l hB.1.1 hB.1.2.1 hd (Int32.toInt64_ofInt ha.1 (by have := ha.2; show a ≤ 2147483647; omega)) (k hc H ls locs hL hP hS)
theorem R_l2i (hB : Base Θ Γ Y) {a : Int} (hd : decode Y.2.1 pc = .ok (.l2i, 1)) (k : Run Θ Γ (pc + 1) L (.int (I a) :: st) σ) : Run Θ Γ pc L (.long (Jl a) :: st) σ :=
  fun hc H ls locs hL hP hS => lv_l2i hB.1.1 hB.1.2.1 hd Int64.toInt32_ofInt (k hc H ls locs hL hP hS)
theorem R_i2b (hB : Base Θ Γ Y) {a : Int} (z : Int) (hz : (I a).toInt8.toInt32 = I z) (hd : decode Y.2.1 pc = .ok (.i2b, 1)) (k : Run Θ Γ (pc + 1) L (.int (I z) :: st) σ) : Run Θ Γ pc L (.int (I a) :: st) σ :=
  fun hc H ls locs hL hP hS => lv_i2b hB.1.1 hB.1.2.1 hd hz (k hc H ls locs hL hP hS)
theorem R_i2s (hB : Base Θ Γ Y) {a : Int} (z : Int) (hz : (I a).toInt16.toInt32 = I z) (hd : decode Y.2.1 pc = .ok (.i2s, 1)) (k : Run Θ Γ (pc + 1) L (.int (I z) :: st) σ) : Run Θ Γ pc L (.int (I a) :: st) σ :=
  fun hc H ls locs hL hP hS => lv_i2s hB.1.1 hB.1.2.1 hd hz (k hc H ls locs hL hP hS)
theorem R_i2c (hB : Base Θ Γ Y) {a : Int} (z : Int) (hz : ((I a).toUInt32 % 65536).toInt32 = I z) (hd : decode Y.2.1 pc = .ok (.i2c, 1)) (k : Run Θ Γ (pc + 1) L (.int (I z) :: st) σ) : Run Θ Γ pc L (.int (I a) :: st) σ :=
  fun hc H ls locs hL hP hS => lv_i2c hB.1.1 hB.1.2.1 hd hz (k hc H ls locs hL hP hS)
theorem R_dup (hB : Base Θ Γ Y) {v : Value} (hd : decode Y.2.1 pc = .ok (.dup, 1)) (hv : v.category = 1) (k : Run Θ Γ (pc + 1) L (v :: v :: st) σ) : Run Θ Γ pc L (v :: st) σ :=
  fun hc H ls locs hL hP hS => lv_dup hB.1.1 hB.1.2.1 hd hv (k hc H ls locs hL hP hS)
theorem R_dup2 (hB : Base Θ Γ Y) {v w : Value} (hd : decode Y.2.1 pc = .ok (.dup2, 1)) (hv : v.category = 1) (hw : w.category = 1) (k : Run Θ Γ (pc + 1) L (v :: w :: v :: w :: st) σ) : Run Θ Γ pc L (v :: w :: st) σ :=
  fun hc H ls locs hL hP hS => lv_dup2_11 hB.1.1 hB.1.2.1 hd hv hw (k hc H ls locs hL hP hS)
theorem R_pop (hB : Base Θ Γ Y) {v : Value} (hd : decode Y.2.1 pc = .ok (.pop, 1)) (hv : v.category = 1) (k : Run Θ Γ (pc + 1) L st σ) : Run Θ Γ pc L (v :: st) σ :=
  fun hc H ls locs hL hP hS => lv_pop hB.1.1 hB.1.2.1 hd hv (k hc H ls locs hL hP hS)
theorem R_goto (hB : Base Θ Γ Y) {off : Int} (t : Nat) (hd : decode Y.2.1 pc = .ok (.goto off, 3)) (ht : (pc : Int) + off = t) (k : Run Θ Γ t L st σ) : Run Θ Γ pc L st σ :=
  fun hc H ls locs hL hP hS => lv_goto hB.1.1 hB.1.2.1 hd ht (k hc H ls locs hL hP hS)
theorem R_if_eq (hB : Base Θ Γ Y) {off a : Int} (t : Nat) (ha : rng a) (hd : decode Y.2.1 pc = .ok (.ifCond .eq off, 3)) (ht : (pc : Int) + off = t) (kt : a = 0 → Run Θ Γ t L st σ) (kf : a ≠ 0 → Run Θ Γ (pc + 3) L st σ) : Run Θ Γ pc L (.int (I a) :: st) σ :=
  fun hc H ls locs hL hP hS => lv_if_eq hB.1.1 hB.1.2.1 hd ht (fun h => kt ((I_inj ha (by decide)).mp h) hc H ls locs hL hP hS) (fun h => kf (fun q => h ((I_inj ha (by decide)).mpr q)) hc H ls locs hL hP hS)
theorem R_if_ne (hB : Base Θ Γ Y) {off a : Int} (t : Nat) (ha : rng a) (hd : decode Y.2.1 pc = .ok (.ifCond .ne off, 3)) (ht : (pc : Int) + off = t) (kt : a ≠ 0 → Run Θ Γ t L st σ) (kf : a = 0 → Run Θ Γ (pc + 3) L st σ) : Run Θ Γ pc L (.int (I a) :: st) σ :=
  fun hc H ls locs hL hP hS => lv_if_ne hB.1.1 hB.1.2.1 hd ht (fun h => kt (fun q => h ((I_inj ha (by decide)).mpr q)) hc H ls locs hL hP hS) (fun h => kf ((I_inj ha (by decide)).mp h) hc H ls locs hL hP hS)
theorem R_if_lt (hB : Base Θ Γ Y) {off a : Int} (t : Nat) (ha : rng a) (hd : decode Y.2.1 pc = .ok (.ifCond .lt off, 3)) (ht : (pc : Int) + off = t) (kt : a < 0 → Run Θ Γ t L st σ) (kf : 0 ≤ a → Run Θ Γ (pc + 3) L st σ) : Run Θ Γ pc L (.int (I a) :: st) σ :=
  fun hc H ls locs hL hP hS => lv_if_lt hB.1.1 hB.1.2.1 hd ht (fun h => kt ((I_lt ha (by decide)).mp h) hc H ls locs hL hP hS) (fun h => kf (Int.not_lt.mp (fun q => h ((I_lt ha (by decide)).mpr q))) hc H ls locs hL hP hS)
theorem R_if_ge (hB : Base Θ Γ Y) {off a : Int} (t : Nat) (ha : rng a) (hd : decode Y.2.1 pc = .ok (.ifCond .ge off, 3)) (ht : (pc : Int) + off = t) (kt : 0 ≤ a → Run Θ Γ t L st σ) (kf : a < 0 → Run Θ Γ (pc + 3) L st σ) : Run Θ Γ pc L (.int (I a) :: st) σ :=
  fun hc H ls locs hL hP hS => lv_if_ge hB.1.1 hB.1.2.1 hd ht (fun h => kt ((I_le (by decide) ha).mp h) hc H ls locs hL hP hS) (fun h => kf (Int.not_le.mp (fun q => h ((I_le (by decide) ha).mpr q))) hc H ls locs hL hP hS)
theorem R_if_gt (hB : Base Θ Γ Y) {off a : Int} (t : Nat) (ha : rng a) (hd : decode Y.2.1 pc = .ok (.ifCond .gt off, 3)) (ht : (pc : Int) + off = t) (kt : 0 < a → Run Θ Γ t L st σ) (kf : a ≤ 0 → Run Θ Γ (pc + 3) L st σ) : Run Θ Γ pc L (.int (I a) :: st) σ :=
  fun hc H ls locs hL hP hS => lv_if_gt hB.1.1 hB.1.2.1 hd ht (fun h => kt ((I_lt (by decide) ha).mp h) hc H ls locs hL hP hS) (fun h => kf (Int.not_lt.mp (fun q => h ((I_lt (by decide) ha).mpr q))) hc H ls locs hL hP hS)
theorem R_if_le (hB : Base Θ Γ Y) {off a : Int} (t : Nat) (ha : rng a) (hd : decode Y.2.1 pc = .ok (.ifCond .le off, 3)) (ht : (pc : Int) + off = t) (kt : a ≤ 0 → Run Θ Γ t L st σ) (kf : 0 < a → Run Θ Γ (pc + 3) L st σ) : Run Θ Γ pc L (.int (I a) :: st) σ :=
  fun hc H ls locs hL hP hS => lv_if_le hB.1.1 hB.1.2.1 hd ht (fun h => kt ((I_le ha (by decide)).mp h) hc H ls locs hL hP hS) (fun h => kf (Int.not_le.mp (fun q => h ((I_le ha (by decide)).mpr q))) hc H ls locs hL hP hS)
theorem R_icmp_eq (hB : Base Θ Γ Y) {off a b : Int} (t : Nat) (ha : rng a) (hb : rng b) (hd : decode Y.2.1 pc = .ok (.if_icmp .eq off, 3)) (ht : (pc : Int) + off = t) (kt : a = b → Run Θ Γ t L st σ) (kf : a ≠ b → Run Θ Γ (pc + 3) L st σ) : Run Θ Γ pc L (.int (I b) :: .int (I a) :: st) σ :=
  fun hc H ls locs hL hP hS => lv_icmp_eq hB.1.1 hB.1.2.1 hd ht (fun h => kt ((I_inj ha hb).mp h) hc H ls locs hL hP hS) (fun h => kf (fun q => h ((I_inj ha hb).mpr q)) hc H ls locs hL hP hS)
theorem R_icmp_ne (hB : Base Θ Γ Y) {off a b : Int} (t : Nat) (ha : rng a) (hb : rng b) (hd : decode Y.2.1 pc = .ok (.if_icmp .ne off, 3)) (ht : (pc : Int) + off = t) (kt : a ≠ b → Run Θ Γ t L st σ) (kf : a = b → Run Θ Γ (pc + 3) L st σ) : Run Θ Γ pc L (.int (I b) :: .int (I a) :: st) σ :=
  fun hc H ls locs hL hP hS => lv_icmp_ne hB.1.1 hB.1.2.1 hd ht (fun h => kt (fun q => h ((I_inj ha hb).mpr q)) hc H ls locs hL hP hS) (fun h => kf ((I_inj ha hb).mp h) hc H ls locs hL hP hS)
theorem R_icmp_lt (hB : Base Θ Γ Y) {off a b : Int} (t : Nat) (ha : rng a) (hb : rng b) (hd : decode Y.2.1 pc = .ok (.if_icmp .lt off, 3)) (ht : (pc : Int) + off = t) (kt : a < b → Run Θ Γ t L st σ) (kf : b ≤ a → Run Θ Γ (pc + 3) L st σ) : Run Θ Γ pc L (.int (I b) :: .int (I a) :: st) σ :=
  fun hc H ls locs hL hP hS => lv_icmp_lt hB.1.1 hB.1.2.1 hd ht (fun h => kt ((I_lt ha hb).mp h) hc H ls locs hL hP hS) (fun h => kf (Int.not_lt.mp (fun q => h ((I_lt ha hb).mpr q))) hc H ls locs hL hP hS)
theorem R_icmp_ge (hB : Base Θ Γ Y) {off a b : Int} (t : Nat) (ha : rng a) (hb : rng b) (hd : decode Y.2.1 pc = .ok (.if_icmp .ge off, 3)) (ht : (pc : Int) + off = t) (kt : b ≤ a → Run Θ Γ t L st σ) (kf : a < b → Run Θ Γ (pc + 3) L st σ) : Run Θ Γ pc L (.int (I b) :: .int (I a) :: st) σ :=
  fun hc H ls locs hL hP hS => lv_icmp_ge hB.1.1 hB.1.2.1 hd ht (fun h => kt ((I_le hb ha).mp h) hc H ls locs hL hP hS) (fun h => kf (Int.not_le.mp (fun q => h ((I_le hb ha).mpr q))) hc H ls locs hL hP hS)
theorem R_icmp_gt (hB : Base Θ Γ Y) {off a b : Int} (t : Nat) (ha : rng a) (hb : rng b) (hd : decode Y.2.1 pc = .ok (.if_icmp .gt off, 3)) (ht : (pc : Int) + off = t) (kt : b < a → Run Θ Γ t L st σ) (kf : a ≤ b → Run Θ Γ (pc + 3) L st σ) : Run Θ Γ pc L (.int (I b) :: .int (I a) :: st) σ :=
  fun hc H ls locs hL hP hS => lv_icmp_gt hB.1.1 hB.1.2.1 hd ht (fun h => kt ((I_lt hb ha).mp h) hc H ls locs hL hP hS) (fun h => kf (Int.not_lt.mp (fun q => h ((I_lt hb ha).mpr q))) hc H ls locs hL hP hS)
theorem R_icmp_le (hB : Base Θ Γ Y) {off a b : Int} (t : Nat) (ha : rng a) (hb : rng b) (hd : decode Y.2.1 pc = .ok (.if_icmp .le off, 3)) (ht : (pc : Int) + off = t) (kt : a ≤ b → Run Θ Γ t L st σ) (kf : b < a → Run Θ Γ (pc + 3) L st σ) : Run Θ Γ pc L (.int (I b) :: .int (I a) :: st) σ :=
  fun hc H ls locs hL hP hS => lv_icmp_le hB.1.1 hB.1.2.1 hd ht (fun h => kt ((I_le ha hb).mp h) hc H ls locs hL hP hS) (fun h => kf (Int.not_le.mp (fun q => h ((I_le ha hb).mpr q))) hc H ls locs hL hP hS)
end RULES
end
section
/-! fields, arrays, static arrays -/
def CF (ci : Nat) (C : String) (T : u_T) (N : Nat) : Prop := classes[ci]? = some (C, T, N) ∧ N = nfl ci ∧ ci < 9 ∧ (∀ w ∈ u_ws C T N, w ∈ TT) ∧ (∃ ty0 : Nat → FieldType, ∀ k, k < N → parseFieldDescriptor (T k).2.2.1 = some (ty0 k)) ∧ (∀ a, a < N → ∀ b, b < N → a ≠ b → (T a).2.1 ≠ (T b).2.1)
def FL (own : String) (x ci k : Nat) (z : Int) (ty : Nat) : Prop := ∃ (C : String) (T : u_T) (N : Nat), CF ci C T N ∧ k < N ∧ (k : Int) = z ∧ fty ci k = ty ∧ Cond.fieldLink own x (T k).1 (T k).2.1 (T k).2.2.1 ∈ TT
def FP (own : String) (x ci k : Nat) (z : Int) (ty : Nat) (fy : FieldType) : Prop := ∃ (C : String) (T : u_T) (N : Nat), CF ci C T N ∧ k < N ∧ (k : Int) = z ∧ fty ci k = ty ∧ Cond.fieldLink own x (T k).1 (T k).2.1 (T k).2.2.1 ∈ TT ∧ (T k).2.2.2 = false ∧ parseFieldDescriptor (T k).2.2.1 = some fy
theorem FP.l {own : String} {x ci k ty : Nat} {z : Int} {fy : FieldType} (h : FP own x ci k z ty fy) : FL own x ci k z ty := by
  obtain ⟨C, T, N, h1, h2, h3, h4, h5, -⟩ := h
  exact ⟨C, T, N, h1, h2, h3, h4, h5⟩
theorem av_i {Θ : Th} {σ : Mem} {i n : Nat} (h : arrOf i = (0, n)) : av Θ σ i = .inl (fun j => I (σ i j)) := by simp [av, h]
theorem av_z {Θ : Th} {σ : Mem} {i n : Nat} (h : arrOf i = (2, n)) : av Θ σ i = .inl (fun j => I (σ i j)) := by simp [av, h]
theorem av_l {Θ : Th} {σ : Mem} {i n : Nat} (h : arrOf i = (1, n)) : av Θ σ i = .inr (.inl (fun j => Jl (σ i j))) := by simp [av, h]
theorem av_r {Θ : Th} {σ : Mem} {i t n : Nat} (h : arrOf i = (t, n)) (ht : t = 3 ∨ t = 4 ∨ t = 5) : av Θ σ i = .inr (.inr (.inr (.inr (fun j => some (Th.r Θ (rba i + j)))))) := by
  rcases ht with rfl | rfl | rfl <;> simp [av, h]
theorem arr_n {i t n : Nat} (h : arrOf i = (t, n)) : n < 2147483648 := by
  have h1 : ∀ j, j < 78 → (arrOf j).2 < 2147483648 := by decide +kernel
  rcases Nat.lt_or_ge t 9 with ht | ht
  · have := h1 i (arrOf_ge h ht).2
    rw [h] at this; exact this
  · rcases Nat.lt_or_ge i 78 with hi | hi
    · have := h1 i hi
      rw [h] at this; exact this
    · have h3 : ¬ i < 22 := by omega
      unfold arrOf at h
      rw [if_neg h3, List.getD_eq_getElem?_getD, List.getElem?_eq_none (by simp; omega)] at h
      simp at h; omega
theorem upd_up (σ : Mem) (i : Nat) {x v : Int} (hx : 0 ≤ x ∧ x < 2147483648) : upd (fun j : Nat => I (σ i j)) (I x).toNatClampNeg (I v) = fun j : Nat => I (up σ i x v i j) := by
  funext j
  have h := I_cl hx
  unfold upd up
  by_cases hj : j = (I x).toNatClampNeg
  · rw [if_pos hj, if_pos ⟨rfl, by omega⟩]
  · rw [if_neg hj, if_neg (fun q => hj (by omega))]
theorem updL_up (σ : Mem) (i : Nat) {x v : Int} (hx : 0 ≤ x ∧ x < 2147483648) : vp_updL (fun j : Nat => Jl (σ i j)) (I x).toNatClampNeg (Jl v) = fun j : Nat => Jl (up σ i x v i j) := by
  funext j
  have h := I_cl hx
  unfold vp_updL up
  by_cases hj : j = (I x).toNatClampNeg
  · rw [if_pos hj, if_pos ⟨rfl, by omega⟩]
  · rw [if_neg hj, if_neg (fun q => hj (by omega))]
def FS (own : String) (x t : Nat) : Prop := t < 4 ∧ Cond.fieldLink own x RX7 (sname t) "[I" ∈ TT
def sv (t : Nat) (x : Int) : Int := sval t x.toNat
section HEAP
variable {Θ : Th} {Γ : Gm} {Y : Mt} {pc : Nat} {L L' : List (Nat × Value)} {st : List Value} {σ : Mem}
theorem R_get0 (hB : Base Θ Γ Y) {x ci k ty i : Nat} {z : Int} (hf : FL Y.1.cls x ci k z ty) (hd : decode Y.2.1 pc = .ok (.getfield x, 3)) (hc : clsOf i = ci) (kk : Run Θ Γ (pc + 3) L (fv Θ σ i k :: st) σ) : Run Θ Γ pc L (.ref (Th.r Θ i) :: st) σ := by
  intro hcn H ls locs hL hP hS
  obtain ⟨C, T, N, ⟨h1, h2, h3, h4, h5, h6⟩, hk, hz, hty, hl⟩ := hf
  have hi := clsOf_lt hc h3
  refine va_get (C := C) (T := T) (N := N) (ci := ci) hB.1.1 hB.1.2.1 hB.1.2.2.2.2 h4 hB.1.2.2.2.1 hB.2.1.1 hP i (by rw [cells_get Θ σ (by omega), cellE_o hc h3]) h1 k hk (hB.1.2.2.2.2 _ hl) (fun _ h => h) ?_ hd (kk hcn H ls locs hL hP hS)
  subst h2
  simp [List.getElem?_map, List.getElem?_range hk]
theorem R_geti (hB : Base Θ Γ Y) {x ci k i : Nat} {z : Int} (hf : FL Y.1.cls x ci k z 0) (hd : decode Y.2.1 pc = .ok (.getfield x, 3)) (hc : clsOf i = ci) (kk : Run Θ Γ (pc + 3) L (.int (I (σ i z)) :: st) σ) : Run Θ Γ pc L (.ref (Th.r Θ i) :: st) σ := by
  refine R_get0 hB hf hd hc ?_
  obtain ⟨C, T, N, -, -, rfl, hty, -⟩ := hf
  simpa [fv, hc, hty] using kk
theorem R_getz (hB : Base Θ Γ Y) {x ci k i : Nat} {z : Int} (hf : FL Y.1.cls x ci k z 3) (hd : decode Y.2.1 pc = .ok (.getfield x, 3)) (hc : clsOf i = ci) (kk : Run Θ Γ (pc + 3) L (.int (I (σ i z)) :: st) σ) : Run Θ Γ pc L (.ref (Th.r Θ i) :: st) σ := by
  refine R_get0 hB hf hd hc ?_
  obtain ⟨C, T, N, -, -, rfl, hty, -⟩ := hf
  simpa [fv, hc, hty] using kk
theorem R_getl (hB : Base Θ Γ Y) {x ci k i : Nat} {z : Int} (hf : FL Y.1.cls x ci k z 1) (hd : decode Y.2.1 pc = .ok (.getfield x, 3)) (hc : clsOf i = ci) (kk : Run Θ Γ (pc + 3) L (.long (Jl (σ i z)) :: st) σ) : Run Θ Γ pc L (.ref (Th.r Θ i) :: st) σ := by
  refine R_get0 hB hf hd hc ?_
  obtain ⟨C, T, N, -, -, rfl, hty, -⟩ := hf
  simpa [fv, hc, hty] using kk
theorem R_getr (hB : Base Θ Γ Y) {x ci k i : Nat} {z : Int} (j : Nat) (hf : FL Y.1.cls x ci k z 2) (hd : decode Y.2.1 pc = .ok (.getfield x, 3)) (hc : clsOf i = ci) (hj : rid i k = j) (kk : Run Θ Γ (pc + 3) L (.ref (Th.r Θ j) :: st) σ) : Run Θ Γ pc L (.ref (Th.r Θ i) :: st) σ := by
  refine R_get0 hB hf hd hc ?_
  obtain ⟨C, T, N, -, -, rfl, hty, -⟩ := hf
  simpa [fv, hc, hty, hj] using kk
theorem R_gett (hB : Base Θ Γ Y) {x ci k i : Nat} {z : Int} (j : Nat) (hf : FL Y.1.cls x ci k z 4) (hd : decode Y.2.1 pc = .ok (.getfield x, 3)) (hc : clsOf i = ci) (hj : i - 16 = j) (kk : Run Θ Γ (pc + 3) L (.ref (Th.tx Θ j) :: st) σ) : Run Θ Γ pc L (.ref (Th.r Θ i) :: st) σ := by
  refine R_get0 hB hf hd hc ?_
  obtain ⟨C, T, N, -, -, rfl, hty, -⟩ := hf
  simpa [fv, hc, hty, hj] using kk
theorem R_put0 (hB : Base Θ Γ Y) {x ci k i ty : Nat} {z v : Int} {fy : FieldType} {w : Value} (hf : FP Y.1.cls x ci k z ty fy) (hd : decode Y.2.1 pc = .ok (.putfield x, 3)) (hc : clsOf i = ci) (hw : fv Θ (up σ i k v) i k = w) (hn : narrow fy w = w) (hfit : fits fy w = true) (hcn : Canon σ → Canon (up σ i z v)) (kk : Run Θ Γ (pc + 3) L st (up σ i z v)) : Run Θ Γ pc L (w :: .ref (Th.r Θ i) :: st) σ := by
  intro hcn0 H ls locs hL hP hS
  obtain ⟨C, T, N, ⟨h1, h2, h3, h4, ⟨ty0, h5⟩, h6⟩, hk, rfl, hty, hl, hfin, hpf⟩ := hf
  have hi := clsOf_lt hc h3
  refine va_put (C := C) (T := T) (N := N) (ci := ci) (ty := fy) hB.1.1 hB.1.2.1 hB.1.2.2.2.2 h4 ty0 h5 h6 hB.1.2.2.2.1 hB.2.1.1 hP (cells_D hB.2.1 σ) hS i (by rw [cells_get Θ σ (by omega), cellE_o hc h3]) h1 k hk (hB.1.2.2.2.2 _ hl) (fun _ h => h) hfin hpf hn hfit (by simp; omega) hd ?_
  intro H1 locs1 hP1 _ hS1
  rw [← hw, cells_put hc h3 (by omega)] at hP1
  exact kk (hcn hcn0) H1 ls locs1 hL hP1 hS1
theorem R_puti (hB : Base Θ Γ Y) {x ci k i : Nat} {z v : Int} (hf : FP Y.1.cls x ci k z 0 .int) (hd : decode Y.2.1 pc = .ok (.putfield x, 3)) (hc : clsOf i = ci) (hv : rng v) (kk : Run Θ Γ (pc + 3) L st (up σ i z v)) : Run Θ Γ pc L (.int (I v) :: .ref (Th.r Θ i) :: st) σ := by
  refine R_put0 hB hf hd hc ?_ rfl rfl (fun h => cn_up h hv) kk
  obtain ⟨C, T, N, -, -, rfl, hty, -⟩ := hf
  simp [fv, hc, hty, up_s]
theorem R_putz (hB : Base Θ Γ Y) {x ci k i : Nat} {z v : Int} (hf : FP Y.1.cls x ci k z 3 .boolean) (hd : decode Y.2.1 pc = .ok (.putfield x, 3)) (hc : clsOf i = ci) (hv : v = 0 ∨ v = 1) (kk : Run Θ Γ (pc + 3) L st (up σ i z v)) : Run Θ Γ pc L (.int (I v) :: .ref (Th.r Θ i) :: st) σ := by
  refine R_put0 hB hf hd hc ?_ (by rcases hv with rfl | rfl <;> rfl) (by rcases hv with rfl | rfl <;> rfl) (fun h => cn_up h (by omega)) kk
  obtain ⟨C, T, N, -, -, rfl, hty, -⟩ := hf
  simp [fv, hc, hty, up_s]
theorem R_putl (hB : Base Θ Γ Y) {x : Nat} {v : Int} (hf : FP Y.1.cls x 2 8 8 1 .long) (hd : decode Y.2.1 pc = .ok (.putfield x, 3)) (hv : rngL v) (kk : Run Θ Γ (pc + 3) L st (up σ 5 8 v)) : Run Θ Γ pc L (.long (Jl v) :: .ref (Th.r Θ 5) :: st) σ := by
  refine R_put0 hB (i := 5) hf hd rfl ?_ rfl rfl (fun h => cn_upL h hv (Or.inr (Or.inr ⟨rfl, rfl⟩))) kk
  simp [fv, clsOf, fty, up_s]
theorem R_iald (hB : Base Θ Γ Y) {i n : Nat} {x : Int} (ha : arrOf i = (0, n)) (hx : 0 ≤ x ∧ x < n) (hd : decode Y.2.1 pc = .ok (.iaload, 1)) (kk : Run Θ Γ (pc + 1) L (.int (I (σ i x)) :: st) σ) : Run Θ Γ pc L (.int (I x) :: .ref (Th.r Θ i) :: st) σ := by
  intro hcn H ls locs hL hP hS
  have hi := arrOf_ge ha (by decide)
  have hn := arr_n ha
  refine va_iald hB.1.1 hB.1.2.1 hB.2.1.1 hP i 0 (by rw [cells_get Θ σ hi.2, cellE_a ha (by decide), av_i ha]) rfl (I_vin hn hx) hd ?_
  have e : (((I x).toNatClampNeg : Nat) : Int) = x := I_cl (by omega)
  rw [e]
  exact kk hcn H ls locs hL hP hS
theorem R_zald (hB : Base Θ Γ Y) {i n : Nat} {x : Int} (ha : arrOf i = (2, n)) (hx : 0 ≤ x ∧ x < n) (hd : decode Y.2.1 pc = .ok (.baload, 1)) (kk : Run Θ Γ (pc + 1) L (.int (I (σ i x)) :: st) σ) : Run Θ Γ pc L (.int (I x) :: .ref (Th.r Θ i) :: st) σ := by
  intro hcn H ls locs hL hP hS
  have hi := arrOf_ge ha (by decide)
  have hn := arr_n ha
  refine va_zald hB.1.1 hB.1.2.1 hB.2.1.1 hP i 2 (by rw [cells_get Θ σ hi.2, cellE_a ha (by decide), av_z ha]) rfl (I_vin hn hx) hd ?_
  have e : (((I x).toNatClampNeg : Nat) : Int) = x := I_cl (by omega)
  rw [e]
  exact kk hcn H ls locs hL hP hS
theorem R_lald (hB : Base Θ Γ Y) {i n : Nat} {x : Int} (ha : arrOf i = (1, n)) (hx : 0 ≤ x ∧ x < n) (hd : decode Y.2.1 pc = .ok (.laload, 1)) (kk : Run Θ Γ (pc + 1) L (.long (Jl (σ i x)) :: st) σ) : Run Θ Γ pc L (.int (I x) :: .ref (Th.r Θ i) :: st) σ := by
  intro hcn H ls locs hL hP hS
  have hi := arrOf_ge ha (by decide)
  have hn := arr_n ha
  refine va_lald hB.1.1 hB.1.2.1 hB.2.1.1 hP i 1 (by rw [cells_get Θ σ hi.2, cellE_a ha (by decide), av_l ha]) rfl (I_vin hn hx) hd ?_
  have e : (((I x).toNatClampNeg : Nat) : Int) = x := I_cl (by omega)
  rw [e]
  exact kk hcn H ls locs hL hP hS
theorem R_aald (hB : Base Θ Γ Y) {i t n : Nat} {x : Int} (j : Nat) (ha : arrOf i = (t, n)) (ht : t = 3 ∨ t = 4 ∨ t = 5) (hx : 0 ≤ x ∧ x < n) (hj : rba i + x.toNat = j) (hd : decode Y.2.1 pc = .ok (.aaload, 1)) (kk : Run Θ Γ (pc + 1) L (.ref (Th.r Θ j) :: st) σ) : Run Θ Γ pc L (.int (I x) :: .ref (Th.r Θ i) :: st) σ := by
  intro hcn H ls locs hL hP hS
  have h9 : t < 9 := by omega
  have hi := arrOf_ge ha h9
  have hn := arr_n ha
  have e : (((I x).toNatClampNeg : Nat) : Int) = x := I_cl (by omega)
  have e2 : rba i + (I x).toNatClampNeg = j := by omega
  have hg : (cells Θ σ)[i]? = some (Th.r Θ i, .inl (Th.ca Θ t, n, .inr (.inr (.inr (.inr (fun j => some (Th.r Θ (rba i + j)))))))) := by rw [cells_get Θ σ hi.2, cellE_a ha h9, av_r ha ht]
  have kk' := kk hcn H ls locs hL hP hS
  subst e2
  rcases ht with rfl | rfl | rfl
  · exact va_aldq hB.1.1 hB.1.2.1 hB.2.1.1 hP i 3 hg rfl (I_vin hn hx) hd kk'
  · exact va_aldq hB.1.1 hB.1.2.1 hB.2.1.1 hP i 4 hg rfl (I_vin hn hx) hd kk'
  · exact va_aldq hB.1.1 hB.1.2.1 hB.2.1.1 hP i 5 hg rfl (I_vin hn hx) hd kk'
theorem R_iast (hB : Base Θ Γ Y) {i n : Nat} {x v : Int} (ha : arrOf i = (0, n)) (hx : 0 ≤ x ∧ x < n) (hv : rng v) (hd : decode Y.2.1 pc = .ok (.iastore, 1)) (kk : Run Θ Γ (pc + 1) L st (up σ i x v)) : Run Θ Γ pc L (.int (I v) :: .int (I x) :: .ref (Th.r Θ i) :: st) σ := by
  intro hcn H ls locs hL hP hS
  have hi := arrOf_ge ha (by decide)
  have hn := arr_n ha
  refine va_iast hB.1.1 hB.1.2.1 hB.2.1.1 hP (cells_D hB.2.1 σ) hS i 0 (by rw [cells_get Θ σ hi.2, cellE_a ha (by decide), av_i ha]) rfl (I_vin hn hx) hd ?_
  intro H1 locs1 hP1 _ hS1
  rw [upd_up σ i (by omega), ← av_i (Θ := Θ) (σ := up σ i x v) ha, cells_ast ha (by decide)] at hP1
  exact kk (cn_up hcn hv) H1 ls locs1 hL hP1 hS1
theorem R_zast (hB : Base Θ Γ Y) {i n : Nat} {x v : Int} (ha : arrOf i = (2, n)) (hx : 0 ≤ x ∧ x < n) (hv : v = 0 ∨ v = 1) (hd : decode Y.2.1 pc = .ok (.bastore, 1)) (kk : Run Θ Γ (pc + 1) L st (up σ i x v)) : Run Θ Γ pc L (.int (I v) :: .int (I x) :: .ref (Th.r Θ i) :: st) σ := by
  intro hcn H ls locs hL hP hS
  have hi := arrOf_ge ha (by decide)
  have hn := arr_n ha
  have hb : vp_nar .boolean (I v) = I v := by rcases hv with rfl | rfl <;> rfl
  refine va_zast hB.1.1 hB.1.2.1 hB.2.1.1 hP (cells_D hB.2.1 σ) hS i 2 (by rw [cells_get Θ σ hi.2, cellE_a ha (by decide), av_z ha]) rfl (I_vin hn hx) hd ?_
  intro H1 locs1 hP1 _ hS1
  rw [hb, upd_up σ i (by omega), ← av_z (Θ := Θ) (σ := up σ i x v) ha, cells_ast ha (by decide)] at hP1
  exact kk (cn_up hcn (by omega)) H1 ls locs1 hL hP1 hS1
theorem R_last (hB : Base Θ Γ Y) {i n : Nat} {x v : Int} (ha : arrOf i = (1, n)) (hi2 : i = 26 ∨ i = 28) (hx : 0 ≤ x ∧ x < n) (hv : rngL v) (hd : decode Y.2.1 pc = .ok (.lastore, 1)) (kk : Run Θ Γ (pc + 1) L st (up σ i x v)) : Run Θ Γ pc L (.long (Jl v) :: .int (I x) :: .ref (Th.r Θ i) :: st) σ := by
  intro hcn H ls locs hL hP hS
  have hi := arrOf_ge ha (by decide)
  have hn := arr_n ha
  refine va_last hB.1.1 hB.1.2.1 hB.2.1.1 hP (cells_D hB.2.1 σ) hS i 1 (by rw [cells_get Θ σ hi.2, cellE_a ha (by decide), av_l ha]) rfl (I_vin hn hx) hd ?_
  intro H1 locs1 hP1 _ hS1
  rw [updL_up σ i (by omega), ← av_l (Θ := Θ) (σ := up σ i x v) ha, cells_ast ha (by decide)] at hP1
  exact kk (cn_upL hcn hv (by omega)) H1 ls locs1 hL hP1 hS1
theorem R_alen (hB : Base Θ Γ Y) {i t n : Nat} {z : Int} (ha : arrOf i = (t, n)) (ht : t < 6) (hz : (n : Int) = z) (hd : decode Y.2.1 pc = .ok (.arraylength, 1)) (kk : Run Θ Γ (pc + 1) L (.int (I z) :: st) σ) : Run Θ Γ pc L (.ref (Th.r Θ i) :: st) σ := by
  intro hcn H ls locs hL hP hS
  have hi := arrOf_ge ha (by omega)
  subst hz
  have hg : (cells Θ σ)[i]? = some (Th.r Θ i, .inl (Th.ca Θ t, n, av Θ σ i)) := by rw [cells_get Θ σ hi.2, cellE_a ha (by omega)]
  have hty : ∃ ty, (tys Θ)[t]? = some (Th.ca Θ t, ty) := by
    match t, ht with
    | 0, _ => exact ⟨_, rfl⟩
    | 1, _ => exact ⟨_, rfl⟩
    | 2, _ => exact ⟨_, rfl⟩
    | 3, _ => exact ⟨_, rfl⟩
    | 4, _ => exact ⟨_, rfl⟩
    | 5, _ => exact ⟨_, rfl⟩
  obtain ⟨ty, hty⟩ := hty
  exact va_alen hB.1.1 hB.1.2.1 hB.2.1.1 hP i t hg hty (v := I n) rfl hd (kk hcn H ls locs hL hP hS)
theorem R_gets (hB : Base Θ Γ Y) {x t : Nat} (hf : FS Y.1.cls x t) (hd : decode Y.2.1 pc = .ok (.getstatic x, 3)) (kk : Run Θ Γ (pc + 3) L (.ref (Th.st Θ t) :: st) σ) : Run Θ Γ pc L st σ :=
  fun hcn H ls locs hL hP hS => va_gets hB.1.1 hB.1.2.1 (hB.2.1.2.2.1 t hf.1).1 hS hB.1.2.2.2.1 (hB.1.2.2.2.2 _ hf.2) (fun _ h => h) hd (kk hcn H ls locs hL hP hS)
theorem R_getsN (hB : Base Θ Γ Y) {x t : Nat} {host : String} (ht : t < 4) (hf : va_Nw (.fieldLinkNest Y.1.cls x RX7 (sname t) "[I" host) (Gm.s Γ)) (hd : decode Y.2.1 pc = .ok (.getstatic x, 3)) (kk : Run Θ Γ (pc + 3) L (.ref (Th.st Θ t) :: st) σ) : Run Θ Γ pc L st σ :=
  fun hcn H ls locs hL hP hS => va_getsN hB.1.1 hB.1.2.1 (hB.2.1.2.2.1 t ht).1 hS hB.1.2.2.2.1 (va_Nw.use rfl hf) (fun _ h => h) hd (kk hcn H ls locs hL hP hS)
theorem R_tald (hB : Base Θ Γ Y) {t : Nat} {x : Int} (ht : t < 4) (hx : 0 ≤ x ∧ x < slen t) (hd : decode Y.2.1 pc = .ok (.iaload, 1)) (kk : Run Θ Γ (pc + 1) L (.int (I (sv t x)) :: st) σ) : Run Θ Γ pc L (.int (I x) :: .ref (Th.st Θ t) :: st) σ := by
  intro hcn H ls locs hL hP hS
  have hn : slen t < 2147483648 := by
    have : ∀ t, t < 4 → slen t < 2147483648 := by decide
    exact this t ht
  have e : (((I x).toNatClampNeg : Nat) : Int) = x := I_cl (by omega)
  refine va_ti hB.1.1 hB.1.2.1 (hB.2.1.2.2.1 t ht).2 hS (I_vin hn hx) (v := .int (I (sv t x))) ?_ hd (kk hcn H ls locs hL hP hS)
  have : (I x).toNatClampNeg = x.toNat := by omega
  simp only [this, sv]
theorem R_tlen (hB : Base Θ Γ Y) {t : Nat} {z : Int} (ht : t < 4) (hz : (slen t : Int) = z) (hd : decode Y.2.1 pc = .ok (.arraylength, 1)) (kk : Run Θ Γ (pc + 1) L (.int (I z) :: st) σ) : Run Θ Γ pc L (.ref (Th.st Θ t) :: st) σ := by
  intro hcn H ls locs hL hP hS
  subst hz
  exact va_tlen hB.1.1 hB.1.2.1 (hB.2.1.2.2.1 t ht).2 hS (v := I (slen t)) rfl hd (kk hcn H ls locs hL hP hS)
end HEAP
end
section
/-! a method's contract over the memory, its returns, calls -/
def BB (Θ : Th) (σ : Mem) (t : State) : Prop := Canon σ ∧ va_P (Th.D Θ) classes (cells Θ σ) t.heap
/-- kd: 0 nothing, 1 an int (or a boolean), 2 a long -/
def QcK (kd : Nat) (Θ : Th) (Qf : Int → Mem → Prop) : Array Value → State → Outcome → State → Prop := match kd with
  | 0 => va_Qv (fun σ : Mem => Qf 0 σ) (BB Θ) (AA Θ)
  | 1 => va_Qi (fun r (σ : Mem) => ∃ z, r = I z ∧ Qf z σ) (BB Θ) (AA Θ)
  | _ => va_Ql (fun r (σ : Mem) => ∃ z, r = Jl z ∧ Qf z σ) (BB Θ) (AA Θ)
def End (Θ : Th) (Γ : Gm) (kd : Nat) (Qf : Int → Mem → Prop) : Prop := Gm.Q Γ = MQ (Gm.b Γ) (QcK kd Θ Qf) (Gm.a Γ) (Gm.s Γ) (Gm.nc Γ) (Gm.ns Γ) (AA Θ)
def codeW (Y : Mt) : Cond := Cond.code Y.1 Y.2.1 Y.2.2.1 Y.2.2.2.1
def roomW (Y : Mt) : Room := { frames := Y.2.2.2.2.1, cells := 0, slots := 0, locals := Y.2.2.2.2.2 }
def PcW (Θ : Th) (av : List Value) (σ : Mem) : Array Value → State → Prop := va_Pc av (fun U => KS Θ U ∧ Canon σ ∧ va_P (Th.D Θ) classes (cells Θ σ) U.heap)
def Spc (Θ : Th) (Y : Mt) (kd : Nat) (av : List Value) (σ : Mem) (Qf : Int → Mem → Prop) : Prop := Met (Th.l Θ) Y.1 (codeW Y :: TT) (roomW Y) (PcW Θ av σ) (QcK kd Θ Qf) 0 0 (AA Θ)
theorem PcW_blind {Θ : Th} {av : List Value} {σ : Mem} : FrameBlind (PcW Θ av σ) := by
  intro a U g mk h
  obtain ⟨h1, h2, h3, h4⟩ := h
  exact ⟨h1, h2.same rfl rfl, h3, h4⟩
theorem Spc_of {Θ : Th} {Y : Mt} {kd : Nat} {av : List Value} {σ : Mem} {Qf : Int → Mem → Prop} (hy : plainName Y.1.cls = true) (hn : (lg_sl av).length ≤ Y.2.2.1) (h : ∀ Γ, Base Θ Γ Y → End Θ Γ kd Qf → Run Θ Γ 0 (lv_args 0 av) [] σ) : Spc Θ Y kd av σ Qf := by
  refine Met.ofW (cc := Y.2.1) (maxL := Y.2.2.1) (ret := Y.2.2.2.1) hy rfl ?_
  intro p e s m args below meth c s₁ B hml hv
  obtain ⟨rfl, hk, hcn, hP⟩ := hv
  have hts := atoms_spec (ws := codeW Y :: TT) B.pre
  have hb : Base Θ (p, e, roomW Y, s, m, av.toArray, below, meth, c, 0, 0, MQ below (QcK kd Θ Qf) av.toArray s 0 0 (AA Θ)) Y :=
    ⟨⟨B.exec, B.bytes, hml, findClass_of_methodNamed B.named, fun w hw => hts w (List.mem_cons_of_mem _ hw)⟩, hk, rfl, rfl, ⟨Nat.zero_le _, Nat.zero_le _⟩, B.returns, B.notSynchronized⟩
  have hr := h _ hb rfl hcn s.heap _ [] (by rw [show (Gm.c (p, e, roomW Y, s, m, av.toArray, below, meth, c, 0, 0, MQ below (QcK kd Θ Qf) av.toArray s 0 0 (AA Θ))).maxLocals = Y.2.2.1 from hml]; exact lv_entry av (n := Y.2.2.1) hn) hP va_S.rf
  rw [lg_entry_eq]
  exact hr
theorem Spc_mono {Θ : Th} {Y : Mt} {kd : Nat} {av : List Value} {σ : Mem} {Qf Qg : Int → Mem → Prop} (h : Spc Θ Y kd av σ Qf) (hq : ∀ z σ', Qf z σ' → Qg z σ') : Spc Θ Y kd av σ Qg := by
  have key : ∀ a st o t, QcK kd Θ Qf a st o t → QcK kd Θ Qg a st o t := by
    intro a st o t h1
    match kd, h1 with
    | 0, h1 => obtain ⟨⟨u, e1, e2, e3⟩, e4⟩ := h1; exact ⟨⟨u, e1, hq _ _ e2, e3⟩, e4⟩
    | 1, h1 => obtain ⟨⟨r, u, e1, ⟨z, ez, e2⟩, e3⟩, e4⟩ := h1; exact ⟨⟨r, u, e1, ⟨z, ez, hq _ _ e2⟩, e3⟩, e4⟩
    | _ + 2, h1 => obtain ⟨⟨r, u, e1, ⟨z, ez, e2⟩, e3⟩, e4⟩ := h1; exact ⟨⟨r, u, e1, ⟨z, ez, hq _ _ e2⟩, e3⟩, e4⟩
  intro p e ha hc hk s m args below hf happ hpre htr
  obtain ⟨t, o, e1, e2, e3, e4, e5⟩ := h p e ha hc hk s m args below hf happ hpre htr
  exact ⟨t, o, e1, e2, e3, key _ _ _ _ e4, e5⟩
def MS (own : String) (x : Nat) (Y : Mt) (n : Nat) : Prop := Cond.methodLink own x Y.1 ∈ TT ∧ Cond.static Y.1 ∈ TT ∧ Cond.initialized Y.1.cls ∈ TT ∧ codeW Y ∈ TT ∧ Y.1.cls ≠ "java/lang/invoke/MethodHandle" ∧ Y.1.cls ≠ "java/lang/invoke/VarHandle" ∧ (parseMethodDescriptor Y.1.desc).map (fun d => d.parameters.length) = some n
def MV (own : String) (x : Nat) (Y : Mt) (n : Nat) : Prop := Cond.methodLink own x Y.1 ∈ TT ∧ (Cond.instanceMethod Y.1 ∈ TT ∧ Cond.selects Y.1.cls Y.1 Y.1 ∈ TT) ∧ Cond.initialized Y.1.cls ∈ TT ∧ codeW Y ∈ TT ∧ Y.1.cls ≠ "java/lang/invoke/MethodHandle" ∧ Y.1.cls ≠ "java/lang/invoke/VarHandle" ∧ (parseMethodDescriptor Y.1.desc).map (fun d => d.parameters.length) = some n
section CALL
variable {Θ : Th} {Γ : Gm} {Y Y' : Mt} {pc : Nat} {L L' : List (Nat × Value)} {st rest : List Value} {σ : Mem} {Qf Qg : Int → Mem → Prop}
theorem R_iret (hB : Base Θ Γ Y) (hE : End Θ Γ 1 Qf) {z : Int} (hr : Y.2.2.2.1 = some .int) (hd : decode Y.2.1 pc = .ok (.ireturn, 1)) (h : Qf z σ) : Run Θ Γ pc L [.int (I z)] σ := by
  intro hcn H ls locs hL hP hS
  rw [hE]
  exact W.iret (v := I z) hB.1.1 hB.1.2.1 (hB.2.2.2.2.2.1.trans hr) (fun t ht hW => ⟨⟨I z, σ, rfl, ⟨z, rfl, h⟩, hcn, by rw [ht]; exact hP⟩, hS.F ht⟩) hS.2.2 hd hB.2.2.2.2.2.2
theorem R_zret (hB : Base Θ Γ Y) (hE : End Θ Γ 1 Qf) {z : Int} {ty : FieldType} (hr : Y.2.2.2.1 = some ty) (hz : narrow ty (.int (I z)) = .int (I z)) (hd : decode Y.2.1 pc = .ok (.ireturn, 1)) (h : Qf z σ) : Run Θ Γ pc L [.int (I z)] σ := by
  intro hcn H ls locs hL hP hS
  rw [hE]
  exact W.zret (v := I z) hB.1.1 hB.1.2.1 (hB.2.2.2.2.2.1.trans hr) hz (fun t ht hW => ⟨⟨I z, σ, rfl, ⟨z, rfl, h⟩, hcn, by rw [ht]; exact hP⟩, hS.F ht⟩) hS.2.2 hd hB.2.2.2.2.2.2
theorem R_lret (hB : Base Θ Γ Y) (hE : End Θ Γ 2 Qf) {z : Int} (hr : Y.2.2.2.1 = some .long) (hd : decode Y.2.1 pc = .ok (.lreturn, 1)) (h : Qf z σ) : Run Θ Γ pc L [.long (Jl z)] σ := by
  intro hcn H ls locs hL hP hS
  rw [hE]
  exact W.lret (v := Jl z) hB.1.1 hB.1.2.1 (hB.2.2.2.2.2.1.trans hr) (fun t ht hW => ⟨⟨Jl z, σ, rfl, ⟨z, rfl, h⟩, hcn, by rw [ht]; exact hP⟩, hS.F ht⟩) hS.2.2 hd hB.2.2.2.2.2.2
theorem R_vret (hB : Base Θ Γ Y) (hE : End Θ Γ 0 Qf) (hr : Y.2.2.2.1 = none) (hd : decode Y.2.1 pc = .ok (.return_, 1)) (h : Qf 0 σ) : Run Θ Γ pc L [] σ := by
  intro hcn H ls locs hL hP hS
  rw [hE]
  exact W.vret hB.1.1 hB.1.2.1 (hB.2.2.2.2.2.1.trans hr) (fun t ht hW => ⟨⟨σ, rfl, h, hcn, by rw [ht]; exact hP⟩, hS.F ht⟩) hS.2.2 hd hB.2.2.2.2.2.2
abbrev CallRm (Y Y' : Mt) : Prop := Y'.2.2.2.2.1 + 1 ≤ Y.2.2.2.2.1 ∧ 8 + (Y'.2.2.1 + 11) + Y'.2.2.2.2.2 ≤ Y.2.2.2.2.2
theorem runS0 (hB : Base Θ Γ Y) {kd x n : Nat} {av : List Value} (hS : Spc Θ Y' kd av σ Qg) (hm : MS Y.1.cls x Y' n) (hR : CallRm Y Y') (hd : decode Y.2.1 pc = .ok (.invokestatic x, 3)) (hn : av.length = n) (hst : st = av.reverse ++ rest) (hw : (rest.map fun v => v.category).sum ≤ 8)
    {H : Heap} {ls : Array Slot} {locs : List Loc} (hL : lv_has ls (Gm.c Γ).maxLocals L) (hcn : Canon σ) (hP : va_P (Th.D Θ) classes (cells Θ σ) H) (hSS : va_S (AA Θ) (Gm.s Γ).heap H locs) :
    va_Run (Gm.p Γ) (Th.l Θ) (Gm.e Γ) (Gm.R Γ) (Gm.s Γ) (Gm.m Γ) (Gm.a Γ) (Gm.b Γ) (Gm.t Γ) (Gm.c Γ) H locs (Gm.nc Γ) (Gm.ns Γ) 0 0 (F0 (Gm.m Γ) pc ls st) rest (QcK kd Θ Qg av.toArray) (AA Θ) := by
  have hg : GoodIn TT (codeW Y' :: TT) := fun w h => by
    rcases List.mem_cons.mp h with rfl | h
    · exact TT_in _ hm.2.2.2.1
    · exact TT_in w h
  have hfr := hB.2.2.1
  have hlo := hB.2.2.2.1
  have ht := hB.1.2.2.2.2
  refine va_runS (Ts := TT) (rest := rest) hB.1 hS ⟨callB_of n ht hg rfl rfl rfl (ht _ hm.2.2.1) (ht _ hm.1) hm.2.2.2.2 ⟨by rw [hfr]; exact hR.1, by rw [hlo]; exact hR.2⟩, ht _ hm.2.1⟩ ⟨PcW_blind, fun U hU hW => ⟨rfl, hB.2.1.step hW (by rw [hU]; exact hSS), hcn, by rw [hU]; exact hP⟩⟩ rfl hn (hL.1.trans hB.1.2.2.1) hst (lv_room hw) hd hB.2.2.2.2.1
theorem runV0 (hB : Base Θ Γ Y) {kd x n i ci : Nat} {av : List Value} (hS : Spc Θ Y' kd (.ref (Th.r Θ i) :: av) σ Qg) (hm : MV Y.1.cls x Y' n) (hc : clsOf i = ci) (hcl : (classes[ci]?).map (fun q => q.1) = some Y'.1.cls) (hR : CallRm Y Y') (hd : decode Y.2.1 pc = .ok (.invokevirtual x, 3)) (hn : av.length = n) (hst : st = av.reverse ++ .ref (Th.r Θ i) :: rest) (hw : (rest.map fun v => v.category).sum ≤ 8)
    {H : Heap} {ls : Array Slot} {locs : List Loc} (hL : lv_has ls (Gm.c Γ).maxLocals L) (hcn : Canon σ) (hP : va_P (Th.D Θ) classes (cells Θ σ) H) (hSS : va_S (AA Θ) (Gm.s Γ).heap H locs) :
    va_Run (Gm.p Γ) (Th.l Θ) (Gm.e Γ) (Gm.R Γ) (Gm.s Γ) (Gm.m Γ) (Gm.a Γ) (Gm.b Γ) (Gm.t Γ) (Gm.c Γ) H locs (Gm.nc Γ) (Gm.ns Γ) 0 0 (F0 (Gm.m Γ) pc ls st) rest (QcK kd Θ Qg (Value.ref (Th.r Θ i) :: av).toArray) (AA Θ) := by
  have hg : GoodIn TT (codeW Y' :: TT) := fun w h => by
    rcases List.mem_cons.mp h with rfl | h
    · exact TT_in _ hm.2.2.2.1
    · exact TT_in w h
  have hfr := hB.2.2.1
  have hlo := hB.2.2.2.1
  have ht := hB.1.2.2.2.2
  cases hq : classes[ci]? with
  | none => rw [hq] at hcl; cases hcl
  | some q =>
    rw [hq] at hcl
    have e : q.1 = Y'.1.cls := Option.some.inj hcl
    have h9 : ci < 9 := (List.getElem?_eq_some_iff.mp hq).1
    have hi := clsOf_lt hc h9
    have hrec := va_recv hB.2.1.1 hP hq (q0 := i) (a := Th.r Θ i) (by rw [cells_get Θ σ (by omega), cellE_o hc h9])
    rw [e] at hrec
    refine va_runV (Ts := TT) (C := Y'.1.cls) (rest := rest) hB.1 hS ⟨callB_of n ht hg rfl rfl rfl (ht _ hm.2.2.1) (ht _ hm.1) hm.2.2.2.2 ⟨by rw [hfr]; exact hR.1, by rw [hlo]; exact hR.2⟩, ht _ hm.2.1.1, ht _ hm.2.1.2⟩ ⟨PcW_blind, hrec, fun U hU hW => ⟨rfl, hB.2.1.step hW (by rw [hU]; exact hSS), hcn, by rw [hU]; exact hP⟩⟩ rfl hn (hL.1.trans hB.1.2.2.1) hst (lv_room hw) hd hB.2.2.2.2.1
/-- behind a call -/
theorem R_aft0 {av : Array Value} {H : Heap} {ls : Array Slot} {locs : List Loc} (hL : lv_has ls (Gm.c Γ).maxLocals L) (hSS : va_S (AA Θ) (Gm.s Γ).heap H locs)
    (h : va_Run (Gm.p Γ) (Th.l Θ) (Gm.e Γ) (Gm.R Γ) (Gm.s Γ) (Gm.m Γ) (Gm.a Γ) (Gm.b Γ) (Gm.t Γ) (Gm.c Γ) H locs (Gm.nc Γ) (Gm.ns Γ) 0 0 (F0 (Gm.m Γ) pc ls st) rest (QcK 0 Θ Qg av) (AA Θ)) (kk : ∀ σ', Qg 0 σ' → Run Θ Γ (pc + 3) L rest σ') :
    W (Gm.p Γ) (Th.l Θ) (Gm.e Γ) (Gm.R Γ) (Gm.s Γ) (Gm.m Γ) (Gm.a Γ) (Gm.b Γ) (Gm.t Γ) (Gm.c Γ) H locs (Gm.nc Γ) (Gm.ns Γ) (Gm.Q Γ) (F0 (Gm.m Γ) pc ls st) :=
  va_callv (a := av) h hSS (fun _ _ h => h) (fun _ h => h) (fun u t H1 locs1 ht _ hq hb _ _ hS1 => kk u hq hb.1 H1 ls locs1 hL (by rw [← ht]; exact hb.2) hS1)
theorem R_aft1 {av : Array Value} {H : Heap} {ls : Array Slot} {locs : List Loc} (hL : lv_has ls (Gm.c Γ).maxLocals L) (hSS : va_S (AA Θ) (Gm.s Γ).heap H locs)
    (h : va_Run (Gm.p Γ) (Th.l Θ) (Gm.e Γ) (Gm.R Γ) (Gm.s Γ) (Gm.m Γ) (Gm.a Γ) (Gm.b Γ) (Gm.t Γ) (Gm.c Γ) H locs (Gm.nc Γ) (Gm.ns Γ) 0 0 (F0 (Gm.m Γ) pc ls st) rest (QcK 1 Θ Qg av) (AA Θ)) (kk : ∀ z σ', Qg z σ' → Run Θ Γ (pc + 3) L (.int (I z) :: rest) σ') :
    W (Gm.p Γ) (Th.l Θ) (Gm.e Γ) (Gm.R Γ) (Gm.s Γ) (Gm.m Γ) (Gm.a Γ) (Gm.b Γ) (Gm.t Γ) (Gm.c Γ) H locs (Gm.nc Γ) (Gm.ns Γ) (Gm.Q Γ) (F0 (Gm.m Γ) pc ls st) :=
  va_calli (a := av) h hSS (fun _ _ h => h) (fun _ h => h) (fun r u t H1 locs1 ht _ hq hb _ _ hS1 => by
    obtain ⟨z, rfl, hq⟩ := hq
    exact kk z u hq hb.1 H1 ls locs1 hL (by rw [← ht]; exact hb.2) hS1)
theorem R_aft2 {av : Array Value} {H : Heap} {ls : Array Slot} {locs : List Loc} (hL : lv_has ls (Gm.c Γ).maxLocals L) (hSS : va_S (AA Θ) (Gm.s Γ).heap H locs)
    (h : va_Run (Gm.p Γ) (Th.l Θ) (Gm.e Γ) (Gm.R Γ) (Gm.s Γ) (Gm.m Γ) (Gm.a Γ) (Gm.b Γ) (Gm.t Γ) (Gm.c Γ) H locs (Gm.nc Γ) (Gm.ns Γ) 0 0 (F0 (Gm.m Γ) pc ls st) rest (QcK 2 Θ Qg av) (AA Θ)) (kk : ∀ z σ', Qg z σ' → Run Θ Γ (pc + 3) L (.long (Jl z) :: rest) σ') :
    W (Gm.p Γ) (Th.l Θ) (Gm.e Γ) (Gm.R Γ) (Gm.s Γ) (Gm.m Γ) (Gm.a Γ) (Gm.b Γ) (Gm.t Γ) (Gm.c Γ) H locs (Gm.nc Γ) (Gm.ns Γ) (Gm.Q Γ) (F0 (Gm.m Γ) pc ls st) :=
  va_calll (a := av) h hSS (fun _ _ h => h) (fun _ h => h) (fun r u t H1 locs1 ht _ hq hb _ _ hS1 => by
    obtain ⟨z, rfl, hq⟩ := hq
    exact kk z u hq hb.1 H1 ls locs1 hL (by rw [← ht]; exact hb.2) hS1)
theorem R_cS0 (hB : Base Θ Γ Y) {x n : Nat} {av : List Value} (hS : Spc Θ Y' 0 av σ Qg) (hm : MS Y.1.cls x Y' n) (hR : CallRm Y Y') (hd : decode Y.2.1 pc = .ok (.invokestatic x, 3)) (hn : av.length = n) (hst : st = av.reverse ++ rest) (hw : (rest.map fun v => v.category).sum ≤ 8) (kk : ∀ σ', Qg 0 σ' → Run Θ Γ (pc + 3) L rest σ') : Run Θ Γ pc L st σ :=
  fun hcn _ _ _ hL hP hSS => R_aft0 hL hSS (runS0 hB hS hm hR hd hn hst hw hL hcn hP hSS) kk
theorem R_cS1 (hB : Base Θ Γ Y) {x n : Nat} {av : List Value} (hS : Spc Θ Y' 1 av σ Qg) (hm : MS Y.1.cls x Y' n) (hR : CallRm Y Y') (hd : decode Y.2.1 pc = .ok (.invokestatic x, 3)) (hn : av.length = n) (hst : st = av.reverse ++ rest) (hw : (rest.map fun v => v.category).sum ≤ 8) (kk : ∀ z σ', Qg z σ' → Run Θ Γ (pc + 3) L (.int (I z) :: rest) σ') : Run Θ Γ pc L st σ :=
  fun hcn _ _ _ hL hP hSS => R_aft1 hL hSS (runS0 hB hS hm hR hd hn hst hw hL hcn hP hSS) kk
theorem R_cS2 (hB : Base Θ Γ Y) {x n : Nat} {av : List Value} (hS : Spc Θ Y' 2 av σ Qg) (hm : MS Y.1.cls x Y' n) (hR : CallRm Y Y') (hd : decode Y.2.1 pc = .ok (.invokestatic x, 3)) (hn : av.length = n) (hst : st = av.reverse ++ rest) (hw : (rest.map fun v => v.category).sum ≤ 8) (kk : ∀ z σ', Qg z σ' → Run Θ Γ (pc + 3) L (.long (Jl z) :: rest) σ') : Run Θ Γ pc L st σ :=
  fun hcn _ _ _ hL hP hSS => R_aft2 hL hSS (runS0 hB hS hm hR hd hn hst hw hL hcn hP hSS) kk
theorem R_cV0 (hB : Base Θ Γ Y) {x n i ci : Nat} {av : List Value} (hS : Spc Θ Y' 0 (.ref (Th.r Θ i) :: av) σ Qg) (hm : MV Y.1.cls x Y' n) (hc : clsOf i = ci) (hcl : (classes[ci]?).map (fun q => q.1) = some Y'.1.cls) (hR : CallRm Y Y') (hd : decode Y.2.1 pc = .ok (.invokevirtual x, 3)) (hn : av.length = n) (hst : st = av.reverse ++ .ref (Th.r Θ i) :: rest) (hw : (rest.map fun v => v.category).sum ≤ 8) (kk : ∀ σ', Qg 0 σ' → Run Θ Γ (pc + 3) L rest σ') : Run Θ Γ pc L st σ :=
  fun hcn _ _ _ hL hP hSS => R_aft0 hL hSS (runV0 hB hS hm hc hcl hR hd hn hst hw hL hcn hP hSS) kk
theorem R_cV1 (hB : Base Θ Γ Y) {x n i ci : Nat} {av : List Value} (hS : Spc Θ Y' 1 (.ref (Th.r Θ i) :: av) σ Qg) (hm : MV Y.1.cls x Y' n) (hc : clsOf i = ci) (hcl : (classes[ci]?).map (fun q => q.1) = some Y'.1.cls) (hR : CallRm Y Y') (hd : decode Y.2.1 pc = .ok (.invokevirtual x, 3)) (hn : av.length = n) (hst : st = av.reverse ++ .ref (Th.r Θ i) :: rest) (hw : (rest.map fun v => v.category).sum ≤ 8) (kk : ∀ z σ', Qg z σ' → Run Θ Γ (pc + 3) L (.int (I z) :: rest) σ') : Run Θ Γ pc L st σ :=
  fun hcn _ _ _ hL hP hSS => R_aft1 hL hSS (runV0 hB hS hm hc hcl hR hd hn hst hw hL hcn hP hSS) kk
theorem R_cV2 (hB : Base Θ Γ Y) {x n i ci : Nat} {av : List Value} (hS : Spc Θ Y' 2 (.ref (Th.r Θ i) :: av) σ Qg) (hm : MV Y.1.cls x Y' n) (hc : clsOf i = ci) (hcl : (classes[ci]?).map (fun q => q.1) = some Y'.1.cls) (hR : CallRm Y Y') (hd : decode Y.2.1 pc = .ok (.invokevirtual x, 3)) (hn : av.length = n) (hst : st = av.reverse ++ .ref (Th.r Θ i) :: rest) (hw : (rest.map fun v => v.category).sum ≤ 8) (kk : ∀ z σ', Qg z σ' → Run Θ Γ (pc + 3) L (.long (Jl z) :: rest) σ') : Run Θ Γ pc L st σ :=
  fun hcn _ _ _ hL hP hSS => R_aft2 hL hSS (runV0 hB hS hm hc hcl hR hd hn hst hw hL hcn hP hSS) kk
end CALL
end
