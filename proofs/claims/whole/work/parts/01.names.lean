-- ===== PART A: goes FIRST, ahead of the names: the tables' words, and 'selects' of the private methods out of them =====
/-- a private method of a class that the tables say can be made, by its rows of tables_1 -/
def lw_okq (q : MethodName × Nat) : Prop := (q.1.cls ≠ "java/lang/invoke/MethodHandle" ∧ q.1.cls ≠ "java/lang/invoke/VarHandle") ∧ Cond.instantiable q.1.cls q.2 ∈ tables_1 ∧ Cond.privateMethod q.1 ∈ tables_1 ∧ Cond.instanceMethod q.1 ∈ tables_1
theorem lw_p0 : lw_okq (⟨"SlowerForTheLate", "refusalOfRow", "(I)I"⟩, 9) := ⟨⟨by decide +kernel, by decide +kernel⟩, List.mem_of_getElem? (i := 24) (by decide +kernel), List.mem_of_getElem? (i := 226) (by decide +kernel), List.mem_of_getElem? (i := 227) (by decide +kernel)⟩
theorem lw_p1 : lw_okq (⟨"SlowerForTheLate", "isEmpty", "(I)Z"⟩, 9) := ⟨⟨by decide +kernel, by decide +kernel⟩, List.mem_of_getElem? (i := 24) (by decide +kernel), List.mem_of_getElem? (i := 233) (by decide +kernel), List.mem_of_getElem? (i := 234) (by decide +kernel)⟩
theorem lw_p2 : lw_okq (⟨"SlowerForTheLate$Plan", "tellRun", "(II)Z"⟩, 11) := ⟨⟨by decide +kernel, by decide +kernel⟩, List.mem_of_getElem? (i := 32) (by decide +kernel), List.mem_of_getElem? (i := 272) (by decide +kernel), List.mem_of_getElem? (i := 273) (by decide +kernel)⟩
theorem lw_p3 : lw_okq (⟨"SlowerForTheLate$Plan", "tellTrain", "(II)Z"⟩, 11) := ⟨⟨by decide +kernel, by decide +kernel⟩, List.mem_of_getElem? (i := 32) (by decide +kernel), List.mem_of_getElem? (i := 282) (by decide +kernel), List.mem_of_getElem? (i := 283) (by decide +kernel)⟩
theorem lw_p4 : lw_okq (⟨"SlowerForTheLate$Plan", "tellPerson", "(LSlowerForTheLate$Row;I)Z"⟩, 11) := ⟨⟨by decide +kernel, by decide +kernel⟩, List.mem_of_getElem? (i := 32) (by decide +kernel), List.mem_of_getElem? (i := 296) (by decide +kernel), List.mem_of_getElem? (i := 297) (by decide +kernel)⟩
theorem lw_p5 : lw_okq (⟨"SlowerForTheLate$Plan", "tellRule", "(II)Z"⟩, 11) := ⟨⟨by decide +kernel, by decide +kernel⟩, List.mem_of_getElem? (i := 32) (by decide +kernel), List.mem_of_getElem? (i := 384) (by decide +kernel), List.mem_of_getElem? (i := 385) (by decide +kernel)⟩
theorem lw_p6 : lw_okq (⟨"SlowerForTheLate$Plan", "tellCancelled", "(I)Z"⟩, 11) := ⟨⟨by decide +kernel, by decide +kernel⟩, List.mem_of_getElem? (i := 32) (by decide +kernel), List.mem_of_getElem? (i := 395) (by decide +kernel), List.mem_of_getElem? (i := 396) (by decide +kernel)⟩
theorem lw_p7 : lw_okq (⟨"SlowerForTheLate$Trip", "setPeople", "(LSlowerForTheLate$Plan;)V"⟩, 19) := ⟨⟨by decide +kernel, by decide +kernel⟩, List.mem_of_getElem? (i := 119) (by decide +kernel), List.mem_of_getElem? (i := 634) (by decide +kernel), List.mem_of_getElem? (i := 635) (by decide +kernel)⟩
theorem lw_p8 : lw_okq (⟨"SlowerForTheLate$Trip", "line", "(I)V"⟩, 19) := ⟨⟨by decide +kernel, by decide +kernel⟩, List.mem_of_getElem? (i := 119) (by decide +kernel), List.mem_of_getElem? (i := 643) (by decide +kernel), List.mem_of_getElem? (i := 644) (by decide +kernel)⟩
theorem lw_p9 : lw_okq (⟨"SlowerForTheLate$Trip", "setTrains", "(LSlowerForTheLate$Plan;I)V"⟩, 19) := ⟨⟨by decide +kernel, by decide +kernel⟩, List.mem_of_getElem? (i := 119) (by decide +kernel), List.mem_of_getElem? (i := 647) (by decide +kernel), List.mem_of_getElem? (i := 648) (by decide +kernel)⟩
theorem lw_p10 : lw_okq (⟨"SlowerForTheLate$Trip", "orderTrains", "(I)V"⟩, 19) := ⟨⟨by decide +kernel, by decide +kernel⟩, List.mem_of_getElem? (i := 119) (by decide +kernel), List.mem_of_getElem? (i := 657) (by decide +kernel), List.mem_of_getElem? (i := 658) (by decide +kernel)⟩
theorem lw_p11 : lw_okq (⟨"SlowerForTheLate$Trip", "isAhead", "(III)Z"⟩, 19) := ⟨⟨by decide +kernel, by decide +kernel⟩, List.mem_of_getElem? (i := 119) (by decide +kernel), List.mem_of_getElem? (i := 661) (by decide +kernel), List.mem_of_getElem? (i := 662) (by decide +kernel)⟩
theorem lw_p12 : lw_okq (⟨"SlowerForTheLate$Trip", "atStop", "(LSlowerForTheLate$Plan;II)V"⟩, 19) := ⟨⟨by decide +kernel, by decide +kernel⟩, List.mem_of_getElem? (i := 119) (by decide +kernel), List.mem_of_getElem? (i := 665) (by decide +kernel), List.mem_of_getElem? (i := 666) (by decide +kernel)⟩
theorem lw_p13 : lw_okq (⟨"SlowerForTheLate$Trip", "letOff", "(II)Z"⟩, 19) := ⟨⟨by decide +kernel, by decide +kernel⟩, List.mem_of_getElem? (i := 119) (by decide +kernel), List.mem_of_getElem? (i := 669) (by decide +kernel), List.mem_of_getElem? (i := 670) (by decide +kernel)⟩
theorem lw_p14 : lw_okq (⟨"SlowerForTheLate$Trip", "letOn", "(LSlowerForTheLate$Plan;II)Z"⟩, 19) := ⟨⟨by decide +kernel, by decide +kernel⟩, List.mem_of_getElem? (i := 119) (by decide +kernel), List.mem_of_getElem? (i := 673) (by decide +kernel), List.mem_of_getElem? (i := 674) (by decide +kernel)⟩
theorem lw_p15 : lw_okq (⟨"SlowerForTheLate$Trip", "isLetOn", "(LSlowerForTheLate$Plan;III)Z"⟩, 19) := ⟨⟨by decide +kernel, by decide +kernel⟩, List.mem_of_getElem? (i := 119) (by decide +kernel), List.mem_of_getElem? (i := 681) (by decide +kernel), List.mem_of_getElem? (i := 682) (by decide +kernel)⟩
def lw_privs_1 : List (MethodName × Nat) := [(⟨"SlowerForTheLate", "refusalOfRow", "(I)I"⟩, 9), (⟨"SlowerForTheLate", "isEmpty", "(I)Z"⟩, 9), (⟨"SlowerForTheLate$Plan", "tellRun", "(II)Z"⟩, 11), (⟨"SlowerForTheLate$Plan", "tellTrain", "(II)Z"⟩, 11), (⟨"SlowerForTheLate$Plan", "tellPerson", "(LSlowerForTheLate$Row;I)Z"⟩, 11), (⟨"SlowerForTheLate$Plan", "tellRule", "(II)Z"⟩, 11), (⟨"SlowerForTheLate$Plan", "tellCancelled", "(I)Z"⟩, 11), (⟨"SlowerForTheLate$Trip", "setPeople", "(LSlowerForTheLate$Plan;)V"⟩, 19), (⟨"SlowerForTheLate$Trip", "line", "(I)V"⟩, 19), (⟨"SlowerForTheLate$Trip", "setTrains", "(LSlowerForTheLate$Plan;I)V"⟩, 19), (⟨"SlowerForTheLate$Trip", "orderTrains", "(I)V"⟩, 19), (⟨"SlowerForTheLate$Trip", "isAhead", "(III)Z"⟩, 19), (⟨"SlowerForTheLate$Trip", "atStop", "(LSlowerForTheLate$Plan;II)V"⟩, 19), (⟨"SlowerForTheLate$Trip", "letOff", "(II)Z"⟩, 19), (⟨"SlowerForTheLate$Trip", "letOn", "(LSlowerForTheLate$Plan;II)Z"⟩, 19), (⟨"SlowerForTheLate$Trip", "isLetOn", "(LSlowerForTheLate$Plan;III)Z"⟩, 19)]
theorem lw_r1 : ∀ q ∈ lw_privs_1, lw_okq q := List.forall_mem_cons.mpr ⟨lw_p0, List.forall_mem_cons.mpr ⟨lw_p1, List.forall_mem_cons.mpr ⟨lw_p2, List.forall_mem_cons.mpr ⟨lw_p3, List.forall_mem_cons.mpr ⟨lw_p4, List.forall_mem_cons.mpr ⟨lw_p5, List.forall_mem_cons.mpr ⟨lw_p6, List.forall_mem_cons.mpr ⟨lw_p7, List.forall_mem_cons.mpr ⟨lw_p8, List.forall_mem_cons.mpr ⟨lw_p9, List.forall_mem_cons.mpr ⟨lw_p10, List.forall_mem_cons.mpr ⟨lw_p11, List.forall_mem_cons.mpr ⟨lw_p12, List.forall_mem_cons.mpr ⟨lw_p13, List.forall_mem_cons.mpr ⟨lw_p14, List.forall_mem_cons.mpr ⟨lw_p15, fun _ h => absurd h List.not_mem_nil⟩⟩⟩⟩⟩⟩⟩⟩⟩⟩⟩⟩⟩⟩⟩⟩
theorem lw_p16 : lw_okq (⟨"SlowerForTheLate$Trip", "may", "(LSlowerForTheLate$Plan;II)Z"⟩, 19) := ⟨⟨by decide +kernel, by decide +kernel⟩, List.mem_of_getElem? (i := 119) (by decide +kernel), List.mem_of_getElem? (i := 685) (by decide +kernel), List.mem_of_getElem? (i := 686) (by decide +kernel)⟩
theorem lw_p17 : lw_okq (⟨"SlowerForTheLate", "rideOf", "(II)I"⟩, 9) := ⟨⟨by decide +kernel, by decide +kernel⟩, List.mem_of_getElem? (i := 24) (by decide +kernel), List.mem_of_getElem? (i := 706) (by decide +kernel), List.mem_of_getElem? (i := 707) (by decide +kernel)⟩
theorem lw_p18 : lw_okq (⟨"SlowerForTheLate", "allMissed", "()I"⟩, 9) := ⟨⟨by decide +kernel, by decide +kernel⟩, List.mem_of_getElem? (i := 24) (by decide +kernel), List.mem_of_getElem? (i := 723) (by decide +kernel), List.mem_of_getElem? (i := 724) (by decide +kernel)⟩
theorem lw_p19 : lw_okq (⟨"SlowerForTheLate", "allWaited", "()I"⟩, 9) := ⟨⟨by decide +kernel, by decide +kernel⟩, List.mem_of_getElem? (i := 24) (by decide +kernel), List.mem_of_getElem? (i := 727) (by decide +kernel), List.mem_of_getElem? (i := 728) (by decide +kernel)⟩
theorem lw_p20 : lw_okq (⟨"SlowerForTheLate", "allRefunds", "()I"⟩, 9) := ⟨⟨by decide +kernel, by decide +kernel⟩, List.mem_of_getElem? (i := 24) (by decide +kernel), List.mem_of_getElem? (i := 731) (by decide +kernel), List.mem_of_getElem? (i := 732) (by decide +kernel)⟩
theorem lw_p21 : lw_okq (⟨"SlowerForTheLate", "arrivalFrom", "(II)I"⟩, 9) := ⟨⟨by decide +kernel, by decide +kernel⟩, List.mem_of_getElem? (i := 24) (by decide +kernel), List.mem_of_getElem? (i := 752) (by decide +kernel), List.mem_of_getElem? (i := 753) (by decide +kernel)⟩
theorem lw_p22 : lw_okq (⟨"SlowerForTheLate", "neitherGains", "(II)Z"⟩, 9) := ⟨⟨by decide +kernel, by decide +kernel⟩, List.mem_of_getElem? (i := 24) (by decide +kernel), List.mem_of_getElem? (i := 780) (by decide +kernel), List.mem_of_getElem? (i := 781) (by decide +kernel)⟩
theorem lw_p23 : lw_okq (⟨"SlowerForTheLate", "arrivingWithLate", "(I)I"⟩, 9) := ⟨⟨by decide +kernel, by decide +kernel⟩, List.mem_of_getElem? (i := 24) (by decide +kernel), List.mem_of_getElem? (i := 811) (by decide +kernel), List.mem_of_getElem? (i := 812) (by decide +kernel)⟩
theorem lw_p24 : lw_okq (⟨"SlowerForTheLate", "startOfLeastWorth", "(IIII)I"⟩, 9) := ⟨⟨by decide +kernel, by decide +kernel⟩, List.mem_of_getElem? (i := 24) (by decide +kernel), List.mem_of_getElem? (i := 837) (by decide +kernel), List.mem_of_getElem? (i := 838) (by decide +kernel)⟩
theorem lw_p25 : lw_okq (⟨"SlowerForTheLate", "refusalOfTickets", "(I)I"⟩, 9) := ⟨⟨by decide +kernel, by decide +kernel⟩, List.mem_of_getElem? (i := 24) (by decide +kernel), List.mem_of_getElem? (i := 853) (by decide +kernel), List.mem_of_getElem? (i := 854) (by decide +kernel)⟩
theorem lw_p26 : lw_okq (⟨"SlowerForTheLate", "firstMisfit", "(LSlowerForTheLate$Row;I)I"⟩, 9) := ⟨⟨by decide +kernel, by decide +kernel⟩, List.mem_of_getElem? (i := 24) (by decide +kernel), List.mem_of_getElem? (i := 857) (by decide +kernel), List.mem_of_getElem? (i := 858) (by decide +kernel)⟩
theorem lw_p27 : lw_okq (⟨"SlowerForTheLate", "whereabouts", "(II)I"⟩, 9) := ⟨⟨by decide +kernel, by decide +kernel⟩, List.mem_of_getElem? (i := 24) (by decide +kernel), List.mem_of_getElem? (i := 882) (by decide +kernel), List.mem_of_getElem? (i := 883) (by decide +kernel)⟩
theorem lw_p28 : lw_okq (⟨"SlowerForTheLate$Row", "narrowed", "(I)I"⟩, 2) := ⟨⟨by decide +kernel, by decide +kernel⟩, List.mem_of_getElem? (i := 923) (by decide +kernel), List.mem_of_getElem? (i := 947) (by decide +kernel), List.mem_of_getElem? (i := 948) (by decide +kernel)⟩
theorem lw_p29 : lw_okq (⟨"SlowerForTheLate", "refusalOfOne", "(I)I"⟩, 9) := ⟨⟨by decide +kernel, by decide +kernel⟩, List.mem_of_getElem? (i := 24) (by decide +kernel), List.mem_of_getElem? (i := 964) (by decide +kernel), List.mem_of_getElem? (i := 965) (by decide +kernel)⟩
theorem lw_p30 : lw_okq (⟨"java/lang/Throwable", "fillInStackTrace", "(I)Ljava/lang/Throwable;"⟩, 6) := ⟨⟨by decide +kernel, by decide +kernel⟩, List.mem_of_getElem? (i := 1057) (by decide +kernel), List.mem_of_getElem? (i := 1055) (by decide +kernel), List.mem_of_getElem? (i := 1056) (by decide +kernel)⟩
theorem lw_p31 : lw_okq (⟨"SlowerForTheLateModel", "wrongRow", "(II)I"⟩, 37) := ⟨⟨by decide +kernel, by decide +kernel⟩, List.mem_of_getElem? (i := 1144) (by decide +kernel), List.mem_of_getElem? (i := 1266) (by decide +kernel), List.mem_of_getElem? (i := 1267) (by decide +kernel)⟩
def lw_privs_2 : List (MethodName × Nat) := [(⟨"SlowerForTheLate$Trip", "may", "(LSlowerForTheLate$Plan;II)Z"⟩, 19), (⟨"SlowerForTheLate", "rideOf", "(II)I"⟩, 9), (⟨"SlowerForTheLate", "allMissed", "()I"⟩, 9), (⟨"SlowerForTheLate", "allWaited", "()I"⟩, 9), (⟨"SlowerForTheLate", "allRefunds", "()I"⟩, 9), (⟨"SlowerForTheLate", "arrivalFrom", "(II)I"⟩, 9), (⟨"SlowerForTheLate", "neitherGains", "(II)Z"⟩, 9), (⟨"SlowerForTheLate", "arrivingWithLate", "(I)I"⟩, 9), (⟨"SlowerForTheLate", "startOfLeastWorth", "(IIII)I"⟩, 9), (⟨"SlowerForTheLate", "refusalOfTickets", "(I)I"⟩, 9), (⟨"SlowerForTheLate", "firstMisfit", "(LSlowerForTheLate$Row;I)I"⟩, 9), (⟨"SlowerForTheLate", "whereabouts", "(II)I"⟩, 9), (⟨"SlowerForTheLate$Row", "narrowed", "(I)I"⟩, 2), (⟨"SlowerForTheLate", "refusalOfOne", "(I)I"⟩, 9), (⟨"java/lang/Throwable", "fillInStackTrace", "(I)Ljava/lang/Throwable;"⟩, 6), (⟨"SlowerForTheLateModel", "wrongRow", "(II)I"⟩, 37)]
theorem lw_r2 : ∀ q ∈ lw_privs_2, lw_okq q := List.forall_mem_cons.mpr ⟨lw_p16, List.forall_mem_cons.mpr ⟨lw_p17, List.forall_mem_cons.mpr ⟨lw_p18, List.forall_mem_cons.mpr ⟨lw_p19, List.forall_mem_cons.mpr ⟨lw_p20, List.forall_mem_cons.mpr ⟨lw_p21, List.forall_mem_cons.mpr ⟨lw_p22, List.forall_mem_cons.mpr ⟨lw_p23, List.forall_mem_cons.mpr ⟨lw_p24, List.forall_mem_cons.mpr ⟨lw_p25, List.forall_mem_cons.mpr ⟨lw_p26, List.forall_mem_cons.mpr ⟨lw_p27, List.forall_mem_cons.mpr ⟨lw_p28, List.forall_mem_cons.mpr ⟨lw_p29, List.forall_mem_cons.mpr ⟨lw_p30, List.forall_mem_cons.mpr ⟨lw_p31, fun _ h => absurd h List.not_mem_nil⟩⟩⟩⟩⟩⟩⟩⟩⟩⟩⟩⟩⟩⟩⟩⟩
theorem lw_p32 : lw_okq (⟨"SlowerForTheLateModel", "readsStatement", "()Z"⟩, 37) := ⟨⟨by decide +kernel, by decide +kernel⟩, List.mem_of_getElem? (i := 1144) (by decide +kernel), List.mem_of_getElem? (i := 1276) (by decide +kernel), List.mem_of_getElem? (i := 1277) (by decide +kernel)⟩
theorem lw_p33 : lw_okq (⟨"SlowerForTheLateModel", "here", "()I"⟩, 37) := ⟨⟨by decide +kernel, by decide +kernel⟩, List.mem_of_getElem? (i := 1144) (by decide +kernel), List.mem_of_getElem? (i := 1280) (by decide +kernel), List.mem_of_getElem? (i := 1281) (by decide +kernel)⟩
theorem lw_p34 : lw_okq (⟨"SlowerForTheLateModel", "readsNumber", "(II)Z"⟩, 37) := ⟨⟨by decide +kernel, by decide +kernel⟩, List.mem_of_getElem? (i := 1144) (by decide +kernel), List.mem_of_getElem? (i := 1284) (by decide +kernel), List.mem_of_getElem? (i := 1285) (by decide +kernel)⟩
theorem lw_p35 : lw_okq (⟨"SlowerForTheLateModel", "isDone", "(I)Z"⟩, 37) := ⟨⟨by decide +kernel, by decide +kernel⟩, List.mem_of_getElem? (i := 1144) (by decide +kernel), List.mem_of_getElem? (i := 1291) (by decide +kernel), List.mem_of_getElem? (i := 1292) (by decide +kernel)⟩
theorem lw_p36 : lw_okq (⟨"SlowerForTheLateModel", "addsTrain", "(II)V"⟩, 37) := ⟨⟨by decide +kernel, by decide +kernel⟩, List.mem_of_getElem? (i := 1144) (by decide +kernel), List.mem_of_getElem? (i := 1295) (by decide +kernel), List.mem_of_getElem? (i := 1296) (by decide +kernel)⟩
theorem lw_p37 : lw_okq (⟨"SlowerForTheLateModel", "areStops", "(II)Z"⟩, 37) := ⟨⟨by decide +kernel, by decide +kernel⟩, List.mem_of_getElem? (i := 1144) (by decide +kernel), List.mem_of_getElem? (i := 1299) (by decide +kernel), List.mem_of_getElem? (i := 1300) (by decide +kernel)⟩
theorem lw_p38 : lw_okq (⟨"SlowerForTheLateModel", "isTrain", "(I)Z"⟩, 37) := ⟨⟨by decide +kernel, by decide +kernel⟩, List.mem_of_getElem? (i := 1144) (by decide +kernel), List.mem_of_getElem? (i := 1303) (by decide +kernel), List.mem_of_getElem? (i := 1304) (by decide +kernel)⟩
theorem lw_p39 : lw_okq (⟨"SlowerForTheLateModel", "isTraveller", "(I)Z"⟩, 37) := ⟨⟨by decide +kernel, by decide +kernel⟩, List.mem_of_getElem? (i := 1144) (by decide +kernel), List.mem_of_getElem? (i := 1311) (by decide +kernel), List.mem_of_getElem? (i := 1312) (by decide +kernel)⟩
theorem lw_p40 : lw_okq (⟨"SlowerForTheLateModel", "comesAt", "(I)I"⟩, 37) := ⟨⟨by decide +kernel, by decide +kernel⟩, List.mem_of_getElem? (i := 1144) (by decide +kernel), List.mem_of_getElem? (i := 1315) (by decide +kernel), List.mem_of_getElem? (i := 1316) (by decide +kernel)⟩
theorem lw_p41 : lw_okq (⟨"SlowerForTheLateModel", "baseOf", "(I)I"⟩, 37) := ⟨⟨by decide +kernel, by decide +kernel⟩, List.mem_of_getElem? (i := 1144) (by decide +kernel), List.mem_of_getElem? (i := 1319) (by decide +kernel), List.mem_of_getElem? (i := 1320) (by decide +kernel)⟩
theorem lw_p42 : lw_okq (⟨"SlowerForTheLateModel", "figure", "(I)I"⟩, 37) := ⟨⟨by decide +kernel, by decide +kernel⟩, List.mem_of_getElem? (i := 1144) (by decide +kernel), List.mem_of_getElem? (i := 1323) (by decide +kernel), List.mem_of_getElem? (i := 1324) (by decide +kernel)⟩
theorem lw_p43 : lw_okq (⟨"SlowerForTheLateModel", "kind", "(I)I"⟩, 37) := ⟨⟨by decide +kernel, by decide +kernel⟩, List.mem_of_getElem? (i := 1144) (by decide +kernel), List.mem_of_getElem? (i := 1327) (by decide +kernel), List.mem_of_getElem? (i := 1328) (by decide +kernel)⟩
theorem lw_p44 : lw_okq (⟨"SlowerForTheLateModel", "rankOf", "(I)I"⟩, 37) := ⟨⟨by decide +kernel, by decide +kernel⟩, List.mem_of_getElem? (i := 1144) (by decide +kernel), List.mem_of_getElem? (i := 1337) (by decide +kernel), List.mem_of_getElem? (i := 1338) (by decide +kernel)⟩
theorem lw_p45 : lw_okq (⟨"SlowerForTheLateModel", "placesOf", "(I)I"⟩, 37) := ⟨⟨by decide +kernel, by decide +kernel⟩, List.mem_of_getElem? (i := 1144) (by decide +kernel), List.mem_of_getElem? (i := 1341) (by decide +kernel), List.mem_of_getElem? (i := 1342) (by decide +kernel)⟩
theorem lw_p46 : lw_okq (⟨"SlowerForTheLateModel", "offOf", "(I)I"⟩, 37) := ⟨⟨by decide +kernel, by decide +kernel⟩, List.mem_of_getElem? (i := 1144) (by decide +kernel), List.mem_of_getElem? (i := 1345) (by decide +kernel), List.mem_of_getElem? (i := 1346) (by decide +kernel)⟩
theorem lw_p47 : lw_okq (⟨"SlowerForTheLateModel", "to", "(I)I"⟩, 37) := ⟨⟨by decide +kernel, by decide +kernel⟩, List.mem_of_getElem? (i := 1144) (by decide +kernel), List.mem_of_getElem? (i := 1349) (by decide +kernel), List.mem_of_getElem? (i := 1350) (by decide +kernel)⟩
def lw_privs_3 : List (MethodName × Nat) := [(⟨"SlowerForTheLateModel", "readsStatement", "()Z"⟩, 37), (⟨"SlowerForTheLateModel", "here", "()I"⟩, 37), (⟨"SlowerForTheLateModel", "readsNumber", "(II)Z"⟩, 37), (⟨"SlowerForTheLateModel", "isDone", "(I)Z"⟩, 37), (⟨"SlowerForTheLateModel", "addsTrain", "(II)V"⟩, 37), (⟨"SlowerForTheLateModel", "areStops", "(II)Z"⟩, 37), (⟨"SlowerForTheLateModel", "isTrain", "(I)Z"⟩, 37), (⟨"SlowerForTheLateModel", "isTraveller", "(I)Z"⟩, 37), (⟨"SlowerForTheLateModel", "comesAt", "(I)I"⟩, 37), (⟨"SlowerForTheLateModel", "baseOf", "(I)I"⟩, 37), (⟨"SlowerForTheLateModel", "figure", "(I)I"⟩, 37), (⟨"SlowerForTheLateModel", "kind", "(I)I"⟩, 37), (⟨"SlowerForTheLateModel", "rankOf", "(I)I"⟩, 37), (⟨"SlowerForTheLateModel", "placesOf", "(I)I"⟩, 37), (⟨"SlowerForTheLateModel", "offOf", "(I)I"⟩, 37), (⟨"SlowerForTheLateModel", "to", "(I)I"⟩, 37)]
theorem lw_r3 : ∀ q ∈ lw_privs_3, lw_okq q := List.forall_mem_cons.mpr ⟨lw_p32, List.forall_mem_cons.mpr ⟨lw_p33, List.forall_mem_cons.mpr ⟨lw_p34, List.forall_mem_cons.mpr ⟨lw_p35, List.forall_mem_cons.mpr ⟨lw_p36, List.forall_mem_cons.mpr ⟨lw_p37, List.forall_mem_cons.mpr ⟨lw_p38, List.forall_mem_cons.mpr ⟨lw_p39, List.forall_mem_cons.mpr ⟨lw_p40, List.forall_mem_cons.mpr ⟨lw_p41, List.forall_mem_cons.mpr ⟨lw_p42, List.forall_mem_cons.mpr ⟨lw_p43, List.forall_mem_cons.mpr ⟨lw_p44, List.forall_mem_cons.mpr ⟨lw_p45, List.forall_mem_cons.mpr ⟨lw_p46, List.forall_mem_cons.mpr ⟨lw_p47, fun _ h => absurd h List.not_mem_nil⟩⟩⟩⟩⟩⟩⟩⟩⟩⟩⟩⟩⟩⟩⟩⟩
theorem lw_p48 : lw_okq (⟨"SlowerForTheLateModel", "wouldTake", "(II)Z"⟩, 37) := ⟨⟨by decide +kernel, by decide +kernel⟩, List.mem_of_getElem? (i := 1144) (by decide +kernel), List.mem_of_getElem? (i := 1363) (by decide +kernel), List.mem_of_getElem? (i := 1364) (by decide +kernel)⟩
theorem lw_p49 : lw_okq (⟨"SlowerForTheLateModel", "refundOf", "(II)I"⟩, 37) := ⟨⟨by decide +kernel, by decide +kernel⟩, List.mem_of_getElem? (i := 1144) (by decide +kernel), List.mem_of_getElem? (i := 1371) (by decide +kernel), List.mem_of_getElem? (i := 1372) (by decide +kernel)⟩
theorem lw_p50 : lw_okq (⟨"SlowerForTheLateModel", "wrongKept", "(I)I"⟩, 37) := ⟨⟨by decide +kernel, by decide +kernel⟩, List.mem_of_getElem? (i := 1144) (by decide +kernel), List.mem_of_getElem? (i := 1379) (by decide +kernel), List.mem_of_getElem? (i := 1380) (by decide +kernel)⟩
theorem lw_p51 : lw_okq (⟨"SlowerForTheLateModel", "goes", "()V"⟩, 37) := ⟨⟨by decide +kernel, by decide +kernel⟩, List.mem_of_getElem? (i := 1144) (by decide +kernel), List.mem_of_getElem? (i := 1418) (by decide +kernel), List.mem_of_getElem? (i := 1419) (by decide +kernel)⟩
theorem lw_p52 : lw_okq (⟨"SlowerForTheLateModel", "begins", "()V"⟩, 37) := ⟨⟨by decide +kernel, by decide +kernel⟩, List.mem_of_getElem? (i := 1144) (by decide +kernel), List.mem_of_getElem? (i := 1422) (by decide +kernel), List.mem_of_getElem? (i := 1423) (by decide +kernel)⟩
theorem lw_p53 : lw_okq (⟨"SlowerForTheLateModel", "nextTrain", "()I"⟩, 37) := ⟨⟨by decide +kernel, by decide +kernel⟩, List.mem_of_getElem? (i := 1144) (by decide +kernel), List.mem_of_getElem? (i := 1426) (by decide +kernel), List.mem_of_getElem? (i := 1427) (by decide +kernel)⟩
theorem lw_p54 : lw_okq (⟨"SlowerForTheLateModel", "stops", "(I)V"⟩, 37) := ⟨⟨by decide +kernel, by decide +kernel⟩, List.mem_of_getElem? (i := 1144) (by decide +kernel), List.mem_of_getElem? (i := 1430) (by decide +kernel), List.mem_of_getElem? (i := 1431) (by decide +kernel)⟩
theorem lw_p55 : lw_okq (⟨"SlowerForTheLateModel", "getsOff", "(I)V"⟩, 37) := ⟨⟨by decide +kernel, by decide +kernel⟩, List.mem_of_getElem? (i := 1144) (by decide +kernel), List.mem_of_getElem? (i := 1434) (by decide +kernel), List.mem_of_getElem? (i := 1435) (by decide +kernel)⟩
theorem lw_p56 : lw_okq (⟨"SlowerForTheLateModel", "asks", "(I)I"⟩, 37) := ⟨⟨by decide +kernel, by decide +kernel⟩, List.mem_of_getElem? (i := 1144) (by decide +kernel), List.mem_of_getElem? (i := 1438) (by decide +kernel), List.mem_of_getElem? (i := 1439) (by decide +kernel)⟩
theorem lw_p57 : lw_okq (⟨"SlowerForTheLateModel", "from", "(I)I"⟩, 37) := ⟨⟨by decide +kernel, by decide +kernel⟩, List.mem_of_getElem? (i := 1144) (by decide +kernel), List.mem_of_getElem? (i := 1442) (by decide +kernel), List.mem_of_getElem? (i := 1443) (by decide +kernel)⟩
theorem lw_p58 : lw_okq (⟨"SlowerForTheLateModel", "isAskedAhead", "(II)Z"⟩, 37) := ⟨⟨by decide +kernel, by decide +kernel⟩, List.mem_of_getElem? (i := 1144) (by decide +kernel), List.mem_of_getElem? (i := 1446) (by decide +kernel), List.mem_of_getElem? (i := 1447) (by decide +kernel)⟩
theorem lw_p59 : lw_okq (⟨"SlowerForTheLateModel", "tries", "(II)V"⟩, 37) := ⟨⟨by decide +kernel, by decide +kernel⟩, List.mem_of_getElem? (i := 1144) (by decide +kernel), List.mem_of_getElem? (i := 1450) (by decide +kernel), List.mem_of_getElem? (i := 1451) (by decide +kernel)⟩
theorem lw_p60 : lw_okq (⟨"SlowerForTheLateModel", "latest", "()I"⟩, 37) := ⟨⟨by decide +kernel, by decide +kernel⟩, List.mem_of_getElem? (i := 1144) (by decide +kernel), List.mem_of_getElem? (i := 1462) (by decide +kernel), List.mem_of_getElem? (i := 1463) (by decide +kernel)⟩
theorem lw_p61 : lw_okq (⟨"SlowerForTheLateModel", "sumOf", "(II)I"⟩, 37) := ⟨⟨by decide +kernel, by decide +kernel⟩, List.mem_of_getElem? (i := 1144) (by decide +kernel), List.mem_of_getElem? (i := 1466) (by decide +kernel), List.mem_of_getElem? (i := 1467) (by decide +kernel)⟩
theorem lw_p62 : lw_okq (⟨"SlowerForTheLateModel", "arrivesWith", "(II)I"⟩, 37) := ⟨⟨by decide +kernel, by decide +kernel⟩, List.mem_of_getElem? (i := 1144) (by decide +kernel), List.mem_of_getElem? (i := 1482) (by decide +kernel), List.mem_of_getElem? (i := 1483) (by decide +kernel)⟩
theorem lw_p63 : lw_okq (⟨"SlowerForTheLateModel", "arrives", "(I)I"⟩, 37) := ⟨⟨by decide +kernel, by decide +kernel⟩, List.mem_of_getElem? (i := 1144) (by decide +kernel), List.mem_of_getElem? (i := 1486) (by decide +kernel), List.mem_of_getElem? (i := 1487) (by decide +kernel)⟩
def lw_privs_4 : List (MethodName × Nat) := [(⟨"SlowerForTheLateModel", "wouldTake", "(II)Z"⟩, 37), (⟨"SlowerForTheLateModel", "refundOf", "(II)I"⟩, 37), (⟨"SlowerForTheLateModel", "wrongKept", "(I)I"⟩, 37), (⟨"SlowerForTheLateModel", "goes", "()V"⟩, 37), (⟨"SlowerForTheLateModel", "begins", "()V"⟩, 37), (⟨"SlowerForTheLateModel", "nextTrain", "()I"⟩, 37), (⟨"SlowerForTheLateModel", "stops", "(I)V"⟩, 37), (⟨"SlowerForTheLateModel", "getsOff", "(I)V"⟩, 37), (⟨"SlowerForTheLateModel", "asks", "(I)I"⟩, 37), (⟨"SlowerForTheLateModel", "from", "(I)I"⟩, 37), (⟨"SlowerForTheLateModel", "isAskedAhead", "(II)Z"⟩, 37), (⟨"SlowerForTheLateModel", "tries", "(II)V"⟩, 37), (⟨"SlowerForTheLateModel", "latest", "()I"⟩, 37), (⟨"SlowerForTheLateModel", "sumOf", "(II)I"⟩, 37), (⟨"SlowerForTheLateModel", "arrivesWith", "(II)I"⟩, 37), (⟨"SlowerForTheLateModel", "arrives", "(I)I"⟩, 37)]
theorem lw_r4 : ∀ q ∈ lw_privs_4, lw_okq q := List.forall_mem_cons.mpr ⟨lw_p48, List.forall_mem_cons.mpr ⟨lw_p49, List.forall_mem_cons.mpr ⟨lw_p50, List.forall_mem_cons.mpr ⟨lw_p51, List.forall_mem_cons.mpr ⟨lw_p52, List.forall_mem_cons.mpr ⟨lw_p53, List.forall_mem_cons.mpr ⟨lw_p54, List.forall_mem_cons.mpr ⟨lw_p55, List.forall_mem_cons.mpr ⟨lw_p56, List.forall_mem_cons.mpr ⟨lw_p57, List.forall_mem_cons.mpr ⟨lw_p58, List.forall_mem_cons.mpr ⟨lw_p59, List.forall_mem_cons.mpr ⟨lw_p60, List.forall_mem_cons.mpr ⟨lw_p61, List.forall_mem_cons.mpr ⟨lw_p62, List.forall_mem_cons.mpr ⟨lw_p63, fun _ h => absurd h List.not_mem_nil⟩⟩⟩⟩⟩⟩⟩⟩⟩⟩⟩⟩⟩⟩⟩⟩
theorem lw_p64 : lw_okq (⟨"SlowerForTheLateModel", "tens", "(I)V"⟩, 37) := ⟨⟨by decide +kernel, by decide +kernel⟩, List.mem_of_getElem? (i := 1144) (by decide +kernel), List.mem_of_getElem? (i := 1498) (by decide +kernel), List.mem_of_getElem? (i := 1499) (by decide +kernel)⟩
theorem lw_p65 : lw_okq (⟨"SlowerForTheLateModel", "choices", "(II)V"⟩, 37) := ⟨⟨by decide +kernel, by decide +kernel⟩, List.mem_of_getElem? (i := 1144) (by decide +kernel), List.mem_of_getElem? (i := 1514) (by decide +kernel), List.mem_of_getElem? (i := 1515) (by decide +kernel)⟩
theorem lw_p66 : lw_okq (⟨"SlowerForTheLateModel", "manyNow", "()I"⟩, 37) := ⟨⟨by decide +kernel, by decide +kernel⟩, List.mem_of_getElem? (i := 1144) (by decide +kernel), List.mem_of_getElem? (i := 1531) (by decide +kernel), List.mem_of_getElem? (i := 1532) (by decide +kernel)⟩
theorem lw_p67 : lw_okq (⟨"SlowerForTheLateModel", "arriveMany", "()I"⟩, 37) := ⟨⟨by decide +kernel, by decide +kernel⟩, List.mem_of_getElem? (i := 1144) (by decide +kernel), List.mem_of_getElem? (i := 1535) (by decide +kernel), List.mem_of_getElem? (i := 1536) (by decide +kernel)⟩
theorem lw_p68 : lw_okq (⟨"SlowerForTheLateModel", "goesWith", "(II)V"⟩, 37) := ⟨⟨by decide +kernel, by decide +kernel⟩, List.mem_of_getElem? (i := 1144) (by decide +kernel), List.mem_of_getElem? (i := 1551) (by decide +kernel), List.mem_of_getElem? (i := 1552) (by decide +kernel)⟩
theorem lw_p69 : lw_okq (⟨"SlowerForTheLateModel", "allMinutes", "()I"⟩, 37) := ⟨⟨by decide +kernel, by decide +kernel⟩, List.mem_of_getElem? (i := 1144) (by decide +kernel), List.mem_of_getElem? (i := 1563) (by decide +kernel), List.mem_of_getElem? (i := 1564) (by decide +kernel)⟩
theorem lw_p70 : lw_okq (⟨"SlowerForTheLateModel", "bestIn", "(IIII)I"⟩, 37) := ⟨⟨by decide +kernel, by decide +kernel⟩, List.mem_of_getElem? (i := 1144) (by decide +kernel), List.mem_of_getElem? (i := 1571) (by decide +kernel), List.mem_of_getElem? (i := 1572) (by decide +kernel)⟩
theorem lw_p71 : lw_okq (⟨"SlowerForTheLateModel", "wrongTickets", "(I)I"⟩, 37) := ⟨⟨by decide +kernel, by decide +kernel⟩, List.mem_of_getElem? (i := 1144) (by decide +kernel), List.mem_of_getElem? (i := 1592) (by decide +kernel), List.mem_of_getElem? (i := 1593) (by decide +kernel)⟩
theorem lw_p72 : lw_okq (⟨"SlowerForTheLateModel", "wrongTicket", "(I)I"⟩, 37) := ⟨⟨by decide +kernel, by decide +kernel⟩, List.mem_of_getElem? (i := 1144) (by decide +kernel), List.mem_of_getElem? (i := 1596) (by decide +kernel), List.mem_of_getElem? (i := 1597) (by decide +kernel)⟩
theorem lw_p73 : lw_okq (⟨"SlowerForTheLateModel", "leastOf", "(I)I"⟩, 37) := ⟨⟨by decide +kernel, by decide +kernel⟩, List.mem_of_getElem? (i := 1144) (by decide +kernel), List.mem_of_getElem? (i := 1600) (by decide +kernel), List.mem_of_getElem? (i := 1601) (by decide +kernel)⟩
theorem lw_p74 : lw_okq (⟨"SlowerForTheLateModel", "ticketOf", "(I)I"⟩, 37) := ⟨⟨by decide +kernel, by decide +kernel⟩, List.mem_of_getElem? (i := 1144) (by decide +kernel), List.mem_of_getElem? (i := 1605) (by decide +kernel), List.mem_of_getElem? (i := 1606) (by decide +kernel)⟩
theorem lw_p75 : lw_okq (⟨"SlowerForTheLateModel", "placeAt", "(II)I"⟩, 37) := ⟨⟨by decide +kernel, by decide +kernel⟩, List.mem_of_getElem? (i := 1144) (by decide +kernel), List.mem_of_getElem? (i := 1625) (by decide +kernel), List.mem_of_getElem? (i := 1626) (by decide +kernel)⟩
theorem lw_p76 : lw_okq (⟨"SlowerForTheLateModel", "drawn", "(I)I"⟩, 37) := ⟨⟨by decide +kernel, by decide +kernel⟩, List.mem_of_getElem? (i := 1144) (by decide +kernel), List.mem_of_getElem? (i := 1633) (by decide +kernel), List.mem_of_getElem? (i := 1634) (by decide +kernel)⟩
def lw_privs_5 : List (MethodName × Nat) := [(⟨"SlowerForTheLateModel", "tens", "(I)V"⟩, 37), (⟨"SlowerForTheLateModel", "choices", "(II)V"⟩, 37), (⟨"SlowerForTheLateModel", "manyNow", "()I"⟩, 37), (⟨"SlowerForTheLateModel", "arriveMany", "()I"⟩, 37), (⟨"SlowerForTheLateModel", "goesWith", "(II)V"⟩, 37), (⟨"SlowerForTheLateModel", "allMinutes", "()I"⟩, 37), (⟨"SlowerForTheLateModel", "bestIn", "(IIII)I"⟩, 37), (⟨"SlowerForTheLateModel", "wrongTickets", "(I)I"⟩, 37), (⟨"SlowerForTheLateModel", "wrongTicket", "(I)I"⟩, 37), (⟨"SlowerForTheLateModel", "leastOf", "(I)I"⟩, 37), (⟨"SlowerForTheLateModel", "ticketOf", "(I)I"⟩, 37), (⟨"SlowerForTheLateModel", "placeAt", "(II)I"⟩, 37), (⟨"SlowerForTheLateModel", "drawn", "(I)I"⟩, 37)]
theorem lw_r5 : ∀ q ∈ lw_privs_5, lw_okq q := List.forall_mem_cons.mpr ⟨lw_p64, List.forall_mem_cons.mpr ⟨lw_p65, List.forall_mem_cons.mpr ⟨lw_p66, List.forall_mem_cons.mpr ⟨lw_p67, List.forall_mem_cons.mpr ⟨lw_p68, List.forall_mem_cons.mpr ⟨lw_p69, List.forall_mem_cons.mpr ⟨lw_p70, List.forall_mem_cons.mpr ⟨lw_p71, List.forall_mem_cons.mpr ⟨lw_p72, List.forall_mem_cons.mpr ⟨lw_p73, List.forall_mem_cons.mpr ⟨lw_p74, List.forall_mem_cons.mpr ⟨lw_p75, List.forall_mem_cons.mpr ⟨lw_p76, fun _ h => absurd h List.not_mem_nil⟩⟩⟩⟩⟩⟩⟩⟩⟩⟩⟩⟩⟩
def lw_privs : List (MethodName × Nat) := lw_privs_1 ++ (lw_privs_2 ++ (lw_privs_3 ++ (lw_privs_4 ++ (lw_privs_5))))
def lw_tbl : List Cond := k2_sels lw_privs ++ tables_1
theorem lw_privs_ok : ∀ q ∈ lw_privs, lw_okq q := by
  show ∀ q ∈ lw_privs_1 ++ (lw_privs_2 ++ (lw_privs_3 ++ (lw_privs_4 ++ (lw_privs_5)))), lw_okq q
  exact List.forall_mem_append.mpr ⟨lw_r1, List.forall_mem_append.mpr ⟨lw_r2, List.forall_mem_append.mpr ⟨lw_r3, List.forall_mem_append.mpr ⟨lw_r4, lw_r5⟩⟩⟩⟩
-- ===== end of PART A; then your names; then what follows =====
def RX0 : String := "SlowerForTheLate$Aimer"
def TX0 : u_T := fun k => match k with
  | 0 => ("SlowerForTheLate$Walker", "kind", "I", true)
  | _ => ("SlowerForTheLate$Walker", "figure", "I", true)
def tyX0 : Nat → FieldType := fun k => match k with
  | 0 => .int
  | _ => .int
abbrev wsX00 : List Cond := u_ws RX0 TX0 2
theorem nmX0 : ∀ a, a < 2 → ∀ b, b < 2 → a ≠ b → (TX0 a).2.1 ≠ (TX0 b).2.1 := by decide +kernel
theorem tyX0_ok : ∀ k, k < 2 → parseFieldDescriptor (TX0 k).2.2.1 = some (tyX0 k) := by decide +kernel
abbrev cX0_init : ByteArray := prog_2_method_1_code
def yX0_init : MethodName := ⟨RX0, "<init>", "(II)V"⟩
abbrev cX0_excuse : ByteArray := prog_2_method_2_code
def yX0_excuse : MethodName := ⟨RX0, "excuse", "()I"⟩
abbrev cX0_boards : ByteArray := prog_2_method_3_code
def yX0_boards : MethodName := ⟨RX0, "boards", "(I)Z"⟩
abbrev cX0_price : ByteArray := prog_2_method_4_code
def yX0_price : MethodName := ⟨RX0, "price", "()I"⟩
abbrev cX0_fail : ByteArray := prog_2_method_5_code
def yX0_fail : MethodName := ⟨RX0, "fail", "()V"⟩
def RX1 : String := "SlowerForTheLate$Lover"
def TX1 : u_T := fun k => match k with
  | 0 => ("SlowerForTheLate$Walker", "kind", "I", true)
  | _ => ("SlowerForTheLate$Walker", "figure", "I", true)
def tyX1 : Nat → FieldType := fun k => match k with
  | 0 => .int
  | _ => .int
abbrev wsX10 : List Cond := u_ws RX1 TX1 2
theorem nmX1 : ∀ a, a < 2 → ∀ b, b < 2 → a ≠ b → (TX1 a).2.1 ≠ (TX1 b).2.1 := by decide +kernel
theorem tyX1_ok : ∀ k, k < 2 → parseFieldDescriptor (TX1 k).2.2.1 = some (tyX1 k) := by decide +kernel
abbrev cX1_init : ByteArray := prog_3_method_1_code
def yX1_init : MethodName := ⟨RX1, "<init>", "(II)V"⟩
abbrev cX1_comesAt : ByteArray := prog_3_method_2_code
def yX1_comesAt : MethodName := ⟨RX1, "comesAt", "(I)I"⟩
abbrev cX1_excuse : ByteArray := prog_3_method_3_code
def yX1_excuse : MethodName := ⟨RX1, "excuse", "()I"⟩
abbrev cX1_rank : ByteArray := prog_3_method_4_code
def yX1_rank : MethodName := ⟨RX1, "rank", "()I"⟩
abbrev cX1_price : ByteArray := prog_3_method_5_code
def yX1_price : MethodName := ⟨RX1, "price", "()I"⟩
def RX2 : String := "SlowerForTheLate$Parent"
def TX2 : u_T := fun k => match k with
  | 0 => ("SlowerForTheLate$Walker", "kind", "I", true)
  | _ => ("SlowerForTheLate$Walker", "figure", "I", true)
def tyX2 : Nat → FieldType := fun k => match k with
  | 0 => .int
  | _ => .int
abbrev wsX20 : List Cond := u_ws RX2 TX2 2
theorem nmX2 : ∀ a, a < 2 → ∀ b, b < 2 → a ≠ b → (TX2 a).2.1 ≠ (TX2 b).2.1 := by decide +kernel
theorem tyX2_ok : ∀ k, k < 2 → parseFieldDescriptor (TX2 k).2.2.1 = some (tyX2 k) := by decide +kernel
abbrev cX2_init : ByteArray := prog_4_method_1_code
def yX2_init : MethodName := ⟨RX2, "<init>", "(II)V"⟩
abbrev cX2_excuse : ByteArray := prog_4_method_2_code
def yX2_excuse : MethodName := ⟨RX2, "excuse", "()I"⟩
abbrev cX2_places : ByteArray := prog_4_method_3_code
def yX2_places : MethodName := ⟨RX2, "places", "()I"⟩
abbrev cX2_refundFor : ByteArray := prog_4_method_4_code
def yX2_refundFor : MethodName := ⟨RX2, "refundFor", "(I)I"⟩
abbrev cX2_price : ByteArray := prog_4_method_5_code
def yX2_price : MethodName := ⟨RX2, "price", "()I"⟩
def RX3 : String := "SlowerForTheLate$Plan"
def TX3 : u_T := fun k => match k with
  | 0 => ("SlowerForTheLate$Plan", "people", "I", false)
  | 1 => ("SlowerForTheLate$Plan", "ones", "[LSlowerForTheLate$Walker;", true)
  | 2 => ("SlowerForTheLate$Plan", "from", "[I", true)
  | 3 => ("SlowerForTheLate$Plan", "to", "[I", true)
  | 4 => ("SlowerForTheLate$Plan", "base", "[I", true)
  | 5 => ("SlowerForTheLate$Plan", "trains", "I", false)
  | 6 => ("SlowerForTheLate$Plan", "start", "[I", true)
  | 7 => ("SlowerForTheLate$Plan", "seats", "[I", true)
  | 8 => ("SlowerForTheLate$Plan", "cancelled", "[Z", true)
  | 9 => ("SlowerForTheLate$Plan", "runs", "[I", true)
  | _ => ("SlowerForTheLate$Plan", "rules", "[I", true)
def tyX3 : Nat → FieldType := fun k => match k with
  | 0 => .int
  | 1 => .array (.object "SlowerForTheLate$Walker")
  | 2 => .array .int
  | 3 => .array .int
  | 4 => .array .int
  | 5 => .int
  | 6 => .array .int
  | 7 => .array .int
  | 8 => .array .boolean
  | 9 => .array .int
  | _ => .array .int
abbrev wsX30 : List Cond := u_ws RX3 TX3 11
theorem nmX3 : ∀ a, a < 11 → ∀ b, b < 11 → a ≠ b → (TX3 a).2.1 ≠ (TX3 b).2.1 := by decide +kernel
theorem tyX3_ok : ∀ k, k < 11 → parseFieldDescriptor (TX3 k).2.2.1 = some (tyX3 k) := by decide +kernel
abbrev cX3_init : ByteArray := prog_5_method_1_code
def yX3_init : MethodName := ⟨RX3, "<init>", "()V"⟩
abbrev cX3_isStop : ByteArray := prog_5_method_2_code
def yX3_isStop : MethodName := ⟨RX3, "isStop", "(I)Z"⟩
abbrev cX3_isPiece : ByteArray := prog_5_method_3_code
def yX3_isPiece : MethodName := ⟨RX3, "isPiece", "(I)Z"⟩
abbrev cX3_isRun : ByteArray := prog_5_method_4_code
def yX3_isRun : MethodName := ⟨RX3, "isRun", "(I)Z"⟩
abbrev cX3_isStart : ByteArray := prog_5_method_5_code
def yX3_isStart : MethodName := ⟨RX3, "isStart", "(I)Z"⟩
abbrev cX3_isSeats : ByteArray := prog_5_method_6_code
def yX3_isSeats : MethodName := ⟨RX3, "isSeats", "(I)Z"⟩
abbrev cX3_isBase : ByteArray := prog_5_method_7_code
def yX3_isBase : MethodName := ⟨RX3, "isBase", "(I)Z"⟩
abbrev cX3_isRule : ByteArray := prog_5_method_8_code
def yX3_isRule : MethodName := ⟨RX3, "isRule", "(II)Z"⟩
abbrev cX3_numberOf : ByteArray := prog_5_method_9_code
def yX3_numberOf : MethodName := ⟨RX3, "numberOf", "(II)I"⟩
abbrev cX3_isPerson : ByteArray := prog_5_method_10_code
def yX3_isPerson : MethodName := ⟨RX3, "isPerson", "(I)Z"⟩
abbrev cX3_isTrain : ByteArray := prog_5_method_11_code
def yX3_isTrain : MethodName := ⟨RX3, "isTrain", "(I)Z"⟩
abbrev cX3_addPerson : ByteArray := prog_5_method_12_code
def yX3_addPerson : MethodName := ⟨RX3, "addPerson", "(LSlowerForTheLate$Walker;III)Z"⟩
abbrev cX3_dropPerson : ByteArray := prog_5_method_13_code
def yX3_dropPerson : MethodName := ⟨RX3, "dropPerson", "(I)V"⟩
abbrev cX3_addTrain : ByteArray := prog_5_method_14_code
def yX3_addTrain : MethodName := ⟨RX3, "addTrain", "(II)Z"⟩
abbrev cX3_turnCancelled : ByteArray := prog_5_method_15_code
def yX3_turnCancelled : MethodName := ⟨RX3, "turnCancelled", "(I)V"⟩
abbrev cX3_cancelledBits : ByteArray := prog_5_method_16_code
def yX3_cancelledBits : MethodName := ⟨RX3, "cancelledBits", "()I"⟩
abbrev cX3_allRuns : ByteArray := prog_5_method_17_code
def yX3_allRuns : MethodName := ⟨RX3, "allRuns", "()I"⟩
abbrev cX3_ride : ByteArray := prog_5_method_18_code
def yX3_ride : MethodName := ⟨RX3, "ride", "(II)I"⟩
abbrev cX3_become : ByteArray := prog_5_method_19_code
def yX3_become : MethodName := ⟨RX3, "become", "(LSlowerForTheLate$Plan;)V"⟩
abbrev cX3_tell : ByteArray := prog_5_method_20_code
def yX3_tell : MethodName := ⟨RX3, "tell", "(LSlowerForTheLate$Row;I)Z"⟩
abbrev cX3_tellRun : ByteArray := prog_5_method_21_code
def yX3_tellRun : MethodName := ⟨RX3, "tellRun", "(II)Z"⟩
abbrev cX3_tellTrain : ByteArray := prog_5_method_22_code
def yX3_tellTrain : MethodName := ⟨RX3, "tellTrain", "(II)Z"⟩
abbrev cX3_tellPerson : ByteArray := prog_5_method_23_code
def yX3_tellPerson : MethodName := ⟨RX3, "tellPerson", "(LSlowerForTheLate$Row;I)Z"⟩
abbrev cX3_tellRule : ByteArray := prog_5_method_24_code
def yX3_tellRule : MethodName := ⟨RX3, "tellRule", "(II)Z"⟩
abbrev cX3_tellCancelled : ByteArray := prog_5_method_25_code
def yX3_tellCancelled : MethodName := ⟨RX3, "tellCancelled", "(I)Z"⟩
def RX4 : String := "SlowerForTheLate$Row"
def TX4 : u_T := fun k => match k with
  | 0 => ("SlowerForTheLate$Row", "sort", "I", true)
  | _ => ("SlowerForTheLate$Row", "cells", "[I", true)
def tyX4 : Nat → FieldType := fun k => match k with
  | 0 => .int
  | _ => .array .int
abbrev wsX40 : List Cond := u_ws RX4 TX4 2
theorem nmX4 : ∀ a, a < 2 → ∀ b, b < 2 → a ≠ b → (TX4 a).2.1 ≠ (TX4 b).2.1 := by decide +kernel
theorem tyX4_ok : ∀ k, k < 2 → parseFieldDescriptor (TX4 k).2.2.1 = some (tyX4 k) := by decide +kernel
abbrev cX4_init : ByteArray := prog_6_method_1_code
def yX4_init : MethodName := ⟨RX4, "<init>", "(II)V"⟩
abbrev cX4_size : ByteArray := prog_6_method_2_code
def yX4_size : MethodName := ⟨RX4, "size", "()I"⟩
abbrev cX4_has : ByteArray := prog_6_method_3_code
def yX4_has : MethodName := ⟨RX4, "has", "(I)Z"⟩
abbrev cX4_hasRun : ByteArray := prog_6_method_4_code
def yX4_hasRun : MethodName := ⟨RX4, "hasRun", "(II)Z"⟩
abbrev cX4_at : ByteArray := prog_6_method_5_code
def yX4_at : MethodName := ⟨RX4, "at", "(I)I"⟩
abbrev cX4_write : ByteArray := prog_6_method_6_code
def yX4_write : MethodName := ⟨RX4, "write", "(II)V"⟩
abbrev cX4_narrowed : ByteArray := prog_6_method_7_code
def yX4_narrowed : MethodName := ⟨RX4, "narrowed", "(I)I"⟩
abbrev cX4_isSkipped : ByteArray := prog_6_method_8_code
def yX4_isSkipped : MethodName := ⟨RX4, "isSkipped", "(I)Z"⟩
abbrev cX4_number : ByteArray := prog_6_method_9_code
def yX4_number : MethodName := ⟨RX4, "number", "(II)I"⟩
def RX5 : String := "SlowerForTheLate$Runner"
def TX5 : u_T := fun k => match k with
  | 0 => ("SlowerForTheLate$Walker", "kind", "I", true)
  | _ => ("SlowerForTheLate$Walker", "figure", "I", true)
def tyX5 : Nat → FieldType := fun k => match k with
  | 0 => .int
  | _ => .int
abbrev wsX50 : List Cond := u_ws RX5 TX5 2
theorem nmX5 : ∀ a, a < 2 → ∀ b, b < 2 → a ≠ b → (TX5 a).2.1 ≠ (TX5 b).2.1 := by decide +kernel
theorem tyX5_ok : ∀ k, k < 2 → parseFieldDescriptor (TX5 k).2.2.1 = some (tyX5 k) := by decide +kernel
abbrev cX5_init : ByteArray := prog_7_method_1_code
def yX5_init : MethodName := ⟨RX5, "<init>", "(II)V"⟩
abbrev cX5_comesAt : ByteArray := prog_7_method_2_code
def yX5_comesAt : MethodName := ⟨RX5, "comesAt", "(I)I"⟩
abbrev cX5_excuse : ByteArray := prog_7_method_3_code
def yX5_excuse : MethodName := ⟨RX5, "excuse", "()I"⟩
abbrev cX5_rank : ByteArray := prog_7_method_4_code
def yX5_rank : MethodName := ⟨RX5, "rank", "()I"⟩
abbrev cX5_price : ByteArray := prog_7_method_5_code
def yX5_price : MethodName := ⟨RX5, "price", "()I"⟩
def RX6 : String := "SlowerForTheLate$Sleeper"
def TX6 : u_T := fun k => match k with
  | 0 => ("SlowerForTheLate$Walker", "kind", "I", true)
  | _ => ("SlowerForTheLate$Walker", "figure", "I", true)
def tyX6 : Nat → FieldType := fun k => match k with
  | 0 => .int
  | _ => .int
abbrev wsX60 : List Cond := u_ws RX6 TX6 2
theorem nmX6 : ∀ a, a < 2 → ∀ b, b < 2 → a ≠ b → (TX6 a).2.1 ≠ (TX6 b).2.1 := by decide +kernel
theorem tyX6_ok : ∀ k, k < 2 → parseFieldDescriptor (TX6 k).2.2.1 = some (tyX6 k) := by decide +kernel
abbrev cX6_init : ByteArray := prog_8_method_1_code
def yX6_init : MethodName := ⟨RX6, "<init>", "(II)V"⟩
abbrev cX6_excuse : ByteArray := prog_8_method_2_code
def yX6_excuse : MethodName := ⟨RX6, "excuse", "()I"⟩
abbrev cX6_offAt : ByteArray := prog_8_method_3_code
def yX6_offAt : MethodName := ⟨RX6, "offAt", "(I)I"⟩
abbrev cX6_price : ByteArray := prog_8_method_4_code
def yX6_price : MethodName := ⟨RX6, "price", "()I"⟩
def RX7 : String := "SlowerForTheLate$Staff"
def TX7 : u_T := fun k => match k with
  | 0 => ("SlowerForTheLate$Walker", "kind", "I", true)
  | _ => ("SlowerForTheLate$Walker", "figure", "I", true)
def tyX7 : Nat → FieldType := fun k => match k with
  | 0 => .int
  | _ => .int
abbrev wsX70 : List Cond := u_ws RX7 TX7 2
theorem nmX7 : ∀ a, a < 2 → ∀ b, b < 2 → a ≠ b → (TX7 a).2.1 ≠ (TX7 b).2.1 := by decide +kernel
theorem tyX7_ok : ∀ k, k < 2 → parseFieldDescriptor (TX7 k).2.2.1 = some (tyX7 k) := by decide +kernel
abbrev cX7_init : ByteArray := prog_9_method_1_code
def yX7_init : MethodName := ⟨RX7, "<init>", "(II)V"⟩
abbrev cX7_comesAt : ByteArray := prog_9_method_2_code
def yX7_comesAt : MethodName := ⟨RX7, "comesAt", "(I)I"⟩
abbrev cX7_excuse : ByteArray := prog_9_method_3_code
def yX7_excuse : MethodName := ⟨RX7, "excuse", "()I"⟩
abbrev cX7_rank : ByteArray := prog_9_method_4_code
def yX7_rank : MethodName := ⟨RX7, "rank", "()I"⟩
abbrev cX7_refundFor : ByteArray := prog_9_method_5_code
def yX7_refundFor : MethodName := ⟨RX7, "refundFor", "(I)I"⟩
abbrev cX7_price : ByteArray := prog_9_method_6_code
def yX7_price : MethodName := ⟨RX7, "price", "()I"⟩
abbrev cX7_fail : ByteArray := prog_9_method_7_code
def yX7_fail : MethodName := ⟨RX7, "fail", "()V"⟩
def RX8 : String := "SlowerForTheLate$Tardy"
def TX8 : u_T := fun k => match k with
  | 0 => ("SlowerForTheLate$Walker", "kind", "I", true)
  | _ => ("SlowerForTheLate$Walker", "figure", "I", true)
def tyX8 : Nat → FieldType := fun k => match k with
  | 0 => .int
  | _ => .int
abbrev wsX80 : List Cond := u_ws RX8 TX8 2
theorem nmX8 : ∀ a, a < 2 → ∀ b, b < 2 → a ≠ b → (TX8 a).2.1 ≠ (TX8 b).2.1 := by decide +kernel
theorem tyX8_ok : ∀ k, k < 2 → parseFieldDescriptor (TX8 k).2.2.1 = some (tyX8 k) := by decide +kernel
abbrev cX8_init : ByteArray := prog_10_method_1_code
def yX8_init : MethodName := ⟨RX8, "<init>", "(II)V"⟩
abbrev cX8_comesAt : ByteArray := prog_10_method_2_code
def yX8_comesAt : MethodName := ⟨RX8, "comesAt", "(I)I"⟩
abbrev cX8_excuse : ByteArray := prog_10_method_3_code
def yX8_excuse : MethodName := ⟨RX8, "excuse", "()I"⟩
abbrev cX8_refundFor : ByteArray := prog_10_method_4_code
def yX8_refundFor : MethodName := ⟨RX8, "refundFor", "(I)I"⟩
abbrev cX8_price : ByteArray := prog_10_method_5_code
def yX8_price : MethodName := ⟨RX8, "price", "()I"⟩
abbrev cX8_fail : ByteArray := prog_10_method_6_code
def yX8_fail : MethodName := ⟨RX8, "fail", "()V"⟩
def RX9 : String := "SlowerForTheLate$Trip"
def TX9 : u_T := fun k => match k with
  | 0 => ("SlowerForTheLate$Trip", "comesAt", "[I", true)
  | 1 => ("SlowerForTheLate$Trip", "turn", "[I", true)
  | 2 => ("SlowerForTheLate$Trip", "mayBeLate", "[I", true)
  | 3 => ("SlowerForTheLate$Trip", "places", "[I", true)
  | 4 => ("SlowerForTheLate$Trip", "offAt", "[I", true)
  | 5 => ("SlowerForTheLate$Trip", "asked", "[I", true)
  | 6 => ("SlowerForTheLate$Trip", "people", "I", false)
  | 7 => ("SlowerForTheLate$Trip", "ticket", "[I", true)
  | 8 => ("SlowerForTheLate$Trip", "onAt", "[I", true)
  | 9 => ("SlowerForTheLate$Trip", "arrivedAt", "[I", true)
  | 10 => ("SlowerForTheLate$Trip", "pushed", "[I", true)
  | 11 => ("SlowerForTheLate$Trip", "missed", "[I", true)
  | 12 => ("SlowerForTheLate$Trip", "minuteAt", "[I", true)
  | 13 => ("SlowerForTheLate$Trip", "aboardFrom", "[I", true)
  | 14 => ("SlowerForTheLate$Trip", "mostTaken", "[I", true)
  | 15 => ("SlowerForTheLate$Trip", "aboardBits", "[I", true)
  | 16 => ("SlowerForTheLate$Trip", "taken", "[I", true)
  | 17 => ("SlowerForTheLate$Trip", "queue", "[I", true)
  | _ => ("SlowerForTheLate$Trip", "running", "I", false)
def tyX9 : Nat → FieldType := fun k => match k with
  | 0 => .array .int
  | 1 => .array .int
  | 2 => .array .int
  | 3 => .array .int
  | 4 => .array .int
  | 5 => .array .int
  | 6 => .int
  | 7 => .array .int
  | 8 => .array .int
  | 9 => .array .int
  | 10 => .array .int
  | 11 => .array .int
  | 12 => .array .int
  | 13 => .array .int
  | 14 => .array .int
  | 15 => .array .int
  | 16 => .array .int
  | 17 => .array .int
  | _ => .int
abbrev wsX90 : List Cond := u_ws RX9 TX9 19
theorem nmX9 : ∀ a, a < 19 → ∀ b, b < 19 → a ≠ b → (TX9 a).2.1 ≠ (TX9 b).2.1 := by decide +kernel
theorem tyX9_ok : ∀ k, k < 19 → parseFieldDescriptor (TX9 k).2.2.1 = some (tyX9 k) := by decide +kernel
abbrev cX9_init : ByteArray := prog_11_method_1_code
def yX9_init : MethodName := ⟨RX9, "<init>", "()V"⟩
abbrev cX9_place : ByteArray := prog_11_method_2_code
def yX9_place : MethodName := ⟨RX9, "place", "(III)I"⟩
abbrev cX9_arrives : ByteArray := prog_11_method_3_code
def yX9_arrives : MethodName := ⟨RX9, "arrives", "(I)Z"⟩
abbrev cX9_arrivalOf : ByteArray := prog_11_method_4_code
def yX9_arrivalOf : MethodName := ⟨RX9, "arrivalOf", "(I)I"⟩
abbrev cX9_missedBy : ByteArray := prog_11_method_5_code
def yX9_missedBy : MethodName := ⟨RX9, "missedBy", "(I)I"⟩
abbrev cX9_arriving : ByteArray := prog_11_method_6_code
def yX9_arriving : MethodName := ⟨RX9, "arriving", "()I"⟩
abbrev cX9_latest : ByteArray := prog_11_method_7_code
def yX9_latest : MethodName := ⟨RX9, "latest", "()I"⟩
abbrev cX9_allArrivals : ByteArray := prog_11_method_8_code
def yX9_allArrivals : MethodName := ⟨RX9, "allArrivals", "()I"⟩
abbrev cX9_go : ByteArray := prog_11_method_9_code
def yX9_go : MethodName := ⟨RX9, "go", "(LSlowerForTheLate$Plan;I)V"⟩
abbrev cX9_setPeople : ByteArray := prog_11_method_10_code
def yX9_setPeople : MethodName := ⟨RX9, "setPeople", "(LSlowerForTheLate$Plan;)V"⟩
abbrev cX9_line : ByteArray := prog_11_method_11_code
def yX9_line : MethodName := ⟨RX9, "line", "(I)V"⟩
abbrev cX9_setTrains : ByteArray := prog_11_method_12_code
def yX9_setTrains : MethodName := ⟨RX9, "setTrains", "(LSlowerForTheLate$Plan;I)V"⟩
abbrev cX9_orderTrains : ByteArray := prog_11_method_13_code
def yX9_orderTrains : MethodName := ⟨RX9, "orderTrains", "(I)V"⟩
abbrev cX9_isAhead : ByteArray := prog_11_method_14_code
def yX9_isAhead : MethodName := ⟨RX9, "isAhead", "(III)Z"⟩
abbrev cX9_atStop : ByteArray := prog_11_method_15_code
def yX9_atStop : MethodName := ⟨RX9, "atStop", "(LSlowerForTheLate$Plan;II)V"⟩
abbrev cX9_letOff : ByteArray := prog_11_method_16_code
def yX9_letOff : MethodName := ⟨RX9, "letOff", "(II)Z"⟩
abbrev cX9_letOn : ByteArray := prog_11_method_17_code
def yX9_letOn : MethodName := ⟨RX9, "letOn", "(LSlowerForTheLate$Plan;II)Z"⟩
abbrev cX9_isLetOn : ByteArray := prog_11_method_18_code
def yX9_isLetOn : MethodName := ⟨RX9, "isLetOn", "(LSlowerForTheLate$Plan;III)Z"⟩
abbrev cX9_may : ByteArray := prog_11_method_19_code
def yX9_may : MethodName := ⟨RX9, "may", "(LSlowerForTheLate$Plan;II)Z"⟩
def RX10 : String := "SlowerForTheLate$Walker"
def TX10 : u_T := fun k => match k with
  | 0 => ("SlowerForTheLate$Walker", "kind", "I", true)
  | _ => ("SlowerForTheLate$Walker", "figure", "I", true)
def tyX10 : Nat → FieldType := fun k => match k with
  | 0 => .int
  | _ => .int
abbrev wsX100 : List Cond := u_ws RX10 TX10 2
theorem nmX10 : ∀ a, a < 2 → ∀ b, b < 2 → a ≠ b → (TX10 a).2.1 ≠ (TX10 b).2.1 := by decide +kernel
theorem tyX10_ok : ∀ k, k < 2 → parseFieldDescriptor (TX10 k).2.2.1 = some (tyX10 k) := by decide +kernel
abbrev cX10_init : ByteArray := prog_12_method_1_code
def yX10_init : MethodName := ⟨RX10, "<init>", "(II)V"⟩
abbrev cX10_isKind : ByteArray := prog_12_method_2_code
def yX10_isKind : MethodName := ⟨RX10, "isKind", "(I)Z"⟩
abbrev cX10_isFigure : ByteArray := prog_12_method_3_code
def yX10_isFigure : MethodName := ⟨RX10, "isFigure", "(I)Z"⟩
abbrev cX10_ofKind : ByteArray := prog_12_method_4_code
def yX10_ofKind : MethodName := ⟨RX10, "ofKind", "(II)LSlowerForTheLate$Walker;"⟩
abbrev cX10_comesAt : ByteArray := prog_12_method_5_code
def yX10_comesAt : MethodName := ⟨RX10, "comesAt", "(I)I"⟩
abbrev cX10_excuse : ByteArray := prog_12_method_6_code
def yX10_excuse : MethodName := ⟨RX10, "excuse", "()I"⟩
abbrev cX10_rank : ByteArray := prog_12_method_7_code
def yX10_rank : MethodName := ⟨RX10, "rank", "()I"⟩
abbrev cX10_places : ByteArray := prog_12_method_8_code
def yX10_places : MethodName := ⟨RX10, "places", "()I"⟩
abbrev cX10_offAt : ByteArray := prog_12_method_9_code
def yX10_offAt : MethodName := ⟨RX10, "offAt", "(I)I"⟩
abbrev cX10_boards : ByteArray := prog_12_method_10_code
def yX10_boards : MethodName := ⟨RX10, "boards", "(I)Z"⟩
abbrev cX10_refundFor : ByteArray := prog_12_method_11_code
def yX10_refundFor : MethodName := ⟨RX10, "refundFor", "(I)I"⟩
abbrev cX10_price : ByteArray := prog_12_method_12_code
def yX10_price : MethodName := ⟨RX10, "price", "()I"⟩
abbrev cX10_fail : ByteArray := prog_12_method_13_code
def yX10_fail : MethodName := ⟨RX10, "fail", "()V"⟩
def RX11 : String := "SlowerForTheLate"
def TX11 : u_T := fun k => match k with
  | 0 => ("SlowerForTheLate", "now", "LSlowerForTheLate$Plan;", true)
  | 1 => ("SlowerForTheLate", "trial", "LSlowerForTheLate$Plan;", true)
  | 2 => ("SlowerForTheLate", "picture", "LSlowerForTheLate$Plan;", true)
  | 3 => ("SlowerForTheLate", "pictured", "Z", false)
  | 4 => ("SlowerForTheLate", "trip", "LSlowerForTheLate$Trip;", true)
  | 5 => ("SlowerForTheLate", "keptOnes", "[LSlowerForTheLate$Walker;", true)
  | 6 => ("SlowerForTheLate", "keptRows", "[LSlowerForTheLate$Row;", true)
  | 7 => ("SlowerForTheLate", "oneArrives", "[I", true)
  | _ => ("SlowerForTheLate", "otherArrives", "[I", true)
def tyX11 : Nat → FieldType := fun k => match k with
  | 0 => .object "SlowerForTheLate$Plan"
  | 1 => .object "SlowerForTheLate$Plan"
  | 2 => .object "SlowerForTheLate$Plan"
  | 3 => .boolean
  | 4 => .object "SlowerForTheLate$Trip"
  | 5 => .array (.object "SlowerForTheLate$Walker")
  | 6 => .array (.object "SlowerForTheLate$Row")
  | 7 => .array .int
  | _ => .array .int
abbrev wsX110 : List Cond := u_ws RX11 TX11 9
theorem nmX11 : ∀ a, a < 9 → ∀ b, b < 9 → a ≠ b → (TX11 a).2.1 ≠ (TX11 b).2.1 := by decide +kernel
theorem tyX11_ok : ∀ k, k < 9 → parseFieldDescriptor (TX11 k).2.2.1 = some (tyX11 k) := by decide +kernel
abbrev cX11_init : ByteArray := prog_1_method_1_code
def yX11_init : MethodName := ⟨RX11, "<init>", "()V"⟩
abbrev cX11_day : ByteArray := prog_1_method_2_code
def yX11_day : MethodName := ⟨RX11, "day", "(I)I"⟩
abbrev cX11_traveller : ByteArray := prog_1_method_3_code
def yX11_traveller : MethodName := ⟨RX11, "traveller", "(II)I"⟩
abbrev cX11_takes : ByteArray := prog_1_method_4_code
def yX11_takes : MethodName := ⟨RX11, "takes", "(II)I"⟩
abbrev cX11_refund : ByteArray := prog_1_method_5_code
def yX11_refund : MethodName := ⟨RX11, "refund", "(II)I"⟩
abbrev cX11_comes : ByteArray := prog_1_method_6_code
def yX11_comes : MethodName := ⟨RX11, "comes", "(IIII)I"⟩
abbrev cX11_leaves : ByteArray := prog_1_method_7_code
def yX11_leaves : MethodName := ⟨RX11, "leaves", "(I)I"⟩
abbrev cX11_base : ByteArray := prog_1_method_8_code
def yX11_base : MethodName := ⟨RX11, "base", "(II)I"⟩
abbrev cX11_train : ByteArray := prog_1_method_9_code
def yX11_train : MethodName := ⟨RX11, "train", "(II)I"⟩
abbrev cX11_about : ByteArray := prog_1_method_10_code
def yX11_about : MethodName := ⟨RX11, "about", "(II)I"⟩
abbrev cX11_cancels : ByteArray := prog_1_method_11_code
def yX11_cancels : MethodName := ⟨RX11, "cancels", "(I)I"⟩
abbrev cX11_run : ByteArray := prog_1_method_12_code
def yX11_run : MethodName := ⟨RX11, "run", "(II)I"⟩
abbrev cX11_set : ByteArray := prog_1_method_13_code
def yX11_set : MethodName := ⟨RX11, "set", "(II)I"⟩
abbrev cX11_fate : ByteArray := prog_1_method_14_code
def yX11_fate : MethodName := ⟨RX11, "fate", "(II)I"⟩
abbrev cX11_when : ByteArray := prog_1_method_15_code
def yX11_when : MethodName := ⟨RX11, "when", "(III)I"⟩
abbrev cX11_sums : ByteArray := prog_1_method_16_code
def yX11_sums : MethodName := ⟨RX11, "sums", "(I)I"⟩
abbrev cX11_aboard : ByteArray := prog_1_method_17_code
def yX11_aboard : MethodName := ⟨RX11, "aboard", "(III)I"⟩
abbrev cX11_fullest : ByteArray := prog_1_method_18_code
def yX11_fullest : MethodName := ⟨RX11, "fullest", "(II)I"⟩
abbrev cX11_later : ByteArray := prog_1_method_19_code
def yX11_later : MethodName := ⟨RX11, "later", "(II)I"⟩
abbrev cX11_slack : ByteArray := prog_1_method_20_code
def yX11_slack : MethodName := ⟨RX11, "slack", "(I)I"⟩
abbrev cX11_odds : ByteArray := prog_1_method_21_code
def yX11_odds : MethodName := ⟨RX11, "odds", "(I)I"⟩
abbrev cX11_mean : ByteArray := prog_1_method_22_code
def yX11_mean : MethodName := ⟨RX11, "mean", "(II)J"⟩
abbrev cX11_two : ByteArray := prog_1_method_23_code
def yX11_two : MethodName := ⟨RX11, "two", "(II)I"⟩
abbrev cX11_whose : ByteArray := prog_1_method_24_code
def yX11_whose : MethodName := ⟨RX11, "whose", "(I)I"⟩
abbrev cX11_together : ByteArray := prog_1_method_25_code
def yX11_together : MethodName := ⟨RX11, "together", "(II)I"⟩
abbrev cX11_cancel : ByteArray := prog_1_method_26_code
def yX11_cancel : MethodName := ⟨RX11, "cancel", "(I)I"⟩
abbrev cX11_strike : ByteArray := prog_1_method_27_code
def yX11_strike : MethodName := ⟨RX11, "strike", "()I"⟩
abbrev cX11_snow : ByteArray := prog_1_method_28_code
def yX11_snow : MethodName := ⟨RX11, "snow", "(I)I"⟩
abbrev cX11_law : ByteArray := prog_1_method_29_code
def yX11_law : MethodName := ⟨RX11, "law", "(I)I"⟩
abbrev cX11_bestLate : ByteArray := prog_1_method_30_code
def yX11_bestLate : MethodName := ⟨RX11, "bestLate", "()I"⟩
abbrev cX11_worth : ByteArray := prog_1_method_31_code
def yX11_worth : MethodName := ⟨RX11, "worth", "()I"⟩
abbrev cX11_bestGap : ByteArray := prog_1_method_32_code
def yX11_bestGap : MethodName := ⟨RX11, "bestGap", "()I"⟩
abbrev cX11_bestStart : ByteArray := prog_1_method_33_code
def yX11_bestStart : MethodName := ⟨RX11, "bestStart", "(I)I"⟩
abbrev cX11_need : ByteArray := prog_1_method_34_code
def yX11_need : MethodName := ⟨RX11, "need", "(I)I"⟩
abbrev cX11_extra : ByteArray := prog_1_method_35_code
def yX11_extra : MethodName := ⟨RX11, "extra", "()I"⟩
abbrev cX11_tickets : ByteArray := prog_1_method_36_code
def yX11_tickets : MethodName := ⟨RX11, "tickets", "(II)I"⟩
abbrev cX11_forged : ByteArray := prog_1_method_37_code
def yX11_forged : MethodName := ⟨RX11, "forged", "(I)I"⟩
abbrev cX11_came : ByteArray := prog_1_method_38_code
def yX11_came : MethodName := ⟨RX11, "came", "(III)I"⟩
abbrev cX11_sure : ByteArray := prog_1_method_39_code
def yX11_sure : MethodName := ⟨RX11, "sure", "(II)I"⟩
abbrev cX11_judge : ByteArray := prog_1_method_40_code
def yX11_judge : MethodName := ⟨RX11, "judge", "(II)I"⟩
abbrev cX11_mornings : ByteArray := prog_1_method_41_code
def yX11_mornings : MethodName := ⟨RX11, "mornings", "(III)I"⟩
abbrev cX11_image : ByteArray := prog_1_method_42_code
def yX11_image : MethodName := ⟨RX11, "image", "()I"⟩
abbrev cX11_restore : ByteArray := prog_1_method_43_code
def yX11_restore : MethodName := ⟨RX11, "restore", "()I"⟩
abbrev cX11_count : ByteArray := prog_1_method_44_code
def yX11_count : MethodName := ⟨RX11, "count", "(I)I"⟩
abbrev cX11_keep : ByteArray := prog_1_method_45_code
def yX11_keep : MethodName := ⟨RX11, "keep", "(IIII)I"⟩
abbrev cX11_row : ByteArray := prog_1_method_46_code
def yX11_row : MethodName := ⟨RX11, "row", "(III)I"⟩
abbrev cX11_put : ByteArray := prog_1_method_47_code
def yX11_put : MethodName := ⟨RX11, "put", "(III)I"⟩
abbrev cX11_element : ByteArray := prog_1_method_48_code
def yX11_element : MethodName := ⟨RX11, "element", "(II)J"⟩
abbrev cX11_copy : ByteArray := prog_1_method_49_code
def yX11_copy : MethodName := ⟨RX11, "copy", "(IIIII)I"⟩
abbrev cX11_cost : ByteArray := prog_1_method_50_code
def yX11_cost : MethodName := ⟨RX11, "cost", "(I)I"⟩
abbrev cX11_toss : ByteArray := prog_1_method_51_code
def yX11_toss : MethodName := ⟨RX11, "toss", "(I)I"⟩
abbrev cX11_isShelf : ByteArray := prog_1_method_52_code
def yX11_isShelf : MethodName := ⟨RX11, "isShelf", "(I)Z"⟩
abbrev cX11_isEmpty : ByteArray := prog_1_method_53_code
def yX11_isEmpty : MethodName := ⟨RX11, "isEmpty", "(I)Z"⟩
abbrev cX11_refusalOfRow : ByteArray := prog_1_method_54_code
def yX11_refusalOfRow : MethodName := ⟨RX11, "refusalOfRow", "(I)I"⟩
abbrev cX11_refusalOfTickets : ByteArray := prog_1_method_55_code
def yX11_refusalOfTickets : MethodName := ⟨RX11, "refusalOfTickets", "(I)I"⟩
abbrev cX11_refusalOfOne : ByteArray := prog_1_method_56_code
def yX11_refusalOfOne : MethodName := ⟨RX11, "refusalOfOne", "(I)I"⟩
abbrev cX11_digitsBehind : ByteArray := prog_1_method_57_code
def yX11_digitsBehind : MethodName := ⟨RX11, "digitsBehind", "(I)I"⟩
abbrev cX11_firstBadByte : ByteArray := prog_1_method_58_code
def yX11_firstBadByte : MethodName := ⟨RX11, "firstBadByte", "(LSlowerForTheLate$Row;)I"⟩
abbrev cX11_isDepth : ByteArray := prog_1_method_59_code
def yX11_isDepth : MethodName := ⟨RX11, "isDepth", "(I)Z"⟩
abbrev cX11_rideOf : ByteArray := prog_1_method_60_code
def yX11_rideOf : MethodName := ⟨RX11, "rideOf", "(II)I"⟩
abbrev cX11_allMissed : ByteArray := prog_1_method_61_code
def yX11_allMissed : MethodName := ⟨RX11, "allMissed", "()I"⟩
abbrev cX11_allWaited : ByteArray := prog_1_method_62_code
def yX11_allWaited : MethodName := ⟨RX11, "allWaited", "()I"⟩
abbrev cX11_allRefunds : ByteArray := prog_1_method_63_code
def yX11_allRefunds : MethodName := ⟨RX11, "allRefunds", "()I"⟩
abbrev cX11_whereabouts : ByteArray := prog_1_method_64_code
def yX11_whereabouts : MethodName := ⟨RX11, "whereabouts", "(II)I"⟩
abbrev cX11_arrivalFrom : ByteArray := prog_1_method_65_code
def yX11_arrivalFrom : MethodName := ⟨RX11, "arrivalFrom", "(II)I"⟩
abbrev cX11_arrivingWithLate : ByteArray := prog_1_method_66_code
def yX11_arrivingWithLate : MethodName := ⟨RX11, "arrivingWithLate", "(I)I"⟩
abbrev cX11_startOfLeastWorth : ByteArray := prog_1_method_67_code
def yX11_startOfLeastWorth : MethodName := ⟨RX11, "startOfLeastWorth", "(IIII)I"⟩
abbrev cX11_neitherGains : ByteArray := prog_1_method_68_code
def yX11_neitherGains : MethodName := ⟨RX11, "neitherGains", "(II)Z"⟩
abbrev cX11_firstMisfit : ByteArray := prog_1_method_69_code
def yX11_firstMisfit : MethodName := ⟨RX11, "firstMisfit", "(LSlowerForTheLate$Row;I)I"⟩
abbrev cX11_inLeastTerms : ByteArray := prog_1_method_70_code
def yX11_inLeastTerms : MethodName := ⟨RX11, "inLeastTerms", "(III)I"⟩
abbrev cX11_caught : ByteArray := prog_1_method_71_code
def yX11_caught : MethodName := ⟨RX11, "caught", "(LSlowerForTheLate$Walker;)I"⟩
def RX12 : String := "SlowerForTheLateModel"
def TX12 : u_T := fun k => match k with
  | 0 => ("SlowerForTheLateModel", "s", "[I", true)
  | 1 => ("SlowerForTheLateModel", "image", "[I", true)
  | 2 => ("SlowerForTheLateModel", "was", "[I", true)
  | 3 => ("SlowerForTheLateModel", "hasImage", "Z", false)
  | 4 => ("SlowerForTheLateModel", "stopOf", "[I", true)
  | 5 => ("SlowerForTheLateModel", "minuteOf", "[I", true)
  | 6 => ("SlowerForTheLateModel", "taken", "[I", true)
  | 7 => ("SlowerForTheLateModel", "fullest", "[I", true)
  | 8 => ("SlowerForTheLateModel", "whenAt", "[I", true)
  | 9 => ("SlowerForTheLateModel", "aboardAt", "[I", true)
  | 10 => ("SlowerForTheLateModel", "on", "[I", true)
  | 11 => ("SlowerForTheLateModel", "onAt", "[I", true)
  | 12 => ("SlowerForTheLateModel", "offAt", "[I", true)
  | 13 => ("SlowerForTheLateModel", "missedSet", "[I", true)
  | 14 => ("SlowerForTheLateModel", "missed", "[I", true)
  | 15 => ("SlowerForTheLateModel", "pushed", "[I", true)
  | 16 => ("SlowerForTheLateModel", "asked", "[I", true)
  | 17 => ("SlowerForTheLateModel", "away", "I", false)
  | 18 => ("SlowerForTheLateModel", "depths", "I", false)
  | 19 => ("SlowerForTheLateModel", "moved", "I", false)
  | 20 => ("SlowerForTheLateModel", "at", "I", false)
  | 21 => ("SlowerForTheLateModel", "rowAt", "I", false)
  | 22 => ("SlowerForTheLateModel", "rowEnd", "I", false)
  | 23 => ("SlowerForTheLateModel", "numbers", "[I", true)
  | 24 => ("SlowerForTheLateModel", "ofTen", "I", false)
  | 25 => ("SlowerForTheLateModel", "minutesOfTen", "I", false)
  | 26 => ("SlowerForTheLateModel", "firstAt", "[I", true)
  | 27 => ("SlowerForTheLateModel", "otherAt", "[I", true)
  | 28 => ("SlowerForTheLateModel", "seed", "I", false)
  | 29 => ("SlowerForTheLateModel", "ownBase", "[I", true)
  | 30 => ("SlowerForTheLateModel", "kept", "[I", true)
  | 31 => ("SlowerForTheLateModel", "keptKind", "[I", true)
  | 32 => ("SlowerForTheLateModel", "keptFigure", "[I", true)
  | 33 => ("SlowerForTheLateModel", "sort", "[I", true)
  | 34 => ("SlowerForTheLateModel", "size", "[I", true)
  | 35 => ("SlowerForTheLateModel", "element", "[I", true)
  | _ => ("SlowerForTheLateModel", "thrown", "I", false)
def tyX12 : Nat → FieldType := fun k => match k with
  | 0 => .array .int
  | 1 => .array .int
  | 2 => .array .int
  | 3 => .boolean
  | 4 => .array .int
  | 5 => .array .int
  | 6 => .array .int
  | 7 => .array .int
  | 8 => .array .int
  | 9 => .array .int
  | 10 => .array .int
  | 11 => .array .int
  | 12 => .array .int
  | 13 => .array .int
  | 14 => .array .int
  | 15 => .array .int
  | 16 => .array .int
  | 17 => .int
  | 18 => .int
  | 19 => .int
  | 20 => .int
  | 21 => .int
  | 22 => .int
  | 23 => .array .int
  | 24 => .int
  | 25 => .int
  | 26 => .array .int
  | 27 => .array .int
  | 28 => .int
  | 29 => .array .int
  | 30 => .array .int
  | 31 => .array .int
  | 32 => .array .int
  | 33 => .array .int
  | 34 => .array .int
  | 35 => .array .int
  | _ => .int
abbrev wsX120 : List Cond := u_ws RX12 TX12 37
theorem nmX12 : ∀ a, a < 37 → ∀ b, b < 37 → a ≠ b → (TX12 a).2.1 ≠ (TX12 b).2.1 := by decide +kernel
theorem tyX12_ok : ∀ k, k < 37 → parseFieldDescriptor (TX12 k).2.2.1 = some (tyX12 k) := by decide +kernel
abbrev cX12_init : ByteArray := prog_14_method_1_code
def yX12_init : MethodName := ⟨RX12, "<init>", "()V"⟩
abbrev cX12_isIn : ByteArray := prog_14_method_2_code
def yX12_isIn : MethodName := ⟨RX12, "isIn", "(III)Z"⟩
abbrev cX12_least : ByteArray := prog_14_method_3_code
def yX12_least : MethodName := ⟨RX12, "least", "(II)I"⟩
abbrev cX12_most : ByteArray := prog_14_method_4_code
def yX12_most : MethodName := ⟨RX12, "most", "(II)I"⟩
abbrev cX12_lays : ByteArray := prog_14_method_5_code
def yX12_lays : MethodName := ⟨RX12, "lays", "([I[I)V"⟩
abbrev cX12_has : ByteArray := prog_14_method_6_code
def yX12_has : MethodName := ⟨RX12, "has", "(II)Z"⟩
abbrev cX12_isTraveller : ByteArray := prog_14_method_7_code
def yX12_isTraveller : MethodName := ⟨RX12, "isTraveller", "(I)Z"⟩
abbrev cX12_isTrain : ByteArray := prog_14_method_8_code
def yX12_isTrain : MethodName := ⟨RX12, "isTrain", "(I)Z"⟩
abbrev cX12_kind : ByteArray := prog_14_method_9_code
def yX12_kind : MethodName := ⟨RX12, "kind", "(I)I"⟩
abbrev cX12_figure : ByteArray := prog_14_method_10_code
def yX12_figure : MethodName := ⟨RX12, "figure", "(I)I"⟩
abbrev cX12_from : ByteArray := prog_14_method_11_code
def yX12_from : MethodName := ⟨RX12, "from", "(I)I"⟩
abbrev cX12_to : ByteArray := prog_14_method_12_code
def yX12_to : MethodName := ⟨RX12, "to", "(I)I"⟩
abbrev cX12_baseOf : ByteArray := prog_14_method_13_code
def yX12_baseOf : MethodName := ⟨RX12, "baseOf", "(I)I"⟩
abbrev cX12_comesAt : ByteArray := prog_14_method_14_code
def yX12_comesAt : MethodName := ⟨RX12, "comesAt", "(I)I"⟩
abbrev cX12_excuseBy : ByteArray := prog_14_method_15_code
def yX12_excuseBy : MethodName := ⟨RX12, "excuseBy", "(II)I"⟩
abbrev cX12_rankOf : ByteArray := prog_14_method_16_code
def yX12_rankOf : MethodName := ⟨RX12, "rankOf", "(I)I"⟩
abbrev cX12_placesOf : ByteArray := prog_14_method_17_code
def yX12_placesOf : MethodName := ⟨RX12, "placesOf", "(I)I"⟩
abbrev cX12_offOf : ByteArray := prog_14_method_18_code
def yX12_offOf : MethodName := ⟨RX12, "offOf", "(I)I"⟩
abbrev cX12_wouldTake : ByteArray := prog_14_method_19_code
def yX12_wouldTake : MethodName := ⟨RX12, "wouldTake", "(II)Z"⟩
abbrev cX12_refundOf : ByteArray := prog_14_method_20_code
def yX12_refundOf : MethodName := ⟨RX12, "refundOf", "(II)I"⟩
abbrev cX12_begins : ByteArray := prog_14_method_21_code
def yX12_begins : MethodName := ⟨RX12, "begins", "()V"⟩
abbrev cX12_nextTrain : ByteArray := prog_14_method_22_code
def yX12_nextTrain : MethodName := ⟨RX12, "nextTrain", "()I"⟩
abbrev cX12_getsOff : ByteArray := prog_14_method_23_code
def yX12_getsOff : MethodName := ⟨RX12, "getsOff", "(I)V"⟩
abbrev cX12_isAskedAhead : ByteArray := prog_14_method_24_code
def yX12_isAskedAhead : MethodName := ⟨RX12, "isAskedAhead", "(II)Z"⟩
abbrev cX12_asks : ByteArray := prog_14_method_25_code
def yX12_asks : MethodName := ⟨RX12, "asks", "(I)I"⟩
abbrev cX12_tries : ByteArray := prog_14_method_26_code
def yX12_tries : MethodName := ⟨RX12, "tries", "(II)V"⟩
abbrev cX12_stops : ByteArray := prog_14_method_27_code
def yX12_stops : MethodName := ⟨RX12, "stops", "(I)V"⟩
abbrev cX12_goes : ByteArray := prog_14_method_28_code
def yX12_goes : MethodName := ⟨RX12, "goes", "()V"⟩
abbrev cX12_arrives : ByteArray := prog_14_method_29_code
def yX12_arrives : MethodName := ⟨RX12, "arrives", "(I)I"⟩
abbrev cX12_arriveMany : ByteArray := prog_14_method_30_code
def yX12_arriveMany : MethodName := ⟨RX12, "arriveMany", "()I"⟩
abbrev cX12_allMinutes : ByteArray := prog_14_method_31_code
def yX12_allMinutes : MethodName := ⟨RX12, "allMinutes", "()I"⟩
abbrev cX12_here : ByteArray := prog_14_method_32_code
def yX12_here : MethodName := ⟨RX12, "here", "()I"⟩
abbrev cX12_readsNumber : ByteArray := prog_14_method_33_code
def yX12_readsNumber : MethodName := ⟨RX12, "readsNumber", "(II)Z"⟩
abbrev cX12_readsStatement : ByteArray := prog_14_method_34_code
def yX12_readsStatement : MethodName := ⟨RX12, "readsStatement", "()Z"⟩
abbrev cX12_areStops : ByteArray := prog_14_method_35_code
def yX12_areStops : MethodName := ⟨RX12, "areStops", "(II)Z"⟩
abbrev cX12_addsTrain : ByteArray := prog_14_method_36_code
def yX12_addsTrain : MethodName := ⟨RX12, "addsTrain", "(II)V"⟩
abbrev cX12_isDone : ByteArray := prog_14_method_37_code
def yX12_isDone : MethodName := ⟨RX12, "isDone", "(I)Z"⟩
abbrev cX12_day : ByteArray := prog_14_method_38_code
def yX12_day : MethodName := ⟨RX12, "day", "(I)I"⟩
abbrev cX12_traveller : ByteArray := prog_14_method_39_code
def yX12_traveller : MethodName := ⟨RX12, "traveller", "(II)I"⟩
abbrev cX12_isDepth : ByteArray := prog_14_method_40_code
def yX12_isDepth : MethodName := ⟨RX12, "isDepth", "(I)Z"⟩
abbrev cX12_takes : ByteArray := prog_14_method_41_code
def yX12_takes : MethodName := ⟨RX12, "takes", "(II)I"⟩
abbrev cX12_refund : ByteArray := prog_14_method_42_code
def yX12_refund : MethodName := ⟨RX12, "refund", "(II)I"⟩
abbrev cX12_comes : ByteArray := prog_14_method_43_code
def yX12_comes : MethodName := ⟨RX12, "comes", "(IIII)I"⟩
abbrev cX12_leaves : ByteArray := prog_14_method_44_code
def yX12_leaves : MethodName := ⟨RX12, "leaves", "(I)I"⟩
abbrev cX12_base : ByteArray := prog_14_method_45_code
def yX12_base : MethodName := ⟨RX12, "base", "(II)I"⟩
abbrev cX12_train : ByteArray := prog_14_method_46_code
def yX12_train : MethodName := ⟨RX12, "train", "(II)I"⟩
abbrev cX12_about : ByteArray := prog_14_method_47_code
def yX12_about : MethodName := ⟨RX12, "about", "(II)I"⟩
abbrev cX12_cancels : ByteArray := prog_14_method_48_code
def yX12_cancels : MethodName := ⟨RX12, "cancels", "(I)I"⟩
abbrev cX12_run : ByteArray := prog_14_method_49_code
def yX12_run : MethodName := ⟨RX12, "run", "(II)I"⟩
abbrev cX12_set : ByteArray := prog_14_method_50_code
def yX12_set : MethodName := ⟨RX12, "set", "(II)I"⟩
abbrev cX12_fate : ByteArray := prog_14_method_51_code
def yX12_fate : MethodName := ⟨RX12, "fate", "(II)I"⟩
abbrev cX12_when : ByteArray := prog_14_method_52_code
def yX12_when : MethodName := ⟨RX12, "when", "(III)I"⟩
abbrev cX12_sumOf : ByteArray := prog_14_method_53_code
def yX12_sumOf : MethodName := ⟨RX12, "sumOf", "(II)I"⟩
abbrev cX12_latest : ByteArray := prog_14_method_54_code
def yX12_latest : MethodName := ⟨RX12, "latest", "()I"⟩
abbrev cX12_sums : ByteArray := prog_14_method_55_code
def yX12_sums : MethodName := ⟨RX12, "sums", "(I)I"⟩
abbrev cX12_aboard : ByteArray := prog_14_method_56_code
def yX12_aboard : MethodName := ⟨RX12, "aboard", "(III)I"⟩
abbrev cX12_fullest : ByteArray := prog_14_method_57_code
def yX12_fullest : MethodName := ⟨RX12, "fullest", "(II)I"⟩
abbrev cX12_arrivesWith : ByteArray := prog_14_method_58_code
def yX12_arrivesWith : MethodName := ⟨RX12, "arrivesWith", "(II)I"⟩
abbrev cX12_later : ByteArray := prog_14_method_59_code
def yX12_later : MethodName := ⟨RX12, "later", "(II)I"⟩
abbrev cX12_slack : ByteArray := prog_14_method_60_code
def yX12_slack : MethodName := ⟨RX12, "slack", "(I)I"⟩
abbrev cX12_tens : ByteArray := prog_14_method_61_code
def yX12_tens : MethodName := ⟨RX12, "tens", "(I)V"⟩
abbrev cX12_odds : ByteArray := prog_14_method_62_code
def yX12_odds : MethodName := ⟨RX12, "odds", "(I)I"⟩
abbrev cX12_gcd : ByteArray := prog_14_method_63_code
def yX12_gcd : MethodName := ⟨RX12, "gcd", "(JJ)J"⟩
abbrev cX12_mean : ByteArray := prog_14_method_64_code
def yX12_mean : MethodName := ⟨RX12, "mean", "(II)J"⟩
abbrev cX12_choices : ByteArray := prog_14_method_65_code
def yX12_choices : MethodName := ⟨RX12, "choices", "(II)V"⟩
abbrev cX12_two : ByteArray := prog_14_method_66_code
def yX12_two : MethodName := ⟨RX12, "two", "(II)I"⟩
abbrev cX12_whose : ByteArray := prog_14_method_67_code
def yX12_whose : MethodName := ⟨RX12, "whose", "(I)I"⟩
abbrev cX12_together : ByteArray := prog_14_method_68_code
def yX12_together : MethodName := ⟨RX12, "together", "(II)I"⟩
abbrev cX12_manyNow : ByteArray := prog_14_method_69_code
def yX12_manyNow : MethodName := ⟨RX12, "manyNow", "()I"⟩
abbrev cX12_cancel : ByteArray := prog_14_method_70_code
def yX12_cancel : MethodName := ⟨RX12, "cancel", "(I)I"⟩
abbrev cX12_strike : ByteArray := prog_14_method_71_code
def yX12_strike : MethodName := ⟨RX12, "strike", "()I"⟩
abbrev cX12_snow : ByteArray := prog_14_method_72_code
def yX12_snow : MethodName := ⟨RX12, "snow", "(I)I"⟩
abbrev cX12_goesWith : ByteArray := prog_14_method_73_code
def yX12_goesWith : MethodName := ⟨RX12, "goesWith", "(II)V"⟩
abbrev cX12_law : ByteArray := prog_14_method_74_code
def yX12_law : MethodName := ⟨RX12, "law", "(I)I"⟩
abbrev cX12_bestLate : ByteArray := prog_14_method_75_code
def yX12_bestLate : MethodName := ⟨RX12, "bestLate", "()I"⟩
abbrev cX12_worth : ByteArray := prog_14_method_76_code
def yX12_worth : MethodName := ⟨RX12, "worth", "()I"⟩
abbrev cX12_bestIn : ByteArray := prog_14_method_77_code
def yX12_bestIn : MethodName := ⟨RX12, "bestIn", "(IIII)I"⟩
abbrev cX12_bestGap : ByteArray := prog_14_method_78_code
def yX12_bestGap : MethodName := ⟨RX12, "bestGap", "()I"⟩
abbrev cX12_bestStart : ByteArray := prog_14_method_79_code
def yX12_bestStart : MethodName := ⟨RX12, "bestStart", "(I)I"⟩
abbrev cX12_need : ByteArray := prog_14_method_80_code
def yX12_need : MethodName := ⟨RX12, "need", "(I)I"⟩
abbrev cX12_extra : ByteArray := prog_14_method_81_code
def yX12_extra : MethodName := ⟨RX12, "extra", "()I"⟩
abbrev cX12_leastOf : ByteArray := prog_14_method_82_code
def yX12_leastOf : MethodName := ⟨RX12, "leastOf", "(I)I"⟩
abbrev cX12_ticketOf : ByteArray := prog_14_method_83_code
def yX12_ticketOf : MethodName := ⟨RX12, "ticketOf", "(I)I"⟩
abbrev cX12_wrongTicket : ByteArray := prog_14_method_84_code
def yX12_wrongTicket : MethodName := ⟨RX12, "wrongTicket", "(I)I"⟩
abbrev cX12_wrongTickets : ByteArray := prog_14_method_85_code
def yX12_wrongTickets : MethodName := ⟨RX12, "wrongTickets", "(I)I"⟩
abbrev cX12_tickets : ByteArray := prog_14_method_86_code
def yX12_tickets : MethodName := ⟨RX12, "tickets", "(II)I"⟩
abbrev cX12_forged : ByteArray := prog_14_method_87_code
def yX12_forged : MethodName := ⟨RX12, "forged", "(I)I"⟩
abbrev cX12_came : ByteArray := prog_14_method_88_code
def yX12_came : MethodName := ⟨RX12, "came", "(III)I"⟩
abbrev cX12_sure : ByteArray := prog_14_method_89_code
def yX12_sure : MethodName := ⟨RX12, "sure", "(II)I"⟩
abbrev cX12_placeAt : ByteArray := prog_14_method_90_code
def yX12_placeAt : MethodName := ⟨RX12, "placeAt", "(II)I"⟩
abbrev cX12_judge : ByteArray := prog_14_method_91_code
def yX12_judge : MethodName := ⟨RX12, "judge", "(II)I"⟩
abbrev cX12_drawn : ByteArray := prog_14_method_92_code
def yX12_drawn : MethodName := ⟨RX12, "drawn", "(I)I"⟩
abbrev cX12_mornings : ByteArray := prog_14_method_93_code
def yX12_mornings : MethodName := ⟨RX12, "mornings", "(III)I"⟩
abbrev cX12_image : ByteArray := prog_14_method_94_code
def yX12_image : MethodName := ⟨RX12, "image", "()I"⟩
abbrev cX12_restore : ByteArray := prog_14_method_95_code
def yX12_restore : MethodName := ⟨RX12, "restore", "()I"⟩
abbrev cX12_count : ByteArray := prog_14_method_96_code
def yX12_count : MethodName := ⟨RX12, "count", "(I)I"⟩
abbrev cX12_thrown : ByteArray := prog_14_method_97_code
def yX12_thrown : MethodName := ⟨RX12, "thrown", "()I"⟩
abbrev cX12_isShelf : ByteArray := prog_14_method_98_code
def yX12_isShelf : MethodName := ⟨RX12, "isShelf", "(I)Z"⟩
abbrev cX12_wrongRow : ByteArray := prog_14_method_99_code
def yX12_wrongRow : MethodName := ⟨RX12, "wrongRow", "(II)I"⟩
abbrev cX12_wrongKept : ByteArray := prog_14_method_100_code
def yX12_wrongKept : MethodName := ⟨RX12, "wrongKept", "(I)I"⟩
abbrev cX12_keep : ByteArray := prog_14_method_101_code
def yX12_keep : MethodName := ⟨RX12, "keep", "(IIII)I"⟩
abbrev cX12_row : ByteArray := prog_14_method_102_code
def yX12_row : MethodName := ⟨RX12, "row", "(III)I"⟩
abbrev cX12_put : ByteArray := prog_14_method_103_code
def yX12_put : MethodName := ⟨RX12, "put", "(III)I"⟩
abbrev cX12_element : ByteArray := prog_14_method_104_code
def yX12_element : MethodName := ⟨RX12, "element", "(II)J"⟩
abbrev cX12_copy : ByteArray := prog_14_method_105_code
def yX12_copy : MethodName := ⟨RX12, "copy", "(IIIII)I"⟩
abbrev cX12_costBy : ByteArray := prog_14_method_106_code
def yX12_costBy : MethodName := ⟨RX12, "costBy", "(II)I"⟩
abbrev cX12_cost : ByteArray := prog_14_method_107_code
def yX12_cost : MethodName := ⟨RX12, "cost", "(I)I"⟩
abbrev cX12_toss : ByteArray := prog_14_method_108_code
def yX12_toss : MethodName := ⟨RX12, "toss", "(I)I"⟩
def RJ6 : String := "java/lang/Integer"
def TJ6 : u_T := fun k => match k with
  | _ => ("", "", "", false)
def tyJ6 : Nat → FieldType := fun k => match k with
  | _ => .int
abbrev wsJ60 : List Cond := u_ws RJ6 TJ6 0
theorem nmJ6 : ∀ a, a < 0 → ∀ b, b < 0 → a ≠ b → (TJ6 a).2.1 ≠ (TJ6 b).2.1 := by decide +kernel
theorem tyJ6_ok : ∀ k, k < 0 → parseFieldDescriptor (TJ6 k).2.2.1 = some (tyJ6 k) := by decide +kernel
abbrev cJ6_bitCount_0f7a4 : ByteArray := prog_18_method_49_code
def yJ6_bitCount_0f7a4 : MethodName := ⟨RJ6, "bitCount", "(I)I"⟩
def RJ9 : String := "java/lang/Math"
def TJ9 : u_T := fun k => match k with
  | _ => ("", "", "", false)
def tyJ9 : Nat → FieldType := fun k => match k with
  | _ => .int
abbrev wsJ90 : List Cond := u_ws RJ9 TJ9 0
theorem nmJ9 : ∀ a, a < 0 → ∀ b, b < 0 → a ≠ b → (TJ9 a).2.1 ≠ (TJ9 b).2.1 := by decide +kernel
theorem tyJ9_ok : ∀ k, k < 0 → parseFieldDescriptor (TJ9 k).2.2.1 = some (tyJ9 k) := by decide +kernel
abbrev cJ9_max_7cf53 : ByteArray := prog_19_method_65_code
def yJ9_max_7cf53 : MethodName := ⟨RJ9, "max", "(II)I"⟩
abbrev cJ9_min_7cf53 : ByteArray := prog_19_method_69_code
def yJ9_min_7cf53 : MethodName := ⟨RJ9, "min", "(II)I"⟩
def RJ0 : String := "java/lang/String"
def TJ0 : u_T := fun k => match k with
  | _ => ("", "", "", false)
def tyJ0 : Nat → FieldType := fun k => match k with
  | _ => .int
abbrev wsJ00 : List Cond := u_ws RJ0 TJ0 0
theorem nmJ0 : ∀ a, a < 0 → ∀ b, b < 0 → a ≠ b → (TJ0 a).2.1 ≠ (TJ0 b).2.1 := by decide +kernel
theorem tyJ0_ok : ∀ k, k < 0 → parseFieldDescriptor (TJ0 k).2.2.1 = some (tyJ0 k) := by decide +kernel
def RJ10 : String := "java/lang/System"
def TJ10 : u_T := fun k => match k with
  | _ => ("", "", "", false)
def tyJ10 : Nat → FieldType := fun k => match k with
  | _ => .int
abbrev wsJ100 : List Cond := u_ws RJ10 TJ10 0
theorem nmJ10 : ∀ a, a < 0 → ∀ b, b < 0 → a ≠ b → (TJ10 a).2.1 ≠ (TJ10 b).2.1 := by decide +kernel
theorem tyJ10_ok : ∀ k, k < 0 → parseFieldDescriptor (TJ10 k).2.2.1 = some (tyJ10 k) := by decide +kernel
def RL : String := "SlowerForTheLateLaw"
abbrev cL_element : ByteArray := method_3_code
def yL_element : MethodName := ⟨RL, "element", "(LSlowerForTheLate;II[J)I"⟩
abbrev cL_law : ByteArray := code
def yL_law : MethodName := ⟨RL, "law", "([I)Z"⟩
abbrev vwCl : List vw_C := [(RX0, TX0, 2), (RX1, TX1, 2), (RX2, TX2, 2), (RX3, TX3, 11), (RX4, TX4, 2), (RX5, TX5, 2), (RX6, TX6, 2), (RX7, TX7, 2), (RX8, TX8, 2), (RX9, TX9, 19), (RX10, TX10, 2), (RX11, TX11, 9), (RX12, TX12, 37)]
