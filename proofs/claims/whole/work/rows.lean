section
-- ===== PART A: goes FIRST, ahead of the names: the tables' words, and 'selects' of the private methods out of them =====
/-- a private method of a class that the tables say can be made, by its rows of tables_1 -/
def lw_okq (q : MethodName × Nat) : Prop := (q.1.cls ≠ "java/lang/invoke/MethodHandle" ∧ q.1.cls ≠ "java/lang/invoke/VarHandle") ∧ Cond.instantiable q.1.cls q.2 ∈ tables_1 ∧ Cond.privateMethod q.1 ∈ tables_1 ∧ Cond.instanceMethod q.1 ∈ tables_1
theorem lw_p0 : lw_okq (⟨"TwinArray", "numbered", "(I)LTwinArray$Controller;"⟩, 6) := ⟨⟨by decide +kernel, by decide +kernel⟩, List.mem_of_getElem? (i := 17) (by decide +kernel), List.mem_of_getElem? (i := 344) (by decide +kernel), List.mem_of_getElem? (i := 345) (by decide +kernel)⟩
theorem lw_p1 : lw_okq (⟨"TwinArray", "partnerOf", "(LTwinArray$Controller;)LTwinArray$Controller;"⟩, 6) := ⟨⟨by decide +kernel, by decide +kernel⟩, List.mem_of_getElem? (i := 17) (by decide +kernel), List.mem_of_getElem? (i := 376) (by decide +kernel), List.mem_of_getElem? (i := 377) (by decide +kernel)⟩
theorem lw_p2 : lw_okq (⟨"TwinArray", "send", "(LTwinArray$Controller;IIIII)V"⟩, 6) := ⟨⟨by decide +kernel, by decide +kernel⟩, List.mem_of_getElem? (i := 17) (by decide +kernel), List.mem_of_getElem? (i := 380) (by decide +kernel), List.mem_of_getElem? (i := 381) (by decide +kernel)⟩
theorem lw_p3 : lw_okq (⟨"TwinArray", "goDown", "(LTwinArray$Controller;)V"⟩, 6) := ⟨⟨by decide +kernel, by decide +kernel⟩, List.mem_of_getElem? (i := 17) (by decide +kernel), List.mem_of_getElem? (i := 396) (by decide +kernel), List.mem_of_getElem? (i := 397) (by decide +kernel)⟩
theorem lw_p4 : lw_okq (⟨"TwinArray", "doFirstThatCanBeDone", "(LTwinArray$Controller;)I"⟩, 6) := ⟨⟨by decide +kernel, by decide +kernel⟩, List.mem_of_getElem? (i := 17) (by decide +kernel), List.mem_of_getElem? (i := 454) (by decide +kernel), List.mem_of_getElem? (i := 455) (by decide +kernel)⟩
theorem lw_p5 : lw_okq (⟨"TwinArray", "land", "(LTwinArray$Controller;)V"⟩, 6) := ⟨⟨by decide +kernel, by decide +kernel⟩, List.mem_of_getElem? (i := 17) (by decide +kernel), List.mem_of_getElem? (i := 458) (by decide +kernel), List.mem_of_getElem? (i := 459) (by decide +kernel)⟩
theorem lw_p6 : lw_okq (⟨"TwinArray", "goOnTakingOver", "(LTwinArray$Controller;)V"⟩, 6) := ⟨⟨by decide +kernel, by decide +kernel⟩, List.mem_of_getElem? (i := 17) (by decide +kernel), List.mem_of_getElem? (i := 466) (by decide +kernel), List.mem_of_getElem? (i := 467) (by decide +kernel)⟩
theorem lw_p7 : lw_okq (⟨"TwinArray", "repair", "(LTwinArray$Controller;I)V"⟩, 6) := ⟨⟨by decide +kernel, by decide +kernel⟩, List.mem_of_getElem? (i := 17) (by decide +kernel), List.mem_of_getElem? (i := 485) (by decide +kernel), List.mem_of_getElem? (i := 486) (by decide +kernel)⟩
theorem lw_p8 : lw_okq (⟨"TwinArray", "goOnDestaging", "(LTwinArray$Controller;)V"⟩, 6) := ⟨⟨by decide +kernel, by decide +kernel⟩, List.mem_of_getElem? (i := 17) (by decide +kernel), List.mem_of_getElem? (i := 498) (by decide +kernel), List.mem_of_getElem? (i := 499) (by decide +kernel)⟩
theorem lw_p9 : lw_okq (⟨"TwinArray", "finishDestaging", "(LTwinArray$Controller;)V"⟩, 6) := ⟨⟨by decide +kernel, by decide +kernel⟩, List.mem_of_getElem? (i := 17) (by decide +kernel), List.mem_of_getElem? (i := 507) (by decide +kernel), List.mem_of_getElem? (i := 508) (by decide +kernel)⟩
theorem lw_p10 : lw_okq (⟨"TwinArray", "releaseTaken", "(LTwinArray$Controller;II)V"⟩, 6) := ⟨⟨by decide +kernel, by decide +kernel⟩, List.mem_of_getElem? (i := 17) (by decide +kernel), List.mem_of_getElem? (i := 511) (by decide +kernel), List.mem_of_getElem? (i := 512) (by decide +kernel)⟩
theorem lw_p11 : lw_okq (⟨"TwinArray", "sendIfPaired", "(LTwinArray$Controller;III)V"⟩, 6) := ⟨⟨by decide +kernel, by decide +kernel⟩, List.mem_of_getElem? (i := 17) (by decide +kernel), List.mem_of_getElem? (i := 515) (by decide +kernel), List.mem_of_getElem? (i := 516) (by decide +kernel)⟩
theorem lw_p12 : lw_okq (⟨"TwinArray", "beginDestaging", "(LTwinArray$Controller;)V"⟩, 6) := ⟨⟨by decide +kernel, by decide +kernel⟩, List.mem_of_getElem? (i := 17) (by decide +kernel), List.mem_of_getElem? (i := 539) (by decide +kernel), List.mem_of_getElem? (i := 540) (by decide +kernel)⟩
theorem lw_p13 : lw_okq (⟨"TwinArray", "takeData", "(LTwinArray$Controller;II)V"⟩, 6) := ⟨⟨by decide +kernel, by decide +kernel⟩, List.mem_of_getElem? (i := 17) (by decide +kernel), List.mem_of_getElem? (i := 551) (by decide +kernel), List.mem_of_getElem? (i := 552) (by decide +kernel)⟩
theorem lw_p14 : lw_okq (⟨"TwinArray", "doFirstWithoutWrites", "(LTwinArray$Controller;)I"⟩, 6) := ⟨⟨by decide +kernel, by decide +kernel⟩, List.mem_of_getElem? (i := 17) (by decide +kernel), List.mem_of_getElem? (i := 559) (by decide +kernel), List.mem_of_getElem? (i := 560) (by decide +kernel)⟩
theorem lw_p15 : lw_okq (⟨"TwinArray", "beat", "(LTwinArray$Controller;)V"⟩, 6) := ⟨⟨by decide +kernel, by decide +kernel⟩, List.mem_of_getElem? (i := 17) (by decide +kernel), List.mem_of_getElem? (i := 563) (by decide +kernel), List.mem_of_getElem? (i := 564) (by decide +kernel)⟩
def lw_privs_1 : List (MethodName × Nat) := [(⟨"TwinArray", "numbered", "(I)LTwinArray$Controller;"⟩, 6), (⟨"TwinArray", "partnerOf", "(LTwinArray$Controller;)LTwinArray$Controller;"⟩, 6), (⟨"TwinArray", "send", "(LTwinArray$Controller;IIIII)V"⟩, 6), (⟨"TwinArray", "goDown", "(LTwinArray$Controller;)V"⟩, 6), (⟨"TwinArray", "doFirstThatCanBeDone", "(LTwinArray$Controller;)I"⟩, 6), (⟨"TwinArray", "land", "(LTwinArray$Controller;)V"⟩, 6), (⟨"TwinArray", "goOnTakingOver", "(LTwinArray$Controller;)V"⟩, 6), (⟨"TwinArray", "repair", "(LTwinArray$Controller;I)V"⟩, 6), (⟨"TwinArray", "goOnDestaging", "(LTwinArray$Controller;)V"⟩, 6), (⟨"TwinArray", "finishDestaging", "(LTwinArray$Controller;)V"⟩, 6), (⟨"TwinArray", "releaseTaken", "(LTwinArray$Controller;II)V"⟩, 6), (⟨"TwinArray", "sendIfPaired", "(LTwinArray$Controller;III)V"⟩, 6), (⟨"TwinArray", "beginDestaging", "(LTwinArray$Controller;)V"⟩, 6), (⟨"TwinArray", "takeData", "(LTwinArray$Controller;II)V"⟩, 6), (⟨"TwinArray", "doFirstWithoutWrites", "(LTwinArray$Controller;)I"⟩, 6), (⟨"TwinArray", "beat", "(LTwinArray$Controller;)V"⟩, 6)]
theorem lw_r1 : ∀ q ∈ lw_privs_1, lw_okq q := List.forall_mem_cons.mpr ⟨lw_p0, List.forall_mem_cons.mpr ⟨lw_p1, List.forall_mem_cons.mpr ⟨lw_p2, List.forall_mem_cons.mpr ⟨lw_p3, List.forall_mem_cons.mpr ⟨lw_p4, List.forall_mem_cons.mpr ⟨lw_p5, List.forall_mem_cons.mpr ⟨lw_p6, List.forall_mem_cons.mpr ⟨lw_p7, List.forall_mem_cons.mpr ⟨lw_p8, List.forall_mem_cons.mpr ⟨lw_p9, List.forall_mem_cons.mpr ⟨lw_p10, List.forall_mem_cons.mpr ⟨lw_p11, List.forall_mem_cons.mpr ⟨lw_p12, List.forall_mem_cons.mpr ⟨lw_p13, List.forall_mem_cons.mpr ⟨lw_p14, List.forall_mem_cons.mpr ⟨lw_p15, fun _ h => absurd h List.not_mem_nil⟩⟩⟩⟩⟩⟩⟩⟩⟩⟩⟩⟩⟩⟩⟩⟩
theorem lw_p16 : lw_okq (⟨"TwinArray", "notice", "(LTwinArray$Controller;II)V"⟩, 6) := ⟨⟨by decide +kernel, by decide +kernel⟩, List.mem_of_getElem? (i := 17) (by decide +kernel), List.mem_of_getElem? (i := 575) (by decide +kernel), List.mem_of_getElem? (i := 576) (by decide +kernel)⟩
theorem lw_p17 : lw_okq (⟨"TwinArray", "isAnyToBeTakenOverFirst", "()Z"⟩, 6) := ⟨⟨by decide +kernel, by decide +kernel⟩, List.mem_of_getElem? (i := 17) (by decide +kernel), List.mem_of_getElem? (i := 614) (by decide +kernel), List.mem_of_getElem? (i := 615) (by decide +kernel)⟩
theorem lw_p18 : lw_okq (⟨"TwinArray", "shareOutVolumes", "(Z)V"⟩, 6) := ⟨⟨by decide +kernel, by decide +kernel⟩, List.mem_of_getElem? (i := 17) (by decide +kernel), List.mem_of_getElem? (i := 623) (by decide +kernel), List.mem_of_getElem? (i := 624) (by decide +kernel)⟩
theorem lw_p19 : lw_okq (⟨"java/lang/Throwable", "fillInStackTrace", "(I)Ljava/lang/Throwable;"⟩, 6) := ⟨⟨by decide +kernel, by decide +kernel⟩, List.mem_of_getElem? (i := 774) (by decide +kernel), List.mem_of_getElem? (i := 772) (by decide +kernel), List.mem_of_getElem? (i := 773) (by decide +kernel)⟩
theorem lw_p20 : lw_okq (⟨"TwinArrayModel", "newTicket", "(III)I"⟩, 50) := ⟨⟨by decide +kernel, by decide +kernel⟩, List.mem_of_getElem? (i := 814) (by decide +kernel), List.mem_of_getElem? (i := 982) (by decide +kernel), List.mem_of_getElem? (i := 983) (by decide +kernel)⟩
theorem lw_p21 : lw_okq (⟨"TwinArrayModel", "keep", "(IIIZ)V"⟩, 50) := ⟨⟨by decide +kernel, by decide +kernel⟩, List.mem_of_getElem? (i := 814) (by decide +kernel), List.mem_of_getElem? (i := 986) (by decide +kernel), List.mem_of_getElem? (i := 987) (by decide +kernel)⟩
theorem lw_p22 : lw_okq (⟨"TwinArrayModel", "send", "(IIIIII)V"⟩, 50) := ⟨⟨by decide +kernel, by decide +kernel⟩, List.mem_of_getElem? (i := 814) (by decide +kernel), List.mem_of_getElem? (i := 990) (by decide +kernel), List.mem_of_getElem? (i := 991) (by decide +kernel)⟩
theorem lw_p23 : lw_okq (⟨"TwinArrayModel", "goesDown", "(I)V"⟩, 50) := ⟨⟨by decide +kernel, by decide +kernel⟩, List.mem_of_getElem? (i := 814) (by decide +kernel), List.mem_of_getElem? (i := 998) (by decide +kernel), List.mem_of_getElem? (i := 999) (by decide +kernel)⟩
theorem lw_p24 : lw_okq (⟨"TwinArrayModel", "isLost", "(I)Z"⟩, 50) := ⟨⟨by decide +kernel, by decide +kernel⟩, List.mem_of_getElem? (i := 814) (by decide +kernel), List.mem_of_getElem? (i := 1002) (by decide +kernel), List.mem_of_getElem? (i := 1003) (by decide +kernel)⟩
theorem lw_p25 : lw_okq (⟨"TwinArrayModel", "isMissing", "(II)Z"⟩, 50) := ⟨⟨by decide +kernel, by decide +kernel⟩, List.mem_of_getElem? (i := 814) (by decide +kernel), List.mem_of_getElem? (i := 1012) (by decide +kernel), List.mem_of_getElem? (i := 1013) (by decide +kernel)⟩
theorem lw_p26 : lw_okq (⟨"TwinArrayModel", "othersThere", "(II)Z"⟩, 50) := ⟨⟨by decide +kernel, by decide +kernel⟩, List.mem_of_getElem? (i := 814) (by decide +kernel), List.mem_of_getElem? (i := 1016) (by decide +kernel), List.mem_of_getElem? (i := 1017) (by decide +kernel)⟩
theorem lw_p27 : lw_okq (⟨"TwinArrayModel", "what", "(I)I"⟩, 50) := ⟨⟨by decide +kernel, by decide +kernel⟩, List.mem_of_getElem? (i := 814) (by decide +kernel), List.mem_of_getElem? (i := 1020) (by decide +kernel), List.mem_of_getElem? (i := 1021) (by decide +kernel)⟩
theorem lw_p28 : lw_okq (⟨"TwinArrayModel", "others", "(II)I"⟩, 50) := ⟨⟨by decide +kernel, by decide +kernel⟩, List.mem_of_getElem? (i := 814) (by decide +kernel), List.mem_of_getElem? (i := 1024) (by decide +kernel), List.mem_of_getElem? (i := 1025) (by decide +kernel)⟩
theorem lw_p29 : lw_okq (⟨"TwinArrayModel", "stepLands", "(I)V"⟩, 50) := ⟨⟨by decide +kernel, by decide +kernel⟩, List.mem_of_getElem? (i := 814) (by decide +kernel), List.mem_of_getElem? (i := 1040) (by decide +kernel), List.mem_of_getElem? (i := 1041) (by decide +kernel)⟩
theorem lw_p30 : lw_okq (⟨"TwinArrayModel", "lands", "(III)V"⟩, 50) := ⟨⟨by decide +kernel, by decide +kernel⟩, List.mem_of_getElem? (i := 814) (by decide +kernel), List.mem_of_getElem? (i := 1044) (by decide +kernel), List.mem_of_getElem? (i := 1045) (by decide +kernel)⟩
theorem lw_p31 : lw_okq (⟨"TwinArrayModel", "stepTakes", "(I)V"⟩, 50) := ⟨⟨by decide +kernel, by decide +kernel⟩, List.mem_of_getElem? (i := 814) (by decide +kernel), List.mem_of_getElem? (i := 1048) (by decide +kernel), List.mem_of_getElem? (i := 1049) (by decide +kernel)⟩
def lw_privs_2 : List (MethodName × Nat) := [(⟨"TwinArray", "notice", "(LTwinArray$Controller;II)V"⟩, 6), (⟨"TwinArray", "isAnyToBeTakenOverFirst", "()Z"⟩, 6), (⟨"TwinArray", "shareOutVolumes", "(Z)V"⟩, 6), (⟨"java/lang/Throwable", "fillInStackTrace", "(I)Ljava/lang/Throwable;"⟩, 6), (⟨"TwinArrayModel", "newTicket", "(III)I"⟩, 50), (⟨"TwinArrayModel", "keep", "(IIIZ)V"⟩, 50), (⟨"TwinArrayModel", "send", "(IIIIII)V"⟩, 50), (⟨"TwinArrayModel", "goesDown", "(I)V"⟩, 50), (⟨"TwinArrayModel", "isLost", "(I)Z"⟩, 50), (⟨"TwinArrayModel", "isMissing", "(II)Z"⟩, 50), (⟨"TwinArrayModel", "othersThere", "(II)Z"⟩, 50), (⟨"TwinArrayModel", "what", "(I)I"⟩, 50), (⟨"TwinArrayModel", "others", "(II)I"⟩, 50), (⟨"TwinArrayModel", "stepLands", "(I)V"⟩, 50), (⟨"TwinArrayModel", "lands", "(III)V"⟩, 50), (⟨"TwinArrayModel", "stepTakes", "(I)V"⟩, 50)]
theorem lw_r2 : ∀ q ∈ lw_privs_2, lw_okq q := List.forall_mem_cons.mpr ⟨lw_p16, List.forall_mem_cons.mpr ⟨lw_p17, List.forall_mem_cons.mpr ⟨lw_p18, List.forall_mem_cons.mpr ⟨lw_p19, List.forall_mem_cons.mpr ⟨lw_p20, List.forall_mem_cons.mpr ⟨lw_p21, List.forall_mem_cons.mpr ⟨lw_p22, List.forall_mem_cons.mpr ⟨lw_p23, List.forall_mem_cons.mpr ⟨lw_p24, List.forall_mem_cons.mpr ⟨lw_p25, List.forall_mem_cons.mpr ⟨lw_p26, List.forall_mem_cons.mpr ⟨lw_p27, List.forall_mem_cons.mpr ⟨lw_p28, List.forall_mem_cons.mpr ⟨lw_p29, List.forall_mem_cons.mpr ⟨lw_p30, List.forall_mem_cons.mpr ⟨lw_p31, fun _ h => absurd h List.not_mem_nil⟩⟩⟩⟩⟩⟩⟩⟩⟩⟩⟩⟩⟩⟩⟩⟩
theorem lw_p32 : lw_okq (⟨"TwinArrayModel", "lowest", "([ZI)I"⟩, 50) := ⟨⟨by decide +kernel, by decide +kernel⟩, List.mem_of_getElem? (i := 814) (by decide +kernel), List.mem_of_getElem? (i := 1052) (by decide +kernel), List.mem_of_getElem? (i := 1053) (by decide +kernel)⟩
theorem lw_p33 : lw_okq (⟨"TwinArrayModel", "stepRepairs", "(I)V"⟩, 50) := ⟨⟨by decide +kernel, by decide +kernel⟩, List.mem_of_getElem? (i := 814) (by decide +kernel), List.mem_of_getElem? (i := 1056) (by decide +kernel), List.mem_of_getElem? (i := 1057) (by decide +kernel)⟩
theorem lw_p34 : lw_okq (⟨"TwinArrayModel", "begins", "(IIII)V"⟩, 50) := ⟨⟨by decide +kernel, by decide +kernel⟩, List.mem_of_getElem? (i := 814) (by decide +kernel), List.mem_of_getElem? (i := 1060) (by decide +kernel), List.mem_of_getElem? (i := 1061) (by decide +kernel)⟩
theorem lw_p35 : lw_okq (⟨"TwinArrayModel", "stepDestages", "(I)V"⟩, 50) := ⟨⟨by decide +kernel, by decide +kernel⟩, List.mem_of_getElem? (i := 814) (by decide +kernel), List.mem_of_getElem? (i := 1064) (by decide +kernel), List.mem_of_getElem? (i := 1065) (by decide +kernel)⟩
theorem lw_p36 : lw_okq (⟨"TwinArrayModel", "dirtyAll", "(I)I"⟩, 50) := ⟨⟨by decide +kernel, by decide +kernel⟩, List.mem_of_getElem? (i := 814) (by decide +kernel), List.mem_of_getElem? (i := 1068) (by decide +kernel), List.mem_of_getElem? (i := 1069) (by decide +kernel)⟩
theorem lw_p37 : lw_okq (⟨"TwinArrayModel", "dirtyIn", "(II)I"⟩, 50) := ⟨⟨by decide +kernel, by decide +kernel⟩, List.mem_of_getElem? (i := 814) (by decide +kernel), List.mem_of_getElem? (i := 1072) (by decide +kernel), List.mem_of_getElem? (i := 1073) (by decide +kernel)⟩
theorem lw_p38 : lw_okq (⟨"TwinArrayModel", "stepTakesStripe", "(I)V"⟩, 50) := ⟨⟨by decide +kernel, by decide +kernel⟩, List.mem_of_getElem? (i := 814) (by decide +kernel), List.mem_of_getElem? (i := 1076) (by decide +kernel), List.mem_of_getElem? (i := 1077) (by decide +kernel)⟩
theorem lw_p39 : lw_okq (⟨"TwinArrayModel", "lowestNote", "(I)I"⟩, 50) := ⟨⟨by decide +kernel, by decide +kernel⟩, List.mem_of_getElem? (i := 814) (by decide +kernel), List.mem_of_getElem? (i := 1080) (by decide +kernel), List.mem_of_getElem? (i := 1081) (by decide +kernel)⟩
theorem lw_p40 : lw_okq (⟨"TwinArrayModel", "quiet", "(I)Z"⟩, 50) := ⟨⟨by decide +kernel, by decide +kernel⟩, List.mem_of_getElem? (i := 814) (by decide +kernel), List.mem_of_getElem? (i := 1104) (by decide +kernel), List.mem_of_getElem? (i := 1105) (by decide +kernel)⟩
theorem lw_p41 : lw_okq (⟨"TwinArrayModel", "ofAll", "(I)Z"⟩, 50) := ⟨⟨by decide +kernel, by decide +kernel⟩, List.mem_of_getElem? (i := 814) (by decide +kernel), List.mem_of_getElem? (i := 1108) (by decide +kernel), List.mem_of_getElem? (i := 1109) (by decide +kernel)⟩
theorem lw_p42 : lw_okq (⟨"TwinArrayModel", "greatest", "()I"⟩, 50) := ⟨⟨by decide +kernel, by decide +kernel⟩, List.mem_of_getElem? (i := 814) (by decide +kernel), List.mem_of_getElem? (i := 1116) (by decide +kernel), List.mem_of_getElem? (i := 1117) (by decide +kernel)⟩
theorem lw_p43 : lw_okq (⟨"TwinArrayModel", "bits", "([ZI)I"⟩, 50) := ⟨⟨by decide +kernel, by decide +kernel⟩, List.mem_of_getElem? (i := 814) (by decide +kernel), List.mem_of_getElem? (i := 1167) (by decide +kernel), List.mem_of_getElem? (i := 1168) (by decide +kernel)⟩
def lw_privs_3 : List (MethodName × Nat) := [(⟨"TwinArrayModel", "lowest", "([ZI)I"⟩, 50), (⟨"TwinArrayModel", "stepRepairs", "(I)V"⟩, 50), (⟨"TwinArrayModel", "begins", "(IIII)V"⟩, 50), (⟨"TwinArrayModel", "stepDestages", "(I)V"⟩, 50), (⟨"TwinArrayModel", "dirtyAll", "(I)I"⟩, 50), (⟨"TwinArrayModel", "dirtyIn", "(II)I"⟩, 50), (⟨"TwinArrayModel", "stepTakesStripe", "(I)V"⟩, 50), (⟨"TwinArrayModel", "lowestNote", "(I)I"⟩, 50), (⟨"TwinArrayModel", "quiet", "(I)Z"⟩, 50), (⟨"TwinArrayModel", "ofAll", "(I)Z"⟩, 50), (⟨"TwinArrayModel", "greatest", "()I"⟩, 50), (⟨"TwinArrayModel", "bits", "([ZI)I"⟩, 50)]
theorem lw_r3 : ∀ q ∈ lw_privs_3, lw_okq q := List.forall_mem_cons.mpr ⟨lw_p32, List.forall_mem_cons.mpr ⟨lw_p33, List.forall_mem_cons.mpr ⟨lw_p34, List.forall_mem_cons.mpr ⟨lw_p35, List.forall_mem_cons.mpr ⟨lw_p36, List.forall_mem_cons.mpr ⟨lw_p37, List.forall_mem_cons.mpr ⟨lw_p38, List.forall_mem_cons.mpr ⟨lw_p39, List.forall_mem_cons.mpr ⟨lw_p40, List.forall_mem_cons.mpr ⟨lw_p41, List.forall_mem_cons.mpr ⟨lw_p42, List.forall_mem_cons.mpr ⟨lw_p43, fun _ h => absurd h List.not_mem_nil⟩⟩⟩⟩⟩⟩⟩⟩⟩⟩⟩⟩
def lw_privs : List (MethodName × Nat) := lw_privs_1 ++ (lw_privs_2 ++ (lw_privs_3))
def lw_tbl : List Cond := k2_sels lw_privs ++ tables_1
theorem lw_privs_ok : ∀ q ∈ lw_privs, lw_okq q := by
  show ∀ q ∈ lw_privs_1 ++ (lw_privs_2 ++ (lw_privs_3)), lw_okq q
  exact List.forall_mem_append.mpr ⟨lw_r1, List.forall_mem_append.mpr ⟨lw_r2, lw_r3⟩⟩
end
section
/-! Values, layouts and memories of the whole system: a cell has a number, its ints are a function of number and place; a layout says what each cell is. -/
abbrev tw_A : Type := Int32 ⊕ (Option Nat ⊕ (Int32 ⊕ Unit))
abbrev tw_I (x : Int32) : tw_A := Sum.inl x
abbrev tw_R (q : Nat) : tw_A := Sum.inr (Sum.inl (some q))
abbrev tw_J (x : Int32) : tw_A := Sum.inr (Sum.inr (Sum.inl x))
abbrev tw_Z : tw_A := Sum.inr (Sum.inr (Sum.inr ()))
abbrev tw_K : Type := Nat × Nat × List (Option Nat)
abbrev tw_L : Type := List tw_K
abbrev tw_S : Type := Nat → Nat → Int32
def tw_nz (x : Int32) : Int32 := if x = 0 then 0 else 1
def tw_up (f : tw_S) (q i : Nat) (x : Int32) : tw_S := fun q' i' => if q' = q ∧ i' = i then x else f q' i'
def tw_v (b z : Nat) (a : tw_A) : Value := match a with
  | .inl x => .int x
  | .inr (.inl r) => va_rf (r.map (fun q => b + q))
  | .inr (.inr (.inl x)) => .long x.toInt64
  | .inr (.inr (.inr _)) => .ref z
def tw_ct (a : tw_A) : Nat := match a with
  | .inr (.inr (.inl _)) => 2
  | _ => 1
theorem tw_ct_v (b z : Nat) (a : tw_A) : (tw_v b z a).category = tw_ct a := by
  rcases a with x | r | x | u
  · rfl
  · cases r <;> rfl
  · rfl
  · rfl
theorem tw_nz_01 (x : Int32) : tw_nz x = 0 ∨ tw_nz x = 1 := by
  unfold tw_nz
  split
  · exact Or.inl rfl
  · exact Or.inr rfl
theorem tw_nz_of {x : Int32} (h : x = 0 ∨ x = 1) : tw_nz x = x := by
  rcases h with rfl | rfl
  · rfl
  · rfl
def tw_fv (t b : Nat) (r : Option Nat) (x : Int32) : Value := if t = 2 then va_rf (r.map (fun q => b + q)) else if t = 1 then .int (tw_nz x) else .int x
def tw_fa (t : Nat) (r : Option Nat) (x : Int32) : tw_A := if t = 2 then Sum.inr (Sum.inl r) else if t = 1 then tw_I (tw_nz x) else tw_I x
theorem tw_fa_v (b z t : Nat) (r : Option Nat) (x : Int32) : tw_v b z (tw_fa t r x) = tw_fv t b r x := by
  unfold tw_fa tw_fv
  by_cases h2 : t = 2
  · simp only [h2, if_true]; rfl
  · by_cases h1 : t = 1
    · simp only [if_neg h2, if_pos h1]; rfl
    · simp only [if_neg h2, if_neg h1]; rfl
def tw_fs (ft : Nat → Nat → Nat) (b q : Nat) (k : tw_K) (f : tw_S) : List Value := (List.range k.2.1).map fun i => tw_fv (ft k.1 i) b (k.2.2.getD i none) (f q i)
def tw_ar (t n : Nat) (f : Nat → Int32) : vp_A := if t = 100 then (n, .inl f) else if t = 101 then (n, .inl (fun j => tw_nz (f j))) else (n, .inr (.inl (fun j => (f j).toInt64)))
def tw_e (ft : Nat → Nat → Nat) (cA : Nat → ClassId) (b q : Nat) (k : tw_K) (f : tw_S) : va_E := if k.1 < 100 then .inr (k.1, tw_fs ft b q k f) else .inl (cA k.1, tw_ar k.1 k.2.1 (f q))
def tw_ws (ft : Nat → Nat → Nat) (cA : Nat → ClassId) (b : Nat) (L : tw_L) (f : tw_S) : va_W := L.mapIdx (fun q k => (b + q, tw_e ft cA b q k f))
section WORLD
variable {cl : List vw_C} {ft : Nat → Nat → Nat} {D : va_G} {cA : Nat → ClassId} {b : Nat} {fl : Bool} {L L' : tw_L} {f f' : tw_S} {H H1 : Heap} {q : Nat} {k : tw_K}
theorem tw_ws_at (h : L[q]? = some k) : (tw_ws ft cA b L f)[q]? = some (b + q, tw_e ft cA b q k f) := by
  unfold tw_ws
  rw [List.getElem?_mapIdx, h]
  rfl
theorem tw_ws_inv {i : Nat} {p : Nat × va_E} (h : (tw_ws ft cA b L f)[i]? = some p) : ∃ k, L[i]? = some k ∧ p = (b + i, tw_e ft cA b i k f) := by
  unfold tw_ws at h
  rw [List.getElem?_mapIdx] at h
  cases hk : L[i]? with
  | none => rw [hk] at h; cases h
  | some k => rw [hk] at h; exact ⟨k, rfl, (Option.some.inj h).symm⟩
theorem tw_D : va_D (fun x => b ≤ x) (tw_ws ft cA b L f) := by
  refine ⟨fun i j p r hi hj hpr => ?_, fun i p hi => ?_⟩
  · obtain ⟨k1, -, rfl⟩ := tw_ws_inv hi
    obtain ⟨k2, -, rfl⟩ := tw_ws_inv hj
    have h : b + i = b + j := hpr
    omega
  · obtain ⟨k1, -, rfl⟩ := tw_ws_inv hi
    exact Nat.le_add_right b i
def tw_W (cl : List vw_C) (ft : Nat → Nat → Nat) (D : va_G) (cA : Nat → ClassId) (b : Nat) (fl : Bool) (L : tw_L) (f : tw_S) (H : Heap) : Prop :=
  va_P D cl (tw_ws ft cA b L f) H ∧ b + L.length ≤ H.size ∧ (fl = true → H.size = b + L.length) ∧ ∀ (x : Nat) (cell : Cell), b ≤ x → H[x]? = some cell → cell.vm.isStatics = false
theorem va_at_ns {D : va_G} {cl : List vw_C} {q : Nat × va_E} {H : Heap} (h : va_at D cl q H) {cell : Cell} (hc : H[q.1]? = some cell) : cell.vm.isStatics = false := by
  obtain ⟨x, e⟩ := q
  cases e with
  | inl a =>
    have h2 : H[x]? = some (vp_cell a.1 a.2) := h
    have h3 : cell = vp_cell a.1 a.2 := Option.some.inj (hc.symm.trans h2)
    rw [h3]
    obtain ⟨c1, n1, a1⟩ := a
    rcases a1 with f | f | f | f | f <;> rfl
  | inr o =>
    obtain ⟨r, -, c2, h2, -, h3, -⟩ := h
    have h4 : cell = c2 := Option.some.inj (hc.symm.trans h2)
    rw [h4, h3]
    rfl
theorem tw_W.at (h : tw_W cl ft D cA b fl L f H) (hq : L[q]? = some k) : va_at D cl (b + q, tw_e ft cA b q k f) H := h.1 q _ (tw_ws_at hq)
theorem tw_W.put (h : tw_W cl ft D cA b fl L f H) (hl : L'.length = L.length) (hL : ∀ i, i ≠ q → L'[i]? = L[i]?) (hf : ∀ i, i ≠ q → f' i = f i) (hq : L'[q]? = some k) (he : va_at D cl (b + q, tw_e ft cA b q k f') H1) (hz : H1.size = H.size) (ho : ∀ x : Nat, x ≠ b + q → H1[x]? = H[x]?) : tw_W cl ft D cA b fl L' f' H1 := by
  refine ⟨fun i p hp => ?_, by rw [hz, hl]; exact h.2.1, fun g => by rw [hz, hl]; exact h.2.2.1 g, fun x cell hx hc => ?_⟩
  rotate_left
  · by_cases hq2 : x = b + q
    · subst hq2
      exact va_at_ns he hc
    · exact h.2.2.2 x cell hx ((ho x hq2).symm.trans hc)
  obtain ⟨k1, hk1, rfl⟩ := tw_ws_inv hp
  by_cases hi : i = q
  · subst hi
    rw [hq] at hk1
    cases hk1
    exact he
  · rw [hL i hi] at hk1
    have h2 : tw_e ft cA b i k1 f' = tw_e ft cA b i k1 f := by
      unfold tw_e tw_fs
      rw [hf i hi]
    rw [h2]
    exact (h.at hk1).kept (ho _ (by show b + i ≠ b + q; omega))
theorem tw_W.push (h : tw_W cl ft D cA b true L f H) (hf : ∀ i, i < L.length → f' i = f i) (he : va_at D cl (b + L.length, tw_e ft cA b L.length k f') H1) (hz : H1.size = H.size + 1) (ho : ∀ x : Nat, x < H.size → H1[x]? = H[x]?) : tw_W cl ft D cA b true (L ++ [k]) f' H1 := by
  have hs := h.2.2.1 rfl
  refine ⟨fun i p hp => ?_, by rw [hz, hs, List.length_append]; exact Nat.le_refl _, fun _ => by rw [hz, hs, List.length_append]; rfl, fun x cell hx hc => ?_⟩
  rotate_left
  · by_cases hq2 : x = b + L.length
    · subst hq2
      exact va_at_ns he hc
    · have hlt : x < H1.size := (Array.getElem?_eq_some_iff.mp hc).1
      exact h.2.2.2 x cell hx ((ho x (by omega)).symm.trans hc)
  obtain ⟨k1, hk1, rfl⟩ := tw_ws_inv hp
  by_cases hi : i < L.length
  · rw [List.getElem?_append_left hi] at hk1
    have h2 : tw_e ft cA b i k1 f' = tw_e ft cA b i k1 f := by
      unfold tw_e tw_fs
      rw [hf i hi]
    rw [h2]
    exact (h.at hk1).kept (ho _ (by show b + i < H.size; omega))
  · rw [List.getElem?_append_right (by omega)] at hk1
    have hlt : i - L.length < 1 := (List.getElem?_eq_some_iff.mp hk1).1
    have hi2 : i = L.length := by omega
    subst hi2
    rw [Nat.sub_self] at hk1
    cases hk1
    exact he
theorem tw_fs_at {i : Nat} (h : i < k.2.1) : (tw_fs ft b q k f)[i]? = some (tw_fv (ft k.1 i) b (k.2.2.getD i none) (f q i)) := by
  unfold tw_fs
  rw [List.getElem?_map, List.getElem?_range h]
  rfl
theorem tw_fs_len : (tw_fs ft b q k f).length = k.2.1 := by
  unfold tw_fs
  rw [List.length_map, List.length_range]
/-- one cell more behind the layout -/
theorem tw_W.more (h : tw_W cl ft D cA b false L f H) (hz : H.size ≤ H1.size) (ho : ∀ x : Nat, x < H.size → H1[x]? = H[x]?) (hn : ∀ (x : Nat) (cell : Cell), H.size ≤ x → H1[x]? = some cell → cell.vm.isStatics = false) : tw_W cl ft D cA b false L f H1 := by
  refine ⟨fun i p hp => ?_, Nat.le_trans h.2.1 hz, fun g => (by cases g), fun x cell hx hc => ?_⟩
  · obtain ⟨k1, hk1, rfl⟩ := tw_ws_inv hp
    have hlt : i < L.length := (List.getElem?_eq_some_iff.mp hk1).1
    exact (h.at hk1).kept (ho _ (by show b + i < H.size; have h9 := h.2.1; omega))
  · by_cases h2 : x < H.size
    · exact h.2.2.2 x cell hx ((ho x h2).symm.trans hc)
    · exact hn x cell (by omega) hc
theorem tw_W.down (h : tw_W cl ft D cA b fl L f H) : tw_W cl ft D cA b false L f H := ⟨h.1, h.2.1, fun g => (by cases g), h.2.2.2⟩
end WORLD
/-- the locals: what is known of them -/
def tw_lh (b z nL : Nat) (ls : List (Option tw_A)) (la : Array Slot) : Prop := la.size = nL ∧ lv_wf la ∧ ls.length ≤ nL ∧ ∀ (i : Nat) (v : tw_A), ls[i]? = some (some v) → la[i]? = some (.val (tw_v b z v)) ∧ tw_ct v = 1
def tw_ll (b z : Nat) (ls : List (Option tw_A)) : List (Nat × Value) := (ls.mapIdx (fun i o => o.map (fun v => (i, tw_v b z v)))).filterMap id
theorem tw_ll_mem {b z : Nat} {ls : List (Option tw_A)} {i : Nat} {v : tw_A} (h : ls[i]? = some (some v)) : (i, tw_v b z v) ∈ tw_ll b z ls := by
  unfold tw_ll
  rw [List.mem_filterMap]
  refine ⟨some (i, tw_v b z v), ?_, rfl⟩
  refine List.mem_of_getElem? (i := i) ?_
  rw [List.getElem?_mapIdx, h]
  rfl
theorem tw_ll_of {b z : Nat} {ls : List (Option tw_A)} {p : Nat × Value} (h : p ∈ tw_ll b z ls) : ∃ v, ls[p.1]? = some (some v) ∧ p.2 = tw_v b z v := by
  unfold tw_ll at h
  rw [List.mem_filterMap] at h
  obtain ⟨o, ho, he⟩ := h
  obtain ⟨i, hi⟩ := List.getElem?_of_mem ho
  rw [List.getElem?_mapIdx] at hi
  cases hl : ls[i]? with
  | none => rw [hl] at hi; cases hi
  | some w =>
    rw [hl] at hi
    have h1 : w.map (fun v => (i, tw_v b z v)) = o := Option.some.inj hi
    have h2 : o = some p := he
    cases w with
    | none => rw [← h1] at h2; cases h2
    | some v =>
      rw [← h1] at h2
      have h3 : (i, tw_v b z v) = p := Option.some.inj h2
      subst h3
      exact ⟨v, hl, rfl⟩
theorem tw_lh.has {b z nL : Nat} {ls : List (Option tw_A)} {la : Array Slot} (h : tw_lh b z nL ls la) : lv_has la nL (tw_ll b z ls) := by
  refine ⟨h.1, h.2.1, fun p hp => ?_⟩
  obtain ⟨v, h1, h2⟩ := tw_ll_of hp
  rw [h2]
  exact (h.2.2.2 _ _ h1).1
theorem tw_lh.set {b z nL i : Nat} {ls : List (Option tw_A)} {la la' : Array Slot} {v : tw_A} (h : tw_lh b z nL ls la) (hv : tw_ct v = 1) (hi : i < nL)
    (h' : lv_has la' nL ((i, tw_v b z v) :: (tw_ll b z ls).filter (fun q => !(q.1 == i) && !(q.1 + 1 == i && q.2.category == 2)))) : tw_lh b z nL (ls.set i (some v)) la' := by
  refine ⟨h'.1, h'.2.1, by rw [List.length_set]; exact h.2.2.1, fun j w hj => ?_⟩
  by_cases hji : i = j
  · subst hji
    have hlt : i < ls.length := by
      have := (List.getElem?_eq_some_iff.mp hj).1
      rwa [List.length_set] at this
    rw [List.getElem?_set_self hlt] at hj
    cases hj
    exact ⟨h'.2.2 _ List.mem_cons_self, hv⟩
  · rw [List.getElem?_set_ne hji] at hj
    refine ⟨h'.2.2 (j, tw_v b z w) (List.mem_cons_of_mem _ (List.mem_filter.mpr ⟨tw_ll_mem hj, ?_⟩)), (h.2.2.2 _ _ hj).2⟩
    have hc : (tw_v b z w).category = 1 := by rw [tw_ct_v]; exact (h.2.2.2 _ _ hj).2
    have h1 : (j == i) = false := by simpa using fun e => hji e.symm
    simp [h1, hc]
end
section
/-! One instruction at a time: from the next frame back to this one, over the whole system's memory. -/
def tw_sl (L : tw_L) : Nat := (L.map (fun k => k.2.1)).sum
def tw_G (p : Program) (l : Launch) (e : Env) (R : Room) (s : State) (m : MethodId) (args : Array Value) (below : List Frame) (meth : Method) (c : Code) (Q : State → Prop) (cl : List vw_C) (ft : Nat → Nat → Nat) (D : va_G) (cA : Nat → ClassId) (b z nL : Nat) (n0 s0 : Int) (A : Nat → Prop) (fl : Bool) (pc : Nat) (ls : List (Option tw_A)) (st : List tw_A) (L : tw_L) (f : tw_S) : Prop :=
  ∀ (H : Heap) (locs : List Loc) (la : Array Slot), n0 ≤ (L.length : Int) → s0 ≤ ((tw_sl L : Nat) : Int) → tw_W cl ft D cA b fl L f H → va_S A s.heap H locs → tw_lh b z nL ls la → W p l e R s m args below meth c H locs ((((L.length : Nat) : Int) - n0).toNat) ((((tw_sl L : Nat) : Int) - s0).toNat) Q (F0 m pc la (st.map (tw_v b z)))
section ROWS
variable {p : Program} {l : Launch} {e : Env} {R : Room} {s : State} {m : MethodId} {args : Array Value} {below : List Frame} {meth : Method} {c : Code} {Q : State → Prop} {cl : List vw_C} {ft : Nat → Nat → Nat} {D : va_G} {cA : Nat → ClassId} {b z nL : Nat} {n0 s0 : Int} {A : Nat → Prop} {fl : Bool} {cc : ByteArray} {pc : Nat} {ls : List (Option tw_A)} {st : List tw_A} {L : tw_L} {f : tw_S}
theorem tg_iload_n (hx : p.tables.exec = Jvm.exec) (hb : c.code = cc) {a : Nat} {k : Fin 4} {x : Int32} (hd : decode cc pc = .ok (.iload_n k, 1)) (hk : (k : Nat) = a) (hl : ls[a]? = some (some (tw_I x)))
    (kk : tw_G p l e R s m args below meth c Q cl ft D cA b z nL n0 s0 A fl (pc + 1) ls (tw_I x :: st) L f) : tw_G p l e R s m args below meth c Q cl ft D cA b z nL n0 s0 A fl pc ls st L f :=
  fun H locs la g1 g2 hW hS hh => lv_iload_n hx hb hd hk (hh.2.2.2 _ _ hl).1 (kk H locs la g1 g2 hW hS hh)
theorem tg_iload (hx : p.tables.exec = Jvm.exec) (hb : c.code = cc) {a : Nat} {x : Int32} (hd : decode cc pc = .ok (.iload a, 2)) (hl : ls[a]? = some (some (tw_I x)))
    (kk : tw_G p l e R s m args below meth c Q cl ft D cA b z nL n0 s0 A fl (pc + 2) ls (tw_I x :: st) L f) : tw_G p l e R s m args below meth c Q cl ft D cA b z nL n0 s0 A fl pc ls st L f :=
  fun H locs la g1 g2 hW hS hh => lv_iload hx hb hd (hh.2.2.2 _ _ hl).1 (kk H locs la g1 g2 hW hS hh)
theorem tg_aload_n (hx : p.tables.exec = Jvm.exec) (hb : c.code = cc) {a q : Nat} {k : Fin 4} (hd : decode cc pc = .ok (.aload_n k, 1)) (hk : (k : Nat) = a) (hl : ls[a]? = some (some (tw_R q)))
    (kk : tw_G p l e R s m args below meth c Q cl ft D cA b z nL n0 s0 A fl (pc + 1) ls (tw_R q :: st) L f) : tw_G p l e R s m args below meth c Q cl ft D cA b z nL n0 s0 A fl pc ls st L f :=
  fun H locs la g1 g2 hW hS hh => lv_aload_n hx hb hd hk (hh.2.2.2 _ _ hl).1 (kk H locs la g1 g2 hW hS hh)
theorem tg_aload (hx : p.tables.exec = Jvm.exec) (hb : c.code = cc) {a q : Nat} (hd : decode cc pc = .ok (.aload a, 2)) (hl : ls[a]? = some (some (tw_R q)))
    (kk : tw_G p l e R s m args below meth c Q cl ft D cA b z nL n0 s0 A fl (pc + 2) ls (tw_R q :: st) L f) : tw_G p l e R s m args below meth c Q cl ft D cA b z nL n0 s0 A fl pc ls st L f :=
  fun H locs la g1 g2 hW hS hh => lv_aload hx hb hd (hh.2.2.2 _ _ hl).1 (kk H locs la g1 g2 hW hS hh)
theorem tg_aload_nZ (hx : p.tables.exec = Jvm.exec) (hb : c.code = cc) {a : Nat} {k : Fin 4} (hd : decode cc pc = .ok (.aload_n k, 1)) (hk : (k : Nat) = a) (hl : ls[a]? = some (some tw_Z))
    (kk : tw_G p l e R s m args below meth c Q cl ft D cA b z nL n0 s0 A fl (pc + 1) ls (tw_Z :: st) L f) : tw_G p l e R s m args below meth c Q cl ft D cA b z nL n0 s0 A fl pc ls st L f :=
  fun H locs la g1 g2 hW hS hh => lv_aload_n hx hb hd hk (hh.2.2.2 _ _ hl).1 (kk H locs la g1 g2 hW hS hh)
theorem tg_iconst (hx : p.tables.exec = Jvm.exec) (hb : c.code = cc) {n : Int} {x : Int32} (hd : decode cc pc = .ok (.iconst n, 1)) (hv : Int32.ofInt n = x)
    (kk : tw_G p l e R s m args below meth c Q cl ft D cA b z nL n0 s0 A fl (pc + 1) ls (tw_I x :: st) L f) : tw_G p l e R s m args below meth c Q cl ft D cA b z nL n0 s0 A fl pc ls st L f :=
  fun H locs la g1 g2 hW hS hh => lv_iconst hx hb hd hv (kk H locs la g1 g2 hW hS hh)
theorem tg_bipush (hx : p.tables.exec = Jvm.exec) (hb : c.code = cc) {n : Int} {x : Int32} (hd : decode cc pc = .ok (.bipush n, 2)) (hv : (Int8.ofInt n).toInt32 = x)
    (kk : tw_G p l e R s m args below meth c Q cl ft D cA b z nL n0 s0 A fl (pc + 2) ls (tw_I x :: st) L f) : tw_G p l e R s m args below meth c Q cl ft D cA b z nL n0 s0 A fl pc ls st L f :=
  fun H locs la g1 g2 hW hS hh => lv_bipush hx hb hd hv (kk H locs la g1 g2 hW hS hh)
theorem tg_sipush (hx : p.tables.exec = Jvm.exec) (hb : c.code = cc) {n : Int} {x : Int32} (hd : decode cc pc = .ok (.sipush n, 3)) (hv : (Int16.ofInt n).toInt32 = x)
    (kk : tw_G p l e R s m args below meth c Q cl ft D cA b z nL n0 s0 A fl (pc + 3) ls (tw_I x :: st) L f) : tw_G p l e R s m args below meth c Q cl ft D cA b z nL n0 s0 A fl pc ls st L f :=
  fun H locs la g1 g2 hW hS hh => lv_sipush hx hb hd hv (kk H locs la g1 g2 hW hS hh)
theorem tg_istore_n (hx : p.tables.exec = Jvm.exec) (hb : c.code = cc) {a : Nat} {k : Fin 4} {x : Int32} (hd : decode cc pc = .ok (.istore_n k, 1)) (hk : (k : Nat) = a) (ha : a < ls.length)
    (kk : tw_G p l e R s m args below meth c Q cl ft D cA b z nL n0 s0 A fl (pc + 1) (ls.set a (some (tw_I x))) st L f) : tw_G p l e R s m args below meth c Q cl ft D cA b z nL n0 s0 A fl pc ls (tw_I x :: st) L f :=
  fun H locs _ g1 g2 hW hS hh => lv_istore_n hx hb hd hk hh.has (Nat.lt_of_lt_of_le ha hh.2.2.1) rfl (fun la' h' => kk H locs la' g1 g2 hW hS (hh.set (v := tw_I x) rfl (Nat.lt_of_lt_of_le ha hh.2.2.1) h'))
theorem tg_istore (hx : p.tables.exec = Jvm.exec) (hb : c.code = cc) {a : Nat} {x : Int32} (hd : decode cc pc = .ok (.istore a, 2)) (ha : a < ls.length)
    (kk : tw_G p l e R s m args below meth c Q cl ft D cA b z nL n0 s0 A fl (pc + 2) (ls.set a (some (tw_I x))) st L f) : tw_G p l e R s m args below meth c Q cl ft D cA b z nL n0 s0 A fl pc ls (tw_I x :: st) L f :=
  fun H locs _ g1 g2 hW hS hh => lv_istore hx hb hd hh.has (Nat.lt_of_lt_of_le ha hh.2.2.1) rfl (fun la' h' => kk H locs la' g1 g2 hW hS (hh.set (v := tw_I x) rfl (Nat.lt_of_lt_of_le ha hh.2.2.1) h'))
theorem tg_astore_n (hx : p.tables.exec = Jvm.exec) (hb : c.code = cc) {a q : Nat} {k : Fin 4} (hd : decode cc pc = .ok (.astore_n k, 1)) (hk : (k : Nat) = a) (ha : a < ls.length)
    (kk : tw_G p l e R s m args below meth c Q cl ft D cA b z nL n0 s0 A fl (pc + 1) (ls.set a (some (tw_R q))) st L f) : tw_G p l e R s m args below meth c Q cl ft D cA b z nL n0 s0 A fl pc ls (tw_R q :: st) L f :=
  fun H locs _ g1 g2 hW hS hh => lv_astore_n hx hb hd hk hh.has (Nat.lt_of_lt_of_le ha hh.2.2.1) rfl (fun la' h' => kk H locs la' g1 g2 hW hS (hh.set (v := tw_R q) rfl (Nat.lt_of_lt_of_le ha hh.2.2.1) h'))
theorem tg_astore (hx : p.tables.exec = Jvm.exec) (hb : c.code = cc) {a q : Nat} (hd : decode cc pc = .ok (.astore a, 2)) (ha : a < ls.length)
    (kk : tw_G p l e R s m args below meth c Q cl ft D cA b z nL n0 s0 A fl (pc + 2) (ls.set a (some (tw_R q))) st L f) : tw_G p l e R s m args below meth c Q cl ft D cA b z nL n0 s0 A fl pc ls (tw_R q :: st) L f :=
  fun H locs _ g1 g2 hW hS hh => lv_astore hx hb hd hh.has (Nat.lt_of_lt_of_le ha hh.2.2.1) rfl (fun la' h' => kk H locs la' g1 g2 hW hS (hh.set (v := tw_R q) rfl (Nat.lt_of_lt_of_le ha hh.2.2.1) h'))
theorem tg_iinc (hx : p.tables.exec = Jvm.exec) (hb : c.code = cc) {a : Nat} {n : Int} {x y : Int32} (hd : decode cc pc = .ok (.iinc a n, 3)) (hy : Int32.ofInt n = y) (hl : ls[a]? = some (some (tw_I x)))
    (kk : tw_G p l e R s m args below meth c Q cl ft D cA b z nL n0 s0 A fl (pc + 3) (ls.set a (some (tw_I (x + y)))) st L f) : tw_G p l e R s m args below meth c Q cl ft D cA b z nL n0 s0 A fl pc ls st L f := by
  intro H locs la g1 g2 hW hS hh
  have ha : a < nL := Nat.lt_of_lt_of_le (List.getElem?_eq_some_iff.mp hl).1 hh.2.2.1
  obtain ⟨i, hi⟩ := List.getElem?_of_mem (tw_ll_mem (b := b) (z := z) hl)
  exact lv_iinc hx hb hd hh.has hi (by rw [hy]) ha rfl (fun la' h' => kk H locs la' g1 g2 hW hS (hh.set (v := tw_I (x + y)) rfl ha h'))
theorem tg_iadd (hx : p.tables.exec = Jvm.exec) (hb : c.code = cc) {x y : Int32} (hd : decode cc pc = .ok (.iadd, 1))
    (kk : tw_G p l e R s m args below meth c Q cl ft D cA b z nL n0 s0 A fl (pc + 1) ls (tw_I (x + y) :: st) L f) : tw_G p l e R s m args below meth c Q cl ft D cA b z nL n0 s0 A fl pc ls (tw_I y :: tw_I x :: st) L f :=
  fun H locs la g1 g2 hW hS hh => lv_iadd hx hb hd (kk H locs la g1 g2 hW hS hh)
theorem tg_isub (hx : p.tables.exec = Jvm.exec) (hb : c.code = cc) {x y : Int32} (hd : decode cc pc = .ok (.isub, 1))
    (kk : tw_G p l e R s m args below meth c Q cl ft D cA b z nL n0 s0 A fl (pc + 1) ls (tw_I (x - y) :: st) L f) : tw_G p l e R s m args below meth c Q cl ft D cA b z nL n0 s0 A fl pc ls (tw_I y :: tw_I x :: st) L f :=
  fun H locs la g1 g2 hW hS hh => lv_isub hx hb hd (kk H locs la g1 g2 hW hS hh)
theorem tg_imul (hx : p.tables.exec = Jvm.exec) (hb : c.code = cc) {x y : Int32} (hd : decode cc pc = .ok (.imul, 1))
    (kk : tw_G p l e R s m args below meth c Q cl ft D cA b z nL n0 s0 A fl (pc + 1) ls (tw_I (x * y) :: st) L f) : tw_G p l e R s m args below meth c Q cl ft D cA b z nL n0 s0 A fl pc ls (tw_I y :: tw_I x :: st) L f :=
  fun H locs la g1 g2 hW hS hh => lv_imul hx hb hd (kk H locs la g1 g2 hW hS hh)
theorem tg_iand (hx : p.tables.exec = Jvm.exec) (hb : c.code = cc) {x y : Int32} (hd : decode cc pc = .ok (.iand, 1))
    (kk : tw_G p l e R s m args below meth c Q cl ft D cA b z nL n0 s0 A fl (pc + 1) ls (tw_I (x &&& y) :: st) L f) : tw_G p l e R s m args below meth c Q cl ft D cA b z nL n0 s0 A fl pc ls (tw_I y :: tw_I x :: st) L f :=
  fun H locs la g1 g2 hW hS hh => lv_iand hx hb hd (kk H locs la g1 g2 hW hS hh)
theorem tg_ior (hx : p.tables.exec = Jvm.exec) (hb : c.code = cc) {x y : Int32} (hd : decode cc pc = .ok (.ior, 1))
    (kk : tw_G p l e R s m args below meth c Q cl ft D cA b z nL n0 s0 A fl (pc + 1) ls (tw_I (x ||| y) :: st) L f) : tw_G p l e R s m args below meth c Q cl ft D cA b z nL n0 s0 A fl pc ls (tw_I y :: tw_I x :: st) L f :=
  fun H locs la g1 g2 hW hS hh => lv_ior hx hb hd (kk H locs la g1 g2 hW hS hh)
theorem tg_ixor (hx : p.tables.exec = Jvm.exec) (hb : c.code = cc) {x y : Int32} (hd : decode cc pc = .ok (.ixor, 1))
    (kk : tw_G p l e R s m args below meth c Q cl ft D cA b z nL n0 s0 A fl (pc + 1) ls (tw_I (x ^^^ y) :: st) L f) : tw_G p l e R s m args below meth c Q cl ft D cA b z nL n0 s0 A fl pc ls (tw_I y :: tw_I x :: st) L f :=
  fun H locs la g1 g2 hW hS hh => lv_ixor hx hb hd (kk H locs la g1 g2 hW hS hh)
theorem tg_ishl (hx : p.tables.exec = Jvm.exec) (hb : c.code = cc) {x y : Int32} (hd : decode cc pc = .ok (.ishl, 1))
    (kk : tw_G p l e R s m args below meth c Q cl ft D cA b z nL n0 s0 A fl (pc + 1) ls (tw_I (x <<< (y &&& 31)) :: st) L f) : tw_G p l e R s m args below meth c Q cl ft D cA b z nL n0 s0 A fl pc ls (tw_I y :: tw_I x :: st) L f :=
  fun H locs la g1 g2 hW hS hh => lv_ishl hx hb hd (kk H locs la g1 g2 hW hS hh)
theorem tg_ishr (hx : p.tables.exec = Jvm.exec) (hb : c.code = cc) {x y : Int32} (hd : decode cc pc = .ok (.ishr, 1))
    (kk : tw_G p l e R s m args below meth c Q cl ft D cA b z nL n0 s0 A fl (pc + 1) ls (tw_I (x >>> (y &&& 31)) :: st) L f) : tw_G p l e R s m args below meth c Q cl ft D cA b z nL n0 s0 A fl pc ls (tw_I y :: tw_I x :: st) L f :=
  fun H locs la g1 g2 hW hS hh => lv_ishr hx hb hd (kk H locs la g1 g2 hW hS hh)
theorem tg_idiv (hx : p.tables.exec = Jvm.exec) (hb : c.code = cc) {x y : Int32} (hd : decode cc pc = .ok (.idiv, 1)) (hy : ¬ y = 0)
    (kk : tw_G p l e R s m args below meth c Q cl ft D cA b z nL n0 s0 A fl (pc + 1) ls (tw_I (x / y) :: st) L f) : tw_G p l e R s m args below meth c Q cl ft D cA b z nL n0 s0 A fl pc ls (tw_I y :: tw_I x :: st) L f :=
  fun H locs la g1 g2 hW hS hh => lv_idiv hx hb hd hy (kk H locs la g1 g2 hW hS hh)
theorem tg_irem (hx : p.tables.exec = Jvm.exec) (hb : c.code = cc) {x y : Int32} (hd : decode cc pc = .ok (.irem, 1)) (hy : ¬ y = 0)
    (kk : tw_G p l e R s m args below meth c Q cl ft D cA b z nL n0 s0 A fl (pc + 1) ls (tw_I (x - x / y * y) :: st) L f) : tw_G p l e R s m args below meth c Q cl ft D cA b z nL n0 s0 A fl pc ls (tw_I y :: tw_I x :: st) L f :=
  fun H locs la g1 g2 hW hS hh => lv_irem hx hb hd hy (kk H locs la g1 g2 hW hS hh)
/-- a branch's condition: 0 equal, 1 not equal, 2 less, 3 at least, 4 greater, else at most -/
def tw_cd (a : Nat) (x y : Int32) : Prop := if a = 0 then x = y else if a = 1 then ¬ x = y else if a = 2 then x < y else if a = 3 then y ≤ x else if a = 4 then y < x else x ≤ y
def tw_if (a : Nat) (off : Int) : Instr := if a = 0 then .ifCond .eq off else if a = 1 then .ifCond .ne off else if a = 2 then .ifCond .lt off else if a = 3 then .ifCond .ge off else if a = 4 then .ifCond .gt off else .ifCond .le off
def tw_ic (a : Nat) (off : Int) : Instr := if a = 0 then .if_icmp .eq off else if a = 1 then .if_icmp .ne off else if a = 2 then .if_icmp .lt off else if a = 3 then .if_icmp .ge off else if a = 4 then .if_icmp .gt off else .if_icmp .le off
theorem tg_if (hx : p.tables.exec = Jvm.exec) (hb : c.code = cc) {a tgt : Nat} {off : Int} {x : Int32} (hd : decode cc pc = .ok (tw_if a off, 3)) (ht : (pc : Int) + off = (tgt : Int))
    (kt : tw_cd a x 0 → tw_G p l e R s m args below meth c Q cl ft D cA b z nL n0 s0 A fl tgt ls st L f) (kf : ¬ tw_cd a x 0 → tw_G p l e R s m args below meth c Q cl ft D cA b z nL n0 s0 A fl (pc + 3) ls st L f) : tw_G p l e R s m args below meth c Q cl ft D cA b z nL n0 s0 A fl pc ls (tw_I x :: st) L f := by
  intro H locs la g1 g2 hW hS hh
  unfold tw_if at hd
  unfold tw_cd at kt kf
  by_cases h0 : a = 0
  · simp only [if_pos h0] at hd kt kf
    exact lv_if_eq hx hb hd ht (fun h => kt h H locs la g1 g2 hW hS hh) (fun h => kf h H locs la g1 g2 hW hS hh)
  · simp only [if_neg h0] at hd kt kf
    by_cases h1 : a = 1
    · simp only [if_pos h1] at hd kt kf
      exact lv_if_ne hx hb hd ht (fun h => kt h H locs la g1 g2 hW hS hh) (fun h => kf (fun g => g h) H locs la g1 g2 hW hS hh)
    · simp only [if_neg h1] at hd kt kf
      by_cases h2 : a = 2
      · simp only [if_pos h2] at hd kt kf
        exact lv_if_lt hx hb hd ht (fun h => kt h H locs la g1 g2 hW hS hh) (fun h => kf h H locs la g1 g2 hW hS hh)
      · simp only [if_neg h2] at hd kt kf
        by_cases h3 : a = 3
        · simp only [if_pos h3] at hd kt kf
          exact lv_if_ge hx hb hd ht (fun h => kt h H locs la g1 g2 hW hS hh) (fun h => kf h H locs la g1 g2 hW hS hh)
        · simp only [if_neg h3] at hd kt kf
          by_cases h4 : a = 4
          · simp only [if_pos h4] at hd kt kf
            exact lv_if_gt hx hb hd ht (fun h => kt h H locs la g1 g2 hW hS hh) (fun h => kf h H locs la g1 g2 hW hS hh)
          · simp only [if_neg h4] at hd kt kf
            exact lv_if_le hx hb hd ht (fun h => kt h H locs la g1 g2 hW hS hh) (fun h => kf h H locs la g1 g2 hW hS hh)
theorem tg_icmp (hx : p.tables.exec = Jvm.exec) (hb : c.code = cc) {a tgt : Nat} {off : Int} {x y : Int32} (hd : decode cc pc = .ok (tw_ic a off, 3)) (ht : (pc : Int) + off = (tgt : Int))
    (kt : tw_cd a x y → tw_G p l e R s m args below meth c Q cl ft D cA b z nL n0 s0 A fl tgt ls st L f) (kf : ¬ tw_cd a x y → tw_G p l e R s m args below meth c Q cl ft D cA b z nL n0 s0 A fl (pc + 3) ls st L f) : tw_G p l e R s m args below meth c Q cl ft D cA b z nL n0 s0 A fl pc ls (tw_I y :: tw_I x :: st) L f := by
  intro H locs la g1 g2 hW hS hh
  unfold tw_ic at hd
  unfold tw_cd at kt kf
  by_cases h0 : a = 0
  · simp only [if_pos h0] at hd kt kf
    exact lv_icmp_eq hx hb hd ht (fun h => kt h H locs la g1 g2 hW hS hh) (fun h => kf h H locs la g1 g2 hW hS hh)
  · simp only [if_neg h0] at hd kt kf
    by_cases h1 : a = 1
    · simp only [if_pos h1] at hd kt kf
      exact lv_icmp_ne hx hb hd ht (fun h => kt h H locs la g1 g2 hW hS hh) (fun h => kf (fun g => g h) H locs la g1 g2 hW hS hh)
    · simp only [if_neg h1] at hd kt kf
      by_cases h2 : a = 2
      · simp only [if_pos h2] at hd kt kf
        exact lv_icmp_lt hx hb hd ht (fun h => kt h H locs la g1 g2 hW hS hh) (fun h => kf h H locs la g1 g2 hW hS hh)
      · simp only [if_neg h2] at hd kt kf
        by_cases h3 : a = 3
        · simp only [if_pos h3] at hd kt kf
          exact lv_icmp_ge hx hb hd ht (fun h => kt h H locs la g1 g2 hW hS hh) (fun h => kf h H locs la g1 g2 hW hS hh)
        · simp only [if_neg h3] at hd kt kf
          by_cases h4 : a = 4
          · simp only [if_pos h4] at hd kt kf
            exact lv_icmp_gt hx hb hd ht (fun h => kt h H locs la g1 g2 hW hS hh) (fun h => kf h H locs la g1 g2 hW hS hh)
          · simp only [if_neg h4] at hd kt kf
            exact lv_icmp_le hx hb hd ht (fun h => kt h H locs la g1 g2 hW hS hh) (fun h => kf h H locs la g1 g2 hW hS hh)
theorem tg_goto (hx : p.tables.exec = Jvm.exec) (hb : c.code = cc) {tgt : Nat} {off : Int} (hd : decode cc pc = .ok (.goto off, 3)) (ht : (pc : Int) + off = (tgt : Int))
    (kk : tw_G p l e R s m args below meth c Q cl ft D cA b z nL n0 s0 A fl tgt ls st L f) : tw_G p l e R s m args below meth c Q cl ft D cA b z nL n0 s0 A fl pc ls st L f :=
  fun H locs la g1 g2 hW hS hh => lv_goto hx hb hd ht (kk H locs la g1 g2 hW hS hh)
theorem tg_dup (hx : p.tables.exec = Jvm.exec) (hb : c.code = cc) {v : tw_A} (hd : decode cc pc = .ok (.dup, 1)) (hv : tw_ct v = 1)
    (kk : tw_G p l e R s m args below meth c Q cl ft D cA b z nL n0 s0 A fl (pc + 1) ls (v :: v :: st) L f) : tw_G p l e R s m args below meth c Q cl ft D cA b z nL n0 s0 A fl pc ls (v :: st) L f :=
  fun H locs la g1 g2 hW hS hh => lv_dup hx hb hd (by rw [tw_ct_v]; exact hv) (kk H locs la g1 g2 hW hS hh)
theorem tg_dup2 (hx : p.tables.exec = Jvm.exec) (hb : c.code = cc) {v w : tw_A} (hd : decode cc pc = .ok (.dup2, 1)) (hv : tw_ct v = 1) (hw : tw_ct w = 1)
    (kk : tw_G p l e R s m args below meth c Q cl ft D cA b z nL n0 s0 A fl (pc + 1) ls (v :: w :: v :: w :: st) L f) : tw_G p l e R s m args below meth c Q cl ft D cA b z nL n0 s0 A fl pc ls (v :: w :: st) L f :=
  fun H locs la g1 g2 hW hS hh => lv_dup2_11 hx hb hd (by rw [tw_ct_v]; exact hv) (by rw [tw_ct_v]; exact hw) (kk H locs la g1 g2 hW hS hh)
theorem tg_max (hx : p.tables.exec = Jvm.exec) (hb : c.code = cc) (hml : c.maxLocals = nL) {own : String} {idx : Nat} (hown : s.vm.findClass own = some m.cls) (hlink : (Cond.methodLink own idx Lib.Math.max.name).before args s = true) (hstat : (Cond.static Lib.Math.max.name).before args s = true) (hini : (Cond.initialized "java/lang/Math").before args s = true) (hcode : (Cond.code Lib.Math.max.name Lib.Math.max.code 2 (some .int)).before args s = true)
    (hframes : 1 ≤ R.frames) (hlocals : (st.map tw_ct).sum + 13 ≤ R.locals) (hc : (((L.length : Nat) : Int) - n0).toNat ≤ R.cells) (hs : (((tw_sl L : Nat) : Int) - s0).toNat ≤ R.slots) {x y : Int32} (hd : decode cc pc = .ok (.invokestatic idx, 3))
    (kk : tw_G p l e R s m args below meth c Q cl ft D cA b z nL n0 s0 A fl (pc + 3) ls (tw_I (if x < y then y else x) :: st) L f) : tw_G p l e R s m args below meth c Q cl ft D cA b z nL n0 s0 A fl pc ls (tw_I y :: tw_I x :: st) L f := by
  intro H locs la g1 g2 hW hS hh
  refine va_mmax hx hb (by rw [hml, hh.1]) hown hlink hstat hini hcode hframes ?_ hc hs hd (kk H locs la g1 g2 hW hS hh)
  rw [List.map_map]
  have h : ((fun v : Value => v.category) ∘ tw_v b z) = tw_ct := by
    funext a
    exact tw_ct_v b z a
  rw [h]
  exact hlocals
theorem tg_objInit (hx : p.tables.exec = Jvm.exec) (hb : c.code = cc) (hml : c.maxLocals = nL) {own : String} {idx q : Nat} (hown : s.vm.findClass own = some m.cls) (hlink : (Cond.methodLink own idx Lib.objectInit).before args s = true) (hinst : (Cond.instanceMethod Lib.objectInit).before args s = true) (hcode : (Cond.code Lib.objectInit ⟨#[0xb1]⟩ 1 none).before args s = true)
    (hframes : 1 ≤ R.frames) (hlocals : (st.map tw_ct).sum + 12 ≤ R.locals) (hd : decode cc pc = .ok (.invokespecial idx, 3))
    (kk : tw_G p l e R s m args below meth c Q cl ft D cA b z nL n0 s0 A fl (pc + 3) ls st L f) : tw_G p l e R s m args below meth c Q cl ft D cA b z nL n0 s0 A fl pc ls (tw_R q :: st) L f := by
  intro H locs la g1 g2 hW hS hh
  refine W.objInit hx hb hown hlink hinst hcode (g := F0 m pc la (((tw_R q) :: st).map (tw_v b z))) rfl (by rw [hml]; exact hh.1) (a := b + q) (rest := st.map (tw_v b z)) rfl hd hframes ?_ (kk H locs la g1 g2 hW hS hh)
  rw [List.map_map]
  have h : ((fun v : Value => v.category) ∘ tw_v b z) = tw_ct := by
    funext a
    exact tw_ct_v b z a
  rw [h]
  show 2 * 0 + _ + 12 ≤ _
  omega
end ROWS
end
section
/-! Fields, arrays, new cells. -/
theorem tw_e_obj {ft : Nat → Nat → Nat} {cA : Nat → ClassId} {b q ci n : Nat} {rs : List (Option Nat)} {f : tw_S} (h : ci < 100) : tw_e ft cA b q (ci, n, rs) f = .inr (ci, tw_fs ft b q (ci, n, rs) f) := if_pos h
theorem tw_e_int {ft : Nat → Nat → Nat} {cA : Nat → ClassId} {b q n : Nat} {rs : List (Option Nat)} {f : tw_S} : tw_e ft cA b q (100, n, rs) f = .inl (cA 100, n, .inl (f q)) := rfl
theorem tw_e_boo {ft : Nat → Nat → Nat} {cA : Nat → ClassId} {b q n : Nat} {rs : List (Option Nat)} {f : tw_S} : tw_e ft cA b q (101, n, rs) f = .inl (cA 101, n, .inl (fun j => tw_nz (f q j))) := rfl
theorem tw_e_lon {ft : Nat → Nat → Nat} {cA : Nat → ClassId} {b q n : Nat} {rs : List (Option Nat)} {f : tw_S} : tw_e ft cA b q (102, n, rs) f = .inl (cA 102, n, .inr (.inl (fun j => (f q j).toInt64))) := rfl
theorem tw_up_off {f : tw_S} {q i j : Nat} {x : Int32} (h : j ≠ q) : tw_up f q i x j = f j := by
  funext w
  unfold tw_up
  rw [if_neg (fun g => h g.1)]
theorem tw_up_on {f : tw_S} {q i : Nat} {x : Int32} : tw_up f q i x q = upd (f q) i x := by
  funext w
  unfold tw_up upd
  by_cases h : w = i
  · rw [if_pos ⟨rfl, h⟩, if_pos h]
  · rw [if_neg (fun g => h g.2), if_neg h]
theorem tw_fs_set {ft : Nat → Nat → Nat} {b q ci n i : Nat} {rs : List (Option Nat)} {f : tw_S} {x : Int32} (hi : i < n) (h : ft ci i = 0 ∨ (ft ci i = 1 ∧ (x = 0 ∨ x = 1))) : (tw_fs ft b q (ci, n, rs) f).set i (.int x) = tw_fs ft b q (ci, n, rs) (tw_up f q i x) := by
  refine List.ext_getElem? (fun j => ?_)
  by_cases hj : j < n
  · rw [tw_fs_at (k := (ci, n, rs)) hj]
    by_cases hij : i = j
    · subst hij
      rw [List.getElem?_set_self (by rw [tw_fs_len]; exact hi)]
      have h1 : tw_up f q i x q i = x := by unfold tw_up; rw [if_pos ⟨rfl, rfl⟩]
      rw [h1]
      unfold tw_fv
      rcases h with h | ⟨h, hx⟩
      · have h' : ft (ci, n, rs).1 i = 0 := h
        rw [h']; rfl
      · have h' : ft (ci, n, rs).1 i = 1 := h
        rw [h', tw_nz_of hx]; rfl
    · rw [List.getElem?_set_ne hij, tw_fs_at (k := (ci, n, rs)) hj]
      have h1 : tw_up f q i x q j = f q j := by unfold tw_up; rw [if_neg (fun g => hij g.2.symm)]
      rw [h1]
  · rw [List.getElem?_eq_none (by rw [List.length_set, tw_fs_len]; exact Nat.not_lt.mp hj), List.getElem?_eq_none (by rw [tw_fs_len]; exact Nat.not_lt.mp hj)]
theorem tw_fs_setR {ft : Nat → Nat → Nat} {b q ci n i r : Nat} {rs : List (Option Nat)} {f : tw_S} (hi : i < n) (hr : i < rs.length) (h : ft ci i = 2) : (tw_fs ft b q (ci, n, rs) f).set i (.ref (b + r)) = tw_fs ft b q (ci, n, rs.set i (some r)) f := by
  refine List.ext_getElem? (fun j => ?_)
  by_cases hj : j < n
  · rw [tw_fs_at (k := (ci, n, rs.set i (some r))) hj]
    by_cases hij : i = j
    · subst hij
      rw [List.getElem?_set_self (by rw [tw_fs_len]; exact hi)]
      have h' : ft (ci, n, rs.set i (some r)).1 i = 2 := h
      have h2 : (rs.set i (some r)).getD i none = some r := by
        rw [List.getD_eq_getElem?_getD, List.getElem?_set_self hr]; rfl
      show _ = some (tw_fv _ b ((rs.set i (some r)).getD i none) _)
      rw [h2, h']
      rfl
    · rw [List.getElem?_set_ne hij, tw_fs_at (k := (ci, n, rs)) hj]
      have h2 : (rs.set i (some r)).getD j none = rs.getD j none := by
        rw [List.getD_eq_getElem?_getD, List.getElem?_set_ne hij, ← List.getD_eq_getElem?_getD]
      show _ = some (tw_fv _ b ((rs.set i (some r)).getD j none) _)
      rw [h2]
  · rw [List.getElem?_eq_none (by rw [List.length_set, tw_fs_len]; exact Nat.not_lt.mp hj), List.getElem?_eq_none (by rw [tw_fs_len]; exact Nat.not_lt.mp hj)]
/-- what the tables say of a class: its words, its fields' types and names, and what kind each is -/
def tw_C (ft : Nat → Nat → Nat) (Ts : List Cond) (ci : Nat) (r : vw_C) (ty : Nat → FieldType) : Prop :=
  (∀ w ∈ u_ws r.1 r.2.1 r.2.2, w ∈ Ts) ∧ (∀ k, k < r.2.2 → parseFieldDescriptor (r.2.1 k).2.2.1 = some (ty k)) ∧ (∀ a, a < r.2.2 → ∀ b, b < r.2.2 → a ≠ b → (r.2.1 a).2.1 ≠ (r.2.1 b).2.1) ∧ ci < 100 ∧
  ∀ k, k < r.2.2 → (ft ci k = 0 ∧ ty k = .int) ∨ (ft ci k = 1 ∧ ty k = .boolean) ∨ (ft ci k = 2 ∧ ((∃ C, ty k = .object C) ∨ ∃ t, ty k = .array t))
section HEAP
variable {p : Program} {l : Launch} {e : Env} {R : Room} {s : State} {m : MethodId} {args : Array Value} {below : List Frame} {meth : Method} {c : Code} {Q : State → Prop} {cl : List vw_C} {ft : Nat → Nat → Nat} {D : va_G} {cA : Nat → ClassId} {b z nL : Nat} {n0 s0 : Int} {A : Nat → Prop} {fl : Bool} {cc : ByteArray} {pc : Nat} {ls : List (Option tw_A)} {st : List tw_A} {L : tw_L} {f : tw_S} {tys : List (ClassId × FieldType)} {Ts : List Cond} {own : String} {ci i idx q n : Nat} {rs : List (Option Nat)} {r : vw_C} {ty : Nat → FieldType}
theorem tg_getf (hx : p.tables.exec = Jvm.exec) (hb : c.code = cc) (hts : ∀ w ∈ Ts, w.before args s = true) (hown : s.vm.findClass own = some m.cls) (hK : va_K D cl tys s) (hc : cl[ci]? = some r) (hC : tw_C ft Ts ci r ty) (hi : i < r.2.2) (hlink : (Cond.fieldLink own idx (r.2.1 i).1 (r.2.1 i).2.1 (r.2.1 i).2.2.1).before args s = true) (hd : decode cc pc = .ok (.getfield idx, 3)) (hq : L[q]? = some (ci, n, rs)) (hn : i < n)
    (kk : tw_G p l e R s m args below meth c Q cl ft D cA b z nL n0 s0 A fl (pc + 3) ls (tw_fa (ft ci i) (rs.getD i none) (f q i) :: st) L f) : tw_G p l e R s m args below meth c Q cl ft D cA b z nL n0 s0 A fl pc ls (tw_R q :: st) L f := by
  intro H locs la g1 g2 hW hS hh
  have he : (tw_ws ft cA b L f)[q]? = some (b + q, .inr (ci, tw_fs ft b q (ci, n, rs) f)) := by
    rw [tw_ws_at hq, tw_e_obj hC.2.2.2.1]
  have h := kk H locs la g1 g2 hW hS hh
  rw [List.map_cons, tw_fa_v] at h
  obtain ⟨C, T, N⟩ := r
  exact va_get hx hb hts hC.1 hown hK hW.1 q he hc i hi hlink (fun _ h9 => h9) (tw_fs_at (k := (ci, n, rs)) hn) hd h
theorem tg_putf (hA : ∀ x, b ≤ x → A x) (hx : p.tables.exec = Jvm.exec) (hb : c.code = cc) (hts : ∀ w ∈ Ts, w.before args s = true) (hown : s.vm.findClass own = some m.cls) (hK : va_K D cl tys s) (hc : cl[ci]? = some r) (hC : tw_C ft Ts ci r ty) (hi : i < r.2.2) (hlink : (Cond.fieldLink own idx (r.2.1 i).1 (r.2.1 i).2.1 (r.2.1 i).2.2.1).before args s = true) (hd : decode cc pc = .ok (.putfield idx, 3)) (hfin : (r.2.1 i).2.2.2 = false) {x : Int32} (hq : L[q]? = some (ci, n, rs)) (hn : i < n) (hv : ft ci i = 0 ∨ (ft ci i = 1 ∧ (x = 0 ∨ x = 1)))
    (kk : tw_G p l e R s m args below meth c Q cl ft D cA b z nL n0 s0 A fl (pc + 3) ls st L (tw_up f q i x)) : tw_G p l e R s m args below meth c Q cl ft D cA b z nL n0 s0 A fl pc ls (tw_I x :: tw_R q :: st) L f := by
  intro H locs la g1 g2 hW hS hh
  obtain ⟨C, T, N⟩ := r
  obtain ⟨hin, hty, hnm, h100, hft⟩ := hC
  have hap := va_apart (own := own) hts hin ty hty hnm hK hc
  have h0 := hW.at hq
  rw [tw_e_obj h100] at h0
  obtain ⟨r', h1, cell, q1, q2, q3, q4⟩ := h0
  have hr : r' = (C, T, N) := Option.some.inj (h1.symm.trans hc)
  subst hr
  obtain ⟨hSl, hfc, kC, hkC, hkind⟩ := hK.1 ci _ hc
  obtain ⟨cf, kf, fi, fd, hi2, hsl⟩ := hSl i hi
  have hlay := hts _ (hin _ (u_in_lay hi))
  unfold u_lay at hlay
  rw [if_neg (by rw [hfin]; decide)] at hlay
  have hst := (u_facts hfc hkC (u_lays hts hin hi) hi2).1
  have hnf : narrow (ty i) (.int x) = .int x ∧ fits (ty i) (.int x) = true := by
    rcases hft i hi with ⟨a1, a2⟩ | ⟨a1, a2⟩ | ⟨a1, a2⟩
    · rw [a2]; exact ⟨rfl, rfl⟩
    · rw [a2]
      rcases hv with v1 | ⟨-, v1 | v1⟩
      · rw [v1] at a1; cases a1
      · subst v1; exact ⟨rfl, rfl⟩
      · subst v1; exact ⟨rfl, rfl⟩
    · rcases hv with v1 | ⟨v1, -⟩
      · rw [v1] at a1; cases a1
      · rw [v1] at a1; cases a1
  have h6 := u_store hfc hkC hkind hlay hi2 (hty i hi) hnf.1 hnf.2
  refine W.putK hx hb (f := fd) (v := .int x) (a := b + q) (rest := st.map (tw_v b z)) ⟨hown, hlink, ⟨_, _, _, hi2⟩, hst⟩ (by rw [q2]; exact h6) q1 q3 (by rw [hsl]; exact k2_hasslot (q4 i hi)) rfl rfl hd fun H' e1 e2 e3 => ?_
  rw [hsl] at e1 ⊢
  refine kk H' _ la g1 g2 (hW.put (k := (ci, n, rs)) rfl (fun _ _ => rfl) (fun j hj => tw_up_off hj) hq ?_ e2 e3) (hS.put e2 e3 (hA _ (Nat.le_add_right b q))) hh
  rw [tw_e_obj h100, ← tw_fs_set hn hv]
  exact ⟨_, hc, t_OB.to (V := updV (vp_V (tw_fs ft b q (ci, n, rs) f)) i (.int x)) ⟨_, e1, q2, q3, t_set q4 hap hi _⟩ (fun j _ => vp_updV_set (by rw [tw_fs_len]; exact hn) _ j)⟩
theorem tg_putFi (hA : ∀ x, b ≤ x → A x) (hx : p.tables.exec = Jvm.exec) (hb : c.code = cc) (hts : ∀ w ∈ Ts, w.before args s = true) (hown : s.vm.findClass own = some m.cls) (hK : va_K D cl tys s) (hc : cl[ci]? = some r) (hC : tw_C ft Ts ci r ty) (hi : i < r.2.2) (hlink : (Cond.fieldLink own idx (r.2.1 i).1 (r.2.1 i).2.1 (r.2.1 i).2.2.1).before args s = true) (hd : decode cc pc = .ok (.putfield idx, 3)) (hfin : (r.2.1 i).2.2.2 = true) (hin2 : meth.name = "<init>") (hdecl : (r.2.1 i).1 = own) {x : Int32} (hq : L[q]? = some (ci, n, rs)) (hn : i < n) (hv : ft ci i = 0 ∨ (ft ci i = 1 ∧ (x = 0 ∨ x = 1)))
    (kk : tw_G p l e R s m args below meth c Q cl ft D cA b z nL n0 s0 A fl (pc + 3) ls st L (tw_up f q i x)) : tw_G p l e R s m args below meth c Q cl ft D cA b z nL n0 s0 A fl pc ls (tw_I x :: tw_R q :: st) L f := by
  intro H locs la g1 g2 hW hS hh
  obtain ⟨C, T, N⟩ := r
  obtain ⟨hin, hty, hnm, h100, hft⟩ := hC
  have hap := va_apart (own := own) hts hin ty hty hnm hK hc
  have h0 := hW.at hq
  rw [tw_e_obj h100] at h0
  obtain ⟨r', h1, cell, q1, q2, q3, q4⟩ := h0
  have hr : r' = (C, T, N) := Option.some.inj (h1.symm.trans hc)
  subst hr
  obtain ⟨hSl, hfc, kC, hkC, hkind⟩ := hK.1 ci _ hc
  obtain ⟨cf, kf, fi, fd, hi2, hsl⟩ := hSl i hi
  have hlay := hts _ (hin _ (u_in_lay hi))
  unfold u_lay at hlay
  rw [if_pos hfin] at hlay
  have hst := (u_facts hfc hkC (u_lays hts hin hi) hi2).1
  have hcf : m.cls = cf := by
    obtain ⟨_, _, c', _, _, _, -, -, hf', -, -, -, hown2, -⟩ := Cond.laysFinal_spec hlay
    have e1 : c' = cf := by have := hi2.symm.trans hf'; simp at this; exact this.1.symm
    have hdecl' : (T i).1 = own := hdecl
    rw [hdecl'] at hown2
    rw [← e1]; exact Option.some.inj (hown.symm.trans hown2)
  have hnf : narrow (ty i) (.int x) = .int x ∧ fits (ty i) (.int x) = true := by
    rcases hft i hi with ⟨a1, a2⟩ | ⟨a1, a2⟩ | ⟨a1, a2⟩
    · rw [a2]; exact ⟨rfl, rfl⟩
    · rw [a2]
      rcases hv with v1 | ⟨-, v1 | v1⟩
      · rw [v1] at a1; cases a1
      · subst v1; exact ⟨rfl, rfl⟩
      · subst v1; exact ⟨rfl, rfl⟩
    · rcases hv with v1 | ⟨v1, -⟩
      · rw [v1] at a1; cases a1
      · rw [v1] at a1; cases a1
  have h6 := u_fits hfc hkC hkind (Or.inr hlay) hi2 (hty i hi) hnf.1 hnf.2
  refine W.putFinK hx hb hown hlink hi2 hst hcf hin2 (v := .int x) (a := b + q) (rest := st.map (tw_v b z)) (by rw [q2]; exact h6) q1 q3 (by rw [hsl]; exact k2_hasslot (q4 i hi)) rfl rfl hd fun H' e1 e2 e3 => ?_
  rw [hsl] at e1 ⊢
  refine kk H' _ la g1 g2 (hW.put (k := (ci, n, rs)) rfl (fun _ _ => rfl) (fun j hj => tw_up_off hj) hq ?_ e2 e3) (hS.put e2 e3 (hA _ (Nat.le_add_right b q))) hh
  rw [tw_e_obj h100, ← tw_fs_set hn hv]
  exact ⟨_, hc, t_OB.to (V := updV (vp_V (tw_fs ft b q (ci, n, rs) f)) i (.int x)) ⟨_, e1, q2, q3, t_set q4 hap hi _⟩ (fun j _ => vp_updV_set (by rw [tw_fs_len]; exact hn) _ j)⟩
theorem tg_putFr (hA : ∀ x, b ≤ x → A x) (hx : p.tables.exec = Jvm.exec) (hb : c.code = cc) (hts : ∀ w ∈ Ts, w.before args s = true) (hown : s.vm.findClass own = some m.cls) (hK : va_K D cl tys s) (hc : cl[ci]? = some r) (hC : tw_C ft Ts ci r ty) (hi : i < r.2.2) (hlink : (Cond.fieldLink own idx (r.2.1 i).1 (r.2.1 i).2.1 (r.2.1 i).2.2.1).before args s = true) (hd : decode cc pc = .ok (.putfield idx, 3)) (hfin : (r.2.1 i).2.2.2 = true) (hin2 : meth.name = "<init>") (hdecl : (r.2.1 i).1 = own) {q2 : Nat} (hq : L[q]? = some (ci, n, rs)) (hn : i < n) (hrs : i < rs.length) (hv : ft ci i = 2)
    (kk : tw_G p l e R s m args below meth c Q cl ft D cA b z nL n0 s0 A fl (pc + 3) ls st (L.set q (ci, n, rs.set i (some q2))) f) : tw_G p l e R s m args below meth c Q cl ft D cA b z nL n0 s0 A fl pc ls (tw_R q2 :: tw_R q :: st) L f := by
  intro H locs la g1 g2 hW hS hh
  obtain ⟨C, T, N⟩ := r
  obtain ⟨hin, hty, hnm, h100, hft⟩ := hC
  have hap := va_apart (own := own) hts hin ty hty hnm hK hc
  have h0 := hW.at hq
  rw [tw_e_obj h100] at h0
  obtain ⟨r', h1, cell, q1, q2', q3, q4⟩ := h0
  have hr : r' = (C, T, N) := Option.some.inj (h1.symm.trans hc)
  subst hr
  obtain ⟨hSl, hfc, kC, hkC, hkind⟩ := hK.1 ci _ hc
  obtain ⟨cf, kf, fi, fd, hi2, hsl⟩ := hSl i hi
  have hlay := hts _ (hin _ (u_in_lay hi))
  unfold u_lay at hlay
  rw [if_pos hfin] at hlay
  have hst := (u_facts hfc hkC (u_lays hts hin hi) hi2).1
  have hcf : m.cls = cf := by
    obtain ⟨_, _, c', _, _, _, -, -, hf', -, -, -, hown2, -⟩ := Cond.laysFinal_spec hlay
    have e1 : c' = cf := by have := hi2.symm.trans hf'; simp at this; exact this.1.symm
    have hdecl' : (T i).1 = own := hdecl
    rw [hdecl'] at hown2
    rw [← e1]; exact Option.some.inj (hown.symm.trans hown2)
  have hnf : narrow (ty i) (.ref (b + q2)) = .ref (b + q2) ∧ fits (ty i) (.ref (b + q2)) = true := by
    rcases hft i hi with ⟨a1, a2⟩ | ⟨a1, a2⟩ | ⟨a1, ⟨C', a2⟩ | ⟨t, a2⟩⟩
    · rw [hv] at a1; cases a1
    · rw [hv] at a1; cases a1
    · rw [a2]; exact ⟨rfl, rfl⟩
    · rw [a2]; exact ⟨rfl, rfl⟩
  have h6 := u_fits hfc hkC hkind (Or.inr hlay) hi2 (hty i hi) hnf.1 hnf.2
  have hlt : q < L.length := (List.getElem?_eq_some_iff.mp hq).1
  refine W.putFinK hx hb hown hlink hi2 hst hcf hin2 (v := .ref (b + q2)) (a := b + q) (rest := st.map (tw_v b z)) (by rw [q2']; exact h6) q1 q3 (by rw [hsl]; exact k2_hasslot (q4 i hi)) rfl rfl hd fun H' e1 e2 e3 => ?_
  rw [hsl] at e1 ⊢
  have hsl2 : tw_sl (L.set q (ci, n, rs.set i (some q2))) = tw_sl L := by
    unfold tw_sl
    rw [List.map_set]
    congr 1
    refine List.ext_getElem? (fun j => ?_)
    by_cases hj : q = j
    · subst hj
      rw [List.getElem?_set_self (by rw [List.length_map]; exact hlt), List.getElem?_map, hq]; rfl
    · rw [List.getElem?_set_ne hj]
  have hlen : (L.set q (ci, n, rs.set i (some q2))).length = L.length := List.length_set
  have h9 := kk H' _ la (by rw [hlen]; exact g1) (by rw [hsl2]; exact g2) (hW.put (k := (ci, n, rs.set i (some q2))) hlen (fun j hj => List.getElem?_set_ne (fun g => hj g.symm)) (fun j hj => rfl) (List.getElem?_set_self hlt) ?_ e2 e3) (hS.put (k := D.2 ci i) e2 e3 (hA _ (Nat.le_add_right b q))) hh
  · rw [hlen, hsl2] at h9
    exact h9
  · rw [tw_e_obj h100, ← tw_fs_setR hn hrs hv]
    exact ⟨_, hc, t_OB.to (V := updV (vp_V (tw_fs ft b q (ci, n, rs) f)) i (.ref (b + q2))) ⟨_, e1, q2', q3, t_set q4 hap hi _⟩ (fun j _ => vp_updV_set (by rw [tw_fs_len]; exact hn) _ j)⟩
theorem tg_iaload (hx : p.tables.exec = Jvm.exec) (hb : c.code = cc) (hK : va_K D cl tys s) {t0 : Nat} (ht : tys[t0]? = some (cA 100, .int)) (hd : decode cc pc = .ok (.iaload, 1)) {x : Int32} (hq : L[q]? = some (100, n, rs)) (hin : vp_in x n)
    (kk : tw_G p l e R s m args below meth c Q cl ft D cA b z nL n0 s0 A fl (pc + 1) ls (tw_I (f q x.toNatClampNeg) :: st) L f) : tw_G p l e R s m args below meth c Q cl ft D cA b z nL n0 s0 A fl pc ls (tw_I x :: tw_R q :: st) L f :=
  fun H locs la g1 g2 hW hS hh => va_iald hx hb hK hW.1 q t0 (tw_ws_at hq) ht hin hd (kk H locs la g1 g2 hW hS hh)
theorem tg_baload (hx : p.tables.exec = Jvm.exec) (hb : c.code = cc) (hK : va_K D cl tys s) {t0 : Nat} (ht : tys[t0]? = some (cA 101, .boolean)) (hd : decode cc pc = .ok (.baload, 1)) {x : Int32} (hq : L[q]? = some (101, n, rs)) (hin : vp_in x n)
    (kk : tw_G p l e R s m args below meth c Q cl ft D cA b z nL n0 s0 A fl (pc + 1) ls (tw_I (tw_nz (f q x.toNatClampNeg)) :: st) L f) : tw_G p l e R s m args below meth c Q cl ft D cA b z nL n0 s0 A fl pc ls (tw_I x :: tw_R q :: st) L f :=
  fun H locs la g1 g2 hW hS hh => va_zald hx hb hK hW.1 q t0 (tw_ws_at hq) ht hin hd (kk H locs la g1 g2 hW hS hh)
theorem tg_laload (hx : p.tables.exec = Jvm.exec) (hb : c.code = cc) (hK : va_K D cl tys s) {t0 : Nat} (ht : tys[t0]? = some (cA 102, .long)) (hd : decode cc pc = .ok (.laload, 1)) {x : Int32} (hq : L[q]? = some (102, n, rs)) (hin : vp_in x n)
    (kk : tw_G p l e R s m args below meth c Q cl ft D cA b z nL n0 s0 A fl (pc + 1) ls (tw_J (f q x.toNatClampNeg) :: st) L f) : tw_G p l e R s m args below meth c Q cl ft D cA b z nL n0 s0 A fl pc ls (tw_I x :: tw_R q :: st) L f :=
  fun H locs la g1 g2 hW hS hh => va_lald hx hb hK hW.1 q t0 (tw_ws_at hq) ht hin hd (kk H locs la g1 g2 hW hS hh)
theorem tg_iastore (hA : ∀ x, b ≤ x → A x) (hx : p.tables.exec = Jvm.exec) (hb : c.code = cc) (hK : va_K D cl tys s) {t0 : Nat} (ht : tys[t0]? = some (cA 100, .int)) (hd : decode cc pc = .ok (.iastore, 1)) {x y : Int32} (hq : L[q]? = some (100, n, rs)) (hin : vp_in x n)
    (kk : tw_G p l e R s m args below meth c Q cl ft D cA b z nL n0 s0 A fl (pc + 1) ls st L (tw_up f q x.toNatClampNeg y)) : tw_G p l e R s m args below meth c Q cl ft D cA b z nL n0 s0 A fl pc ls (tw_I y :: tw_I x :: tw_R q :: st) L f := by
  intro H locs la g1 g2 hW hS hh
  have h0 : H[b + q]? = some (arrV (cA 100) n (fun j => .int (f q j))) := hW.at hq
  refine W.iast hx hb (a := b + q) (rest := st.map (tw_v b z)) h0 ((hK.2 t0 _ ht).1 n (fun j => .int (f q j))) (fun g => by cases g) (by rw [arrV_size]; exact hin) rfl rfl hd fun H1 e1 e2 e3 => ?_
  refine kk H1 _ la g1 g2 (hW.put (k := (100, n, rs)) rfl (fun _ _ => rfl) (fun j hj => tw_up_off hj) hq ?_ e2 e3) (hS.put e2 e3 (hA _ (Nat.le_add_right b q))) hh
  show H1[b + q]? = some (arrV (cA 100) n (fun j => .int (tw_up f q x.toNatClampNeg y q j)))
  rw [e1, arrV_store, tw_up_on]
  congr 2
  funext j
  by_cases hj : j = x.toNatClampNeg
  · subst hj
    simp [updV, upd]
  · simp [updV, upd, hj]
theorem tg_bastore (hA : ∀ x, b ≤ x → A x) (hx : p.tables.exec = Jvm.exec) (hb : c.code = cc) (hK : va_K D cl tys s) {t0 : Nat} (ht : tys[t0]? = some (cA 101, .boolean)) (hd : decode cc pc = .ok (.bastore, 1)) {x y : Int32} (hq : L[q]? = some (101, n, rs)) (hin : vp_in x n) (hy : y = 0 ∨ y = 1)
    (kk : tw_G p l e R s m args below meth c Q cl ft D cA b z nL n0 s0 A fl (pc + 1) ls st L (tw_up f q x.toNatClampNeg y)) : tw_G p l e R s m args below meth c Q cl ft D cA b z nL n0 s0 A fl pc ls (tw_I y :: tw_I x :: tw_R q :: st) L f := by
  intro H locs la g1 g2 hW hS hh
  have h0 : H[b + q]? = some (arrV (cA 101) n (fun j => .int (tw_nz (f q j)))) := hW.at hq
  refine W.zast hx hb (a := b + q) (rest := st.map (tw_v b z)) h0 ((hK.2 t0 _ ht).1 n (fun j => .int (tw_nz (f q j)))) (fun g => by cases g) (by rw [arrV_size]; exact hin) rfl rfl hd fun H1 e1 e2 e3 => ?_
  refine kk H1 _ la g1 g2 (hW.put (k := (101, n, rs)) rfl (fun _ _ => rfl) (fun j hj => tw_up_off hj) hq ?_ e2 e3) (hS.put e2 e3 (hA _ (Nat.le_add_right b q))) hh
  show H1[b + q]? = some (arrV (cA 101) n (fun j => .int (tw_nz (tw_up f q x.toNatClampNeg y q j))))
  have hn : narrow .boolean (.int y) = .int (tw_nz y) := by
    rcases hy with rfl | rfl
    · rfl
    · rfl
  rw [e1, arrV_store, hn, tw_up_on]
  congr 2
  funext j
  by_cases hj : j = x.toNatClampNeg
  · subst hj
    simp [updV, upd]
  · simp [updV, upd, hj]
/-- a fresh cell's ints are 0 -/
def tw_z (f : tw_S) (q : Nat) : tw_S := fun q' i' => if q' = q then 0 else f q' i'
theorem tw_z_off {f : tw_S} {q j : Nat} (h : j ≠ q) : tw_z f q j = f j := by
  funext w
  unfold tw_z
  rw [if_neg h]
theorem tw_z_on {f : tw_S} {q : Nat} : tw_z f q q = fun _ => 0 := by
  funext w
  unfold tw_z
  rw [if_pos rfl]
theorem tw_sl_push {L : tw_L} {k : tw_K} : tw_sl (L ++ [k]) = tw_sl L + k.2.1 := by
  unfold tw_sl
  rw [List.map_append, List.sum_append]
  simp
theorem tg_new (hx : p.tables.exec = Jvm.exec) (hb : c.code = cc) (hts : ∀ w ∈ Ts, w.before args s = true) (hown : s.vm.findClass own = some m.cls) (hK : va_K D cl tys s) (hc : cl[ci]? = some r) (hC : tw_C ft Ts ci r ty) (hlink : (Cond.classLink own idx r.1).before args s = true) (hinst : (Cond.instantiable r.1 r.2.2).before args s = true) (hini : (Cond.initialized r.1).before args s = true) (hd : decode cc pc = .ok (.new idx, 3)) (hb0 : b ≤ s.heap.size) (hcells : (((L.length + 1 : Nat) : Int) - n0).toNat ≤ R.cells) (hslots : (((tw_sl L + r.2.2 : Nat) : Int) - s0).toNat ≤ R.slots)
    (kk : tw_G p l e R s m args below meth c Q cl ft D cA b z nL n0 s0 A true (pc + 3) ls (tw_R L.length :: st) (L ++ [(ci, r.2.2, List.replicate r.2.2 none)]) (tw_z f L.length)) : tw_G p l e R s m args below meth c Q cl ft D cA b z nL n0 s0 A true pc ls st L f := by
  intro H locs la g1 g2 hW hS hh
  obtain ⟨C, T, N⟩ := r
  obtain ⟨hin, hty, hnm, h100, hft⟩ := hC
  have hKn := hK.1 ci _ hc
  have hsz := hW.2.2.1 rfl
  refine W.newcK hx hb hown hlink hinst hini (g := F0 m pc la (st.map (tw_v b z))) rfl hd (by show (((L.length : Nat) : Int) - n0).toNat + 1 ≤ _; omega) (by show (((tw_sl L : Nat) : Int) - s0).toNat + N ≤ _; have h9 : (((tw_sl L + N : Nat) : Int) - s0).toNat ≤ R.slots := hslots; omega) hKn.2.1 hsz fun H1 kC hkC e1 z1 o1 => ?_
  have hpush : tw_W cl ft D cA b true (L ++ [(ci, N, List.replicate N none)]) (tw_z f L.length) H1 := by
    refine hW.push (fun j hj => tw_z_off (by omega)) ?_ (by rw [z1, hsz]) (fun x hx => o1 x (by omega))
    rw [tw_e_obj h100]
    refine ⟨_, hc, (u_born ty hts hin hKn hkC e1 hty).to (fun j hj => ?_)⟩
    show defaultValue (ty j) = (tw_fs ft b L.length (ci, N, List.replicate N none) (tw_z f L.length)).getD j .null
    rw [List.getD_eq_getElem?_getD, tw_fs_at (k := (ci, N, List.replicate N none)) hj, tw_z_on]
    show defaultValue (ty j) = tw_fv (ft ci j) b ((List.replicate N none).getD j none) 0
    have h2 : (List.replicate N (none : Option Nat)).getD j none = none := by
      rw [List.getD_eq_getElem?_getD, List.getElem?_replicate]
      split
      · rfl
      · rfl
    rw [h2]
    rcases hft j hj with ⟨a1, a2⟩ | ⟨a1, a2⟩ | ⟨a1, ⟨C', a2⟩ | ⟨t, a2⟩⟩
    · rw [a1, a2]; rfl
    · rw [a1, a2]; rfl
    · rw [a1, a2]; rfl
    · rw [a1, a2]; rfl
  have h9 := kk H1 locs la (by rw [List.length_append]; omega) (by rw [tw_sl_push]; omega) hpush ⟨Nat.le_trans hS.1 (by omega), fun x h1 h2 => (o1 x (by have := hS.1; omega)).trans (hS.2.1 x h1 h2), hS.2.2⟩ hh
  rw [tw_sl_push, List.length_append] at h9
  have a1 : (((L.length + [(ci, N, List.replicate N (none : Option Nat))].length : Nat) : Int) - n0).toNat = (((L.length : Nat) : Int) - n0).toNat + 1 := by
    show (((L.length + 1 : Nat) : Int) - n0).toNat = _
    omega
  have a2 : (((tw_sl L + N : Nat) : Int) - s0).toNat = (((tw_sl L : Nat) : Int) - s0).toNat + N := by omega
  rw [a1] at h9
  show W p l e R s m args below meth c H1 locs ((((L.length : Nat) : Int) - n0).toNat + 1) ((((tw_sl L : Nat) : Int) - s0).toNat + N) Q (F0 m (pc + 3) la (.ref (b + L.length) :: st.map (tw_v b z)))
  rw [← a2]
  exact h9
def tw_ty (a : Nat) : FieldType := if a = 100 then .int else if a = 101 then .boolean else .long
def tw_at (a : Nat) : ArrayType := if a = 100 then .int else if a = 101 then .boolean else .long
theorem tg_newa (hx : p.tables.exec = Jvm.exec) (hb : c.code = cc) {a t0 : Nat} (ha : a = 100 ∨ a = 101 ∨ a = 102) (harr : (Cond.arrayClass (tw_ty a)).before args s = true) (hK : va_K D cl tys s) (ht : tys[t0]? = some (cA a, tw_ty a)) (hd : decode cc pc = .ok (.newarray (tw_at a), 2)) {x : Int32} (hxn : x = nI n) (hn : n < 4096) (hcells : (((L.length + 1 : Nat) : Int) - n0).toNat ≤ R.cells) (hslots : (((tw_sl L + n : Nat) : Int) - s0).toNat ≤ R.slots)
    (kk : tw_G p l e R s m args below meth c Q cl ft D cA b z nL n0 s0 A true (pc + 2) ls (tw_R L.length :: st) (L ++ [(a, n, [])]) (tw_z f L.length)) : tw_G p l e R s m args below meth c Q cl ft D cA b z nL n0 s0 A true pc ls (tw_I x :: st) L f := by
  intro H locs la g1 g2 hW hS hh
  subst hxn
  have hsz := hW.2.2.1 rfl
  have hty : newarray.typeOf (tw_at a) = tw_ty a := by rcases ha with rfl | rfl | rfl <;> rfl
  have hby : componentBytes (tw_ty a) ≤ 8 := by rcases ha with rfl | rfl | rfl <;> decide
  have hnm := (hK.2 t0 _ ht).2
  refine va_newaK hx hb (by rw [hty]; exact harr) (g := F0 m pc la ((tw_I (nI n) :: st).map (tw_v b z))) rfl hd (n := nI n) (rest := st.map (tw_v b z)) rfl (nI_pos (by omega)) (nI_clamp (by omega)) (by rw [hty]; exact Nat.le_trans (Nat.mul_le_mul (Nat.le_of_lt hn) hby) (by decide)) (by show (((L.length : Nat) : Int) - n0).toNat + 1 ≤ _; omega) (by show (((tw_sl L : Nat) : Int) - s0).toNat + n ≤ _; omega) hsz fun H1 cB e1 z1 o1 hAr hNm => ?_
  rw [hty] at e1 hNm hAr
  have hcB : cB = cA a := by
    have h2 : s.vm.findClass ("[" ++ (tw_ty a).toString) = some (cA a) := by
      rcases ha with rfl | rfl | rfl
      · exact hnm
      · exact hnm
      · exact hnm
    exact Option.some.inj (hNm.symm.trans h2)
  subst hcB
  have hpush : tw_W cl ft D cA b true (L ++ [(a, n, [])]) (tw_z f L.length) H1 := by
    refine hW.push (fun j hj => tw_z_off (by omega)) ?_ (by rw [z1, hsz]) (fun x hx => o1 x (by omega))
    rcases ha with rfl | rfl | rfl
    · show H1[b + L.length]? = some (arrV (cA 100) n (fun j => .int (tw_z f L.length L.length j)))
      rw [e1, tw_z_on]; rfl
    · show H1[b + L.length]? = some (arrV (cA 101) n (fun j => .int (tw_nz (tw_z f L.length L.length j))))
      rw [e1, tw_z_on]; rfl
    · show H1[b + L.length]? = some (arrV (cA 102) n (fun j => .long (tw_z f L.length L.length j).toInt64))
      rw [e1, tw_z_on]; rfl
  have h9 := kk H1 locs la (by rw [List.length_append]; omega) (by rw [tw_sl_push]; omega) hpush ⟨Nat.le_trans hS.1 (by omega), fun x h1 h2 => (o1 x (by have := hS.1; omega)).trans (hS.2.1 x h1 h2), hS.2.2⟩ hh
  rw [tw_sl_push, List.length_append] at h9
  have a1 : (((L.length + [(a, n, ([] : List (Option Nat)))].length : Nat) : Int) - n0).toNat = (((L.length : Nat) : Int) - n0).toNat + 1 := by
    show (((L.length + 1 : Nat) : Int) - n0).toNat = _
    omega
  have a2 : (((tw_sl L + n : Nat) : Int) - s0).toNat = (((tw_sl L : Nat) : Int) - s0).toNat + n := by omega
  rw [a1] at h9
  show W p l e R s m args below meth c H1 locs ((((L.length : Nat) : Int) - n0).toNat + 1) ((((tw_sl L : Nat) : Int) - s0).toNat + n) Q (F0 m (pc + 2) la (.ref (b + L.length) :: st.map (tw_v b z)))
  rw [← a2]
  exact h9
end HEAP
end
section
/-! Ends and calls. -/
def tw_Qc (cl : List vw_C) (ft : Nat → Nat → Nat) (D : va_G) (cA : Nat → ClassId) (b z : Nat) (A : Nat → Prop) (fl : Bool) (L : tw_L) (P : tw_S → Option tw_A → Prop) : Array Value → State → Outcome → State → Prop := fun _ st oc t =>
  (∃ (f : tw_S) (r : Option tw_A), oc = .returned (r.map (tw_v b z)) ∧ P f r ∧ tw_W cl ft D cA b fl L f t.heap) ∧ va_F A st t
abbrev tw_N : Type := String × Nat × MethodName × String
def tw_Pc (cl : List vw_C) (ft : Nat → Nat → Nat) (D : va_G) (cA : Nat → ClassId) (tys : List (ClassId × FieldType)) (Nm : List tw_N) (b z : Nat) (fl : Bool) (As : List tw_A) (L : tw_L) (f : tw_S) : Array Value → State → Prop := fun v U =>
  v = (As.map (tw_v b z)).toArray ∧ tw_W cl ft D cA b fl L f U.heap ∧ va_K D cl tys U ∧ ∀ x ∈ Nm, va_Nw (.methodLinkNest x.1 x.2.1 x.2.2.1 x.2.2.2) U
theorem tw_blind {cl : List vw_C} {ft : Nat → Nat → Nat} {D : va_G} {cA : Nat → ClassId} {tys : List (ClassId × FieldType)} {Nm : List tw_N} {b z : Nat} {fl : Bool} {As : List tw_A} {L : tw_L} {f : tw_S} : FrameBlind (tw_Pc cl ft D cA tys Nm b z fl As L f) :=
  fun a U g mk h => ⟨h.1, h.2.1, va_K.moved (u := U) (U := U.calling g mk a) (Vm.Alike.refl U.vm) h.2.2.1, fun x hx => va_Nw.same (u := U) (U := U.calling g mk a) rfl rfl (h.2.2.2 x hx)⟩
section CALLS
variable {p : Program} {l : Launch} {e : Env} {R : Room} {s : State} {m : MethodId} {args : Array Value} {below : List Frame} {meth : Method} {c : Code} {Q : State → Prop} {cl : List vw_C} {ft : Nat → Nat → Nat} {D : va_G} {cA : Nat → ClassId} {b z nL : Nat} {n0 s0 : Int} {A : Nat → Prop} {fl : Bool} {cc : ByteArray} {pc : Nat} {ls : List (Option tw_A)} {st : List tw_A} {L : tw_L} {f : tw_S} {tys : List (ClassId × FieldType)} {Nm : List tw_N} {P : tw_S → Option tw_A → Prop}
theorem tg_iret (hx : p.tables.exec = Jvm.exec) (hb : c.code = cc) (hr : meth.sig.returnType = some .int) (hlocks : meth.locks = false) {x : Int32} (hd : decode cc pc = .ok (.ireturn, 1)) (hP : P f (some (tw_I x))) :
    tw_G p l e R s m args below meth c (MQ below (tw_Qc cl ft D cA b z A fl L P) args s ((((L.length : Nat) : Int) - n0).toNat) ((((tw_sl L : Nat) : Int) - s0).toNat) A) cl ft D cA b z nL n0 s0 A fl pc ls [tw_I x] L f :=
  fun _ _ _ _ _ hW hS _ => W.iret (v := x) hx hb hr (fun t ht _ => ⟨⟨f, some (tw_I x), rfl, hP, by rw [ht]; exact hW⟩, hS.F ht⟩) hS.2.2 hd hlocks
theorem tg_zret (hx : p.tables.exec = Jvm.exec) (hb : c.code = cc) (hr : meth.sig.returnType = some .boolean) (hlocks : meth.locks = false) {x : Int32} (hd : decode cc pc = .ok (.ireturn, 1)) (h01 : x = 0 ∨ x = 1) (hP : P f (some (tw_I x))) :
    tw_G p l e R s m args below meth c (MQ below (tw_Qc cl ft D cA b z A fl L P) args s ((((L.length : Nat) : Int) - n0).toNat) ((((tw_sl L : Nat) : Int) - s0).toNat) A) cl ft D cA b z nL n0 s0 A fl pc ls [tw_I x] L f :=
  fun _ _ _ _ _ hW hS _ => W.zret (v := x) hx hb hr (by rcases h01 with rfl | rfl <;> rfl) (fun t ht _ => ⟨⟨f, some (tw_I x), rfl, hP, by rw [ht]; exact hW⟩, hS.F ht⟩) hS.2.2 hd hlocks
theorem tg_vret (hx : p.tables.exec = Jvm.exec) (hb : c.code = cc) (hr : meth.sig.returnType = none) (hlocks : meth.locks = false) (hd : decode cc pc = .ok (.return_, 1)) (hP : P f none) :
    tw_G p l e R s m args below meth c (MQ below (tw_Qc cl ft D cA b z A fl L P) args s ((((L.length : Nat) : Int) - n0).toNat) ((((tw_sl L : Nat) : Int) - s0).toNat) A) cl ft D cA b z nL n0 s0 A fl pc ls [] L f :=
  fun _ _ _ _ _ hW hS _ => W.vret hx hb hr (fun t ht _ => ⟨⟨f, none, rfl, hP, by rw [ht]; exact hW⟩, hS.F ht⟩) hS.2.2 hd hlocks
theorem tg_aret (hx : p.tables.exec = Jvm.exec) (hb : c.code = cc) {rt : FieldType} (hr : meth.sig.returnType = some rt) (hrt : (∃ n, rt = .object n) ∨ ∃ t, rt = .array t) (hlocks : meth.locks = false) {q : Nat} (hd : decode cc pc = .ok (.areturn, 1)) (hP : P f (some (tw_R q))) :
    tw_G p l e R s m args below meth c (MQ below (tw_Qc cl ft D cA b z A fl L P) args s ((((L.length : Nat) : Int) - n0).toNat) ((((tw_sl L : Nat) : Int) - s0).toNat) A) cl ft D cA b z nL n0 s0 A fl pc ls [tw_R q] L f :=
  fun _ _ _ _ _ hW hS _ => W.aret (v := .ref (b + q)) hx hb hr hrt (Or.inr ⟨_, rfl⟩) (fun t ht _ => ⟨⟨f, some (tw_R q), rfl, hP, by rw [ht]; exact hW⟩, hS.F ht⟩) hS.2.2 hd hlocks
theorem tw_callW {H : Heap} {H0 : Heap} {locs : List Loc} {cells slots mc ms : Nat} {la : Array Slot} {st0 rest : List Value} {L' : tw_L} {a : Array Value}
    (hr : va_Run p l e R s m args below meth c H locs cells slots mc ms (F0 m pc la st0) rest (tw_Qc cl ft D cA b z A fl L' P a) A) (hS : va_S A H0 H locs)
    (kk : ∀ (f' : tw_S) (r : Option tw_A) (H1 : Heap) (locs1 : List Loc), P f' r → tw_W cl ft D cA b fl L' f' H1 → va_S A H0 H1 locs1 → W p l e R s m args below meth c H1 locs1 (cells + mc) (slots + ms) Q (F0 m (pc + 3) la ((r.map (tw_v b z)).toList ++ rest))) : W p l e R s m args below meth c H locs cells slots Q (F0 m pc la st0) := by
  intro T hT X
  obtain ⟨v, st₀, t, T', L2, h0, X', hL, e1, e2, ⟨⟨f', r, hv, hp, hw⟩, hz, hk⟩, stp⟩ := hr T hT X
  cases hv
  rw [h0] at hz hk
  obtain ⟨t2, a1, b1⟩ := kk f' r T'.heap (locs ++ L2) hp (by rw [e1]; exact hw)
    ⟨Nat.le_trans hS.1 (by rw [e1]; exact hz), fun q h1 h2 => by rw [e1, hk q (Nat.lt_of_lt_of_le h1 hS.1) h2]; exact hS.2.1 q h1 h2, fun q hq => by
      rcases List.mem_append.mp hq with h | h
      · exact hS.2.2 q h
      · exact hL q h⟩ T' rfl X'
  exact ⟨t2, stp t2 a1, b1⟩
theorem tg_call {L' : tw_L} {st0 rest : List tw_A} {a : Array Value} (h1 : L.length ≤ L'.length) (h2 : tw_sl L ≤ tw_sl L')
    (hr : ∀ (H : Heap) (locs : List Loc) (la : Array Slot), n0 ≤ (L.length : Int) → s0 ≤ ((tw_sl L : Nat) : Int) → tw_W cl ft D cA b fl L f H → la.size = nL → va_Run p l e R s m args below meth c H locs ((((L.length : Nat) : Int) - n0).toNat) ((((tw_sl L : Nat) : Int) - s0).toNat) (L'.length - L.length) (tw_sl L' - tw_sl L) (F0 m pc la (st0.map (tw_v b z))) (rest.map (tw_v b z)) (tw_Qc cl ft D cA b z A fl L' P a) A)
    (kk : ∀ (f' : tw_S) (r : Option tw_A), P f' r → tw_G p l e R s m args below meth c Q cl ft D cA b z nL n0 s0 A fl (pc + 3) ls (r.toList ++ rest) L' f') : tw_G p l e R s m args below meth c Q cl ft D cA b z nL n0 s0 A fl pc ls st0 L f := by
  intro H locs la g1 g2 hW hS hh
  refine tw_callW (hr H locs la g1 g2 hW hh.1) hS (fun f' r H1 locs1 hP hW1 hS1 => ?_)
  have h9 := kk f' r hP H1 locs1 la (by omega) (by omega) hW1 hS1 hh
  have a1 : (((L.length : Nat) : Int) - n0).toNat + (L'.length - L.length) = (((L'.length : Nat) : Int) - n0).toNat := by omega
  have a2 : (((tw_sl L : Nat) : Int) - s0).toNat + (tw_sl L' - tw_sl L) = (((tw_sl L' : Nat) : Int) - s0).toNat := by omega
  rw [a1, a2]
  have a3 : ((r.toList ++ rest).map (tw_v b z)) = (r.map (tw_v b z)).toList ++ rest.map (tw_v b z) := by
    rw [List.map_append]
    cases r <;> rfl
  rw [a3] at h9
  exact h9
theorem tw_room {g : JFrame} {rest : List tw_A} (hg : g.monitorRoom = 0) (h : (rest.map tw_ct).sum ≤ 8) : 2 * g.monitorRoom + ((rest.map (tw_v b z)).map fun v => v.category).sum ≤ 8 := by
  rw [List.map_map]
  have h2 : ((fun v : Value => v.category) ∘ tw_v b z) = tw_ct := by
    funext a
    exact tw_ct_v b z a
  rw [h2, hg]
  omega
/-- a method's end at the machine: from a contract to a run, for each kind of call -/
theorem tr_V {Ts ws : List Cond} {own C : String} {y : MethodName} {bytes : ByteArray} {maxL idx n q ci nn : Nat} {ret : Option FieldType} {rm : Room} {L' : tw_L} {As rest : List tw_A} {rs : List (Option Nat)} {r : vw_C} {H : Heap} {locs : List Loc} {la : Array Slot} {mc ms cells slots : Nat}
    (S : CallFix p m c cc nL s args Ts own) (hM : Met l y ws rm (tw_Pc cl ft D cA tys Nm b z fl (tw_R q :: As) L f) (tw_Qc cl ft D cA b z A fl L' P) mc ms A) (cw : CallW R s args own C idx y bytes maxL ret ws rm mc ms n) (hK : va_K D cl tys s) (hN : ∀ x ∈ Nm, va_Nw (.methodLinkNest x.1 x.2.1 x.2.2.1 x.2.2.2) s)
    (hq : L[q]? = some (ci, nn, rs)) (h100 : ci < 100) (hc : cl[ci]? = some r) (hC : r.1 = C) (hW : tw_W cl ft D cA b fl L f H) (hla : la.size = nL) (hn : As.length = n) (hrest : (rest.map tw_ct).sum ≤ 8) (hd : decode cc pc = .ok (.invokevirtual idx, 3)) (hf : cells + mc ≤ R.cells ∧ slots + ms ≤ R.slots) :
    va_Run p l e R s m args below meth c H locs cells slots mc ms (F0 m pc la ((As.reverse ++ tw_R q :: rest).map (tw_v b z))) (rest.map (tw_v b z)) (tw_Qc cl ft D cA b z A fl L' P (Value.ref (b + q) :: As.map (tw_v b z)).toArray) A := by
  have he : (tw_ws ft cA b L f)[q]? = some (b + q, .inr (ci, tw_fs ft b q (ci, nn, rs) f)) := by
    rw [tw_ws_at hq, tw_e_obj h100]
  have hrec := va_recv hK hW.1 hc he
  rw [hC] at hrec
  exact va_runV S hM cw ⟨tw_blind, hrec, fun U hU hWm => ⟨rfl, by rw [hU]; exact hW, va_K.moved hWm.alike hK, fun x hx => va_Nw.warmM hWm (hN x hx)⟩⟩ rfl (by rw [List.length_map]; exact hn) hla (by show ((As.reverse ++ tw_R q :: rest).map (tw_v b z)) = _; rw [List.map_append, List.map_reverse]; rfl) (tw_room rfl hrest) hd hf
theorem tr_VN {Ts ws : List Cond} {own C host : String} {y : MethodName} {bytes : ByteArray} {maxL idx n q ci nn : Nat} {ret : Option FieldType} {rm : Room} {L' : tw_L} {As rest : List tw_A} {rs : List (Option Nat)} {r : vw_C} {H : Heap} {locs : List Loc} {la : Array Slot} {mc ms cells slots : Nat}
    (S : CallFix p m c cc nL s args Ts own) (hM : Met l y ws rm (tw_Pc cl ft D cA tys Nm b z fl (tw_R q :: As) L f) (tw_Qc cl ft D cA b z A fl L' P) mc ms A) (cw : va_CN R s args own idx y host bytes maxL ret ws rm mc ms n ∧ (Cond.instanceMethod y).before args s = true ∧ (Cond.selects C y y).before args s = true) (hK : va_K D cl tys s) (hN : ∀ x ∈ Nm, va_Nw (.methodLinkNest x.1 x.2.1 x.2.2.1 x.2.2.2) s)
    (hq : L[q]? = some (ci, nn, rs)) (h100 : ci < 100) (hc : cl[ci]? = some r) (hC : r.1 = C) (hW : tw_W cl ft D cA b fl L f H) (hla : la.size = nL) (hn : As.length = n) (hrest : (rest.map tw_ct).sum ≤ 8) (hd : decode cc pc = .ok (.invokevirtual idx, 3)) (hf : cells + mc ≤ R.cells ∧ slots + ms ≤ R.slots) :
    va_Run p l e R s m args below meth c H locs cells slots mc ms (F0 m pc la ((As.reverse ++ tw_R q :: rest).map (tw_v b z))) (rest.map (tw_v b z)) (tw_Qc cl ft D cA b z A fl L' P (Value.ref (b + q) :: As.map (tw_v b z)).toArray) A := by
  have he : (tw_ws ft cA b L f)[q]? = some (b + q, .inr (ci, tw_fs ft b q (ci, nn, rs) f)) := by
    rw [tw_ws_at hq, tw_e_obj h100]
  have hrec := va_recv hK hW.1 hc he
  rw [hC] at hrec
  exact va_runVN S hM cw ⟨tw_blind, hrec, fun U hU hWm => ⟨rfl, by rw [hU]; exact hW, va_K.moved hWm.alike hK, fun x hx => va_Nw.warmM hWm (hN x hx)⟩⟩ rfl (by rw [List.length_map]; exact hn) hla (by show ((As.reverse ++ tw_R q :: rest).map (tw_v b z)) = _; rw [List.map_append, List.map_reverse]; rfl) (tw_room rfl hrest) hd hf
theorem tr_S {Ts ws : List Cond} {own : String} {y : MethodName} {bytes : ByteArray} {maxL idx n : Nat} {ret : Option FieldType} {rm : Room} {L' : tw_L} {As rest : List tw_A} {H : Heap} {locs : List Loc} {la : Array Slot} {mc ms cells slots : Nat}
    (S : CallFix p m c cc nL s args Ts own) (hM : Met l y ws rm (tw_Pc cl ft D cA tys Nm b z fl As L f) (tw_Qc cl ft D cA b z A fl L' P) mc ms A) (cw : CallB R s args own idx y bytes maxL ret ws rm mc ms n ∧ (Cond.static y).before args s = true) (hK : va_K D cl tys s) (hN : ∀ x ∈ Nm, va_Nw (.methodLinkNest x.1 x.2.1 x.2.2.1 x.2.2.2) s)
    (hW : tw_W cl ft D cA b fl L f H) (hla : la.size = nL) (hn : As.length = n) (hrest : (rest.map tw_ct).sum ≤ 8) (hd : decode cc pc = .ok (.invokestatic idx, 3)) (hf : cells + mc ≤ R.cells ∧ slots + ms ≤ R.slots) :
    va_Run p l e R s m args below meth c H locs cells slots mc ms (F0 m pc la ((As.reverse ++ rest).map (tw_v b z))) (rest.map (tw_v b z)) (tw_Qc cl ft D cA b z A fl L' P (As.map (tw_v b z)).toArray) A :=
  va_runS S hM cw ⟨tw_blind, fun U hU hWm => ⟨rfl, by rw [hU]; exact hW, va_K.moved hWm.alike hK, fun x hx => va_Nw.warmM hWm (hN x hx)⟩⟩ rfl (by rw [List.length_map]; exact hn) hla (by show ((As.reverse ++ rest).map (tw_v b z)) = _; rw [List.map_append, List.map_reverse]) (tw_room rfl hrest) hd hf
theorem tr_SN {Ts ws : List Cond} {own host : String} {y : MethodName} {bytes : ByteArray} {maxL idx n : Nat} {ret : Option FieldType} {rm : Room} {L' : tw_L} {As rest : List tw_A} {H : Heap} {locs : List Loc} {la : Array Slot} {mc ms cells slots : Nat}
    (S : CallFix p m c cc nL s args Ts own) (hM : Met l y ws rm (tw_Pc cl ft D cA tys Nm b z fl As L f) (tw_Qc cl ft D cA b z A fl L' P) mc ms A) (cw : va_CN R s args own idx y host bytes maxL ret ws rm mc ms n ∧ (Cond.static y).before args s = true ∧ True) (hK : va_K D cl tys s) (hN : ∀ x ∈ Nm, va_Nw (.methodLinkNest x.1 x.2.1 x.2.2.1 x.2.2.2) s)
    (hW : tw_W cl ft D cA b fl L f H) (hla : la.size = nL) (hn : As.length = n) (hrest : (rest.map tw_ct).sum ≤ 8) (hd : decode cc pc = .ok (.invokestatic idx, 3)) (hf : cells + mc ≤ R.cells ∧ slots + ms ≤ R.slots) :
    va_Run p l e R s m args below meth c H locs cells slots mc ms (F0 m pc la ((As.reverse ++ rest).map (tw_v b z))) (rest.map (tw_v b z)) (tw_Qc cl ft D cA b z A fl L' P (As.map (tw_v b z)).toArray) A :=
  va_runSN S hM cw ⟨tw_blind, fun U hU hWm => ⟨rfl, by rw [hU]; exact hW, va_K.moved hWm.alike hK, fun x hx => va_Nw.warmM hWm (hN x hx)⟩⟩ rfl (by rw [List.length_map]; exact hn) hla (by show ((As.reverse ++ rest).map (tw_v b z)) = _; rw [List.map_append, List.map_reverse]) (tw_room rfl hrest) hd hf
theorem tr_I {Ts ws : List Cond} {own : String} {y : MethodName} {bytes : ByteArray} {maxL idx n q : Nat} {rm : Room} {L' : tw_L} {As rest : List tw_A} {H : Heap} {locs : List Loc} {la : Array Slot} {mc ms cells slots : Nat}
    (S : CallFix p m c cc nL s args Ts own) (hM : Met l y ws rm (tw_Pc cl ft D cA tys Nm b z fl (tw_R q :: As) L f) (tw_Qc cl ft D cA b z A fl L' P) mc ms A) (cw : CallB R s args own idx y bytes maxL none ws rm mc ms n ∧ y.name = "<init>" ∧ (Cond.instanceMethod y).before args s = true) (hK : va_K D cl tys s) (hN : ∀ x ∈ Nm, va_Nw (.methodLinkNest x.1 x.2.1 x.2.2.1 x.2.2.2) s)
    (hW : tw_W cl ft D cA b fl L f H) (hla : la.size = nL) (hn : As.length = n) (hrest : (rest.map tw_ct).sum ≤ 8) (hd : decode cc pc = .ok (.invokespecial idx, 3)) (hf : cells + mc ≤ R.cells ∧ slots + ms ≤ R.slots) :
    va_Run p l e R s m args below meth c H locs cells slots mc ms (F0 m pc la ((As.reverse ++ tw_R q :: rest).map (tw_v b z))) (rest.map (tw_v b z)) (tw_Qc cl ft D cA b z A fl L' P (Value.ref (b + q) :: As.map (tw_v b z)).toArray) A :=
  va_runI S hM cw ⟨tw_blind, fun U hU hWm => ⟨rfl, by rw [hU]; exact hW, va_K.moved hWm.alike hK, fun x hx => va_Nw.warmM hWm (hN x hx)⟩⟩ rfl (by rw [List.length_map]; exact hn) hla (by show ((As.reverse ++ tw_R q :: rest).map (tw_v b z)) = _; rw [List.map_append, List.map_reverse]; rfl) (tw_room rfl hrest) hd hf
theorem tr_IN {Ts ws : List Cond} {own host : String} {y : MethodName} {bytes : ByteArray} {maxL idx n q : Nat} {rm : Room} {L' : tw_L} {As rest : List tw_A} {H : Heap} {locs : List Loc} {la : Array Slot} {mc ms cells slots : Nat}
    (S : CallFix p m c cc nL s args Ts own) (hM : Met l y ws rm (tw_Pc cl ft D cA tys Nm b z fl (tw_R q :: As) L f) (tw_Qc cl ft D cA b z A fl L' P) mc ms A) (cw : va_CN R s args own idx y host bytes maxL none ws rm mc ms n ∧ y.name = "<init>" ∧ (Cond.instanceMethod y).before args s = true) (hK : va_K D cl tys s) (hN : ∀ x ∈ Nm, va_Nw (.methodLinkNest x.1 x.2.1 x.2.2.1 x.2.2.2) s)
    (hW : tw_W cl ft D cA b fl L f H) (hla : la.size = nL) (hn : As.length = n) (hrest : (rest.map tw_ct).sum ≤ 8) (hd : decode cc pc = .ok (.invokespecial idx, 3)) (hf : cells + mc ≤ R.cells ∧ slots + ms ≤ R.slots) :
    va_Run p l e R s m args below meth c H locs cells slots mc ms (F0 m pc la ((As.reverse ++ tw_R q :: rest).map (tw_v b z))) (rest.map (tw_v b z)) (tw_Qc cl ft D cA b z A fl L' P (Value.ref (b + q) :: As.map (tw_v b z)).toArray) A :=
  va_runIN S hM cw ⟨tw_blind, fun U hU hWm => ⟨rfl, by rw [hU]; exact hW, va_K.moved hWm.alike hK, fun x hx => va_Nw.warmM hWm (hN x hx)⟩⟩ rfl (by rw [List.length_map]; exact hn) hla (by show ((As.reverse ++ tw_R q :: rest).map (tw_v b z)) = _; rw [List.map_append, List.map_reverse]; rfl) (tw_room rfl hrest) hd hf
end CALLS
end
section
/-! What a method does, said by rules: an instruction of its table at a time (tw_Cl), a method as the least that is closed under them (tw_Sp). -/
abbrev tw_O : Type := Nat × Nat × Nat × Nat × Int × Int32
abbrev tw_T : Type := List (Nat × tw_O)
abbrev tw_MR : Type := Nat × String × MethodName × ByteArray × Nat × Option FieldType × (Nat × Nat × Nat × Nat × Nat) × tw_T
abbrev tw_X : Type := Nat → List (Option tw_A) → List tw_A → tw_L → tw_S → Prop
abbrev tw_SP : Type := Nat → List tw_A → tw_L → tw_S → tw_L → (tw_S → Option tw_A → Prop) → Prop
abbrev tw_SW : Type := List (Int × List Nat × Nat)
def tw_na (mt : List tw_MR) (k : Nat) : Nat := match mt[k]? with
  | some r => r.2.2.2.2.2.2.1.2.2.1
  | none => 0
def tw_tg (lo : Int) (ts : List Nat) (df : Nat) (x : Int32) : Nat := if x.toInt < lo then df else ts.getD (x.toInt - lo).toNat df
def tw_in (n : Nat) (As : List tw_A) : List (Option tw_A) := As.map some ++ List.replicate (n - As.length) none
def tw_r0 (mt : List tw_MR) (sw : tw_SW) (ft : Nat → Nat → Nat) (fl : Bool) (xs : Option (Nat × (Nat → Int32))) (Sp : tw_SP) (Lf : tw_L) (P : tw_S → Option tw_A → Prop) (t : tw_T) (X : tw_X) : Prop := ∀ (ix pc a b c : Nat) (n : Int) (v : Int32) (ls : List (Option tw_A)) (st : List tw_A) (L : tw_L) (f : tw_S) (x : Int32), t[ix]? = some (pc, 0, a, b, c, n, v) → ls[a]? = some (some (tw_I x)) → X (ix + 1) ls (tw_I x :: st) L f → X ix ls st L f
def tw_r1 (mt : List tw_MR) (sw : tw_SW) (ft : Nat → Nat → Nat) (fl : Bool) (xs : Option (Nat × (Nat → Int32))) (Sp : tw_SP) (Lf : tw_L) (P : tw_S → Option tw_A → Prop) (t : tw_T) (X : tw_X) : Prop := ∀ (ix pc a b c : Nat) (n : Int) (v : Int32) (ls : List (Option tw_A)) (st : List tw_A) (L : tw_L) (f : tw_S) (x : Int32), t[ix]? = some (pc, 1, a, b, c, n, v) → ls[a]? = some (some (tw_I x)) → X (ix + 1) ls (tw_I x :: st) L f → X ix ls st L f
def tw_r2 (mt : List tw_MR) (sw : tw_SW) (ft : Nat → Nat → Nat) (fl : Bool) (xs : Option (Nat × (Nat → Int32))) (Sp : tw_SP) (Lf : tw_L) (P : tw_S → Option tw_A → Prop) (t : tw_T) (X : tw_X) : Prop := ∀ (ix pc a b c : Nat) (n : Int) (v : Int32) (ls : List (Option tw_A)) (st : List tw_A) (L : tw_L) (f : tw_S) (q : Nat), t[ix]? = some (pc, 2, a, b, c, n, v) → ls[a]? = some (some (tw_R q)) → X (ix + 1) ls (tw_R q :: st) L f → X ix ls st L f
def tw_r3 (mt : List tw_MR) (sw : tw_SW) (ft : Nat → Nat → Nat) (fl : Bool) (xs : Option (Nat × (Nat → Int32))) (Sp : tw_SP) (Lf : tw_L) (P : tw_S → Option tw_A → Prop) (t : tw_T) (X : tw_X) : Prop := ∀ (ix pc a b c : Nat) (n : Int) (v : Int32) (ls : List (Option tw_A)) (st : List tw_A) (L : tw_L) (f : tw_S) (q : Nat), t[ix]? = some (pc, 3, a, b, c, n, v) → ls[a]? = some (some (tw_R q)) → X (ix + 1) ls (tw_R q :: st) L f → X ix ls st L f
def tw_r4 (mt : List tw_MR) (sw : tw_SW) (ft : Nat → Nat → Nat) (fl : Bool) (xs : Option (Nat × (Nat → Int32))) (Sp : tw_SP) (Lf : tw_L) (P : tw_S → Option tw_A → Prop) (t : tw_T) (X : tw_X) : Prop := ∀ (ix pc a b c : Nat) (n : Int) (v : Int32) (ls : List (Option tw_A)) (st : List tw_A) (L : tw_L) (f : tw_S) , t[ix]? = some (pc, 4, a, b, c, n, v) → X (ix + 1) ls (tw_I v :: st) L f → X ix ls st L f
def tw_r5 (mt : List tw_MR) (sw : tw_SW) (ft : Nat → Nat → Nat) (fl : Bool) (xs : Option (Nat × (Nat → Int32))) (Sp : tw_SP) (Lf : tw_L) (P : tw_S → Option tw_A → Prop) (t : tw_T) (X : tw_X) : Prop := ∀ (ix pc a b c : Nat) (n : Int) (v : Int32) (ls : List (Option tw_A)) (st : List tw_A) (L : tw_L) (f : tw_S) , t[ix]? = some (pc, 5, a, b, c, n, v) → X (ix + 1) ls (tw_I v :: st) L f → X ix ls st L f
def tw_r6 (mt : List tw_MR) (sw : tw_SW) (ft : Nat → Nat → Nat) (fl : Bool) (xs : Option (Nat × (Nat → Int32))) (Sp : tw_SP) (Lf : tw_L) (P : tw_S → Option tw_A → Prop) (t : tw_T) (X : tw_X) : Prop := ∀ (ix pc a b c : Nat) (n : Int) (v : Int32) (ls : List (Option tw_A)) (st : List tw_A) (L : tw_L) (f : tw_S) , t[ix]? = some (pc, 6, a, b, c, n, v) → X (ix + 1) ls (tw_I v :: st) L f → X ix ls st L f
def tw_r7 (mt : List tw_MR) (sw : tw_SW) (ft : Nat → Nat → Nat) (fl : Bool) (xs : Option (Nat × (Nat → Int32))) (Sp : tw_SP) (Lf : tw_L) (P : tw_S → Option tw_A → Prop) (t : tw_T) (X : tw_X) : Prop := ∀ (ix pc a b c : Nat) (n : Int) (v : Int32) (ls : List (Option tw_A)) (st : List tw_A) (L : tw_L) (f : tw_S) (x : Int32), t[ix]? = some (pc, 7, a, b, c, n, v) → a < ls.length → X (ix + 1) (ls.set a (some (tw_I x))) st L f → X ix ls (tw_I x :: st) L f
def tw_r8 (mt : List tw_MR) (sw : tw_SW) (ft : Nat → Nat → Nat) (fl : Bool) (xs : Option (Nat × (Nat → Int32))) (Sp : tw_SP) (Lf : tw_L) (P : tw_S → Option tw_A → Prop) (t : tw_T) (X : tw_X) : Prop := ∀ (ix pc a b c : Nat) (n : Int) (v : Int32) (ls : List (Option tw_A)) (st : List tw_A) (L : tw_L) (f : tw_S) (x : Int32), t[ix]? = some (pc, 8, a, b, c, n, v) → a < ls.length → X (ix + 1) (ls.set a (some (tw_I x))) st L f → X ix ls (tw_I x :: st) L f
def tw_r9 (mt : List tw_MR) (sw : tw_SW) (ft : Nat → Nat → Nat) (fl : Bool) (xs : Option (Nat × (Nat → Int32))) (Sp : tw_SP) (Lf : tw_L) (P : tw_S → Option tw_A → Prop) (t : tw_T) (X : tw_X) : Prop := ∀ (ix pc a b c : Nat) (n : Int) (v : Int32) (ls : List (Option tw_A)) (st : List tw_A) (L : tw_L) (f : tw_S) (q : Nat), t[ix]? = some (pc, 9, a, b, c, n, v) → a < ls.length → X (ix + 1) (ls.set a (some (tw_R q))) st L f → X ix ls (tw_R q :: st) L f
def tw_r10 (mt : List tw_MR) (sw : tw_SW) (ft : Nat → Nat → Nat) (fl : Bool) (xs : Option (Nat × (Nat → Int32))) (Sp : tw_SP) (Lf : tw_L) (P : tw_S → Option tw_A → Prop) (t : tw_T) (X : tw_X) : Prop := ∀ (ix pc a b c : Nat) (n : Int) (v : Int32) (ls : List (Option tw_A)) (st : List tw_A) (L : tw_L) (f : tw_S) (q : Nat), t[ix]? = some (pc, 10, a, b, c, n, v) → a < ls.length → X (ix + 1) (ls.set a (some (tw_R q))) st L f → X ix ls (tw_R q :: st) L f
def tw_r11 (mt : List tw_MR) (sw : tw_SW) (ft : Nat → Nat → Nat) (fl : Bool) (xs : Option (Nat × (Nat → Int32))) (Sp : tw_SP) (Lf : tw_L) (P : tw_S → Option tw_A → Prop) (t : tw_T) (X : tw_X) : Prop := ∀ (ix pc a b c : Nat) (n : Int) (v : Int32) (ls : List (Option tw_A)) (st : List tw_A) (L : tw_L) (f : tw_S) (x : Int32), t[ix]? = some (pc, 11, a, b, c, n, v) → ls[a]? = some (some (tw_I x)) → X (ix + 1) (ls.set a (some (tw_I (x + v)))) st L f → X ix ls st L f
def tw_r12 (mt : List tw_MR) (sw : tw_SW) (ft : Nat → Nat → Nat) (fl : Bool) (xs : Option (Nat × (Nat → Int32))) (Sp : tw_SP) (Lf : tw_L) (P : tw_S → Option tw_A → Prop) (t : tw_T) (X : tw_X) : Prop := ∀ (ix pc a b c : Nat) (n : Int) (v : Int32) (ls : List (Option tw_A)) (st : List tw_A) (L : tw_L) (f : tw_S) (x y : Int32), t[ix]? = some (pc, 12, a, b, c, n, v) → X (ix + 1) ls (tw_I (x + y) :: st) L f → X ix ls (tw_I y :: tw_I x :: st) L f
def tw_r13 (mt : List tw_MR) (sw : tw_SW) (ft : Nat → Nat → Nat) (fl : Bool) (xs : Option (Nat × (Nat → Int32))) (Sp : tw_SP) (Lf : tw_L) (P : tw_S → Option tw_A → Prop) (t : tw_T) (X : tw_X) : Prop := ∀ (ix pc a b c : Nat) (n : Int) (v : Int32) (ls : List (Option tw_A)) (st : List tw_A) (L : tw_L) (f : tw_S) (x y : Int32), t[ix]? = some (pc, 13, a, b, c, n, v) → X (ix + 1) ls (tw_I (x - y) :: st) L f → X ix ls (tw_I y :: tw_I x :: st) L f
def tw_r14 (mt : List tw_MR) (sw : tw_SW) (ft : Nat → Nat → Nat) (fl : Bool) (xs : Option (Nat × (Nat → Int32))) (Sp : tw_SP) (Lf : tw_L) (P : tw_S → Option tw_A → Prop) (t : tw_T) (X : tw_X) : Prop := ∀ (ix pc a b c : Nat) (n : Int) (v : Int32) (ls : List (Option tw_A)) (st : List tw_A) (L : tw_L) (f : tw_S) (x y : Int32), t[ix]? = some (pc, 14, a, b, c, n, v) → X (ix + 1) ls (tw_I (x * y) :: st) L f → X ix ls (tw_I y :: tw_I x :: st) L f
def tw_r15 (mt : List tw_MR) (sw : tw_SW) (ft : Nat → Nat → Nat) (fl : Bool) (xs : Option (Nat × (Nat → Int32))) (Sp : tw_SP) (Lf : tw_L) (P : tw_S → Option tw_A → Prop) (t : tw_T) (X : tw_X) : Prop := ∀ (ix pc a b c : Nat) (n : Int) (v : Int32) (ls : List (Option tw_A)) (st : List tw_A) (L : tw_L) (f : tw_S) (x y : Int32), t[ix]? = some (pc, 15, a, b, c, n, v) → X (ix + 1) ls (tw_I (x &&& y) :: st) L f → X ix ls (tw_I y :: tw_I x :: st) L f
def tw_r16 (mt : List tw_MR) (sw : tw_SW) (ft : Nat → Nat → Nat) (fl : Bool) (xs : Option (Nat × (Nat → Int32))) (Sp : tw_SP) (Lf : tw_L) (P : tw_S → Option tw_A → Prop) (t : tw_T) (X : tw_X) : Prop := ∀ (ix pc a b c : Nat) (n : Int) (v : Int32) (ls : List (Option tw_A)) (st : List tw_A) (L : tw_L) (f : tw_S) (x y : Int32), t[ix]? = some (pc, 16, a, b, c, n, v) → X (ix + 1) ls (tw_I (x ||| y) :: st) L f → X ix ls (tw_I y :: tw_I x :: st) L f
def tw_r17 (mt : List tw_MR) (sw : tw_SW) (ft : Nat → Nat → Nat) (fl : Bool) (xs : Option (Nat × (Nat → Int32))) (Sp : tw_SP) (Lf : tw_L) (P : tw_S → Option tw_A → Prop) (t : tw_T) (X : tw_X) : Prop := ∀ (ix pc a b c : Nat) (n : Int) (v : Int32) (ls : List (Option tw_A)) (st : List tw_A) (L : tw_L) (f : tw_S) (x y : Int32), t[ix]? = some (pc, 17, a, b, c, n, v) → X (ix + 1) ls (tw_I (x ^^^ y) :: st) L f → X ix ls (tw_I y :: tw_I x :: st) L f
def tw_r18 (mt : List tw_MR) (sw : tw_SW) (ft : Nat → Nat → Nat) (fl : Bool) (xs : Option (Nat × (Nat → Int32))) (Sp : tw_SP) (Lf : tw_L) (P : tw_S → Option tw_A → Prop) (t : tw_T) (X : tw_X) : Prop := ∀ (ix pc a b c : Nat) (n : Int) (v : Int32) (ls : List (Option tw_A)) (st : List tw_A) (L : tw_L) (f : tw_S) (x y : Int32), t[ix]? = some (pc, 18, a, b, c, n, v) → X (ix + 1) ls (tw_I (x <<< (y &&& 31)) :: st) L f → X ix ls (tw_I y :: tw_I x :: st) L f
def tw_r19 (mt : List tw_MR) (sw : tw_SW) (ft : Nat → Nat → Nat) (fl : Bool) (xs : Option (Nat × (Nat → Int32))) (Sp : tw_SP) (Lf : tw_L) (P : tw_S → Option tw_A → Prop) (t : tw_T) (X : tw_X) : Prop := ∀ (ix pc a b c : Nat) (n : Int) (v : Int32) (ls : List (Option tw_A)) (st : List tw_A) (L : tw_L) (f : tw_S) (x y : Int32), t[ix]? = some (pc, 19, a, b, c, n, v) → X (ix + 1) ls (tw_I (x >>> (y &&& 31)) :: st) L f → X ix ls (tw_I y :: tw_I x :: st) L f
def tw_r20 (mt : List tw_MR) (sw : tw_SW) (ft : Nat → Nat → Nat) (fl : Bool) (xs : Option (Nat × (Nat → Int32))) (Sp : tw_SP) (Lf : tw_L) (P : tw_S → Option tw_A → Prop) (t : tw_T) (X : tw_X) : Prop := ∀ (ix pc a b c : Nat) (n : Int) (v : Int32) (ls : List (Option tw_A)) (st : List tw_A) (L : tw_L) (f : tw_S) (x y : Int32), t[ix]? = some (pc, 20, a, b, c, n, v) → ¬ y = 0 → X (ix + 1) ls (tw_I (x / y) :: st) L f → X ix ls (tw_I y :: tw_I x :: st) L f
def tw_r21 (mt : List tw_MR) (sw : tw_SW) (ft : Nat → Nat → Nat) (fl : Bool) (xs : Option (Nat × (Nat → Int32))) (Sp : tw_SP) (Lf : tw_L) (P : tw_S → Option tw_A → Prop) (t : tw_T) (X : tw_X) : Prop := ∀ (ix pc a b c : Nat) (n : Int) (v : Int32) (ls : List (Option tw_A)) (st : List tw_A) (L : tw_L) (f : tw_S) (x y : Int32), t[ix]? = some (pc, 21, a, b, c, n, v) → ¬ y = 0 → X (ix + 1) ls (tw_I (x - x / y * y) :: st) L f → X ix ls (tw_I y :: tw_I x :: st) L f
def tw_r22 (mt : List tw_MR) (sw : tw_SW) (ft : Nat → Nat → Nat) (fl : Bool) (xs : Option (Nat × (Nat → Int32))) (Sp : tw_SP) (Lf : tw_L) (P : tw_S → Option tw_A → Prop) (t : tw_T) (X : tw_X) : Prop := ∀ (ix pc a b c : Nat) (n : Int) (v : Int32) (ls : List (Option tw_A)) (st : List tw_A) (L : tw_L) (f : tw_S) (x : Int32), t[ix]? = some (pc, 22, a, b, c, n, v) → (tw_cd a x 0 → X b ls st L f) → (¬ tw_cd a x 0 → X (ix + 1) ls st L f) → X ix ls (tw_I x :: st) L f
def tw_r23 (mt : List tw_MR) (sw : tw_SW) (ft : Nat → Nat → Nat) (fl : Bool) (xs : Option (Nat × (Nat → Int32))) (Sp : tw_SP) (Lf : tw_L) (P : tw_S → Option tw_A → Prop) (t : tw_T) (X : tw_X) : Prop := ∀ (ix pc a b c : Nat) (n : Int) (v : Int32) (ls : List (Option tw_A)) (st : List tw_A) (L : tw_L) (f : tw_S) (x y : Int32), t[ix]? = some (pc, 23, a, b, c, n, v) → (tw_cd a x y → X b ls st L f) → (¬ tw_cd a x y → X (ix + 1) ls st L f) → X ix ls (tw_I y :: tw_I x :: st) L f
def tw_r24 (mt : List tw_MR) (sw : tw_SW) (ft : Nat → Nat → Nat) (fl : Bool) (xs : Option (Nat × (Nat → Int32))) (Sp : tw_SP) (Lf : tw_L) (P : tw_S → Option tw_A → Prop) (t : tw_T) (X : tw_X) : Prop := ∀ (ix pc a b c : Nat) (n : Int) (v : Int32) (ls : List (Option tw_A)) (st : List tw_A) (L : tw_L) (f : tw_S) , t[ix]? = some (pc, 24, a, b, c, n, v) → X b ls st L f → X ix ls st L f
def tw_r25 (mt : List tw_MR) (sw : tw_SW) (ft : Nat → Nat → Nat) (fl : Bool) (xs : Option (Nat × (Nat → Int32))) (Sp : tw_SP) (Lf : tw_L) (P : tw_S → Option tw_A → Prop) (t : tw_T) (X : tw_X) : Prop := ∀ (ix pc a b c : Nat) (n : Int) (v : Int32) (ls : List (Option tw_A)) (st : List tw_A) (L : tw_L) (f : tw_S) (w : tw_A), t[ix]? = some (pc, 25, a, b, c, n, v) → tw_ct w = 1 → X (ix + 1) ls (w :: w :: st) L f → X ix ls (w :: st) L f
def tw_r26 (mt : List tw_MR) (sw : tw_SW) (ft : Nat → Nat → Nat) (fl : Bool) (xs : Option (Nat × (Nat → Int32))) (Sp : tw_SP) (Lf : tw_L) (P : tw_S → Option tw_A → Prop) (t : tw_T) (X : tw_X) : Prop := ∀ (ix pc a b c : Nat) (n : Int) (v : Int32) (ls : List (Option tw_A)) (st : List tw_A) (L : tw_L) (f : tw_S) (w u : tw_A), t[ix]? = some (pc, 26, a, b, c, n, v) → tw_ct w = 1 → tw_ct u = 1 → X (ix + 1) ls (w :: u :: w :: u :: st) L f → X ix ls (w :: u :: st) L f
def tw_r27 (mt : List tw_MR) (sw : tw_SW) (ft : Nat → Nat → Nat) (fl : Bool) (xs : Option (Nat × (Nat → Int32))) (Sp : tw_SP) (Lf : tw_L) (P : tw_S → Option tw_A → Prop) (t : tw_T) (X : tw_X) : Prop := ∀ (ix pc a b c : Nat) (n : Int) (v : Int32) (ls : List (Option tw_A)) (st : List tw_A) (L : tw_L) (f : tw_S) (q nn : Nat) (rs : List (Option Nat)), t[ix]? = some (pc, 27, a, b, c, n, v) → L[q]? = some (a, nn, rs) → b < nn → X (ix + 1) ls (tw_fa (ft a b) (rs.getD b none) (f q b) :: st) L f → X ix ls (tw_R q :: st) L f
def tw_r28 (mt : List tw_MR) (sw : tw_SW) (ft : Nat → Nat → Nat) (fl : Bool) (xs : Option (Nat × (Nat → Int32))) (Sp : tw_SP) (Lf : tw_L) (P : tw_S → Option tw_A → Prop) (t : tw_T) (X : tw_X) : Prop := ∀ (ix pc a b c : Nat) (n : Int) (v : Int32) (ls : List (Option tw_A)) (st : List tw_A) (L : tw_L) (f : tw_S) (x : Int32) (q nn : Nat) (rs : List (Option Nat)), t[ix]? = some (pc, 28, a, b, c, n, v) → L[q]? = some (a, nn, rs) → b < nn → (ft a b = 0 ∨ (ft a b = 1 ∧ (x = 0 ∨ x = 1))) → X (ix + 1) ls st L (tw_up f q b x) → X ix ls (tw_I x :: tw_R q :: st) L f
def tw_r29 (mt : List tw_MR) (sw : tw_SW) (ft : Nat → Nat → Nat) (fl : Bool) (xs : Option (Nat × (Nat → Int32))) (Sp : tw_SP) (Lf : tw_L) (P : tw_S → Option tw_A → Prop) (t : tw_T) (X : tw_X) : Prop := ∀ (ix pc a b c : Nat) (n : Int) (v : Int32) (ls : List (Option tw_A)) (st : List tw_A) (L : tw_L) (f : tw_S) (x : Int32) (q nn : Nat) (rs : List (Option Nat)), t[ix]? = some (pc, 29, a, b, c, n, v) → L[q]? = some (a, nn, rs) → b < nn → (ft a b = 0 ∨ (ft a b = 1 ∧ (x = 0 ∨ x = 1))) → X (ix + 1) ls st L (tw_up f q b x) → X ix ls (tw_I x :: tw_R q :: st) L f
def tw_r30 (mt : List tw_MR) (sw : tw_SW) (ft : Nat → Nat → Nat) (fl : Bool) (xs : Option (Nat × (Nat → Int32))) (Sp : tw_SP) (Lf : tw_L) (P : tw_S → Option tw_A → Prop) (t : tw_T) (X : tw_X) : Prop := ∀ (ix pc a b c : Nat) (n : Int) (v : Int32) (ls : List (Option tw_A)) (st : List tw_A) (L : tw_L) (f : tw_S) (q2 q nn : Nat) (rs : List (Option Nat)), t[ix]? = some (pc, 30, a, b, c, n, v) → L[q]? = some (a, nn, rs) → b < nn → b < rs.length → ft a b = 2 → X (ix + 1) ls st (L.set q (a, nn, rs.set b (some q2))) f → X ix ls (tw_R q2 :: tw_R q :: st) L f
def tw_r31 (mt : List tw_MR) (sw : tw_SW) (ft : Nat → Nat → Nat) (fl : Bool) (xs : Option (Nat × (Nat → Int32))) (Sp : tw_SP) (Lf : tw_L) (P : tw_S → Option tw_A → Prop) (t : tw_T) (X : tw_X) : Prop := ∀ (ix pc a b c : Nat) (n : Int) (v : Int32) (ls : List (Option tw_A)) (st : List tw_A) (L : tw_L) (f : tw_S) (x : Int32) (q nn : Nat) (rs : List (Option Nat)), t[ix]? = some (pc, 31, a, b, c, n, v) → L[q]? = some (100, nn, rs) → vp_in x nn → X (ix + 1) ls (tw_I (f q x.toNatClampNeg) :: st) L f → X ix ls (tw_I x :: tw_R q :: st) L f
def tw_r32 (mt : List tw_MR) (sw : tw_SW) (ft : Nat → Nat → Nat) (fl : Bool) (xs : Option (Nat × (Nat → Int32))) (Sp : tw_SP) (Lf : tw_L) (P : tw_S → Option tw_A → Prop) (t : tw_T) (X : tw_X) : Prop := ∀ (ix pc a b c : Nat) (n : Int) (v : Int32) (ls : List (Option tw_A)) (st : List tw_A) (L : tw_L) (f : tw_S) (x : Int32) (q nn : Nat) (rs : List (Option Nat)), t[ix]? = some (pc, 32, a, b, c, n, v) → L[q]? = some (101, nn, rs) → vp_in x nn → X (ix + 1) ls (tw_I (tw_nz (f q x.toNatClampNeg)) :: st) L f → X ix ls (tw_I x :: tw_R q :: st) L f
def tw_r33 (mt : List tw_MR) (sw : tw_SW) (ft : Nat → Nat → Nat) (fl : Bool) (xs : Option (Nat × (Nat → Int32))) (Sp : tw_SP) (Lf : tw_L) (P : tw_S → Option tw_A → Prop) (t : tw_T) (X : tw_X) : Prop := ∀ (ix pc a b c : Nat) (n : Int) (v : Int32) (ls : List (Option tw_A)) (st : List tw_A) (L : tw_L) (f : tw_S) (x y : Int32) (q nn : Nat) (rs : List (Option Nat)), t[ix]? = some (pc, 33, a, b, c, n, v) → L[q]? = some (100, nn, rs) → vp_in x nn → X (ix + 1) ls st L (tw_up f q x.toNatClampNeg y) → X ix ls (tw_I y :: tw_I x :: tw_R q :: st) L f
def tw_r34 (mt : List tw_MR) (sw : tw_SW) (ft : Nat → Nat → Nat) (fl : Bool) (xs : Option (Nat × (Nat → Int32))) (Sp : tw_SP) (Lf : tw_L) (P : tw_S → Option tw_A → Prop) (t : tw_T) (X : tw_X) : Prop := ∀ (ix pc a b c : Nat) (n : Int) (v : Int32) (ls : List (Option tw_A)) (st : List tw_A) (L : tw_L) (f : tw_S) (x y : Int32) (q nn : Nat) (rs : List (Option Nat)), t[ix]? = some (pc, 34, a, b, c, n, v) → L[q]? = some (101, nn, rs) → vp_in x nn → (y = 0 ∨ y = 1) → X (ix + 1) ls st L (tw_up f q x.toNatClampNeg y) → X ix ls (tw_I y :: tw_I x :: tw_R q :: st) L f
def tw_r35 (mt : List tw_MR) (sw : tw_SW) (ft : Nat → Nat → Nat) (fl : Bool) (xs : Option (Nat × (Nat → Int32))) (Sp : tw_SP) (Lf : tw_L) (P : tw_S → Option tw_A → Prop) (t : tw_T) (X : tw_X) : Prop := ∀ (ix pc a b c : Nat) (n : Int) (v : Int32) (ls : List (Option tw_A)) (st : List tw_A) (L : tw_L) (f : tw_S) (As : List tw_A) (L2 : tw_L) (q nn : Nat) (rs : List (Option Nat)), t[ix]? = some (pc, 35, a, b, c, n, v) → L[q]? = some (b, nn, rs) → As.length = tw_na mt a → (st.map tw_ct).sum ≤ 8 → L.length ≤ L2.length → tw_sl L ≤ tw_sl L2 → L2.length ≤ Lf.length → tw_sl L2 ≤ tw_sl Lf → Sp a (tw_R q :: As) L f L2 (fun f2 r => X (ix + 1) ls (r.toList ++ st) L2 f2) → X ix ls (As.reverse ++ tw_R q :: st) L f
def tw_r36 (mt : List tw_MR) (sw : tw_SW) (ft : Nat → Nat → Nat) (fl : Bool) (xs : Option (Nat × (Nat → Int32))) (Sp : tw_SP) (Lf : tw_L) (P : tw_S → Option tw_A → Prop) (t : tw_T) (X : tw_X) : Prop := ∀ (ix pc a b c : Nat) (n : Int) (v : Int32) (ls : List (Option tw_A)) (st : List tw_A) (L : tw_L) (f : tw_S) (As : List tw_A) (L2 : tw_L), t[ix]? = some (pc, 36, a, b, c, n, v) → As.length = tw_na mt a → (st.map tw_ct).sum ≤ 8 → L.length ≤ L2.length → tw_sl L ≤ tw_sl L2 → L2.length ≤ Lf.length → tw_sl L2 ≤ tw_sl Lf → Sp a As L f L2 (fun f2 r => X (ix + 1) ls (r.toList ++ st) L2 f2) → X ix ls (As.reverse ++ st) L f
def tw_r37 (mt : List tw_MR) (sw : tw_SW) (ft : Nat → Nat → Nat) (fl : Bool) (xs : Option (Nat × (Nat → Int32))) (Sp : tw_SP) (Lf : tw_L) (P : tw_S → Option tw_A → Prop) (t : tw_T) (X : tw_X) : Prop := ∀ (ix pc a b c : Nat) (n : Int) (v : Int32) (ls : List (Option tw_A)) (st : List tw_A) (L : tw_L) (f : tw_S) (As : List tw_A) (L2 : tw_L) (q : Nat), t[ix]? = some (pc, 37, a, b, c, n, v) → As.length = tw_na mt a → (st.map tw_ct).sum ≤ 8 → L.length ≤ L2.length → tw_sl L ≤ tw_sl L2 → L2.length ≤ Lf.length → tw_sl L2 ≤ tw_sl Lf → Sp a (tw_R q :: As) L f L2 (fun f2 r => X (ix + 1) ls (r.toList ++ st) L2 f2) → X ix ls (As.reverse ++ tw_R q :: st) L f
def tw_r38 (mt : List tw_MR) (sw : tw_SW) (ft : Nat → Nat → Nat) (fl : Bool) (xs : Option (Nat × (Nat → Int32))) (Sp : tw_SP) (Lf : tw_L) (P : tw_S → Option tw_A → Prop) (t : tw_T) (X : tw_X) : Prop := ∀ (ix pc a b c : Nat) (n : Int) (v : Int32) (ls : List (Option tw_A)) (f : tw_S) (x : Int32), t[ix]? = some (pc, 38, a, b, c, n, v) → P f (some (tw_I x)) → X ix ls [tw_I x] Lf f
def tw_r39 (mt : List tw_MR) (sw : tw_SW) (ft : Nat → Nat → Nat) (fl : Bool) (xs : Option (Nat × (Nat → Int32))) (Sp : tw_SP) (Lf : tw_L) (P : tw_S → Option tw_A → Prop) (t : tw_T) (X : tw_X) : Prop := ∀ (ix pc a b c : Nat) (n : Int) (v : Int32) (ls : List (Option tw_A)) (f : tw_S) (x : Int32), t[ix]? = some (pc, 39, a, b, c, n, v) → (x = 0 ∨ x = 1) → P f (some (tw_I x)) → X ix ls [tw_I x] Lf f
def tw_r40 (mt : List tw_MR) (sw : tw_SW) (ft : Nat → Nat → Nat) (fl : Bool) (xs : Option (Nat × (Nat → Int32))) (Sp : tw_SP) (Lf : tw_L) (P : tw_S → Option tw_A → Prop) (t : tw_T) (X : tw_X) : Prop := ∀ (ix pc a b c : Nat) (n : Int) (v : Int32) (ls : List (Option tw_A)) (f : tw_S) , t[ix]? = some (pc, 40, a, b, c, n, v) → P f none → X ix ls [] Lf f
def tw_r41 (mt : List tw_MR) (sw : tw_SW) (ft : Nat → Nat → Nat) (fl : Bool) (xs : Option (Nat × (Nat → Int32))) (Sp : tw_SP) (Lf : tw_L) (P : tw_S → Option tw_A → Prop) (t : tw_T) (X : tw_X) : Prop := ∀ (ix pc a b c : Nat) (n : Int) (v : Int32) (ls : List (Option tw_A)) (f : tw_S) (q : Nat), t[ix]? = some (pc, 41, a, b, c, n, v) → P f (some (tw_R q)) → X ix ls [tw_R q] Lf f
def tw_r42 (mt : List tw_MR) (sw : tw_SW) (ft : Nat → Nat → Nat) (fl : Bool) (xs : Option (Nat × (Nat → Int32))) (Sp : tw_SP) (Lf : tw_L) (P : tw_S → Option tw_A → Prop) (t : tw_T) (X : tw_X) : Prop := ∀ (ix pc a b c : Nat) (n : Int) (v : Int32) (ls : List (Option tw_A)) (st : List tw_A) (L : tw_L) (f : tw_S) , t[ix]? = some (pc, 42, a, b, c, n, v) → fl = true → L.length + 1 ≤ Lf.length → tw_sl L + b ≤ tw_sl Lf → X (ix + 1) ls (tw_R L.length :: st) (L ++ [(a, b, List.replicate b none)]) (tw_z f L.length) → X ix ls st L f
def tw_r43 (mt : List tw_MR) (sw : tw_SW) (ft : Nat → Nat → Nat) (fl : Bool) (xs : Option (Nat × (Nat → Int32))) (Sp : tw_SP) (Lf : tw_L) (P : tw_S → Option tw_A → Prop) (t : tw_T) (X : tw_X) : Prop := ∀ (ix pc a b c : Nat) (n : Int) (v : Int32) (ls : List (Option tw_A)) (st : List tw_A) (L : tw_L) (f : tw_S) (x : Int32) (nn : Nat), t[ix]? = some (pc, 43, a, b, c, n, v) → fl = true → x = nI nn → nn < 4096 → L.length + 1 ≤ Lf.length → tw_sl L + nn ≤ tw_sl Lf → X (ix + 1) ls (tw_R L.length :: st) (L ++ [(a, nn, [])]) (tw_z f L.length) → X ix ls (tw_I x :: st) L f
def tw_r44 (mt : List tw_MR) (sw : tw_SW) (ft : Nat → Nat → Nat) (fl : Bool) (xs : Option (Nat × (Nat → Int32))) (Sp : tw_SP) (Lf : tw_L) (P : tw_S → Option tw_A → Prop) (t : tw_T) (X : tw_X) : Prop := ∀ (ix pc a b c : Nat) (n : Int) (v : Int32) (ls : List (Option tw_A)) (L : tw_L) (f : tw_S) (q : Nat), t[ix]? = some (pc, 44, a, b, c, n, v) → X (ix + 1) ls [] L f → X ix ls [tw_R q] L f
def tw_r45 (mt : List tw_MR) (sw : tw_SW) (ft : Nat → Nat → Nat) (fl : Bool) (xs : Option (Nat × (Nat → Int32))) (Sp : tw_SP) (Lf : tw_L) (P : tw_S → Option tw_A → Prop) (t : tw_T) (X : tw_X) : Prop := ∀ (ix pc a b c : Nat) (n : Int) (v : Int32) (ls : List (Option tw_A)) (st : List tw_A) (L : tw_L) (f : tw_S) (x y : Int32), t[ix]? = some (pc, 45, a, b, c, n, v) → (st.map tw_ct).sum ≤ 1 → L.length ≤ Lf.length → tw_sl L ≤ tw_sl Lf → X (ix + 1) ls (tw_I (if x < y then y else x) :: st) L f → X ix ls (tw_I y :: tw_I x :: st) L f
def tw_r46 (mt : List tw_MR) (sw : tw_SW) (ft : Nat → Nat → Nat) (fl : Bool) (xs : Option (Nat × (Nat → Int32))) (Sp : tw_SP) (Lf : tw_L) (P : tw_S → Option tw_A → Prop) (t : tw_T) (X : tw_X) : Prop := ∀ (ix pc a b c : Nat) (n : Int) (v : Int32) (ls : List (Option tw_A)) (st : List tw_A) (L : tw_L) (f : tw_S) (x : Int32) (lo : Int) (ts : List Nat) (df : Nat), t[ix]? = some (pc, 46, a, b, c, n, v) → sw[a]? = some (lo, ts, df) → X (tw_tg lo ts df x) ls st L f → X ix ls (tw_I x :: st) L f
def tw_r47 (mt : List tw_MR) (sw : tw_SW) (ft : Nat → Nat → Nat) (fl : Bool) (xs : Option (Nat × (Nat → Int32))) (Sp : tw_SP) (Lf : tw_L) (P : tw_S → Option tw_A → Prop) (t : tw_T) (X : tw_X) : Prop := ∀ (ix pc a b c : Nat) (n : Int) (v : Int32) (ls : List (Option tw_A)) (st : List tw_A) (L : tw_L) (f : tw_S) , t[ix]? = some (pc, 47, a, b, c, n, v) → ls[a]? = some (some tw_Z) → X (ix + 1) ls (tw_Z :: st) L f → X ix ls st L f
def tw_r48 (mt : List tw_MR) (sw : tw_SW) (ft : Nat → Nat → Nat) (fl : Bool) (xs : Option (Nat × (Nat → Int32))) (Sp : tw_SP) (Lf : tw_L) (P : tw_S → Option tw_A → Prop) (t : tw_T) (X : tw_X) : Prop := ∀ (ix pc a b c : Nat) (n : Int) (v : Int32) (ls : List (Option tw_A)) (st : List tw_A) (L : tw_L) (f : tw_S) (x : Int32) (N : Nat) (g : Nat → Int32), t[ix]? = some (pc, 48, a, b, c, n, v) → xs = some (N, g) → vp_in x N → X (ix + 1) ls (tw_I (g x.toNatClampNeg) :: st) L f → X ix ls (tw_I x :: tw_Z :: st) L f
def tw_r49 (mt : List tw_MR) (sw : tw_SW) (ft : Nat → Nat → Nat) (fl : Bool) (xs : Option (Nat × (Nat → Int32))) (Sp : tw_SP) (Lf : tw_L) (P : tw_S → Option tw_A → Prop) (t : tw_T) (X : tw_X) : Prop := ∀ (ix pc a b c : Nat) (n : Int) (v : Int32) (ls : List (Option tw_A)) (st : List tw_A) (L : tw_L) (f : tw_S) (N : Nat) (g : Nat → Int32), t[ix]? = some (pc, 49, a, b, c, n, v) → xs = some (N, g) → X (ix + 1) ls (tw_I (Int32.ofNat N) :: st) L f → X ix ls (tw_Z :: st) L f
def tw_r50 (mt : List tw_MR) (sw : tw_SW) (ft : Nat → Nat → Nat) (fl : Bool) (xs : Option (Nat × (Nat → Int32))) (Sp : tw_SP) (Lf : tw_L) (P : tw_S → Option tw_A → Prop) (t : tw_T) (X : tw_X) : Prop := ∀ (ix pc a b c : Nat) (n : Int) (v : Int32) (ls : List (Option tw_A)) (st : List tw_A) (L : tw_L) (f : tw_S) (x : Int32) (q nn : Nat) (rs : List (Option Nat)), t[ix]? = some (pc, 50, a, b, c, n, v) → L[q]? = some (102, nn, rs) → vp_in x nn → X (ix + 1) ls (tw_J (f q x.toNatClampNeg) :: st) L f → X ix ls (tw_I x :: tw_R q :: st) L f
def tw_r51 (mt : List tw_MR) (sw : tw_SW) (ft : Nat → Nat → Nat) (fl : Bool) (xs : Option (Nat × (Nat → Int32))) (Sp : tw_SP) (Lf : tw_L) (P : tw_S → Option tw_A → Prop) (t : tw_T) (X : tw_X) : Prop := ∀ (ix pc a b c : Nat) (n : Int) (v : Int32) (ls : List (Option tw_A)) (st : List tw_A) (L : tw_L) (f : tw_S) (x : Int32), t[ix]? = some (pc, 51, a, b, c, n, v) → X (ix + 1) ls (tw_J x :: st) L f → X ix ls (tw_I x :: st) L f
def tw_r52 (mt : List tw_MR) (sw : tw_SW) (ft : Nat → Nat → Nat) (fl : Bool) (xs : Option (Nat × (Nat → Int32))) (Sp : tw_SP) (Lf : tw_L) (P : tw_S → Option tw_A → Prop) (t : tw_T) (X : tw_X) : Prop := ∀ (ix pc a b c : Nat) (n : Int) (v : Int32) (ls : List (Option tw_A)) (st : List tw_A) (L : tw_L) (f : tw_S) (x y : Int32), t[ix]? = some (pc, 52, a, b, c, n, v) → X (ix + 1) ls (tw_I (lg_cmp x.toInt64 y.toInt64) :: st) L f → X ix ls (tw_J y :: tw_J x :: st) L f
def tw_Cl (mt : List tw_MR) (sw : tw_SW) (ft : Nat → Nat → Nat) (fl : Bool) (xs : Option (Nat × (Nat → Int32))) (Sp : tw_SP) (Lf : tw_L) (P : tw_S → Option tw_A → Prop) (t : tw_T) (X : tw_X) : Prop :=
  tw_r0 mt sw ft fl xs Sp Lf P t X ∧
  tw_r1 mt sw ft fl xs Sp Lf P t X ∧
  tw_r2 mt sw ft fl xs Sp Lf P t X ∧
  tw_r3 mt sw ft fl xs Sp Lf P t X ∧
  tw_r4 mt sw ft fl xs Sp Lf P t X ∧
  tw_r5 mt sw ft fl xs Sp Lf P t X ∧
  tw_r6 mt sw ft fl xs Sp Lf P t X ∧
  tw_r7 mt sw ft fl xs Sp Lf P t X ∧
  tw_r8 mt sw ft fl xs Sp Lf P t X ∧
  tw_r9 mt sw ft fl xs Sp Lf P t X ∧
  tw_r10 mt sw ft fl xs Sp Lf P t X ∧
  tw_r11 mt sw ft fl xs Sp Lf P t X ∧
  tw_r12 mt sw ft fl xs Sp Lf P t X ∧
  tw_r13 mt sw ft fl xs Sp Lf P t X ∧
  tw_r14 mt sw ft fl xs Sp Lf P t X ∧
  tw_r15 mt sw ft fl xs Sp Lf P t X ∧
  tw_r16 mt sw ft fl xs Sp Lf P t X ∧
  tw_r17 mt sw ft fl xs Sp Lf P t X ∧
  tw_r18 mt sw ft fl xs Sp Lf P t X ∧
  tw_r19 mt sw ft fl xs Sp Lf P t X ∧
  tw_r20 mt sw ft fl xs Sp Lf P t X ∧
  tw_r21 mt sw ft fl xs Sp Lf P t X ∧
  tw_r22 mt sw ft fl xs Sp Lf P t X ∧
  tw_r23 mt sw ft fl xs Sp Lf P t X ∧
  tw_r24 mt sw ft fl xs Sp Lf P t X ∧
  tw_r25 mt sw ft fl xs Sp Lf P t X ∧
  tw_r26 mt sw ft fl xs Sp Lf P t X ∧
  tw_r27 mt sw ft fl xs Sp Lf P t X ∧
  tw_r28 mt sw ft fl xs Sp Lf P t X ∧
  tw_r29 mt sw ft fl xs Sp Lf P t X ∧
  tw_r30 mt sw ft fl xs Sp Lf P t X ∧
  tw_r31 mt sw ft fl xs Sp Lf P t X ∧
  tw_r32 mt sw ft fl xs Sp Lf P t X ∧
  tw_r33 mt sw ft fl xs Sp Lf P t X ∧
  tw_r34 mt sw ft fl xs Sp Lf P t X ∧
  tw_r35 mt sw ft fl xs Sp Lf P t X ∧
  tw_r36 mt sw ft fl xs Sp Lf P t X ∧
  tw_r37 mt sw ft fl xs Sp Lf P t X ∧
  tw_r38 mt sw ft fl xs Sp Lf P t X ∧
  tw_r39 mt sw ft fl xs Sp Lf P t X ∧
  tw_r40 mt sw ft fl xs Sp Lf P t X ∧
  tw_r41 mt sw ft fl xs Sp Lf P t X ∧
  tw_r42 mt sw ft fl xs Sp Lf P t X ∧
  tw_r43 mt sw ft fl xs Sp Lf P t X ∧
  tw_r44 mt sw ft fl xs Sp Lf P t X ∧
  tw_r45 mt sw ft fl xs Sp Lf P t X ∧
  tw_r46 mt sw ft fl xs Sp Lf P t X ∧
  tw_r47 mt sw ft fl xs Sp Lf P t X ∧
  tw_r48 mt sw ft fl xs Sp Lf P t X ∧
  tw_r49 mt sw ft fl xs Sp Lf P t X ∧
  tw_r50 mt sw ft fl xs Sp Lf P t X ∧
  tw_r51 mt sw ft fl xs Sp Lf P t X ∧
  tw_r52 mt sw ft fl xs Sp Lf P t X
section INTRO
variable {mt : List tw_MR} {sw : tw_SW} {ft : Nat → Nat → Nat} {fl : Bool} {xs : Option (Nat × (Nat → Int32))} {Sp : tw_SP} {Lf : tw_L} {P : tw_S → Option tw_A → Prop} {t : tw_T} {X : tw_X} {ix pc a b c : Nat} {n : Int} {v : Int32} {ls : List (Option tw_A)} {st : List tw_A} {L : tw_L} {f : tw_S}
theorem zi_iload_n (h : tw_Cl mt sw ft fl xs Sp Lf P t X) {x : Int32} (hi : t[ix]? = some (pc, 0, a, b, c, n, v)) (h0 : ls[a]? = some (some (tw_I x))) (k0 : X (ix + 1) ls (tw_I x :: st) L f) : X ix ls st L f := h.1 ix pc a b c n v ls st L f x hi h0 k0
theorem zi_iload (h : tw_Cl mt sw ft fl xs Sp Lf P t X) {x : Int32} (hi : t[ix]? = some (pc, 1, a, b, c, n, v)) (h0 : ls[a]? = some (some (tw_I x))) (k0 : X (ix + 1) ls (tw_I x :: st) L f) : X ix ls st L f := h.2.1 ix pc a b c n v ls st L f x hi h0 k0
theorem zi_aload_n (h : tw_Cl mt sw ft fl xs Sp Lf P t X) {q : Nat} (hi : t[ix]? = some (pc, 2, a, b, c, n, v)) (h0 : ls[a]? = some (some (tw_R q))) (k0 : X (ix + 1) ls (tw_R q :: st) L f) : X ix ls st L f := h.2.2.1 ix pc a b c n v ls st L f q hi h0 k0
theorem zi_aload (h : tw_Cl mt sw ft fl xs Sp Lf P t X) {q : Nat} (hi : t[ix]? = some (pc, 3, a, b, c, n, v)) (h0 : ls[a]? = some (some (tw_R q))) (k0 : X (ix + 1) ls (tw_R q :: st) L f) : X ix ls st L f := h.2.2.2.1 ix pc a b c n v ls st L f q hi h0 k0
theorem zi_iconst (h : tw_Cl mt sw ft fl xs Sp Lf P t X)  (hi : t[ix]? = some (pc, 4, a, b, c, n, v)) (k0 : X (ix + 1) ls (tw_I v :: st) L f) : X ix ls st L f := h.2.2.2.2.1 ix pc a b c n v ls st L f  hi  k0
theorem zi_bipush (h : tw_Cl mt sw ft fl xs Sp Lf P t X)  (hi : t[ix]? = some (pc, 5, a, b, c, n, v)) (k0 : X (ix + 1) ls (tw_I v :: st) L f) : X ix ls st L f := h.2.2.2.2.2.1 ix pc a b c n v ls st L f  hi  k0
theorem zi_sipush (h : tw_Cl mt sw ft fl xs Sp Lf P t X)  (hi : t[ix]? = some (pc, 6, a, b, c, n, v)) (k0 : X (ix + 1) ls (tw_I v :: st) L f) : X ix ls st L f := h.2.2.2.2.2.2.1 ix pc a b c n v ls st L f  hi  k0
theorem zi_istore_n (h : tw_Cl mt sw ft fl xs Sp Lf P t X) {x : Int32} (hi : t[ix]? = some (pc, 7, a, b, c, n, v)) (h0 : a < ls.length) (k0 : X (ix + 1) (ls.set a (some (tw_I x))) st L f) : X ix ls (tw_I x :: st) L f := h.2.2.2.2.2.2.2.1 ix pc a b c n v ls st L f x hi h0 k0
theorem zi_istore (h : tw_Cl mt sw ft fl xs Sp Lf P t X) {x : Int32} (hi : t[ix]? = some (pc, 8, a, b, c, n, v)) (h0 : a < ls.length) (k0 : X (ix + 1) (ls.set a (some (tw_I x))) st L f) : X ix ls (tw_I x :: st) L f := h.2.2.2.2.2.2.2.2.1 ix pc a b c n v ls st L f x hi h0 k0
theorem zi_astore_n (h : tw_Cl mt sw ft fl xs Sp Lf P t X) {q : Nat} (hi : t[ix]? = some (pc, 9, a, b, c, n, v)) (h0 : a < ls.length) (k0 : X (ix + 1) (ls.set a (some (tw_R q))) st L f) : X ix ls (tw_R q :: st) L f := h.2.2.2.2.2.2.2.2.2.1 ix pc a b c n v ls st L f q hi h0 k0
theorem zi_astore (h : tw_Cl mt sw ft fl xs Sp Lf P t X) {q : Nat} (hi : t[ix]? = some (pc, 10, a, b, c, n, v)) (h0 : a < ls.length) (k0 : X (ix + 1) (ls.set a (some (tw_R q))) st L f) : X ix ls (tw_R q :: st) L f := h.2.2.2.2.2.2.2.2.2.2.1 ix pc a b c n v ls st L f q hi h0 k0
theorem zi_iinc (h : tw_Cl mt sw ft fl xs Sp Lf P t X) {x : Int32} (hi : t[ix]? = some (pc, 11, a, b, c, n, v)) (h0 : ls[a]? = some (some (tw_I x))) (k0 : X (ix + 1) (ls.set a (some (tw_I (x + v)))) st L f) : X ix ls st L f := h.2.2.2.2.2.2.2.2.2.2.2.1 ix pc a b c n v ls st L f x hi h0 k0
theorem zi_iadd (h : tw_Cl mt sw ft fl xs Sp Lf P t X) {x y : Int32} (hi : t[ix]? = some (pc, 12, a, b, c, n, v)) (k0 : X (ix + 1) ls (tw_I (x + y) :: st) L f) : X ix ls (tw_I y :: tw_I x :: st) L f := h.2.2.2.2.2.2.2.2.2.2.2.2.1 ix pc a b c n v ls st L f x y hi  k0
theorem zi_isub (h : tw_Cl mt sw ft fl xs Sp Lf P t X) {x y : Int32} (hi : t[ix]? = some (pc, 13, a, b, c, n, v)) (k0 : X (ix + 1) ls (tw_I (x - y) :: st) L f) : X ix ls (tw_I y :: tw_I x :: st) L f := h.2.2.2.2.2.2.2.2.2.2.2.2.2.1 ix pc a b c n v ls st L f x y hi  k0
theorem zi_imul (h : tw_Cl mt sw ft fl xs Sp Lf P t X) {x y : Int32} (hi : t[ix]? = some (pc, 14, a, b, c, n, v)) (k0 : X (ix + 1) ls (tw_I (x * y) :: st) L f) : X ix ls (tw_I y :: tw_I x :: st) L f := h.2.2.2.2.2.2.2.2.2.2.2.2.2.2.1 ix pc a b c n v ls st L f x y hi  k0
theorem zi_iand (h : tw_Cl mt sw ft fl xs Sp Lf P t X) {x y : Int32} (hi : t[ix]? = some (pc, 15, a, b, c, n, v)) (k0 : X (ix + 1) ls (tw_I (x &&& y) :: st) L f) : X ix ls (tw_I y :: tw_I x :: st) L f := h.2.2.2.2.2.2.2.2.2.2.2.2.2.2.2.1 ix pc a b c n v ls st L f x y hi  k0
theorem zi_ior (h : tw_Cl mt sw ft fl xs Sp Lf P t X) {x y : Int32} (hi : t[ix]? = some (pc, 16, a, b, c, n, v)) (k0 : X (ix + 1) ls (tw_I (x ||| y) :: st) L f) : X ix ls (tw_I y :: tw_I x :: st) L f := h.2.2.2.2.2.2.2.2.2.2.2.2.2.2.2.2.1 ix pc a b c n v ls st L f x y hi  k0
theorem zi_ixor (h : tw_Cl mt sw ft fl xs Sp Lf P t X) {x y : Int32} (hi : t[ix]? = some (pc, 17, a, b, c, n, v)) (k0 : X (ix + 1) ls (tw_I (x ^^^ y) :: st) L f) : X ix ls (tw_I y :: tw_I x :: st) L f := h.2.2.2.2.2.2.2.2.2.2.2.2.2.2.2.2.2.1 ix pc a b c n v ls st L f x y hi  k0
theorem zi_ishl (h : tw_Cl mt sw ft fl xs Sp Lf P t X) {x y : Int32} (hi : t[ix]? = some (pc, 18, a, b, c, n, v)) (k0 : X (ix + 1) ls (tw_I (x <<< (y &&& 31)) :: st) L f) : X ix ls (tw_I y :: tw_I x :: st) L f := h.2.2.2.2.2.2.2.2.2.2.2.2.2.2.2.2.2.2.1 ix pc a b c n v ls st L f x y hi  k0
theorem zi_ishr (h : tw_Cl mt sw ft fl xs Sp Lf P t X) {x y : Int32} (hi : t[ix]? = some (pc, 19, a, b, c, n, v)) (k0 : X (ix + 1) ls (tw_I (x >>> (y &&& 31)) :: st) L f) : X ix ls (tw_I y :: tw_I x :: st) L f := h.2.2.2.2.2.2.2.2.2.2.2.2.2.2.2.2.2.2.2.1 ix pc a b c n v ls st L f x y hi  k0
theorem zi_idiv (h : tw_Cl mt sw ft fl xs Sp Lf P t X) {x y : Int32} (hi : t[ix]? = some (pc, 20, a, b, c, n, v)) (h0 : ¬ y = 0) (k0 : X (ix + 1) ls (tw_I (x / y) :: st) L f) : X ix ls (tw_I y :: tw_I x :: st) L f := h.2.2.2.2.2.2.2.2.2.2.2.2.2.2.2.2.2.2.2.2.1 ix pc a b c n v ls st L f x y hi h0 k0
theorem zi_irem (h : tw_Cl mt sw ft fl xs Sp Lf P t X) {x y : Int32} (hi : t[ix]? = some (pc, 21, a, b, c, n, v)) (h0 : ¬ y = 0) (k0 : X (ix + 1) ls (tw_I (x - x / y * y) :: st) L f) : X ix ls (tw_I y :: tw_I x :: st) L f := h.2.2.2.2.2.2.2.2.2.2.2.2.2.2.2.2.2.2.2.2.2.1 ix pc a b c n v ls st L f x y hi h0 k0
theorem zi_if (h : tw_Cl mt sw ft fl xs Sp Lf P t X) {x : Int32} (hi : t[ix]? = some (pc, 22, a, b, c, n, v)) (k0 : (tw_cd a x 0 → X b ls st L f)) (k1 : (¬ tw_cd a x 0 → X (ix + 1) ls st L f)) : X ix ls (tw_I x :: st) L f := h.2.2.2.2.2.2.2.2.2.2.2.2.2.2.2.2.2.2.2.2.2.2.1 ix pc a b c n v ls st L f x hi  k0 k1
theorem zi_icmp (h : tw_Cl mt sw ft fl xs Sp Lf P t X) {x y : Int32} (hi : t[ix]? = some (pc, 23, a, b, c, n, v)) (k0 : (tw_cd a x y → X b ls st L f)) (k1 : (¬ tw_cd a x y → X (ix + 1) ls st L f)) : X ix ls (tw_I y :: tw_I x :: st) L f := h.2.2.2.2.2.2.2.2.2.2.2.2.2.2.2.2.2.2.2.2.2.2.2.1 ix pc a b c n v ls st L f x y hi  k0 k1
theorem zi_goto (h : tw_Cl mt sw ft fl xs Sp Lf P t X)  (hi : t[ix]? = some (pc, 24, a, b, c, n, v)) (k0 : X b ls st L f) : X ix ls st L f := h.2.2.2.2.2.2.2.2.2.2.2.2.2.2.2.2.2.2.2.2.2.2.2.2.1 ix pc a b c n v ls st L f  hi  k0
theorem zi_dup (h : tw_Cl mt sw ft fl xs Sp Lf P t X) {w : tw_A} (hi : t[ix]? = some (pc, 25, a, b, c, n, v)) (h0 : tw_ct w = 1) (k0 : X (ix + 1) ls (w :: w :: st) L f) : X ix ls (w :: st) L f := h.2.2.2.2.2.2.2.2.2.2.2.2.2.2.2.2.2.2.2.2.2.2.2.2.2.1 ix pc a b c n v ls st L f w hi h0 k0
theorem zi_dup2 (h : tw_Cl mt sw ft fl xs Sp Lf P t X) {w u : tw_A} (hi : t[ix]? = some (pc, 26, a, b, c, n, v)) (h0 : tw_ct w = 1) (h1 : tw_ct u = 1) (k0 : X (ix + 1) ls (w :: u :: w :: u :: st) L f) : X ix ls (w :: u :: st) L f := h.2.2.2.2.2.2.2.2.2.2.2.2.2.2.2.2.2.2.2.2.2.2.2.2.2.2.1 ix pc a b c n v ls st L f w u hi h0 h1 k0
theorem zi_getf (h : tw_Cl mt sw ft fl xs Sp Lf P t X) {q nn : Nat} {rs : List (Option Nat)} (hi : t[ix]? = some (pc, 27, a, b, c, n, v)) (h0 : L[q]? = some (a, nn, rs)) (h1 : b < nn) (k0 : X (ix + 1) ls (tw_fa (ft a b) (rs.getD b none) (f q b) :: st) L f) : X ix ls (tw_R q :: st) L f := h.2.2.2.2.2.2.2.2.2.2.2.2.2.2.2.2.2.2.2.2.2.2.2.2.2.2.2.1 ix pc a b c n v ls st L f q nn rs hi h0 h1 k0
theorem zi_putf (h : tw_Cl mt sw ft fl xs Sp Lf P t X) {x : Int32} {q nn : Nat} {rs : List (Option Nat)} (hi : t[ix]? = some (pc, 28, a, b, c, n, v)) (h0 : L[q]? = some (a, nn, rs)) (h1 : b < nn) (h2 : (ft a b = 0 ∨ (ft a b = 1 ∧ (x = 0 ∨ x = 1)))) (k0 : X (ix + 1) ls st L (tw_up f q b x)) : X ix ls (tw_I x :: tw_R q :: st) L f := h.2.2.2.2.2.2.2.2.2.2.2.2.2.2.2.2.2.2.2.2.2.2.2.2.2.2.2.2.1 ix pc a b c n v ls st L f x q nn rs hi h0 h1 h2 k0
theorem zi_putFi (h : tw_Cl mt sw ft fl xs Sp Lf P t X) {x : Int32} {q nn : Nat} {rs : List (Option Nat)} (hi : t[ix]? = some (pc, 29, a, b, c, n, v)) (h0 : L[q]? = some (a, nn, rs)) (h1 : b < nn) (h2 : (ft a b = 0 ∨ (ft a b = 1 ∧ (x = 0 ∨ x = 1)))) (k0 : X (ix + 1) ls st L (tw_up f q b x)) : X ix ls (tw_I x :: tw_R q :: st) L f := h.2.2.2.2.2.2.2.2.2.2.2.2.2.2.2.2.2.2.2.2.2.2.2.2.2.2.2.2.2.1 ix pc a b c n v ls st L f x q nn rs hi h0 h1 h2 k0
theorem zi_putFr (h : tw_Cl mt sw ft fl xs Sp Lf P t X) {q2 q nn : Nat} {rs : List (Option Nat)} (hi : t[ix]? = some (pc, 30, a, b, c, n, v)) (h0 : L[q]? = some (a, nn, rs)) (h1 : b < nn) (h2 : b < rs.length) (h3 : ft a b = 2) (k0 : X (ix + 1) ls st (L.set q (a, nn, rs.set b (some q2))) f) : X ix ls (tw_R q2 :: tw_R q :: st) L f := h.2.2.2.2.2.2.2.2.2.2.2.2.2.2.2.2.2.2.2.2.2.2.2.2.2.2.2.2.2.2.1 ix pc a b c n v ls st L f q2 q nn rs hi h0 h1 h2 h3 k0
theorem zi_iaload (h : tw_Cl mt sw ft fl xs Sp Lf P t X) {x : Int32} {q nn : Nat} {rs : List (Option Nat)} (hi : t[ix]? = some (pc, 31, a, b, c, n, v)) (h0 : L[q]? = some (100, nn, rs)) (h1 : vp_in x nn) (k0 : X (ix + 1) ls (tw_I (f q x.toNatClampNeg) :: st) L f) : X ix ls (tw_I x :: tw_R q :: st) L f := h.2.2.2.2.2.2.2.2.2.2.2.2.2.2.2.2.2.2.2.2.2.2.2.2.2.2.2.2.2.2.2.1 ix pc a b c n v ls st L f x q nn rs hi h0 h1 k0
theorem zi_baload (h : tw_Cl mt sw ft fl xs Sp Lf P t X) {x : Int32} {q nn : Nat} {rs : List (Option Nat)} (hi : t[ix]? = some (pc, 32, a, b, c, n, v)) (h0 : L[q]? = some (101, nn, rs)) (h1 : vp_in x nn) (k0 : X (ix + 1) ls (tw_I (tw_nz (f q x.toNatClampNeg)) :: st) L f) : X ix ls (tw_I x :: tw_R q :: st) L f := h.2.2.2.2.2.2.2.2.2.2.2.2.2.2.2.2.2.2.2.2.2.2.2.2.2.2.2.2.2.2.2.2.1 ix pc a b c n v ls st L f x q nn rs hi h0 h1 k0
theorem zi_iastore (h : tw_Cl mt sw ft fl xs Sp Lf P t X) {x y : Int32} {q nn : Nat} {rs : List (Option Nat)} (hi : t[ix]? = some (pc, 33, a, b, c, n, v)) (h0 : L[q]? = some (100, nn, rs)) (h1 : vp_in x nn) (k0 : X (ix + 1) ls st L (tw_up f q x.toNatClampNeg y)) : X ix ls (tw_I y :: tw_I x :: tw_R q :: st) L f := h.2.2.2.2.2.2.2.2.2.2.2.2.2.2.2.2.2.2.2.2.2.2.2.2.2.2.2.2.2.2.2.2.2.1 ix pc a b c n v ls st L f x y q nn rs hi h0 h1 k0
theorem zi_bastore (h : tw_Cl mt sw ft fl xs Sp Lf P t X) {x y : Int32} {q nn : Nat} {rs : List (Option Nat)} (hi : t[ix]? = some (pc, 34, a, b, c, n, v)) (h0 : L[q]? = some (101, nn, rs)) (h1 : vp_in x nn) (h2 : (y = 0 ∨ y = 1)) (k0 : X (ix + 1) ls st L (tw_up f q x.toNatClampNeg y)) : X ix ls (tw_I y :: tw_I x :: tw_R q :: st) L f := h.2.2.2.2.2.2.2.2.2.2.2.2.2.2.2.2.2.2.2.2.2.2.2.2.2.2.2.2.2.2.2.2.2.2.1 ix pc a b c n v ls st L f x y q nn rs hi h0 h1 h2 k0
theorem zi_callV (h : tw_Cl mt sw ft fl xs Sp Lf P t X) {As : List tw_A} {L2 : tw_L} {q nn : Nat} {rs : List (Option Nat)} (hi : t[ix]? = some (pc, 35, a, b, c, n, v)) (h0 : L[q]? = some (b, nn, rs)) (h1 : As.length = tw_na mt a) (h2 : (st.map tw_ct).sum ≤ 8) (h3 : L.length ≤ L2.length) (h4 : tw_sl L ≤ tw_sl L2) (h5 : L2.length ≤ Lf.length) (h6 : tw_sl L2 ≤ tw_sl Lf) (k0 : Sp a (tw_R q :: As) L f L2 (fun f2 r => X (ix + 1) ls (r.toList ++ st) L2 f2)) : X ix ls (As.reverse ++ tw_R q :: st) L f := h.2.2.2.2.2.2.2.2.2.2.2.2.2.2.2.2.2.2.2.2.2.2.2.2.2.2.2.2.2.2.2.2.2.2.2.1 ix pc a b c n v ls st L f As L2 q nn rs hi h0 h1 h2 h3 h4 h5 h6 k0
theorem zi_callS (h : tw_Cl mt sw ft fl xs Sp Lf P t X) {As : List tw_A} {L2 : tw_L} (hi : t[ix]? = some (pc, 36, a, b, c, n, v)) (h0 : As.length = tw_na mt a) (h1 : (st.map tw_ct).sum ≤ 8) (h2 : L.length ≤ L2.length) (h3 : tw_sl L ≤ tw_sl L2) (h4 : L2.length ≤ Lf.length) (h5 : tw_sl L2 ≤ tw_sl Lf) (k0 : Sp a As L f L2 (fun f2 r => X (ix + 1) ls (r.toList ++ st) L2 f2)) : X ix ls (As.reverse ++ st) L f := h.2.2.2.2.2.2.2.2.2.2.2.2.2.2.2.2.2.2.2.2.2.2.2.2.2.2.2.2.2.2.2.2.2.2.2.2.1 ix pc a b c n v ls st L f As L2 hi h0 h1 h2 h3 h4 h5 k0
theorem zi_callI (h : tw_Cl mt sw ft fl xs Sp Lf P t X) {As : List tw_A} {L2 : tw_L} {q : Nat} (hi : t[ix]? = some (pc, 37, a, b, c, n, v)) (h0 : As.length = tw_na mt a) (h1 : (st.map tw_ct).sum ≤ 8) (h2 : L.length ≤ L2.length) (h3 : tw_sl L ≤ tw_sl L2) (h4 : L2.length ≤ Lf.length) (h5 : tw_sl L2 ≤ tw_sl Lf) (k0 : Sp a (tw_R q :: As) L f L2 (fun f2 r => X (ix + 1) ls (r.toList ++ st) L2 f2)) : X ix ls (As.reverse ++ tw_R q :: st) L f := h.2.2.2.2.2.2.2.2.2.2.2.2.2.2.2.2.2.2.2.2.2.2.2.2.2.2.2.2.2.2.2.2.2.2.2.2.2.1 ix pc a b c n v ls st L f As L2 q hi h0 h1 h2 h3 h4 h5 k0
theorem zi_iret (h : tw_Cl mt sw ft fl xs Sp Lf P t X) {x : Int32} (hi : t[ix]? = some (pc, 38, a, b, c, n, v)) (k0 : P f (some (tw_I x))) : X ix ls [tw_I x] Lf f := h.2.2.2.2.2.2.2.2.2.2.2.2.2.2.2.2.2.2.2.2.2.2.2.2.2.2.2.2.2.2.2.2.2.2.2.2.2.2.1 ix pc a b c n v ls f x hi  k0
theorem zi_zret (h : tw_Cl mt sw ft fl xs Sp Lf P t X) {x : Int32} (hi : t[ix]? = some (pc, 39, a, b, c, n, v)) (h0 : (x = 0 ∨ x = 1)) (k0 : P f (some (tw_I x))) : X ix ls [tw_I x] Lf f := h.2.2.2.2.2.2.2.2.2.2.2.2.2.2.2.2.2.2.2.2.2.2.2.2.2.2.2.2.2.2.2.2.2.2.2.2.2.2.2.1 ix pc a b c n v ls f x hi h0 k0
theorem zi_vret (h : tw_Cl mt sw ft fl xs Sp Lf P t X)  (hi : t[ix]? = some (pc, 40, a, b, c, n, v)) (k0 : P f none) : X ix ls [] Lf f := h.2.2.2.2.2.2.2.2.2.2.2.2.2.2.2.2.2.2.2.2.2.2.2.2.2.2.2.2.2.2.2.2.2.2.2.2.2.2.2.2.1 ix pc a b c n v ls f  hi  k0
theorem zi_aret (h : tw_Cl mt sw ft fl xs Sp Lf P t X) {q : Nat} (hi : t[ix]? = some (pc, 41, a, b, c, n, v)) (k0 : P f (some (tw_R q))) : X ix ls [tw_R q] Lf f := h.2.2.2.2.2.2.2.2.2.2.2.2.2.2.2.2.2.2.2.2.2.2.2.2.2.2.2.2.2.2.2.2.2.2.2.2.2.2.2.2.2.1 ix pc a b c n v ls f q hi  k0
theorem zi_new (h : tw_Cl mt sw ft fl xs Sp Lf P t X)  (hi : t[ix]? = some (pc, 42, a, b, c, n, v)) (h0 : fl = true) (h1 : L.length + 1 ≤ Lf.length) (h2 : tw_sl L + b ≤ tw_sl Lf) (k0 : X (ix + 1) ls (tw_R L.length :: st) (L ++ [(a, b, List.replicate b none)]) (tw_z f L.length)) : X ix ls st L f := h.2.2.2.2.2.2.2.2.2.2.2.2.2.2.2.2.2.2.2.2.2.2.2.2.2.2.2.2.2.2.2.2.2.2.2.2.2.2.2.2.2.2.1 ix pc a b c n v ls st L f  hi h0 h1 h2 k0
theorem zi_newa (h : tw_Cl mt sw ft fl xs Sp Lf P t X) {x : Int32} {nn : Nat} (hi : t[ix]? = some (pc, 43, a, b, c, n, v)) (h0 : fl = true) (h1 : x = nI nn) (h2 : nn < 4096) (h3 : L.length + 1 ≤ Lf.length) (h4 : tw_sl L + nn ≤ tw_sl Lf) (k0 : X (ix + 1) ls (tw_R L.length :: st) (L ++ [(a, nn, [])]) (tw_z f L.length)) : X ix ls (tw_I x :: st) L f := h.2.2.2.2.2.2.2.2.2.2.2.2.2.2.2.2.2.2.2.2.2.2.2.2.2.2.2.2.2.2.2.2.2.2.2.2.2.2.2.2.2.2.2.1 ix pc a b c n v ls st L f x nn hi h0 h1 h2 h3 h4 k0
theorem zi_objInit (h : tw_Cl mt sw ft fl xs Sp Lf P t X) {q : Nat} (hi : t[ix]? = some (pc, 44, a, b, c, n, v)) (k0 : X (ix + 1) ls [] L f) : X ix ls [tw_R q] L f := h.2.2.2.2.2.2.2.2.2.2.2.2.2.2.2.2.2.2.2.2.2.2.2.2.2.2.2.2.2.2.2.2.2.2.2.2.2.2.2.2.2.2.2.2.1 ix pc a b c n v ls L f q hi  k0
theorem zi_max (h : tw_Cl mt sw ft fl xs Sp Lf P t X) {x y : Int32} (hi : t[ix]? = some (pc, 45, a, b, c, n, v)) (h0 : (st.map tw_ct).sum ≤ 1) (h1 : L.length ≤ Lf.length) (h2 : tw_sl L ≤ tw_sl Lf) (k0 : X (ix + 1) ls (tw_I (if x < y then y else x) :: st) L f) : X ix ls (tw_I y :: tw_I x :: st) L f := h.2.2.2.2.2.2.2.2.2.2.2.2.2.2.2.2.2.2.2.2.2.2.2.2.2.2.2.2.2.2.2.2.2.2.2.2.2.2.2.2.2.2.2.2.2.1 ix pc a b c n v ls st L f x y hi h0 h1 h2 k0
theorem zi_switch (h : tw_Cl mt sw ft fl xs Sp Lf P t X) {x : Int32} {lo : Int} {ts : List Nat} {df : Nat} (hi : t[ix]? = some (pc, 46, a, b, c, n, v)) (h0 : sw[a]? = some (lo, ts, df)) (k0 : X (tw_tg lo ts df x) ls st L f) : X ix ls (tw_I x :: st) L f := h.2.2.2.2.2.2.2.2.2.2.2.2.2.2.2.2.2.2.2.2.2.2.2.2.2.2.2.2.2.2.2.2.2.2.2.2.2.2.2.2.2.2.2.2.2.2.1 ix pc a b c n v ls st L f x lo ts df hi h0 k0
theorem zi_aloadZ (h : tw_Cl mt sw ft fl xs Sp Lf P t X)  (hi : t[ix]? = some (pc, 47, a, b, c, n, v)) (h0 : ls[a]? = some (some tw_Z)) (k0 : X (ix + 1) ls (tw_Z :: st) L f) : X ix ls st L f := h.2.2.2.2.2.2.2.2.2.2.2.2.2.2.2.2.2.2.2.2.2.2.2.2.2.2.2.2.2.2.2.2.2.2.2.2.2.2.2.2.2.2.2.2.2.2.2.1 ix pc a b c n v ls st L f  hi h0 k0
theorem zi_scr (h : tw_Cl mt sw ft fl xs Sp Lf P t X) {x : Int32} {N : Nat} {g : Nat → Int32} (hi : t[ix]? = some (pc, 48, a, b, c, n, v)) (h0 : xs = some (N, g)) (h1 : vp_in x N) (k0 : X (ix + 1) ls (tw_I (g x.toNatClampNeg) :: st) L f) : X ix ls (tw_I x :: tw_Z :: st) L f := h.2.2.2.2.2.2.2.2.2.2.2.2.2.2.2.2.2.2.2.2.2.2.2.2.2.2.2.2.2.2.2.2.2.2.2.2.2.2.2.2.2.2.2.2.2.2.2.2.1 ix pc a b c n v ls st L f x N g hi h0 h1 k0
theorem zi_slen (h : tw_Cl mt sw ft fl xs Sp Lf P t X) {N : Nat} {g : Nat → Int32} (hi : t[ix]? = some (pc, 49, a, b, c, n, v)) (h0 : xs = some (N, g)) (k0 : X (ix + 1) ls (tw_I (Int32.ofNat N) :: st) L f) : X ix ls (tw_Z :: st) L f := h.2.2.2.2.2.2.2.2.2.2.2.2.2.2.2.2.2.2.2.2.2.2.2.2.2.2.2.2.2.2.2.2.2.2.2.2.2.2.2.2.2.2.2.2.2.2.2.2.2.1 ix pc a b c n v ls st L f N g hi h0 k0
theorem zi_laload (h : tw_Cl mt sw ft fl xs Sp Lf P t X) {x : Int32} {q nn : Nat} {rs : List (Option Nat)} (hi : t[ix]? = some (pc, 50, a, b, c, n, v)) (h0 : L[q]? = some (102, nn, rs)) (h1 : vp_in x nn) (k0 : X (ix + 1) ls (tw_J (f q x.toNatClampNeg) :: st) L f) : X ix ls (tw_I x :: tw_R q :: st) L f := h.2.2.2.2.2.2.2.2.2.2.2.2.2.2.2.2.2.2.2.2.2.2.2.2.2.2.2.2.2.2.2.2.2.2.2.2.2.2.2.2.2.2.2.2.2.2.2.2.2.2.1 ix pc a b c n v ls st L f x q nn rs hi h0 h1 k0
theorem zi_i2l (h : tw_Cl mt sw ft fl xs Sp Lf P t X) {x : Int32} (hi : t[ix]? = some (pc, 51, a, b, c, n, v)) (k0 : X (ix + 1) ls (tw_J x :: st) L f) : X ix ls (tw_I x :: st) L f := h.2.2.2.2.2.2.2.2.2.2.2.2.2.2.2.2.2.2.2.2.2.2.2.2.2.2.2.2.2.2.2.2.2.2.2.2.2.2.2.2.2.2.2.2.2.2.2.2.2.2.2.1 ix pc a b c n v ls st L f x hi  k0
theorem zi_lcmp (h : tw_Cl mt sw ft fl xs Sp Lf P t X) {x y : Int32} (hi : t[ix]? = some (pc, 52, a, b, c, n, v)) (k0 : X (ix + 1) ls (tw_I (lg_cmp x.toInt64 y.toInt64) :: st) L f) : X ix ls (tw_J y :: tw_J x :: st) L f := h.2.2.2.2.2.2.2.2.2.2.2.2.2.2.2.2.2.2.2.2.2.2.2.2.2.2.2.2.2.2.2.2.2.2.2.2.2.2.2.2.2.2.2.2.2.2.2.2.2.2.2.2 ix pc a b c n v ls st L f x y hi  k0
end INTRO
end
section
/-! The rules are sound: what they say of a method is a contract that the machine meets. -/
def tw_Sp (mt : List tw_MR) (sw : tw_SW) (ft : Nat → Nat → Nat) (fl : Bool) : Nat → tw_SP
  | 0 => fun _ _ _ _ _ _ => False
  | d + 1 => fun k As L f L2 P => ∃ r, mt[k]? = some r ∧ As.all (fun a => tw_ct a == 1) = true ∧ As.length ≤ r.2.2.2.2.1 ∧ ∀ X : tw_X, tw_Cl mt sw ft fl none (tw_Sp mt sw ft fl d) L2 P r.2.2.2.2.2.2.2 X → X 0 (tw_in r.2.2.2.2.1 As) [] L f
def tw_pc (t : tw_T) (ix : Nat) : Nat := match t[ix]? with
  | some r => r.1
  | none => 0
/-- the instruction that a row of a table stands for, and its length -/
def tw_x (t : tw_T) (sw : tw_SW) (ix pc : Nat) (o : tw_O) : Instr × Nat := match o.1 with
  | 0 => (.iload_n (Fin.ofNat 4 o.2.1), 1)
  | 1 => (.iload o.2.1, 2)
  | 2 => (.aload_n (Fin.ofNat 4 o.2.1), 1)
  | 3 => (.aload o.2.1, 2)
  | 4 => (.iconst o.2.2.2.2.1, 1)
  | 5 => (.bipush o.2.2.2.2.1, 2)
  | 6 => (.sipush o.2.2.2.2.1, 3)
  | 7 => (.istore_n (Fin.ofNat 4 o.2.1), 1)
  | 8 => (.istore o.2.1, 2)
  | 9 => (.astore_n (Fin.ofNat 4 o.2.1), 1)
  | 10 => (.astore o.2.1, 2)
  | 11 => (.iinc o.2.1 o.2.2.2.2.1, 3)
  | 12 => (.iadd, 1)
  | 13 => (.isub, 1)
  | 14 => (.imul, 1)
  | 15 => (.iand, 1)
  | 16 => (.ior, 1)
  | 17 => (.ixor, 1)
  | 18 => (.ishl, 1)
  | 19 => (.ishr, 1)
  | 20 => (.idiv, 1)
  | 21 => (.irem, 1)
  | 22 => (tw_if o.2.1 ((tw_pc t o.2.2.1 : Int) - (pc : Int)), 3)
  | 23 => (tw_ic o.2.1 ((tw_pc t o.2.2.1 : Int) - (pc : Int)), 3)
  | 24 => (.goto ((tw_pc t o.2.2.1 : Int) - (pc : Int)), 3)
  | 25 => (.dup, 1)
  | 26 => (.dup2, 1)
  | 27 => (.getfield o.2.2.2.1, 3)
  | 28 => (.putfield o.2.2.2.1, 3)
  | 29 => (.putfield o.2.2.2.1, 3)
  | 30 => (.putfield o.2.2.2.1, 3)
  | 31 => (.iaload, 1)
  | 32 => (.baload, 1)
  | 33 => (.iastore, 1)
  | 34 => (.bastore, 1)
  | 35 => (.invokevirtual o.2.2.2.1, 3)
  | 36 => (.invokestatic o.2.2.2.1, 3)
  | 37 => (.invokespecial o.2.2.2.1, 3)
  | 38 => (.ireturn, 1)
  | 39 => (.ireturn, 1)
  | 40 => (.return_, 1)
  | 41 => (.areturn, 1)
  | 42 => (.new o.2.2.2.1, 3)
  | 43 => (.newarray (tw_at o.2.1), 2)
  | 44 => (.invokespecial o.2.2.2.1, 3)
  | 45 => (.invokestatic o.2.2.2.1, 3)
  | 46 => (match sw[o.2.1]? with
    | some s => .tableswitch ((tw_pc t s.2.2 : Int) - (pc : Int)) s.1 (s.1 + (s.2.1.length : Int) - 1) (s.2.1.map (fun j => (tw_pc t j : Int) - (pc : Int))).toArray
    | none => .nop, tw_pc t (ix + 1) - pc)
  | 47 => (.aload_n (Fin.ofNat 4 o.2.1), 1)
  | 48 => (.iaload, 1)
  | 49 => (.arraylength, 1)
  | 50 => (.laload, 1)
  | 51 => (.i2l, 1)
  | 52 => (.lcmp, 1)
  | _ => (.nop, 1)
def tw_kd (mt : List tw_MR) (k d c : Nat) : Bool := match mt[k]? with
  | some r => decide (r.2.2.2.2.2.2.1.1 = d) && decide (r.2.2.2.2.2.2.1.2.1 = c)
  | none => false
def tw_fit (mt : List tw_MR) (k : Nat) (r : tw_MR) : Bool := match mt[k]? with
  | some x => decide (x.2.2.2.2.2.2.1.2.2.2.1 + 1 ≤ r.2.2.2.2.2.2.1.2.2.2.1 ∧ 8 + (x.2.2.2.2.1 + 11) + x.2.2.2.2.2.2.1.2.2.2.2 ≤ r.2.2.2.2.2.2.1.2.2.2.2)
  | none => false
def tw_isR (t : Option FieldType) : Bool := match t with
  | some (.object _) => true
  | some (.array _) => true
  | _ => false
def tw_sok (sw : tw_SW) (k : Nat) : Bool := match sw[k]? with
  | some s => decide (0 < s.2.1.length) && decide (s.2.1.length < 1000) && decide (s.1 = 0)
  | none => false
abbrev tw_LK : Type := List (Nat × Nat × Nat × Nat × Nat) × List (Nat × Nat × Nat) × List (Nat × Nat × Nat × Nat) × List (Nat × Nat) × List (Nat × Nat)
/-- what a row needs beside its bytes: links by their places (fields; methods; classes; Object's constructor; Math.max), constants, the kind of end -/
def tw_wd (lk : tw_LK) (mt : List tw_MR) (sw : tw_SW) (r : tw_MR) (o : tw_O) : Bool := match o.1 with
  | 0 => decide (o.2.1 < 4)
  | 2 => decide (o.2.1 < 4)
  | 4 => decide (Int32.ofInt o.2.2.2.2.1 = o.2.2.2.2.2)
  | 5 => decide ((Int8.ofInt o.2.2.2.2.1).toInt32 = o.2.2.2.2.2)
  | 6 => decide ((Int16.ofInt o.2.2.2.2.1).toInt32 = o.2.2.2.2.2)
  | 7 => decide (o.2.1 < 4)
  | 9 => decide (o.2.1 < 4)
  | 11 => decide (Int32.ofInt o.2.2.2.2.1 = o.2.2.2.2.2)
  | 27 => decide (lk.1[o.2.2.2.2.1.toNat]? = some (r.1, o.2.2.2.1, o.2.1, o.2.2.1, 0)) || decide (lk.1[o.2.2.2.2.1.toNat]? = some (r.1, o.2.2.2.1, o.2.1, o.2.2.1, 1))
  | 28 => decide (lk.1[o.2.2.2.2.1.toNat]? = some (r.1, o.2.2.2.1, o.2.1, o.2.2.1, 0))
  | 29 => decide (lk.1[o.2.2.2.2.1.toNat]? = some (r.1, o.2.2.2.1, o.2.1, o.2.2.1, 1)) && decide (r.2.2.2.2.2.2.1.1 = 2) && decide (r.2.2.2.2.2.2.1.2.1 = o.2.1)
  | 30 => decide (lk.1[o.2.2.2.2.1.toNat]? = some (r.1, o.2.2.2.1, o.2.1, o.2.2.1, 1)) && decide (r.2.2.2.2.2.2.1.1 = 2) && decide (r.2.2.2.2.2.2.1.2.1 = o.2.1)
  | 35 => decide (lk.2.1[o.2.2.2.2.1.toNat]? = some (r.1, o.2.2.2.1, o.2.1)) && tw_kd mt o.2.1 1 o.2.2.1 && tw_fit mt o.2.1 r
  | 36 => decide (lk.2.1[o.2.2.2.2.1.toNat]? = some (r.1, o.2.2.2.1, o.2.1)) && tw_kd mt o.2.1 0 0 && tw_fit mt o.2.1 r
  | 37 => decide (lk.2.1[o.2.2.2.2.1.toNat]? = some (r.1, o.2.2.2.1, o.2.1)) && tw_kd mt o.2.1 2 o.2.2.1 && tw_fit mt o.2.1 r
  | 38 => decide (r.2.2.2.2.2.1 = some .int)
  | 39 => decide (r.2.2.2.2.2.1 = some .boolean)
  | 40 => decide (r.2.2.2.2.2.1 = none)
  | 41 => tw_isR r.2.2.2.2.2.1
  | 42 => decide (lk.2.2.1[o.2.2.2.2.1.toNat]? = some (r.1, o.2.2.2.1, o.2.1, o.2.2.1))
  | 43 => decide (o.2.1 = 100 ∨ o.2.1 = 101 ∨ o.2.1 = 102)
  | 44 => decide (lk.2.2.2.1[o.2.2.2.2.1.toNat]? = some (r.1, o.2.2.2.1)) && decide (1 ≤ r.2.2.2.2.2.2.1.2.2.2.1 ∧ 12 ≤ r.2.2.2.2.2.2.1.2.2.2.2)
  | 45 => decide (lk.2.2.2.2[o.2.2.2.2.1.toNat]? = some (r.1, o.2.2.2.1)) && decide (1 ≤ r.2.2.2.2.2.2.1.2.2.2.1 ∧ 14 ≤ r.2.2.2.2.2.2.1.2.2.2.2)
  | 46 => tw_sok sw o.2.1
  | 47 => decide (o.2.1 < 4)
  | _ => true
/-- does the instruction go on to the next row? -/
def tw_th (o : tw_O) : Bool := match o.1 with
  | 24 => false
  | 38 => false
  | 39 => false
  | 40 => false
  | 41 => false
  | 46 => false
  | _ => true
def tw_ck (lk : tw_LK) (mt : List tw_MR) (sw : tw_SW) (r : tw_MR) (ix : Nat) (x : Nat × tw_O) : Bool :=
  Nat.beq x.2.1 99 || (decide (decode r.2.2.2.1 x.1 = .ok (tw_x r.2.2.2.2.2.2.2 sw ix x.1 x.2)) && (!tw_th x.2 || decide (tw_pc r.2.2.2.2.2.2.2 (ix + 1) = x.1 + (tw_x r.2.2.2.2.2.2.2 sw ix x.1 x.2).2)) && tw_wd lk mt sw r x.2)
def tw_cm (lk : tw_LK) (mt : List tw_MR) (sw : tw_SW) (r : tw_MR) : Bool := r.2.2.2.2.2.2.2.zipIdx.all (fun x => tw_ck lk mt sw r x.2 x.1)
end
section
/-! The tables' facts, and the closure of the machine under the rules. -/
abbrev tw_my (r : tw_MR) : MethodName := r.2.2.1
def tw_mok (cl : List vw_C) (mt : List tw_MR) (sw : tw_SW) (lk : tw_LK) (nm : Nat → String) (Ts : List Cond) (r : tw_MR) : Prop :=
  (r.2.1 = nm r.1 ∧ (tw_my r).cls = r.2.1 ∧ plainName (tw_my r).cls = true ∧ Cond.code (tw_my r) r.2.2.2.1 r.2.2.2.2.1 r.2.2.2.2.2.1 ∈ Ts ∧ Cond.initialized (tw_my r).cls ∈ Ts) ∧
  ((tw_my r).cls ≠ "java/lang/invoke/MethodHandle" ∧ (tw_my r).cls ≠ "java/lang/invoke/VarHandle" ∧ (parseMethodDescriptor (tw_my r).desc).map (fun d => d.parameters.length) = some r.2.2.2.2.2.2.1.2.2.1) ∧
  (tw_pc r.2.2.2.2.2.2.2 0 = 0 ∧ tw_cm lk mt sw r = true) ∧
  (r.2.2.2.2.2.2.1.1 = 0 → Cond.static (tw_my r) ∈ Ts) ∧
  (r.2.2.2.2.2.2.1.1 = 1 → Cond.instanceMethod (tw_my r) ∈ Ts ∧ Cond.selects (tw_my r).cls (tw_my r) (tw_my r) ∈ Ts ∧ ∃ x, cl[r.2.2.2.2.2.2.1.2.1]? = some x ∧ x.1 = (tw_my r).cls) ∧
  (r.2.2.2.2.2.2.1.1 = 2 → (tw_my r).name = "<init>" ∧ Cond.instanceMethod (tw_my r) ∈ Ts ∧ r.2.2.2.2.2.1 = none ∧ ∃ x, cl[r.2.2.2.2.2.2.1.2.1]? = some x ∧ x.1 = (tw_my r).cls)
def tw_OK (cl : List vw_C) (ft : Nat → Nat → Nat) (ty : Nat → Nat → FieldType) (mt : List tw_MR) (sw : tw_SW) (lk : tw_LK) (nm : Nat → String) (Ts : List Cond) (Nm : List tw_N) : Prop :=
  (∀ (ci : Nat) (x : vw_C), cl[ci]? = some x → tw_C ft Ts ci x (ty ci)) ∧
  (∀ x ∈ lk.1, ∃ r, cl[x.2.2.1]? = some r ∧ x.2.2.2.1 < r.2.2 ∧ Cond.fieldLink (nm x.1) x.2.1 (r.2.1 x.2.2.2.1).1 (r.2.1 x.2.2.2.1).2.1 (r.2.1 x.2.2.2.1).2.2.1 ∈ Ts ∧ (x.2.2.2.2 = 0 → (r.2.1 x.2.2.2.1).2.2.2 = false) ∧ (x.2.2.2.2 = 1 → (r.2.1 x.2.2.2.1).2.2.2 = true ∧ (r.2.1 x.2.2.2.1).1 = r.1)) ∧
  (∀ x ∈ lk.2.1, ∃ r, mt[x.2.2]? = some r ∧ (Cond.methodLink (nm x.1) x.2.1 (tw_my r) ∈ Ts ∨ ∃ host, (nm x.1, x.2.1, tw_my r, host) ∈ Nm)) ∧
  (∀ x ∈ lk.2.2.1, ∃ r, cl[x.2.2.1]? = some r ∧ x.2.2.2 = r.2.2 ∧ Cond.classLink (nm x.1) x.2.1 r.1 ∈ Ts ∧ Cond.instantiable r.1 r.2.2 ∈ Ts ∧ Cond.initialized r.1 ∈ Ts) ∧
  (∀ x ∈ lk.2.2.2.1, Cond.methodLink (nm x.1) x.2 Lib.objectInit ∈ Ts ∧ Cond.instanceMethod Lib.objectInit ∈ Ts ∧ Cond.code Lib.objectInit ⟨#[0xb1]⟩ 1 none ∈ Ts) ∧
  (∀ x ∈ lk.2.2.2.2, Cond.methodLink (nm x.1) x.2 Lib.Math.max.name ∈ Ts ∧ Cond.static Lib.Math.max.name ∈ Ts ∧ Cond.initialized "java/lang/Math" ∈ Ts ∧ Cond.code Lib.Math.max.name Lib.Math.max.code 2 (some .int) ∈ Ts) ∧
  (∀ a, a = 100 ∨ a = 101 ∨ a = 102 → Cond.arrayClass (tw_ty a) ∈ Ts) ∧
  (∀ w ∈ Ts, (w.onTables && w.keeps) = true ∨ ∃ t, w = .arrayClass t) ∧
  (∀ (k : Nat) (r : tw_MR), mt[k]? = some r → tw_mok cl mt sw lk nm Ts r)
/-- what the walk of a method asks of its row -/
def tw_mw (cl : List vw_C) (mt : List tw_MR) (sw : tw_SW) (lk : tw_LK) (nm : Nat → String) (r : tw_MR) : Prop :=
  r.2.1 = nm r.1 ∧ (tw_my r).cls = r.2.1 ∧ tw_cm lk mt sw r = true ∧ (r.2.2.2.2.2.2.1.1 = 2 → (tw_my r).name = "<init>" ∧ ∃ x, cl[r.2.2.2.2.2.2.1.2.1]? = some x ∧ x.1 = (tw_my r).cls)
theorem tw_mok.mw {cl : List vw_C} {mt : List tw_MR} {sw : tw_SW} {lk : tw_LK} {nm : Nat → String} {Ts : List Cond} {r : tw_MR} (h : tw_mok cl mt sw lk nm Ts r) : tw_mw cl mt sw lk nm r := ⟨h.1.1, h.1.2.1, h.2.2.1.2, fun g => ⟨(h.2.2.2.2.2 g).1, (h.2.2.2.2.2 g).2.2.2⟩⟩
theorem tw_pc_at {t : tw_T} {ix : Nat} {x : Nat × tw_O} (h : t[ix]? = some x) : tw_pc t ix = x.1 := by
  unfold tw_pc
  rw [h]
theorem tw_ck_at {lk : tw_LK} {mt : List tw_MR} {sw : tw_SW} {r : tw_MR} (h : tw_cm lk mt sw r = true) {ix : Nat} {x : Nat × tw_O} (hx : r.2.2.2.2.2.2.2[ix]? = some x) (hne : Nat.beq x.2.1 99 = false) :
    decode r.2.2.2.1 x.1 = .ok (tw_x r.2.2.2.2.2.2.2 sw ix x.1 x.2) ∧ (tw_th x.2 = true → tw_pc r.2.2.2.2.2.2.2 (ix + 1) = x.1 + (tw_x r.2.2.2.2.2.2.2 sw ix x.1 x.2).2) ∧ tw_wd lk mt sw r x.2 = true := by
  unfold tw_cm at h
  have h1 := List.all_eq_true.mp h (x, ix) (by
    refine List.mem_of_getElem? (i := ix) ?_
    rw [List.getElem?_zipIdx, hx]
    simp)
  have h2 : tw_ck lk mt sw r ix x = true := h1
  unfold tw_ck at h2
  rw [hne, Bool.false_or, Bool.and_eq_true, Bool.and_eq_true] at h2
  refine ⟨of_decide_eq_true h2.1.1, fun g => ?_, h2.2⟩
  have h3 := h2.1.2
  rw [g] at h3
  exact of_decide_eq_true h3
theorem tw_kd_of {mt : List tw_MR} {k d q : Nat} {r : tw_MR} (hr : mt[k]? = some r) (h : tw_kd mt k d q = true) : r.2.2.2.2.2.2.1.1 = d ∧ r.2.2.2.2.2.2.1.2.1 = q := by
  unfold tw_kd at h
  rw [hr] at h
  have h' := Bool.and_eq_true_iff.mp h
  exact ⟨of_decide_eq_true h'.1, of_decide_eq_true h'.2⟩
theorem tw_na_of {mt : List tw_MR} {k : Nat} {r : tw_MR} (hr : mt[k]? = some r) : tw_na mt k = r.2.2.2.2.2.2.1.2.2.1 := by
  unfold tw_na
  rw [hr]
def tw_rm (r : tw_MR) (L L2 : tw_L) : Room := { frames := r.2.2.2.2.2.2.1.2.2.2.1, cells := L2.length - L.length, slots := tw_sl L2 - tw_sl L, locals := r.2.2.2.2.2.2.1.2.2.2.2 }
theorem tw_fit_of {mt : List tw_MR} {k : Nat} {r r2 : tw_MR} (hr : mt[k]? = some r2) (h : tw_fit mt k r = true) : r2.2.2.2.2.2.2.1.2.2.2.1 + 1 ≤ r.2.2.2.2.2.2.1.2.2.2.1 ∧ 8 + (r2.2.2.2.2.1 + 11) + r2.2.2.2.2.2.2.1.2.2.2.2 ≤ r.2.2.2.2.2.2.1.2.2.2.2 := by
  unfold tw_fit at h
  rw [hr] at h
  exact of_decide_eq_true h
def tw_MT (l : Launch) (cl : List vw_C) (ft : Nat → Nat → Nat) (mt : List tw_MR) (Ts : List Cond) (Nm : List tw_N) (D : va_G) (cA : Nat → ClassId) (tys : List (ClassId × FieldType)) (b z : Nat) (A : Nat → Prop) (fl : Bool) (Sp : tw_SP) : Prop :=
  ∀ (k : Nat) (As : List tw_A) (L : tw_L) (f : tw_S) (L2 : tw_L) (P : tw_S → Option tw_A → Prop), Sp k As L f L2 P → ∀ r, mt[k]? = some r →
    Met l (tw_my r) (Cond.code (tw_my r) r.2.2.2.1 r.2.2.2.2.1 r.2.2.2.2.2.1 :: Ts) (tw_rm r L L2) (tw_Pc cl ft D cA tys Nm b z fl As L f) (tw_Qc cl ft D cA b z A fl L2 P) (L2.length - L.length) (tw_sl L2 - tw_sl L) A
section CLOSED
variable {p : Program} {l : Launch} {e : Env} {R : Room} {s : State} {m : MethodId} {args : Array Value} {below : List Frame} {meth : Method} {c : Code} {Q : State → Prop} {cl : List vw_C} {ft : Nat → Nat → Nat} {D : va_G} {cA : Nat → ClassId} {b z nL : Nat} {n0 s0 : Int} {A : Nat → Prop} {fl : Bool} {ls : List (Option tw_A)} {st : List tw_A} {L : tw_L} {f : tw_S} {tys : List (ClassId × FieldType)} {Nm : List tw_N}
theorem tw_G_mono {Q2 : State → Prop} {pc : Nat} (h : ∀ t, Q t → Q2 t) (k : tw_G p l e R s m args below meth c Q cl ft D cA b z nL n0 s0 A fl pc ls st L f) : tw_G p l e R s m args below meth c Q2 cl ft D cA b z nL n0 s0 A fl pc ls st L f := by
  intro H locs la g1 g2 hW hS hh T hT X
  obtain ⟨t, a1, a2⟩ := k H locs la g1 g2 hW hS hh T hT X
  exact ⟨t, a1, h t a2⟩
theorem tw_G_down {pc : Nat} (k : tw_G p l e R s m args below meth c Q cl ft D cA b z nL n0 s0 A false pc ls st L f) : tw_G p l e R s m args below meth c Q cl ft D cA b z nL n0 s0 A fl pc ls st L f := fun H locs la g1 g2 hW hS hh => k H locs la g1 g2 hW.down hS hh
theorem tw_cgr {pc pc2 : Nat} (h : pc = pc2) (k : tw_G p l e R s m args below meth c Q cl ft D cA b z nL n0 s0 A fl pc2 ls st L f) : tw_G p l e R s m args below meth c Q cl ft D cA b z nL n0 s0 A fl pc ls st L f := h ▸ k
theorem tw_good {Ts : List Cond} (hG : ∀ w ∈ Ts, (w.onTables && w.keeps) = true ∨ ∃ t, w = .arrayClass t) {y : MethodName} {bytes : ByteArray} {ml : Nat} {rt : Option FieldType} (h : Cond.code y bytes ml rt ∈ Ts) : GoodIn Ts (Cond.code y bytes ml rt :: Ts) := by
  intro w hw
  rcases List.mem_cons.mp hw with rfl | hw
  · exact ⟨h, hG _ h⟩
  · exact ⟨hw, hG _ hw⟩
end CLOSED
section SWITCH
variable {p : Program} {l : Launch} {e : Env} {R : Room} {s : State} {m : MethodId} {args : Array Value} {below : List Frame} {meth : Method} {c : Code} {Q : State → Prop} {cl : List vw_C} {ft : Nat → Nat → Nat} {D : va_G} {cA : Nat → ClassId} {b z nL : Nat} {n0 s0 : Int} {A : Nat → Prop} {fl : Bool} {ls : List (Option tw_A)} {st : List tw_A} {L : tw_L} {f : tw_S}
theorem tg_switch (hx : p.tables.exec = Jvm.exec) {cc : ByteArray} (hb : c.code = cc) {pc df len : Nat} {ts : List Nat} {t : tw_T} {x : Int32} (hd : decode cc pc = .ok (.tableswitch ((tw_pc t df : Int) - (pc : Int)) 0 (0 + (ts.length : Int) - 1) (ts.map (fun j => (tw_pc t j : Int) - (pc : Int))).toArray, len)) (h0 : 0 < ts.length) (h1 : ts.length < 1000)
    (kk : tw_G p l e R s m args below meth c Q cl ft D cA b z nL n0 s0 A fl (tw_pc t (tw_tg 0 ts df x)) ls st L f) : tw_G p l e R s m args below meth c Q cl ft D cA b z nL n0 s0 A fl pc ls (tw_I x :: st) L f := by
  intro H locs la g1 g2 hW hS hh
  have k2 := kk H locs la g1 g2 hW hS hh
  unfold tw_tg at k2
  by_cases hlo : x.toInt < 0
  · rw [if_pos hlo] at k2
    exact lv_tableOut hx hb hd (Or.inl hlo) (by omega) k2
  · rw [if_neg hlo] at k2
    by_cases hhi : 0 + (ts.length : Int) - 1 < x.toInt
    · have h2 : ts.getD (x.toInt - 0).toNat df = df := by
        rw [List.getD_eq_getElem?_getD, List.getElem?_eq_none (by omega)]
        rfl
      rw [h2] at k2
      exact lv_tableOut hx hb hd (Or.inr hhi) (by omega) k2
    · have hlt : (x.toInt - 0).toNat < ts.length := by omega
      have h2 : ts.getD (x.toInt - 0).toNat df = ts[(x.toInt - 0).toNat] := by
        rw [List.getD_eq_getElem?_getD, List.getElem?_eq_getElem hlt]
        rfl
      rw [h2] at k2
      refine lv_tableIn hx hb hd hlo hhi (off := (tw_pc t ts[(x.toInt - 0).toNat] : Int) - (pc : Int)) ?_ (by omega) k2
      rw [List.getElem?_toArray, List.getElem?_map, List.getElem?_eq_getElem hlt]
      rfl
end SWITCH
set_option maxHeartbeats 4000000 in
theorem tw_closed {p : Program} {l : Launch} {e : Env} {R : Room} {s : State} {m : MethodId} {args : Array Value} {below : List Frame} {meth : Method} {c : Code} {cl : List vw_C} {ft : Nat → Nat → Nat} {ty : Nat → Nat → FieldType} {mt : List tw_MR} {sw : tw_SW} {lk : tw_LK} {nm : Nat → String} {Ts : List Cond} {Nm : List tw_N} {D : va_G} {cA : Nat → ClassId} {b z : Nat} {n0 s0 : Int} {A : Nat → Prop} {fl : Bool} {xs : Option (Nat × (Nat → Int32))} {Sp : tw_SP} {Lf : tw_L} {P : tw_S → Option tw_A → Prop} {r : tw_MR} {Q : State → Prop}
    (hOK : tw_OK cl ft ty mt sw lk nm Ts Nm) (hr : tw_mw cl mt sw lk nm r) (hx : p.tables.exec = Jvm.exec) (hb : c.code = r.2.2.2.1) (hml : c.maxLocals = r.2.2.2.2.1) (hret : meth.sig.returnType = r.2.2.2.2.2.1) (hlocks : meth.locks = false) (hname : meth.name = (tw_my r).name) (hts : ∀ w ∈ Ts, w.before args s = true) (hown : s.vm.findClass (nm r.1) = some m.cls) (hK : va_K D cl [(cA 100, .int), (cA 101, .boolean), (cA 102, .long)] s) (hN : ∀ x ∈ Nm, va_Nw (.methodLinkNest x.1 x.2.1 x.2.2.1 x.2.2.2) s)
    (hb0 : b ≤ s.heap.size) (hxs : ∀ N g, xs = some (N, g) → va_X z N g s s.heap ∧ z < s.heap.size ∧ ¬ A z) (hA : ∀ (ix : Nat) (x : Nat × tw_O), r.2.2.2.2.2.2.2[ix]? = some x → x.2.1 = 28 ∨ x.2.1 = 29 ∨ x.2.1 = 30 ∨ x.2.1 = 33 ∨ x.2.1 = 34 → ∀ y, b ≤ y → A y)
    (hRf : r.2.2.2.2.2.2.1.2.2.2.1 ≤ R.frames) (hRl : r.2.2.2.2.2.2.1.2.2.2.2 ≤ R.locals) (hRc : (((Lf.length : Nat) : Int) - n0).toNat ≤ R.cells) (hRs : (((tw_sl Lf : Nat) : Int) - s0).toNat ≤ R.slots) (hQ : ∀ t, MQ below (tw_Qc cl ft D cA b z A fl Lf P) args s ((((Lf.length : Nat) : Int) - n0).toNat) ((((tw_sl Lf : Nat) : Int) - s0).toNat) A t → Q t) (IH : tw_MT l cl ft mt Ts Nm D cA [(cA 100, .int), (cA 101, .boolean), (cA 102, .long)] b z A fl Sp) :
    tw_Cl mt sw ft fl xs Sp Lf P r.2.2.2.2.2.2.2 (fun ix ls st L f => tw_G p l e R s m args below meth c Q cl ft D cA b z r.2.2.2.2.1 n0 s0 A fl (tw_pc r.2.2.2.2.2.2.2 ix) ls st L f) := by
  obtain ⟨hOC, hOF, hOM, hON, hOO, hOX, hOA, hOG, hOR⟩ := hOK
  have hck : ∀ {ix : Nat} {x : Nat × tw_O}, r.2.2.2.2.2.2.2[ix]? = some x → Nat.beq x.2.1 99 = false → decode r.2.2.2.1 x.1 = .ok (tw_x r.2.2.2.2.2.2.2 sw ix x.1 x.2) ∧ (tw_th x.2 = true → tw_pc r.2.2.2.2.2.2.2 (ix + 1) = x.1 + (tw_x r.2.2.2.2.2.2.2 sw ix x.1 x.2).2) ∧ tw_wd lk mt sw r x.2 = true := fun h g => tw_ck_at hr.2.2.1 h g
  refine ⟨?_, ?_, ?_, ?_, ?_, ?_, ?_, ?_, ?_, ?_, ?_, ?_, ?_, ?_, ?_, ?_, ?_, ?_, ?_, ?_, ?_, ?_, ?_, ?_, ?_, ?_, ?_, ?_, ?_, ?_, ?_, ?_, ?_, ?_, ?_, ?_, ?_, ?_, ?_, ?_, ?_, ?_, ?_, ?_, ?_, ?_, ?_, ?_, ?_, ?_, ?_, ?_, ?_⟩
  · intro ix pc a b1 c1 n v ls st L f x ht hl k
    have hd : decode r.2.2.2.1 pc = .ok (.iload_n (Fin.ofNat 4 a), 1) := (hck ht rfl).1
    have hn : tw_pc r.2.2.2.2.2.2.2 (ix + 1) = pc + 1 := (hck ht rfl).2.1 rfl
    have hw : a < 4 := of_decide_eq_true (hck ht rfl).2.2
    exact tw_cgr (tw_pc_at ht) (tg_iload_n hx hb hd (Nat.mod_eq_of_lt hw) hl (tw_cgr hn.symm k))
  · intro ix pc a b1 c1 n v ls st L f x ht hl k
    have hd : decode r.2.2.2.1 pc = .ok (.iload a, 2) := (hck ht rfl).1
    have hn : tw_pc r.2.2.2.2.2.2.2 (ix + 1) = pc + 2 := (hck ht rfl).2.1 rfl
    exact tw_cgr (tw_pc_at ht) (tg_iload hx hb hd hl (tw_cgr hn.symm k))
  · intro ix pc a b1 c1 n v ls st L f q ht hl k
    have hd : decode r.2.2.2.1 pc = .ok (.aload_n (Fin.ofNat 4 a), 1) := (hck ht rfl).1
    have hn : tw_pc r.2.2.2.2.2.2.2 (ix + 1) = pc + 1 := (hck ht rfl).2.1 rfl
    have hw : a < 4 := of_decide_eq_true (hck ht rfl).2.2
    exact tw_cgr (tw_pc_at ht) (tg_aload_n hx hb hd (Nat.mod_eq_of_lt hw) hl (tw_cgr hn.symm k))
  · intro ix pc a b1 c1 n v ls st L f q ht hl k
    have hd : decode r.2.2.2.1 pc = .ok (.aload a, 2) := (hck ht rfl).1
    have hn : tw_pc r.2.2.2.2.2.2.2 (ix + 1) = pc + 2 := (hck ht rfl).2.1 rfl
    exact tw_cgr (tw_pc_at ht) (tg_aload hx hb hd hl (tw_cgr hn.symm k))
  · intro ix pc a b1 c1 n v ls st L f ht k
    have hd : decode r.2.2.2.1 pc = .ok (.iconst n, 1) := (hck ht rfl).1
    have hn : tw_pc r.2.2.2.2.2.2.2 (ix + 1) = pc + 1 := (hck ht rfl).2.1 rfl
    have hw : Int32.ofInt n = v := of_decide_eq_true (hck ht rfl).2.2
    exact tw_cgr (tw_pc_at ht) (tg_iconst hx hb hd hw (tw_cgr hn.symm k))
  · intro ix pc a b1 c1 n v ls st L f ht k
    have hd : decode r.2.2.2.1 pc = .ok (.bipush n, 2) := (hck ht rfl).1
    have hn : tw_pc r.2.2.2.2.2.2.2 (ix + 1) = pc + 2 := (hck ht rfl).2.1 rfl
    have hw : (Int8.ofInt n).toInt32 = v := of_decide_eq_true (hck ht rfl).2.2
    exact tw_cgr (tw_pc_at ht) (tg_bipush hx hb hd hw (tw_cgr hn.symm k))
  · intro ix pc a b1 c1 n v ls st L f ht k
    have hd : decode r.2.2.2.1 pc = .ok (.sipush n, 3) := (hck ht rfl).1
    have hn : tw_pc r.2.2.2.2.2.2.2 (ix + 1) = pc + 3 := (hck ht rfl).2.1 rfl
    have hw : (Int16.ofInt n).toInt32 = v := of_decide_eq_true (hck ht rfl).2.2
    exact tw_cgr (tw_pc_at ht) (tg_sipush hx hb hd hw (tw_cgr hn.symm k))
  · intro ix pc a b1 c1 n v ls st L f x ht hl k
    have hd : decode r.2.2.2.1 pc = .ok (.istore_n (Fin.ofNat 4 a), 1) := (hck ht rfl).1
    have hn : tw_pc r.2.2.2.2.2.2.2 (ix + 1) = pc + 1 := (hck ht rfl).2.1 rfl
    have hw : a < 4 := of_decide_eq_true (hck ht rfl).2.2
    exact tw_cgr (tw_pc_at ht) (tg_istore_n hx hb hd (Nat.mod_eq_of_lt hw) hl (tw_cgr hn.symm k))
  · intro ix pc a b1 c1 n v ls st L f x ht hl k
    have hd : decode r.2.2.2.1 pc = .ok (.istore a, 2) := (hck ht rfl).1
    have hn : tw_pc r.2.2.2.2.2.2.2 (ix + 1) = pc + 2 := (hck ht rfl).2.1 rfl
    exact tw_cgr (tw_pc_at ht) (tg_istore hx hb hd hl (tw_cgr hn.symm k))
  · intro ix pc a b1 c1 n v ls st L f q ht hl k
    have hd : decode r.2.2.2.1 pc = .ok (.astore_n (Fin.ofNat 4 a), 1) := (hck ht rfl).1
    have hn : tw_pc r.2.2.2.2.2.2.2 (ix + 1) = pc + 1 := (hck ht rfl).2.1 rfl
    have hw : a < 4 := of_decide_eq_true (hck ht rfl).2.2
    exact tw_cgr (tw_pc_at ht) (tg_astore_n hx hb hd (Nat.mod_eq_of_lt hw) hl (tw_cgr hn.symm k))
  · intro ix pc a b1 c1 n v ls st L f q ht hl k
    have hd : decode r.2.2.2.1 pc = .ok (.astore a, 2) := (hck ht rfl).1
    have hn : tw_pc r.2.2.2.2.2.2.2 (ix + 1) = pc + 2 := (hck ht rfl).2.1 rfl
    exact tw_cgr (tw_pc_at ht) (tg_astore hx hb hd hl (tw_cgr hn.symm k))
  · intro ix pc a b1 c1 n v ls st L f x ht hl k
    have hd : decode r.2.2.2.1 pc = .ok (.iinc a n, 3) := (hck ht rfl).1
    have hn : tw_pc r.2.2.2.2.2.2.2 (ix + 1) = pc + 3 := (hck ht rfl).2.1 rfl
    have hw : Int32.ofInt n = v := of_decide_eq_true (hck ht rfl).2.2
    exact tw_cgr (tw_pc_at ht) (tg_iinc hx hb hd hw hl (tw_cgr hn.symm k))
  · intro ix pc a b1 c1 n v ls st L f x y ht k
    have hd : decode r.2.2.2.1 pc = .ok (.iadd, 1) := (hck ht rfl).1
    have hn : tw_pc r.2.2.2.2.2.2.2 (ix + 1) = pc + 1 := (hck ht rfl).2.1 rfl
    exact tw_cgr (tw_pc_at ht) (tg_iadd hx hb hd (tw_cgr hn.symm k))
  · intro ix pc a b1 c1 n v ls st L f x y ht k
    have hd : decode r.2.2.2.1 pc = .ok (.isub, 1) := (hck ht rfl).1
    have hn : tw_pc r.2.2.2.2.2.2.2 (ix + 1) = pc + 1 := (hck ht rfl).2.1 rfl
    exact tw_cgr (tw_pc_at ht) (tg_isub hx hb hd (tw_cgr hn.symm k))
  · intro ix pc a b1 c1 n v ls st L f x y ht k
    have hd : decode r.2.2.2.1 pc = .ok (.imul, 1) := (hck ht rfl).1
    have hn : tw_pc r.2.2.2.2.2.2.2 (ix + 1) = pc + 1 := (hck ht rfl).2.1 rfl
    exact tw_cgr (tw_pc_at ht) (tg_imul hx hb hd (tw_cgr hn.symm k))
  · intro ix pc a b1 c1 n v ls st L f x y ht k
    have hd : decode r.2.2.2.1 pc = .ok (.iand, 1) := (hck ht rfl).1
    have hn : tw_pc r.2.2.2.2.2.2.2 (ix + 1) = pc + 1 := (hck ht rfl).2.1 rfl
    exact tw_cgr (tw_pc_at ht) (tg_iand hx hb hd (tw_cgr hn.symm k))
  · intro ix pc a b1 c1 n v ls st L f x y ht k
    have hd : decode r.2.2.2.1 pc = .ok (.ior, 1) := (hck ht rfl).1
    have hn : tw_pc r.2.2.2.2.2.2.2 (ix + 1) = pc + 1 := (hck ht rfl).2.1 rfl
    exact tw_cgr (tw_pc_at ht) (tg_ior hx hb hd (tw_cgr hn.symm k))
  · intro ix pc a b1 c1 n v ls st L f x y ht k
    have hd : decode r.2.2.2.1 pc = .ok (.ixor, 1) := (hck ht rfl).1
    have hn : tw_pc r.2.2.2.2.2.2.2 (ix + 1) = pc + 1 := (hck ht rfl).2.1 rfl
    exact tw_cgr (tw_pc_at ht) (tg_ixor hx hb hd (tw_cgr hn.symm k))
  · intro ix pc a b1 c1 n v ls st L f x y ht k
    have hd : decode r.2.2.2.1 pc = .ok (.ishl, 1) := (hck ht rfl).1
    have hn : tw_pc r.2.2.2.2.2.2.2 (ix + 1) = pc + 1 := (hck ht rfl).2.1 rfl
    exact tw_cgr (tw_pc_at ht) (tg_ishl hx hb hd (tw_cgr hn.symm k))
  · intro ix pc a b1 c1 n v ls st L f x y ht k
    have hd : decode r.2.2.2.1 pc = .ok (.ishr, 1) := (hck ht rfl).1
    have hn : tw_pc r.2.2.2.2.2.2.2 (ix + 1) = pc + 1 := (hck ht rfl).2.1 rfl
    exact tw_cgr (tw_pc_at ht) (tg_ishr hx hb hd (tw_cgr hn.symm k))
  · intro ix pc a b1 c1 n v ls st L f x y ht hy k
    have hd : decode r.2.2.2.1 pc = .ok (.idiv, 1) := (hck ht rfl).1
    have hn : tw_pc r.2.2.2.2.2.2.2 (ix + 1) = pc + 1 := (hck ht rfl).2.1 rfl
    exact tw_cgr (tw_pc_at ht) (tg_idiv hx hb hd hy (tw_cgr hn.symm k))
  · intro ix pc a b1 c1 n v ls st L f x y ht hy k
    have hd : decode r.2.2.2.1 pc = .ok (.irem, 1) := (hck ht rfl).1
    have hn : tw_pc r.2.2.2.2.2.2.2 (ix + 1) = pc + 1 := (hck ht rfl).2.1 rfl
    exact tw_cgr (tw_pc_at ht) (tg_irem hx hb hd hy (tw_cgr hn.symm k))
  · intro ix pc a b1 c1 n v ls st L f x ht kt kf
    have hd : decode r.2.2.2.1 pc = .ok (tw_if a ((tw_pc r.2.2.2.2.2.2.2 b1 : Int) - (pc : Int)), 3) := (hck ht rfl).1
    have hn : tw_pc r.2.2.2.2.2.2.2 (ix + 1) = pc + 3 := (hck ht rfl).2.1 rfl
    exact tw_cgr (tw_pc_at ht) (tg_if hx hb hd (tgt := tw_pc r.2.2.2.2.2.2.2 b1) (by omega) (fun g => kt g) (fun g => tw_cgr hn.symm (kf g)))
  · intro ix pc a b1 c1 n v ls st L f x y ht kt kf
    have hd : decode r.2.2.2.1 pc = .ok (tw_ic a ((tw_pc r.2.2.2.2.2.2.2 b1 : Int) - (pc : Int)), 3) := (hck ht rfl).1
    have hn : tw_pc r.2.2.2.2.2.2.2 (ix + 1) = pc + 3 := (hck ht rfl).2.1 rfl
    exact tw_cgr (tw_pc_at ht) (tg_icmp hx hb hd (tgt := tw_pc r.2.2.2.2.2.2.2 b1) (by omega) (fun g => kt g) (fun g => tw_cgr hn.symm (kf g)))
  · intro ix pc a b1 c1 n v ls st L f ht k
    have hd : decode r.2.2.2.1 pc = .ok (.goto ((tw_pc r.2.2.2.2.2.2.2 b1 : Int) - (pc : Int)), 3) := (hck ht rfl).1
    exact tw_cgr (tw_pc_at ht) (tg_goto hx hb hd (tgt := tw_pc r.2.2.2.2.2.2.2 b1) (by omega) k)
  · intro ix pc a b1 c1 n v ls st L f u1 ht hu k
    have hd : decode r.2.2.2.1 pc = .ok (.dup, 1) := (hck ht rfl).1
    have hn : tw_pc r.2.2.2.2.2.2.2 (ix + 1) = pc + 1 := (hck ht rfl).2.1 rfl
    exact tw_cgr (tw_pc_at ht) (tg_dup hx hb hd hu (tw_cgr hn.symm k))
  · intro ix pc a b1 c1 n v ls st L f u1 u2 ht hu1 hu2 k
    have hd : decode r.2.2.2.1 pc = .ok (.dup2, 1) := (hck ht rfl).1
    have hn : tw_pc r.2.2.2.2.2.2.2 (ix + 1) = pc + 1 := (hck ht rfl).2.1 rfl
    exact tw_cgr (tw_pc_at ht) (tg_dup2 hx hb hd hu1 hu2 (tw_cgr hn.symm k))
  · intro ix pc a b1 c1 n v ls st L f q nn rs ht hq hi k
    have hd : decode r.2.2.2.1 pc = .ok (.getfield c1, 3) := (hck ht rfl).1
    have hn : tw_pc r.2.2.2.2.2.2.2 (ix + 1) = pc + 3 := (hck ht rfl).2.1 rfl
    have hw0 : (decide (lk.1[n.toNat]? = some (r.1, c1, a, b1, 0)) || decide (lk.1[n.toNat]? = some (r.1, c1, a, b1, 1))) = true := (hck ht rfl).2.2
    have hw : ∃ j, lk.1[n.toNat]? = some (r.1, c1, a, b1, j) := by
      rcases Bool.or_eq_true_iff.mp hw0 with g | g
      · exact ⟨_, of_decide_eq_true g⟩
      · exact ⟨_, of_decide_eq_true g⟩
    obtain ⟨j, hj⟩ := hw
    obtain ⟨cr, hc, hlt, hlink, -, -⟩ := hOF _ (List.mem_of_getElem? hj)
    exact tw_cgr (tw_pc_at ht) (tg_getf hx hb hts hown hK hc (hOC _ _ hc) hlt (hts _ hlink) hd hq hi (tw_cgr hn.symm k))
  · intro ix pc a b1 c1 n v ls st L f x q nn rs ht hq hi hv k
    have hd : decode r.2.2.2.1 pc = .ok (.putfield c1, 3) := (hck ht rfl).1
    have hn : tw_pc r.2.2.2.2.2.2.2 (ix + 1) = pc + 3 := (hck ht rfl).2.1 rfl
    have hw : lk.1[n.toNat]? = some (r.1, c1, a, b1, 0) := of_decide_eq_true (hck ht rfl).2.2
    obtain ⟨cr, hc, hlt, hlink, hfin, -⟩ := hOF _ (List.mem_of_getElem? hw)
    exact tw_cgr (tw_pc_at ht) (tg_putf (hA _ _ ht (Or.inl rfl)) hx hb hts hown hK hc (hOC _ _ hc) hlt (hts _ hlink) hd (hfin rfl) hq hi hv (tw_cgr hn.symm k))
  · intro ix pc a b1 c1 n v ls st L f x q nn rs ht hq hi hv k
    have hd : decode r.2.2.2.1 pc = .ok (.putfield c1, 3) := (hck ht rfl).1
    have hn : tw_pc r.2.2.2.2.2.2.2 (ix + 1) = pc + 3 := (hck ht rfl).2.1 rfl
    have hw0 : (decide (lk.1[n.toNat]? = some (r.1, c1, a, b1, 1)) && decide (r.2.2.2.2.2.2.1.1 = 2) && decide (r.2.2.2.2.2.2.1.2.1 = a)) = true := (hck ht rfl).2.2
    rw [Bool.and_eq_true, Bool.and_eq_true] at hw0
    have hw := of_decide_eq_true hw0.1.1
    obtain ⟨cr, hc, hlt, hlink, -, hfin⟩ := hOF _ (List.mem_of_getElem? hw)
    obtain ⟨hf1, hf2⟩ := hfin rfl
    obtain ⟨hnm2, x2, hx2, hx3⟩ := hr.2.2.2 (of_decide_eq_true hw0.1.2)
    have hc2 : cl[a]? = some cr := hc
    rw [of_decide_eq_true hw0.2] at hx2
    have hxc : x2 = cr := Option.some.inj (hx2.symm.trans hc2)
    subst hxc
    exact tw_cgr (tw_pc_at ht) (tg_putFi (hA _ _ ht (Or.inr (Or.inl rfl))) hx hb hts hown hK hc (hOC _ _ hc) hlt (hts _ hlink) hd hf1 (hname.trans hnm2) (hf2.trans (hx3.trans (hr.2.1.trans hr.1))) hq hi hv (tw_cgr hn.symm k))
  · intro ix pc a b1 c1 n v ls st L f q2 q nn rs ht hq hi hrs hv k
    have hd : decode r.2.2.2.1 pc = .ok (.putfield c1, 3) := (hck ht rfl).1
    have hn : tw_pc r.2.2.2.2.2.2.2 (ix + 1) = pc + 3 := (hck ht rfl).2.1 rfl
    have hw0 : (decide (lk.1[n.toNat]? = some (r.1, c1, a, b1, 1)) && decide (r.2.2.2.2.2.2.1.1 = 2) && decide (r.2.2.2.2.2.2.1.2.1 = a)) = true := (hck ht rfl).2.2
    rw [Bool.and_eq_true, Bool.and_eq_true] at hw0
    have hw := of_decide_eq_true hw0.1.1
    obtain ⟨cr, hc, hlt, hlink, -, hfin⟩ := hOF _ (List.mem_of_getElem? hw)
    obtain ⟨hf1, hf2⟩ := hfin rfl
    obtain ⟨hnm2, x2, hx2, hx3⟩ := hr.2.2.2 (of_decide_eq_true hw0.1.2)
    have hc2 : cl[a]? = some cr := hc
    rw [of_decide_eq_true hw0.2] at hx2
    have hxc : x2 = cr := Option.some.inj (hx2.symm.trans hc2)
    subst hxc
    exact tw_cgr (tw_pc_at ht) (tg_putFr (hA _ _ ht (Or.inr (Or.inr (Or.inl rfl)))) hx hb hts hown hK hc (hOC _ _ hc) hlt (hts _ hlink) hd hf1 (hname.trans hnm2) (hf2.trans (hx3.trans (hr.2.1.trans hr.1))) hq hi hrs hv (tw_cgr hn.symm k))
  · intro ix pc a b1 c1 n v ls st L f x q nn rs ht hq hv k
    have hd : decode r.2.2.2.1 pc = .ok (.iaload, 1) := (hck ht rfl).1
    have hn : tw_pc r.2.2.2.2.2.2.2 (ix + 1) = pc + 1 := (hck ht rfl).2.1 rfl
    exact tw_cgr (tw_pc_at ht) (tg_iaload (t0 := 0) hx hb hK rfl hd hq hv (tw_cgr hn.symm k))
  · intro ix pc a b1 c1 n v ls st L f x q nn rs ht hq hv k
    have hd : decode r.2.2.2.1 pc = .ok (.baload, 1) := (hck ht rfl).1
    have hn : tw_pc r.2.2.2.2.2.2.2 (ix + 1) = pc + 1 := (hck ht rfl).2.1 rfl
    exact tw_cgr (tw_pc_at ht) (tg_baload (t0 := 1) hx hb hK rfl hd hq hv (tw_cgr hn.symm k))
  · intro ix pc a b1 c1 n v ls st L f x y q nn rs ht hq hv k
    have hd : decode r.2.2.2.1 pc = .ok (.iastore, 1) := (hck ht rfl).1
    have hn : tw_pc r.2.2.2.2.2.2.2 (ix + 1) = pc + 1 := (hck ht rfl).2.1 rfl
    exact tw_cgr (tw_pc_at ht) (tg_iastore (hA _ _ ht (Or.inr (Or.inr (Or.inr (Or.inl rfl))))) (t0 := 0) hx hb hK rfl hd hq hv (tw_cgr hn.symm k))
  · intro ix pc a b1 c1 n v ls st L f x y q nn rs ht hq hv hy k
    have hd : decode r.2.2.2.1 pc = .ok (.bastore, 1) := (hck ht rfl).1
    have hn : tw_pc r.2.2.2.2.2.2.2 (ix + 1) = pc + 1 := (hck ht rfl).2.1 rfl
    exact tw_cgr (tw_pc_at ht) (tg_bastore (hA _ _ ht (Or.inr (Or.inr (Or.inr (Or.inr rfl))))) (t0 := 1) hx hb hK rfl hd hq hv hy (tw_cgr hn.symm k))
  · intro ix pc a b1 c1 n v ls st L f As L2 q nn rs ht hq hna hct g1 g2 g3 g4 hS
    have hd : decode r.2.2.2.1 pc = .ok (.invokevirtual c1, 3) := (hck ht rfl).1
    have hn : tw_pc r.2.2.2.2.2.2.2 (ix + 1) = pc + 3 := (hck ht rfl).2.1 rfl
    have hw0 : (decide (lk.2.1[n.toNat]? = some (r.1, c1, a)) && tw_kd mt a 1 b1 && tw_fit mt a r) = true := (hck ht rfl).2.2
    rw [Bool.and_eq_true, Bool.and_eq_true] at hw0
    obtain ⟨r2, hr2, hlink⟩ := hOM _ (List.mem_of_getElem? (of_decide_eq_true hw0.1.1))
    have hr2' : mt[a]? = some r2 := hr2
    obtain ⟨hkd, hrc⟩ := tw_kd_of hr2' hw0.1.2
    obtain ⟨⟨q1, q2, q3, q4, q5⟩, q6, -, q10, q11, q12⟩ := hOR a r2 hr2'
    have hM := IH _ _ _ _ _ _ hS r2 hr2'
    have hlen : As.length = r2.2.2.2.2.2.2.1.2.2.1 := hna.trans (tw_na_of hr2')
    have hfit := tw_fit_of hr2' hw0.2
    have hroom : (tw_rm r2 L L2).frames + 1 ≤ R.frames ∧ 8 + (r2.2.2.2.2.1 + 11) + (tw_rm r2 L L2).locals ≤ R.locals := ⟨Nat.le_trans hfit.1 hRf, Nat.le_trans hfit.2 hRl⟩
    obtain ⟨w1, w2, x2, hx2, hx3⟩ := q11 hkd
    rw [hrc] at hx2
    refine tw_cgr (tw_pc_at ht) (tg_call (rest := st) (a := #[]) g1 g2 (fun H locs la j1 j2 hW hla => ?_) (fun f2 r3 hP => tw_cgr hn.symm hP))
    rcases hlink with hl | ⟨host, hl⟩
    · exact tr_V ⟨hx, hb, hml, hown, hts⟩ hM ⟨callB_of _ hts (tw_good hOG q4) rfl rfl rfl (hts _ q5) (hts _ hl) q6 hroom, hts _ w1, hts _ w2⟩ hK hN hq (hOC _ _ hx2).2.2.2.1 hx2 hx3 hW hla hlen hct hd ⟨by show (((L.length : Nat) : Int) - n0).toNat + (L2.length - L.length) ≤ _; omega, by show (((tw_sl L : Nat) : Int) - s0).toNat + (tw_sl L2 - tw_sl L) ≤ _; omega⟩
    · exact tr_VN ⟨hx, hb, hml, hown, hts⟩ hM ⟨va_cnB _ hts (tw_good hOG q4) rfl rfl rfl (hN _ hl) (hts _ q5) q6 hroom, hts _ w1, hts _ w2⟩ hK hN hq (hOC _ _ hx2).2.2.2.1 hx2 hx3 hW hla hlen hct hd ⟨by show (((L.length : Nat) : Int) - n0).toNat + (L2.length - L.length) ≤ _; omega, by show (((tw_sl L : Nat) : Int) - s0).toNat + (tw_sl L2 - tw_sl L) ≤ _; omega⟩
  · intro ix pc a b1 c1 n v ls st L f As L2 ht hna hct g1 g2 g3 g4 hS
    have hd : decode r.2.2.2.1 pc = .ok (.invokestatic c1, 3) := (hck ht rfl).1
    have hn : tw_pc r.2.2.2.2.2.2.2 (ix + 1) = pc + 3 := (hck ht rfl).2.1 rfl
    have hw0 : (decide (lk.2.1[n.toNat]? = some (r.1, c1, a)) && tw_kd mt a 0 0 && tw_fit mt a r) = true := (hck ht rfl).2.2
    rw [Bool.and_eq_true, Bool.and_eq_true] at hw0
    obtain ⟨r2, hr2, hlink⟩ := hOM _ (List.mem_of_getElem? (of_decide_eq_true hw0.1.1))
    have hr2' : mt[a]? = some r2 := hr2
    obtain ⟨hkd, hrc⟩ := tw_kd_of hr2' hw0.1.2
    obtain ⟨⟨q1, q2, q3, q4, q5⟩, q6, -, q10, q11, q12⟩ := hOR a r2 hr2'
    have hM := IH _ _ _ _ _ _ hS r2 hr2'
    have hlen : As.length = r2.2.2.2.2.2.2.1.2.2.1 := hna.trans (tw_na_of hr2')
    have hfit := tw_fit_of hr2' hw0.2
    have hroom : (tw_rm r2 L L2).frames + 1 ≤ R.frames ∧ 8 + (r2.2.2.2.2.1 + 11) + (tw_rm r2 L L2).locals ≤ R.locals := ⟨Nat.le_trans hfit.1 hRf, Nat.le_trans hfit.2 hRl⟩
    have w1 := q10 hkd
    refine tw_cgr (tw_pc_at ht) (tg_call (rest := st) (a := #[]) g1 g2 (fun H locs la j1 j2 hW hla => ?_) (fun f2 r3 hP => tw_cgr hn.symm hP))
    rcases hlink with hl | ⟨host, hl⟩
    · exact tr_S ⟨hx, hb, hml, hown, hts⟩ hM ⟨callB_of _ hts (tw_good hOG q4) rfl rfl rfl (hts _ q5) (hts _ hl) q6 hroom, hts _ w1⟩ hK hN hW hla hlen hct hd ⟨by show (((L.length : Nat) : Int) - n0).toNat + (L2.length - L.length) ≤ _; omega, by show (((tw_sl L : Nat) : Int) - s0).toNat + (tw_sl L2 - tw_sl L) ≤ _; omega⟩
    · exact tr_SN ⟨hx, hb, hml, hown, hts⟩ hM ⟨va_cnB _ hts (tw_good hOG q4) rfl rfl rfl (hN _ hl) (hts _ q5) q6 hroom, hts _ w1, trivial⟩ hK hN hW hla hlen hct hd ⟨by show (((L.length : Nat) : Int) - n0).toNat + (L2.length - L.length) ≤ _; omega, by show (((tw_sl L : Nat) : Int) - s0).toNat + (tw_sl L2 - tw_sl L) ≤ _; omega⟩
  · intro ix pc a b1 c1 n v ls st L f As L2 q ht hna hct g1 g2 g3 g4 hS
    have hd : decode r.2.2.2.1 pc = .ok (.invokespecial c1, 3) := (hck ht rfl).1
    have hn : tw_pc r.2.2.2.2.2.2.2 (ix + 1) = pc + 3 := (hck ht rfl).2.1 rfl
    have hw0 : (decide (lk.2.1[n.toNat]? = some (r.1, c1, a)) && tw_kd mt a 2 b1 && tw_fit mt a r) = true := (hck ht rfl).2.2
    rw [Bool.and_eq_true, Bool.and_eq_true] at hw0
    obtain ⟨r2, hr2, hlink⟩ := hOM _ (List.mem_of_getElem? (of_decide_eq_true hw0.1.1))
    have hr2' : mt[a]? = some r2 := hr2
    obtain ⟨hkd, hrc⟩ := tw_kd_of hr2' hw0.1.2
    obtain ⟨⟨q1, q2, q3, q4, q5⟩, q6, -, q10, q11, q12⟩ := hOR a r2 hr2'
    have hM := IH _ _ _ _ _ _ hS r2 hr2'
    have hlen : As.length = r2.2.2.2.2.2.2.1.2.2.1 := hna.trans (tw_na_of hr2')
    have hfit := tw_fit_of hr2' hw0.2
    have hroom : (tw_rm r2 L L2).frames + 1 ≤ R.frames ∧ 8 + (r2.2.2.2.2.1 + 11) + (tw_rm r2 L L2).locals ≤ R.locals := ⟨Nat.le_trans hfit.1 hRf, Nat.le_trans hfit.2 hRl⟩
    obtain ⟨w1, w2, w3, -⟩ := q12 hkd
    rw [w3] at hM q4
    refine tw_cgr (tw_pc_at ht) (tg_call (rest := st) (a := #[]) g1 g2 (fun H locs la j1 j2 hW hla => ?_) (fun f2 r3 hP => tw_cgr hn.symm hP))
    rcases hlink with hl | ⟨host, hl⟩
    · exact tr_I ⟨hx, hb, hml, hown, hts⟩ hM ⟨callB_of _ hts (tw_good hOG q4) rfl rfl rfl (hts _ q5) (hts _ hl) q6 hroom, w1, hts _ w2⟩ hK hN hW hla hlen hct hd ⟨by show (((L.length : Nat) : Int) - n0).toNat + (L2.length - L.length) ≤ _; omega, by show (((tw_sl L : Nat) : Int) - s0).toNat + (tw_sl L2 - tw_sl L) ≤ _; omega⟩
    · exact tr_IN ⟨hx, hb, hml, hown, hts⟩ hM ⟨va_cnB _ hts (tw_good hOG q4) rfl rfl rfl (hN _ hl) (hts _ q5) q6 hroom, w1, hts _ w2⟩ hK hN hW hla hlen hct hd ⟨by show (((L.length : Nat) : Int) - n0).toNat + (L2.length - L.length) ≤ _; omega, by show (((tw_sl L : Nat) : Int) - s0).toNat + (tw_sl L2 - tw_sl L) ≤ _; omega⟩
  · intro ix pc a b1 c1 n v ls f x ht k
    have hd : decode r.2.2.2.1 pc = .ok (.ireturn, 1) := (hck ht rfl).1
    have hw : r.2.2.2.2.2.1 = some .int := of_decide_eq_true (hck ht rfl).2.2
    exact tw_cgr (tw_pc_at ht) (tw_G_mono hQ (tg_iret hx hb (hret.trans hw) hlocks hd k))
  · intro ix pc a b1 c1 n v ls f x ht h01 k
    have hd : decode r.2.2.2.1 pc = .ok (.ireturn, 1) := (hck ht rfl).1
    have hw : r.2.2.2.2.2.1 = some .boolean := of_decide_eq_true (hck ht rfl).2.2
    exact tw_cgr (tw_pc_at ht) (tw_G_mono hQ (tg_zret hx hb (hret.trans hw) hlocks hd h01 k))
  · intro ix pc a b1 c1 n v ls f ht k
    have hd : decode r.2.2.2.1 pc = .ok (.return_, 1) := (hck ht rfl).1
    have hw : r.2.2.2.2.2.1 = none := of_decide_eq_true (hck ht rfl).2.2
    exact tw_cgr (tw_pc_at ht) (tw_G_mono hQ (tg_vret hx hb (hret.trans hw) hlocks hd k))
  · intro ix pc a b1 c1 n v ls f q ht k
    have hd : decode r.2.2.2.1 pc = .ok (.areturn, 1) := (hck ht rfl).1
    have hw : tw_isR r.2.2.2.2.2.1 = true := (hck ht rfl).2.2
    have hw2 : ∃ rt, r.2.2.2.2.2.1 = some rt ∧ ((∃ n, rt = .object n) ∨ ∃ t, rt = .array t) := by
      unfold tw_isR at hw
      split at hw
      · exact ⟨_, by assumption, Or.inl ⟨_, rfl⟩⟩
      · exact ⟨_, by assumption, Or.inr ⟨_, rfl⟩⟩
      · cases hw
    obtain ⟨rt, e1, e2⟩ := hw2
    exact tw_cgr (tw_pc_at ht) (tw_G_mono hQ (tg_aret hx hb (hret.trans e1) e2 hlocks hd k))
  · intro ix pc a b1 c1 n v ls st L f ht hfl g1 g2 k
    subst hfl
    have hd : decode r.2.2.2.1 pc = .ok (.new c1, 3) := (hck ht rfl).1
    have hn : tw_pc r.2.2.2.2.2.2.2 (ix + 1) = pc + 3 := (hck ht rfl).2.1 rfl
    have hw : lk.2.2.1[n.toNat]? = some (r.1, c1, a, b1) := of_decide_eq_true (hck ht rfl).2.2
    obtain ⟨cr, hc, hb2, w1, w2, w3⟩ := hON _ (List.mem_of_getElem? hw)
    have hb3 : b1 = cr.2.2 := hb2
    subst hb3
    exact tw_cgr (tw_pc_at ht) (tg_new hx hb hts hown hK hc (hOC _ _ hc) (hts _ w1) (hts _ w2) (hts _ w3) hd hb0 (by omega) (by omega) (tw_cgr hn.symm k))
  · intro ix pc a b1 c1 n v ls st L f x nn ht hfl hxn hnn g1 g2 k
    subst hfl
    have hd : decode r.2.2.2.1 pc = .ok (.newarray (tw_at a), 2) := (hck ht rfl).1
    have hn : tw_pc r.2.2.2.2.2.2.2 (ix + 1) = pc + 2 := (hck ht rfl).2.1 rfl
    have hw : a = 100 ∨ a = 101 ∨ a = 102 := of_decide_eq_true (hck ht rfl).2.2
    have htys : ∃ t0 : Nat, [(cA 100, FieldType.int), (cA 101, .boolean), (cA 102, .long)][t0]? = some (cA a, tw_ty a) := by
      rcases hw with rfl | rfl | rfl
      · exact ⟨0, rfl⟩
      · exact ⟨1, rfl⟩
      · exact ⟨2, rfl⟩
    obtain ⟨t0, ht0⟩ := htys
    exact tw_cgr (tw_pc_at ht) (tg_newa hx hb hw (hts _ (hOA a hw)) hK ht0 hd hxn hnn (by omega) (by omega) (tw_cgr hn.symm k))
  · intro ix pc a b1 c1 n v ls L f q ht k
    have hd : decode r.2.2.2.1 pc = .ok (.invokespecial c1, 3) := (hck ht rfl).1
    have hn : tw_pc r.2.2.2.2.2.2.2 (ix + 1) = pc + 3 := (hck ht rfl).2.1 rfl
    have hw0 : (decide (lk.2.2.2.1[n.toNat]? = some (r.1, c1)) && decide (1 ≤ r.2.2.2.2.2.2.1.2.2.2.1 ∧ 12 ≤ r.2.2.2.2.2.2.1.2.2.2.2)) = true := (hck ht rfl).2.2
    rw [Bool.and_eq_true] at hw0
    have hw := of_decide_eq_true hw0.1
    have hw2 := of_decide_eq_true hw0.2
    obtain ⟨w1, w2, w3⟩ := hOO _ (List.mem_of_getElem? hw)
    exact tw_cgr (tw_pc_at ht) (tg_objInit hx hb hml hown (hts _ w1) (hts _ w2) (hts _ w3) (by omega) (by show 0 + 12 ≤ _; omega) hd (tw_cgr hn.symm k))
  · intro ix pc a b1 c1 n v ls st L f x y ht hct g1 g2 k
    have hd : decode r.2.2.2.1 pc = .ok (.invokestatic c1, 3) := (hck ht rfl).1
    have hn : tw_pc r.2.2.2.2.2.2.2 (ix + 1) = pc + 3 := (hck ht rfl).2.1 rfl
    have hw0 : (decide (lk.2.2.2.2[n.toNat]? = some (r.1, c1)) && decide (1 ≤ r.2.2.2.2.2.2.1.2.2.2.1 ∧ 14 ≤ r.2.2.2.2.2.2.1.2.2.2.2)) = true := (hck ht rfl).2.2
    rw [Bool.and_eq_true] at hw0
    have hw := of_decide_eq_true hw0.1
    have hw2 := of_decide_eq_true hw0.2
    obtain ⟨w1, w2, w3, w4⟩ := hOX _ (List.mem_of_getElem? hw)
    exact tw_cgr (tw_pc_at ht) (tg_max hx hb hml hown (hts _ w1) (hts _ w2) (hts _ w3) (hts _ w4) (by omega) (by omega) (by omega) (by omega) hd (tw_cgr hn.symm k))
  · intro ix pc a b1 c1 n v ls st L f x lo ts df ht hsw k
    have hok : tw_sok sw a = true := (hck ht rfl).2.2
    have hlo : 0 < ts.length ∧ ts.length < 1000 ∧ lo = 0 := by
      unfold tw_sok at hok
      rw [hsw] at hok
      have h2 := Bool.and_eq_true_iff.mp hok
      have h3 := Bool.and_eq_true_iff.mp h2.1
      exact ⟨of_decide_eq_true h3.1, of_decide_eq_true h3.2, of_decide_eq_true h2.2⟩
    obtain ⟨hl0, hl1, rfl⟩ := hlo
    have hd0 := (hck ht rfl).1
    have hd : decode r.2.2.2.1 pc = .ok (.tableswitch ((tw_pc r.2.2.2.2.2.2.2 df : Int) - (pc : Int)) 0 (0 + (ts.length : Int) - 1) (ts.map (fun j => (tw_pc r.2.2.2.2.2.2.2 j : Int) - (pc : Int))).toArray, tw_pc r.2.2.2.2.2.2.2 (ix + 1) - pc) := by
      rw [hd0]
      show Except.ok ((match sw[a]? with | some s => _ | none => _), _) = _
      rw [hsw]
    refine tw_cgr (tw_pc_at ht) (tg_switch hx hb (t := r.2.2.2.2.2.2.2) hd hl0 hl1 k)
  · intro ix pc a b1 c1 n v ls st L f ht hl k
    have hd : decode r.2.2.2.1 pc = .ok (.aload_n (Fin.ofNat 4 a), 1) := (hck ht rfl).1
    have hn : tw_pc r.2.2.2.2.2.2.2 (ix + 1) = pc + 1 := (hck ht rfl).2.1 rfl
    have hw : a < 4 := of_decide_eq_true (hck ht rfl).2.2
    exact tw_cgr (tw_pc_at ht) (tg_aload_nZ hx hb hd (Nat.mod_eq_of_lt hw) hl (tw_cgr hn.symm k))
  · intro ix pc a b1 c1 n v ls st L f x N g ht hg hv k
    have hd : decode r.2.2.2.1 pc = .ok (.iaload, 1) := (hck ht rfl).1
    have hn : tw_pc r.2.2.2.2.2.2.2 (ix + 1) = pc + 1 := (hck ht rfl).2.1 rfl
    obtain ⟨y1, y2, y3⟩ := hxs N g hg
    exact tw_cgr (tw_pc_at ht) (fun H locs la g1 g2 hW hS hh => va_sld hx hb y1 y2 y3 hS hv hd (tw_cgr hn.symm k H locs la g1 g2 hW hS hh))
  · intro ix pc a b1 c1 n v ls st L f N g ht hg k
    have hd : decode r.2.2.2.1 pc = .ok (.arraylength, 1) := (hck ht rfl).1
    have hn : tw_pc r.2.2.2.2.2.2.2 (ix + 1) = pc + 1 := (hck ht rfl).2.1 rfl
    obtain ⟨y1, y2, y3⟩ := hxs N g hg
    exact tw_cgr (tw_pc_at ht) (fun H locs la g1 g2 hW hS hh => va_slen hx hb y1 y2 y3 hS hd (tw_cgr hn.symm k H locs la g1 g2 hW hS hh))
  · intro ix pc a b1 c1 n v ls st L f x q nn rs ht hq hv k
    have hd : decode r.2.2.2.1 pc = .ok (.laload, 1) := (hck ht rfl).1
    have hn : tw_pc r.2.2.2.2.2.2.2 (ix + 1) = pc + 1 := (hck ht rfl).2.1 rfl
    exact tw_cgr (tw_pc_at ht) (tg_laload (t0 := 2) hx hb hK rfl hd hq hv (tw_cgr hn.symm k))
  · intro ix pc a b1 c1 n v ls st L f x ht k
    have hd : decode r.2.2.2.1 pc = .ok (.i2l, 1) := (hck ht rfl).1
    have hn : tw_pc r.2.2.2.2.2.2.2 (ix + 1) = pc + 1 := (hck ht rfl).2.1 rfl
    exact tw_cgr (tw_pc_at ht) (fun H locs la g1 g2 hW hS hh => lv_i2l hx hb hd rfl (tw_cgr hn.symm k H locs la g1 g2 hW hS hh))
  · intro ix pc a b1 c1 n v ls st L f x y ht k
    have hd : decode r.2.2.2.1 pc = .ok (.lcmp, 1) := (hck ht rfl).1
    have hn : tw_pc r.2.2.2.2.2.2.2 (ix + 1) = pc + 1 := (hck ht rfl).2.1 rfl
    exact tw_cgr (tw_pc_at ht) (fun H locs la g1 g2 hW hS hh => W.lcmp hx hb hd (tw_cgr hn.symm k H locs la g1 g2 hW hS hh))
end
section
/-! A method that the rules give has its contract at the machine. -/
theorem tw_sl_len (vs : List Value) (h : ∀ v ∈ vs, v.category = 1) : (lg_sl vs).length = vs.length := by
  induction vs with
  | nil => rfl
  | cons v vs ih =>
    have h1 : v.category = 1 := h v List.mem_cons_self
    have h2 := ih (fun w hw => h w (List.mem_cons_of_mem _ hw))
    have h3 : lg_sl (v :: vs) = [Slot.val v] ++ lg_sl vs := by
      unfold lg_sl
      rw [List.flatMap_cons, if_neg (by omega)]
    rw [h3, List.length_append, h2, List.length_cons, List.length_cons, List.length_nil]
    omega
theorem tw_args_mem (vs : List Value) (h : ∀ v ∈ vs, v.category = 1) : ∀ (j i : Nat) (v : Value), vs[i]? = some v → (j + i, v) ∈ lv_args j vs := by
  induction vs with
  | nil => intro j i v hi; simp at hi
  | cons w vs ih =>
    intro j i v hi
    have h1 : w.category = 1 := h w List.mem_cons_self
    have h3 : lv_args j (w :: vs) = (j, w) :: lv_args (j + 1) vs := by
      show (j, w) :: lv_args (if w.category = 2 then j + 2 else j + 1) vs = _
      rw [if_neg (by omega)]
    rw [h3]
    cases i with
    | zero =>
      rw [List.getElem?_cons_zero] at hi
      cases hi
      exact List.mem_cons_self
    | succ i =>
      rw [List.getElem?_cons_succ] at hi
      have h4 := ih (fun w hw => h w (List.mem_cons_of_mem _ hw)) (j + 1) i v hi
      rw [show j + (i + 1) = j + 1 + i by omega]
      exact List.mem_cons_of_mem _ h4
theorem tw_entry {b z n : Nat} {As : List tw_A} (hall : As.all (fun a => tw_ct a == 1) = true) (hlen : As.length ≤ n) : tw_lh b z n (tw_in n As) ((lg_sl (As.map (tw_v b z)) ++ List.replicate (n - (lg_sl (As.map (tw_v b z))).length) Slot.unset).toArray) := by
  have hc1 : ∀ a ∈ As, tw_ct a = 1 := fun a ha => by
    have h1 := List.all_eq_true.mp hall a ha
    exact beq_iff_eq.mp h1
  have hc : ∀ v ∈ As.map (tw_v b z), v.category = 1 := fun v hv => by
    obtain ⟨a, ha, rfl⟩ := List.mem_map.mp hv
    rw [tw_ct_v]
    exact hc1 a ha
  have h0 : (lg_sl (As.map (tw_v b z))).length ≤ n := by
    rw [tw_sl_len _ hc, List.length_map]
    exact hlen
  have hl := lv_entry (As.map (tw_v b z)) (n := n) h0
  refine ⟨hl.1, hl.2.1, ?_, fun i v hi => ?_⟩
  · unfold tw_in
    rw [List.length_append, List.length_map, List.length_replicate]
    omega
  · unfold tw_in at hi
    by_cases hlt : i < As.length
    · rw [List.getElem?_append_left (by rw [List.length_map]; exact hlt), List.getElem?_map] at hi
      cases ha : As[i]? with
      | none => rw [ha] at hi; cases hi
      | some a =>
        rw [ha] at hi
        have h1 : a = v := Option.some.inj (Option.some.inj hi)
        subst h1
        have h2 := tw_args_mem (As.map (tw_v b z)) hc 0 i (tw_v b z a) (by rw [List.getElem?_map, ha]; rfl)
        rw [Nat.zero_add] at h2
        exact ⟨hl.2.2 _ h2, hc1 a (List.mem_of_getElem? ha)⟩
    · rw [List.getElem?_append_right (by rw [List.length_map]; omega), List.getElem?_replicate] at hi
      split at hi
      · cases hi
      · cases hi
theorem tw_met1 {l : Launch} {cl : List vw_C} {ft : Nat → Nat → Nat} {ty : Nat → Nat → FieldType} {mt : List tw_MR} {sw : tw_SW} {lk : tw_LK} {nm : Nat → String} {Ts : List Cond} {Nm : List tw_N} {D : va_G} {cA : Nat → ClassId} {b z : Nat} {fl : Bool} {A : Nat → Prop} {Sp0 : tw_SP} (hOK : tw_OK cl ft ty mt sw lk nm Ts Nm) (ih : tw_MT l cl ft mt Ts Nm D cA [(cA 100, .int), (cA 101, .boolean), (cA 102, .long)] b z A fl Sp0) {k : Nat} {r : tw_MR} {As : List tw_A} {L L2 : tw_L} {f : tw_S} {P : tw_S → Option tw_A → Prop} (hr : mt[k]? = some r) (hA : ∀ (ix : Nat) (x : Nat × tw_O), r.2.2.2.2.2.2.2[ix]? = some x → x.2.1 = 28 ∨ x.2.1 = 29 ∨ x.2.1 = 30 ∨ x.2.1 = 33 ∨ x.2.1 = 34 → ∀ y, b ≤ y → A y) (hall : As.all (fun a => tw_ct a == 1) = true) (hlen : As.length ≤ r.2.2.2.2.1) (hX : ∀ X : tw_X, tw_Cl mt sw ft fl none Sp0 L2 P r.2.2.2.2.2.2.2 X → X 0 (tw_in r.2.2.2.2.1 As) [] L f) :
    Met l (tw_my r) (Cond.code (tw_my r) r.2.2.2.1 r.2.2.2.2.1 r.2.2.2.2.2.1 :: Ts) (tw_rm r L L2) (tw_Pc cl ft D cA [(cA 100, .int), (cA 101, .boolean), (cA 102, .long)] Nm b z fl As L f) (tw_Qc cl ft D cA b z A fl L2 P) (L2.length - L.length) (tw_sl L2 - tw_sl L) A := by
  have hm := hOK.2.2.2.2.2.2.2.2 k r hr
  refine Met.ofW (cc := r.2.2.2.1) (maxL := r.2.2.2.2.1) (ret := r.2.2.2.2.2.1) hm.1.2.2.1 rfl ?_
  intro p e s m args below meth c s₁ B hml hv
  obtain ⟨rfl, hW, hK, hN⟩ := hv
  have hts0 := atoms_spec (ws := Cond.code (tw_my r) r.2.2.2.1 r.2.2.2.2.1 r.2.2.2.2.2.1 :: Ts) B.pre
  have hown : s.vm.findClass (tw_my r).cls = some m.cls := findClass_of_methodNamed B.named
  rw [hm.1.2.1, hm.1.1] at hown
  have hcl := tw_closed (n0 := (L.length : Int)) (s0 := ((tw_sl L : Nat) : Int)) (xs := none) (P := P) (Lf := L2) (R := tw_rm r L L2) (below := below) (l := l) (e := e) (z := z) (fl := fl) hOK hm.mw B.exec B.bytes hml B.returns B.notSynchronized (name_of_methodNamed B.named B.method).1 (fun w hw => hts0 w (List.mem_cons_of_mem _ hw)) hown hK hN (by have h9 := hW.2.1; omega) (fun N g h => by cases h) hA (Nat.le_refl _) (Nat.le_refl _) (by show _ ≤ L2.length - L.length; omega) (by show _ ≤ tw_sl L2 - tw_sl L; omega) (fun _ h => h) ih
  have h2 := hX _ hcl s.heap [] _ (Int.le_refl _) (Int.le_refl _) hW va_S.rf (tw_entry hall hlen)
  rw [hm.2.2.1.1, show (((L2.length : Nat) : Int) - (L.length : Int)).toNat = L2.length - L.length by omega, show (((tw_sl L2 : Nat) : Int) - ((tw_sl L : Nat) : Int)).toNat = tw_sl L2 - tw_sl L by omega, show (((L.length : Nat) : Int) - (L.length : Int)).toNat = 0 by omega, show (((tw_sl L : Nat) : Int) - ((tw_sl L : Nat) : Int)).toNat = 0 by omega] at h2
  rw [lg_entry_eq]
  exact h2
theorem tw_met {l : Launch} {cl : List vw_C} {ft : Nat → Nat → Nat} {ty : Nat → Nat → FieldType} {mt : List tw_MR} {sw : tw_SW} {lk : tw_LK} {nm : Nat → String} {Ts : List Cond} {Nm : List tw_N} {D : va_G} {cA : Nat → ClassId} {b z : Nat} {fl : Bool} {A : Nat → Prop} (hA : ∀ x, b ≤ x → A x) (hOK : tw_OK cl ft ty mt sw lk nm Ts Nm) (d : Nat) :
    tw_MT l cl ft mt Ts Nm D cA [(cA 100, .int), (cA 101, .boolean), (cA 102, .long)] b z A fl (tw_Sp mt sw ft fl d) := by
  induction d with
  | zero => exact fun _ _ _ _ _ _ h => h.elim
  | succ d ih =>
    intro k As L f L2 P hSp r hr
    obtain ⟨r', hr', hall, hlen, hX⟩ := hSp
    have hrr : r' = r := Option.some.inj (hr'.symm.trans hr)
    subst hrr
    exact tw_met1 hOK ih hr (fun _ _ _ _ => hA) hall hlen hX
/-- methods that call nothing and store nothing -/
def tw_pl (mt : List tw_MR) (k : Nat) : Bool := match mt[k]? with
  | some r => r.2.2.2.2.2.2.2.all (fun x => !(decide (x.2.1 = 28 ∨ x.2.1 = 29 ∨ x.2.1 = 30 ∨ x.2.1 = 33 ∨ x.2.1 = 34)))
  | none => false
def tw_Sl (mt : List tw_MR) (sw : tw_SW) (ft : Nat → Nat → Nat) (fl : Bool) : tw_SP := fun k As L f L2 P => tw_pl mt k = true ∧ tw_Sp mt sw ft fl 1 k As L f L2 P
theorem tw_metl {l : Launch} {cl : List vw_C} {ft : Nat → Nat → Nat} {ty : Nat → Nat → FieldType} {mt : List tw_MR} {sw : tw_SW} {lk : tw_LK} {nm : Nat → String} {Ts : List Cond} {Nm : List tw_N} {D : va_G} {cA : Nat → ClassId} {b z : Nat} {fl : Bool} {A : Nat → Prop} (hOK : tw_OK cl ft ty mt sw lk nm Ts Nm) :
    tw_MT l cl ft mt Ts Nm D cA [(cA 100, .int), (cA 101, .boolean), (cA 102, .long)] b z A fl (tw_Sl mt sw ft fl) := by
  intro k As L f L2 P hSp r hr
  obtain ⟨hpl, r', hr', hall, hlen, hX⟩ := hSp
  have hrr : r' = r := Option.some.inj (hr'.symm.trans hr)
  subst hrr
  refine tw_met1 (Sp0 := tw_Sp mt sw ft fl 0) hOK (fun _ _ _ _ _ _ h => h.elim) hr (fun ix x hx h9 => ?_) hall hlen hX
  unfold tw_pl at hpl
  rw [hr] at hpl
  have h8 := List.all_eq_true.mp hpl x (List.mem_of_getElem? hx)
  rw [decide_eq_true h9] at h8
  cases h8
theorem tw_Sp_of {mt : List tw_MR} {sw : tw_SW} {ft : Nat → Nat → Nat} {fl : Bool} {d k : Nat} {As : List tw_A} {L L2 : tw_L} {f : tw_S} {P : tw_S → Option tw_A → Prop} {r : tw_MR} (hr : mt[k]? = some r) (hall : As.all (fun a => tw_ct a == 1) = true) (hlen : As.length ≤ r.2.2.2.2.1)
    (h : ∀ X : tw_X, tw_Cl mt sw ft fl none (tw_Sp mt sw ft fl d) L2 P r.2.2.2.2.2.2.2 X → X 0 (tw_in r.2.2.2.2.1 As) [] L f) : tw_Sp mt sw ft fl (d + 1) k As L f L2 P := ⟨r, hr, hall, hlen, h⟩
theorem tw_isR_of {t : FieldType} (h : tw_isR (some t) = true) : (∃ C, t = .object C) ∨ ∃ u, t = .array u := by
  cases t with
  | object C => exact Or.inl ⟨C, rfl⟩
  | array u => exact Or.inr ⟨u, rfl⟩
  | _ => cases h
end
