section
-- ===== PART A: goes FIRST, ahead of the names: the tables' words, and 'selects' of the private methods out of them =====
/-- a private method of a class that the tables say can be made, by its rows of tables_1 -/
def lw_okq (q : MethodName × Nat) : Prop := (q.1.cls ≠ "java/lang/invoke/MethodHandle" ∧ q.1.cls ≠ "java/lang/invoke/VarHandle") ∧ Cond.instantiable q.1.cls q.2 ∈ tables_1 ∧ Cond.privateMethod q.1 ∈ tables_1 ∧ Cond.instanceMethod q.1 ∈ tables_1
theorem lw_p0 : lw_okq (⟨"TwinArray", "numbered", "(I)LTwinArray$Controller;"⟩, 6) := ⟨⟨by decide +kernel, by decide +kernel⟩, List.mem_of_getElem? (i := 17) (by decide +kernel), List.mem_of_getElem? (i := 344) (by decide +kernel), List.mem_of_getElem? (i := 345) (by decide +kernel)⟩
theorem lw_p1 : lw_okq (⟨"TwinArray", "partnerOf", "(LTwinArray$Controller;)LTwinArray$Controller;"⟩, 6) := ⟨⟨by decide +kernel, by decide +kernel⟩, List.mem_of_getElem? (i := 17) (by decide +kernel), List.mem_of_getElem? (i := 376) (by decide +kernel), List.mem_of_getElem? (i := 377) (by decide +kernel)⟩
theorem lw_p2 : lw_okq (⟨"TwinArray", "send", "(LTwinArray$Controller;IIIII)V"⟩, 6) := ⟨⟨by decide +kernel, by decide +kernel⟩, List.mem_of_getElem? (i := 17) (by decide +kernel), List.mem_of_getElem? (i := 380) (by decide +kernel), List.mem_of_getElem? (i := 381) (by decide +kernel)⟩
theorem lw_p3 : lw_okq (⟨"TwinArray", "goDown", "(LTwinArray$Controller;)V"⟩, 6) := ⟨⟨by decide +kernel, by decide +kernel⟩, List.mem_of_getElem? (i := 17) (by decide +kernel), List.mem_of_getElem? (i := 396) (by decide +kernel), List.mem_of_getElem? (i := 397) (by decide +kernel)⟩
theorem lw_p4 : lw_okq (⟨"TwinArray", "doFirstThatCanBeDone", "(LTwinArray$Controller;)I"⟩, 6) := ⟨⟨by decide +kernel, by decide +kernel⟩, List.mem_of_getElem? (i := 17) (by decide +kernel), List.mem_of_getElem? (i := 454) (by decide +kernel), List.mem_of_getElem? (i := 455) (by decide +kernel)⟩
theorem lw_p5 : lw_okq (⟨"TwinArray", "land", "(LTwinArray$Controller;)V"⟩, 6) := ⟨⟨by decide +kernel, by decide +kernel⟩, List.mem_of_getElem? (i := 17) (by decide +kernel), List.mem_of_getElem? (i := 458) (by decide +kernel), List.mem_of_getElem? (i := 459) (by decide +kernel)⟩
theorem lw_p6 : lw_okq (⟨"TwinArray", "goOnTakingOver", "(LTwinArray$Controller;)V"⟩, 6) := ⟨⟨by decide +kernel, by decide +kernel⟩, List.mem_of_getElem? (i := 17) (by decide +kernel), List.mem_of_getElem? (i := 466) (by decide +kernel), List.mem_of_getElem? (i := 467) (by decide +kernel)⟩
theorem lw_p7 : lw_okq (⟨"TwinArray", "repair", "(LTwinArray$Controller;I)V"⟩, 6) := ⟨⟨by decide +kernel, by decide +kernel⟩, List.mem_of_getElem? (i := 17) (by decide +kernel), List.mem_of_getElem? (i := 485) (by decide +kernel), List.mem_of_getElem? (i := 486) (by decide +kernel)⟩
theorem lw_p8 : lw_okq (⟨"TwinArray", "goOnDestaging", "(LTwinArray$Controller;)V"⟩, 6) := ⟨⟨by decide +kernel, by decide +kernel⟩, List.mem_of_getElem? (i := 17) (by decide +kernel), List.mem_of_getElem? (i := 498) (by decide +kernel), List.mem_of_getElem? (i := 499) (by decide +kernel)⟩
theorem lw_p9 : lw_okq (⟨"TwinArray", "finishDestaging", "(LTwinArray$Controller;)V"⟩, 6) := ⟨⟨by decide +kernel, by decide +kernel⟩, List.mem_of_getElem? (i := 17) (by decide +kernel), List.mem_of_getElem? (i := 507) (by decide +kernel), List.mem_of_getElem? (i := 508) (by decide +kernel)⟩
theorem lw_p10 : lw_okq (⟨"TwinArray", "releaseTaken", "(LTwinArray$Controller;II)V"⟩, 6) := ⟨⟨by decide +kernel, by decide +kernel⟩, List.mem_of_getElem? (i := 17) (by decide +kernel), List.mem_of_getElem? (i := 511) (by decide +kernel), List.mem_of_getElem? (i := 512) (by decide +kernel)⟩
theorem lw_p11 : lw_okq (⟨"TwinArray", "sendIfPaired", "(LTwinArray$Controller;III)V"⟩, 6) := ⟨⟨by decide +kernel, by decide +kernel⟩, List.mem_of_getElem? (i := 17) (by decide +kernel), List.mem_of_getElem? (i := 515) (by decide +kernel), List.mem_of_getElem? (i := 516) (by decide +kernel)⟩
theorem lw_p12 : lw_okq (⟨"TwinArray", "beginDestaging", "(LTwinArray$Controller;)V"⟩, 6) := ⟨⟨by decide +kernel, by decide +kernel⟩, List.mem_of_getElem? (i := 17) (by decide +kernel), List.mem_of_getElem? (i := 539) (by decide +kernel), List.mem_of_getElem? (i := 540) (by decide +kernel)⟩
theorem lw_p13 : lw_okq (⟨"TwinArray", "takeData", "(LTwinArray$Controller;II)V"⟩, 6) := ⟨⟨by decide +kernel, by decide +kernel⟩, List.mem_of_getElem? (i := 17) (by decide +kernel), List.mem_of_getElem? (i := 551) (by decide +kernel), List.mem_of_getElem? (i := 552) (by decide +kernel)⟩
theorem lw_p14 : lw_okq (⟨"TwinArray", "doFirstWithoutWrites", "(LTwinArray$Controller;)I"⟩, 6) := ⟨⟨by decide +kernel, by decide +kernel⟩, List.mem_of_getElem? (i := 17) (by decide +kernel), List.mem_of_getElem? (i := 559) (by decide +kernel), List.mem_of_getElem? (i := 560) (by decide +kernel)⟩
theorem lw_p15 : lw_okq (⟨"TwinArray", "beat", "(LTwinArray$Controller;)V"⟩, 6) := ⟨⟨by decide +kernel, by decide +kernel⟩, List.mem_of_getElem? (i := 17) (by decide +kernel), List.mem_of_getElem? (i := 563) (by decide +kernel), List.mem_of_getElem? (i := 564) (by decide +kernel)⟩
def lw_privs_1 : List (MethodName × Nat) := [(⟨"TwinArray", "numbered", "(I)LTwinArray$Controller;"⟩, 6), (⟨"TwinArray", "partnerOf", "(LTwinArray$Controller;)LTwinArray$Controller;"⟩, 6), (⟨"TwinArray", "send", "(LTwinArray$Controller;IIIII)V"⟩, 6), (⟨"TwinArray", "goDown", "(LTwinArray$Controller;)V"⟩, 6), (⟨"TwinArray", "doFirstThatCanBeDone", "(LTwinArray$Controller;)I"⟩, 6), (⟨"TwinArray", "land", "(LTwinArray$Controller;)V"⟩, 6), (⟨"TwinArray", "goOnTakingOver", "(LTwinArray$Controller;)V"⟩, 6), (⟨"TwinArray", "repair", "(LTwinArray$Controller;I)V"⟩, 6), (⟨"TwinArray", "goOnDestaging", "(LTwinArray$Controller;)V"⟩, 6), (⟨"TwinArray", "finishDestaging", "(LTwinArray$Controller;)V"⟩, 6), (⟨"TwinArray", "releaseTaken", "(LTwinArray$Controller;II)V"⟩, 6), (⟨"TwinArray", "sendIfPaired", "(LTwinArray$Controller;III)V"⟩, 6), (⟨"TwinArray", "beginDestaging", "(LTwinArray$Controller;)V"⟩, 6), (⟨"TwinArray", "takeData", "(LTwinArray$Controller;II)V"⟩, 6), (⟨"TwinArray", "doFirstWithoutWrites", "(LTwinArray$Controller;)I"⟩, 6), (⟨"TwinArray", "beat", "(LTwinArray$Controller;)V"⟩, 6)]
theorem lw_r1 : ∀ q ∈ lw_privs_1, lw_okq q := List.forall_mem_cons.mpr ⟨lw_p0, List.forall_mem_cons.mpr ⟨lw_p1, List.forall_mem_cons.mpr ⟨lw_p2, List.forall_mem_cons.mpr ⟨lw_p3, List.forall_mem_cons.mpr ⟨lw_p4, List.forall_mem_cons.mpr ⟨lw_p5, List.forall_mem_cons.mpr ⟨lw_p6, List.forall_mem_cons.mpr ⟨lw_p7, List.forall_mem_cons.mpr ⟨lw_p8, List.forall_mem_cons.mpr ⟨lw_p9, List.forall_mem_cons.mpr ⟨lw_p10, List.forall_mem_cons.mpr ⟨lw_p11, List.forall_mem_cons.mpr ⟨lw_p12, List.forall_mem_cons.mpr ⟨lw_p13, List.forall_mem_cons.mpr ⟨lw_p14, List.forall_mem_cons.mpr ⟨lw_p15, fun _ h => absurd h List.not_mem_nil⟩⟩⟩⟩⟩⟩⟩⟩⟩⟩⟩⟩⟩⟩⟩⟩
theorem lw_p16 : lw_okq (⟨"TwinArray", "notice", "(LTwinArray$Controller;II)V"⟩, 6) := ⟨⟨by decide +kernel, by decide +kernel⟩, List.mem_of_getElem? (i := 17) (by decide +kernel), List.mem_of_getElem? (i := 575) (by decide +kernel), List.mem_of_getElem? (i := 576) (by decide +kernel)⟩
theorem lw_p17 : lw_okq (⟨"TwinArray", "isAnyToBeTakenOverFirst", "()Z"⟩, 6) := ⟨⟨by decide +kernel, by decide +kernel⟩, List.mem_of_getElem? (i := 17) (by decide +kernel), List.mem_of_getElem? (i := 614) (by decide +kernel), List.mem_of_getElem? (i := 615) (by decide +kernel)⟩
theorem lw_p18 : lw_okq (⟨"TwinArray", "shareOutVolumes", "(Z)V"⟩, 6) := ⟨⟨by decide +kernel, by decide +kernel⟩, List.mem_of_getElem? (i := 17) (by decide +kernel), List.mem_of_getElem? (i := 623) (by decide +kernel), List.mem_of_getElem? (i := 624) (by decide +kernel)⟩
theorem lw_p19 : lw_okq (⟨"java/lang/Throwable", "fillInStackTrace", "(I)Ljava/lang/Throwable;"⟩, 6) := ⟨⟨by decide +kernel, by decide +kernel⟩, List.mem_of_getElem? (i := 774) (by decide +kernel), List.mem_of_getElem? (i := 772) (by decide +kernel), List.mem_of_getElem? (i := 773) (by decide +kernel)⟩
theorem lw_p20 : lw_okq (⟨"TwinArrayModel", "newTicket", "(III)I"⟩, 50) := ⟨⟨by decide +kernel, by decide +kernel⟩, List.mem_of_getElem? (i := 814) (by decide +kernel), List.mem_of_getElem? (i := 982) (by decide +kernel), List.mem_of_getElem? (i := 983) (by decide +kernel)⟩
theorem lw_p21 : lw_okq (⟨"TwinArrayModel", "keep", "(IIIZ)V"⟩, 50) := ⟨⟨by decide +kernel, by decide +kernel⟩, List.mem_of_getElem? (i := 814) (by decide +kernel), List.mem_of_getElem? (i := 986) (by decide +kernel), List.mem_of_getElem? (i := 987) (by decide +kernel)⟩
theorem lw_p22 : lw_okq (⟨"TwinArrayModel", "send", "(IIIIII)V"⟩, 50) := ⟨⟨by decide +kernel, by decide +kernel⟩, List.mem_of_getElem? (i := 814) (by decide +kernel), List.mem_of_getElem? (i := 990) (by decide +kernel), List.mem_of_getElem? (i := 991) (by decide +kernel)⟩
theorem lw_p23 : lw_okq (⟨"TwinArrayModel", "goesDown", "(I)V"⟩, 50) := ⟨⟨by decide +kernel, by decide +kernel⟩, List.mem_of_getElem? (i := 814) (by decide +kernel), List.mem_of_getElem? (i := 998) (by decide +kernel), List.mem_of_getElem? (i := 999) (by decide +kernel)⟩
theorem lw_p24 : lw_okq (⟨"TwinArrayModel", "isLost", "(I)Z"⟩, 50) := ⟨⟨by decide +kernel, by decide +kernel⟩, List.mem_of_getElem? (i := 814) (by decide +kernel), List.mem_of_getElem? (i := 1002) (by decide +kernel), List.mem_of_getElem? (i := 1003) (by decide +kernel)⟩
theorem lw_p25 : lw_okq (⟨"TwinArrayModel", "isMissing", "(II)Z"⟩, 50) := ⟨⟨by decide +kernel, by decide +kernel⟩, List.mem_of_getElem? (i := 814) (by decide +kernel), List.mem_of_getElem? (i := 1012) (by decide +kernel), List.mem_of_getElem? (i := 1013) (by decide +kernel)⟩
theorem lw_p26 : lw_okq (⟨"TwinArrayModel", "othersThere", "(II)Z"⟩, 50) := ⟨⟨by decide +kernel, by decide +kernel⟩, List.mem_of_getElem? (i := 814) (by decide +kernel), List.mem_of_getElem? (i := 1016) (by decide +kernel), List.mem_of_getElem? (i := 1017) (by decide +kernel)⟩
theorem lw_p27 : lw_okq (⟨"TwinArrayModel", "what", "(I)I"⟩, 50) := ⟨⟨by decide +kernel, by decide +kernel⟩, List.mem_of_getElem? (i := 814) (by decide +kernel), List.mem_of_getElem? (i := 1020) (by decide +kernel), List.mem_of_getElem? (i := 1021) (by decide +kernel)⟩
theorem lw_p28 : lw_okq (⟨"TwinArrayModel", "others", "(II)I"⟩, 50) := ⟨⟨by decide +kernel, by decide +kernel⟩, List.mem_of_getElem? (i := 814) (by decide +kernel), List.mem_of_getElem? (i := 1024) (by decide +kernel), List.mem_of_getElem? (i := 1025) (by decide +kernel)⟩
theorem lw_p29 : lw_okq (⟨"TwinArrayModel", "stepLands", "(I)V"⟩, 50) := ⟨⟨by decide +kernel, by decide +kernel⟩, List.mem_of_getElem? (i := 814) (by decide +kernel), List.mem_of_getElem? (i := 1040) (by decide +kernel), List.mem_of_getElem? (i := 1041) (by decide +kernel)⟩
theorem lw_p30 : lw_okq (⟨"TwinArrayModel", "lands", "(III)V"⟩, 50) := ⟨⟨by decide +kernel, by decide +kernel⟩, List.mem_of_getElem? (i := 814) (by decide +kernel), List.mem_of_getElem? (i := 1044) (by decide +kernel), List.mem_of_getElem? (i := 1045) (by decide +kernel)⟩
theorem lw_p31 : lw_okq (⟨"TwinArrayModel", "stepTakes", "(I)V"⟩, 50) := ⟨⟨by decide +kernel, by decide +kernel⟩, List.mem_of_getElem? (i := 814) (by decide +kernel), List.mem_of_getElem? (i := 1048) (by decide +kernel), List.mem_of_getElem? (i := 1049) (by decide +kernel)⟩
def lw_privs_2 : List (MethodName × Nat) := [(⟨"TwinArray", "notice", "(LTwinArray$Controller;II)V"⟩, 6), (⟨"TwinArray", "isAnyToBeTakenOverFirst", "()Z"⟩, 6), (⟨"TwinArray", "shareOutVolumes", "(Z)V"⟩, 6), (⟨"java/lang/Throwable", "fillInStackTrace", "(I)Ljava/lang/Throwable;"⟩, 6), (⟨"TwinArrayModel", "newTicket", "(III)I"⟩, 50), (⟨"TwinArrayModel", "keep", "(IIIZ)V"⟩, 50), (⟨"TwinArrayModel", "send", "(IIIIII)V"⟩, 50), (⟨"TwinArrayModel", "goesDown", "(I)V"⟩, 50), (⟨"TwinArrayModel", "isLost", "(I)Z"⟩, 50), (⟨"TwinArrayModel", "isMissing", "(II)Z"⟩, 50), (⟨"TwinArrayModel", "othersThere", "(II)Z"⟩, 50), (⟨"TwinArrayModel", "what", "(I)I"⟩, 50), (⟨"TwinArrayModel", "others", "(II)I"⟩, 50), (⟨"TwinArrayModel", "stepLands", "(I)V"⟩, 50), (⟨"TwinArrayModel", "lands", "(III)V"⟩, 50), (⟨"TwinArrayModel", "stepTakes", "(I)V"⟩, 50)]
theorem lw_r2 : ∀ q ∈ lw_privs_2, lw_okq q := List.forall_mem_cons.mpr ⟨lw_p16, List.forall_mem_cons.mpr ⟨lw_p17, List.forall_mem_cons.mpr ⟨lw_p18, List.forall_mem_cons.mpr ⟨lw_p19, List.forall_mem_cons.mpr ⟨lw_p20, List.forall_mem_cons.mpr ⟨lw_p21, List.forall_mem_cons.mpr ⟨lw_p22, List.forall_mem_cons.mpr ⟨lw_p23, List.forall_mem_cons.mpr ⟨lw_p24, List.forall_mem_cons.mpr ⟨lw_p25, List.forall_mem_cons.mpr ⟨lw_p26, List.forall_mem_cons.mpr ⟨lw_p27, List.forall_mem_cons.mpr ⟨lw_p28, List.forall_mem_cons.mpr ⟨lw_p29, List.forall_mem_cons.mpr ⟨lw_p30, List.forall_mem_cons.mpr ⟨lw_p31, fun _ h => absurd h List.not_mem_nil⟩⟩⟩⟩⟩⟩⟩⟩⟩⟩⟩⟩⟩⟩⟩⟩
theorem lw_p32 : lw_okq (⟨"TwinArrayModel", "lowest", "([ZI)I"⟩, 50) := ⟨⟨by decide +kernel, by decide +kernel⟩, List.mem_of_getElem? (i := 814) (by decide +kernel), List.mem_of_getElem? (i := 1052) (by decide +kernel), List.mem_of_getElem? (i := 1053) (by decide +kernel)⟩
theorem lw_p33 : lw_okq (⟨"TwinArrayModel", "stepRepairs", "(I)V"⟩, 50) := ⟨⟨by decide +kernel, by decide +kernel⟩, List.mem_of_getElem? (i := 814) (by decide +kernel), List.mem_of_getElem? (i := 1056) (by decide +kernel), List.mem_of_getElem? (i := 1057) (by decide +kernel)⟩
theorem lw_p34 : lw_okq (⟨"TwinArrayModel", "begins", "(IIII)V"⟩, 50) := ⟨⟨by decide +kernel, by decide +kernel⟩, List.mem_of_getElem? (i := 814) (by decide +kernel), List.mem_of_getElem? (i := 1060) (by decide +kernel), List.mem_of_getElem? (i := 1061) (by decide +kernel)⟩
theorem lw_p35 : lw_okq (⟨"TwinArrayModel", "stepDestages", "(I)V"⟩, 50) := ⟨⟨by decide +kernel, by decide +kernel⟩, List.mem_of_getElem? (i := 814) (by decide +kernel), List.mem_of_getElem? (i := 1064) (by decide +kernel), List.mem_of_getElem? (i := 1065) (by decide +kernel)⟩
theorem lw_p36 : lw_okq (⟨"TwinArrayModel", "dirtyAll", "(I)I"⟩, 50) := ⟨⟨by decide +kernel, by decide +kernel⟩, List.mem_of_getElem? (i := 814) (by decide +kernel), List.mem_of_getElem? (i := 1068) (by decide +kernel), List.mem_of_getElem? (i := 1069) (by decide +kernel)⟩
theorem lw_p37 : lw_okq (⟨"TwinArrayModel", "dirtyIn", "(II)I"⟩, 50) := ⟨⟨by decide +kernel, by decide +kernel⟩, List.mem_of_getElem? (i := 814) (by decide +kernel), List.mem_of_getElem? (i := 1072) (by decide +kernel), List.mem_of_getElem? (i := 1073) (by decide +kernel)⟩
theorem lw_p38 : lw_okq (⟨"TwinArrayModel", "stepTakesStripe", "(I)V"⟩, 50) := ⟨⟨by decide +kernel, by decide +kernel⟩, List.mem_of_getElem? (i := 814) (by decide +kernel), List.mem_of_getElem? (i := 1076) (by decide +kernel), List.mem_of_getElem? (i := 1077) (by decide +kernel)⟩
theorem lw_p39 : lw_okq (⟨"TwinArrayModel", "lowestNote", "(I)I"⟩, 50) := ⟨⟨by decide +kernel, by decide +kernel⟩, List.mem_of_getElem? (i := 814) (by decide +kernel), List.mem_of_getElem? (i := 1080) (by decide +kernel), List.mem_of_getElem? (i := 1081) (by decide +kernel)⟩
theorem lw_p40 : lw_okq (⟨"TwinArrayModel", "quiet", "(I)Z"⟩, 50) := ⟨⟨by decide +kernel, by decide +kernel⟩, List.mem_of_getElem? (i := 814) (by decide +kernel), List.mem_of_getElem? (i := 1104) (by decide +kernel), List.mem_of_getElem? (i := 1105) (by decide +kernel)⟩
theorem lw_p41 : lw_okq (⟨"TwinArrayModel", "ofAll", "(I)Z"⟩, 50) := ⟨⟨by decide +kernel, by decide +kernel⟩, List.mem_of_getElem? (i := 814) (by decide +kernel), List.mem_of_getElem? (i := 1108) (by decide +kernel), List.mem_of_getElem? (i := 1109) (by decide +kernel)⟩
theorem lw_p42 : lw_okq (⟨"TwinArrayModel", "greatest", "()I"⟩, 50) := ⟨⟨by decide +kernel, by decide +kernel⟩, List.mem_of_getElem? (i := 814) (by decide +kernel), List.mem_of_getElem? (i := 1116) (by decide +kernel), List.mem_of_getElem? (i := 1117) (by decide +kernel)⟩
theorem lw_p43 : lw_okq (⟨"TwinArrayModel", "bits", "([ZI)I"⟩, 50) := ⟨⟨by decide +kernel, by decide +kernel⟩, List.mem_of_getElem? (i := 814) (by decide +kernel), List.mem_of_getElem? (i := 1167) (by decide +kernel), List.mem_of_getElem? (i := 1168) (by decide +kernel)⟩
def lw_privs_3 : List (MethodName × Nat) := [(⟨"TwinArrayModel", "lowest", "([ZI)I"⟩, 50), (⟨"TwinArrayModel", "stepRepairs", "(I)V"⟩, 50), (⟨"TwinArrayModel", "begins", "(IIII)V"⟩, 50), (⟨"TwinArrayModel", "stepDestages", "(I)V"⟩, 50), (⟨"TwinArrayModel", "dirtyAll", "(I)I"⟩, 50), (⟨"TwinArrayModel", "dirtyIn", "(II)I"⟩, 50), (⟨"TwinArrayModel", "stepTakesStripe", "(I)V"⟩, 50), (⟨"TwinArrayModel", "lowestNote", "(I)I"⟩, 50), (⟨"TwinArrayModel", "quiet", "(I)Z"⟩, 50), (⟨"TwinArrayModel", "ofAll", "(I)Z"⟩, 50), (⟨"TwinArrayModel", "greatest", "()I"⟩, 50), (⟨"TwinArrayModel", "bits", "([ZI)I"⟩, 50)]
theorem lw_r3 : ∀ q ∈ lw_privs_3, lw_okq q := List.forall_mem_cons.mpr ⟨lw_p32, List.forall_mem_cons.mpr ⟨lw_p33, List.forall_mem_cons.mpr ⟨lw_p34, List.forall_mem_cons.mpr ⟨lw_p35, List.forall_mem_cons.mpr ⟨lw_p36, List.forall_mem_cons.mpr ⟨lw_p37, List.forall_mem_cons.mpr ⟨lw_p38, List.forall_mem_cons.mpr ⟨lw_p39, List.forall_mem_cons.mpr ⟨lw_p40, List.forall_mem_cons.mpr ⟨lw_p41, List.forall_mem_cons.mpr ⟨lw_p42, List.forall_mem_cons.mpr ⟨lw_p43, fun _ h => absurd h List.not_mem_nil⟩⟩⟩⟩⟩⟩⟩⟩⟩⟩⟩⟩
def lw_privs : List (MethodName × Nat) := lw_privs_1 ++ (lw_privs_2 ++ (lw_privs_3))
def lw_tbl : List Cond := k2_sels lw_privs ++ tables_1
theorem lw_privs_ok : ∀ q ∈ lw_privs, lw_okq q := by
  show ∀ q ∈ lw_privs_1 ++ (lw_privs_2 ++ (lw_privs_3)), lw_okq q
  exact List.forall_mem_append.mpr ⟨lw_r1, List.forall_mem_append.mpr ⟨lw_r2, lw_r3⟩⟩
end
section
/-! Values, layouts and memories of the whole system: a cell has a number, its ints are a function of number and place; a layout says what each cell is. -/
abbrev tw_A : Type := Int32 ⊕ (Option Nat ⊕ (Int32 ⊕ Unit))
abbrev tw_I (x : Int32) : tw_A := Sum.inl x
abbrev tw_R (q : Nat) : tw_A := Sum.inr (Sum.inl (some q))
abbrev tw_J (x : Int32) : tw_A := Sum.inr (Sum.inr (Sum.inl x))
abbrev tw_Z : tw_A := Sum.inr (Sum.inr (Sum.inr ()))
abbrev tw_K : Type := Nat × Nat × List (Option Nat)
abbrev tw_L : Type := List tw_K
abbrev tw_S : Type := Nat → Nat → Int32
def tw_nz (x : Int32) : Int32 := if x = 0 then 0 else 1
def tw_up (f : tw_S) (q i : Nat) (x : Int32) : tw_S := fun q' i' => if q' = q ∧ i' = i then x else f q' i'
def tw_v (b z : Nat) (a : tw_A) : Value := match a with
  | .inl x => .int x
  | .inr (.inl r) => va_rf (r.map (fun q => b + q))
  | .inr (.inr (.inl x)) => .long x.toInt64
  | .inr (.inr (.inr _)) => .ref z
def tw_ct (a : tw_A) : Nat := match a with
  | .inr (.inr (.inl _)) => 2
  | _ => 1
theorem tw_ct_v (b z : Nat) (a : tw_A) : (tw_v b z a).category = tw_ct a := by
  rcases a with x | r | x | u
  · rfl
  · cases r <;> rfl
  · rfl
  · rfl
theorem tw_nz_01 (x : Int32) : tw_nz x = 0 ∨ tw_nz x = 1 := by
  unfold tw_nz
  split
  · exact Or.inl rfl
  · exact Or.inr rfl
theorem tw_nz_of {x : Int32} (h : x = 0 ∨ x = 1) : tw_nz x = x := by
  rcases h with rfl | rfl
  · rfl
  · rfl
def tw_fv (t b : Nat) (r : Option Nat) (x : Int32) : Value := if t = 2 then va_rf (r.map (fun q => b + q)) else if t = 1 then .int (tw_nz x) else .int x
def tw_fa (t : Nat) (r : Option Nat) (x : Int32) : tw_A := if t = 2 then Sum.inr (Sum.inl r) else if t = 1 then tw_I (tw_nz x) else tw_I x
theorem tw_fa_v (b z t : Nat) (r : Option Nat) (x : Int32) : tw_v b z (tw_fa t r x) = tw_fv t b r x := by
  unfold tw_fa tw_fv
  by_cases h2 : t = 2
  · simp only [h2, if_true]; rfl
  · by_cases h1 : t = 1
    · simp only [if_neg h2, if_pos h1]; rfl
    · simp only [if_neg h2, if_neg h1]; rfl
def tw_fs (ft : Nat → Nat → Nat) (b q : Nat) (k : tw_K) (f : tw_S) : List Value := (List.range k.2.1).map fun i => tw_fv (ft k.1 i) b (k.2.2.getD i none) (f q i)
def tw_ar (t n : Nat) (f : Nat → Int32) : vp_A := if t = 100 then (n, .inl f) else if t = 101 then (n, .inl (fun j => tw_nz (f j))) else (n, .inr (.inl (fun j => (f j).toInt64)))
def tw_e (ft : Nat → Nat → Nat) (cA : Nat → ClassId) (b q : Nat) (k : tw_K) (f : tw_S) : va_E := if k.1 < 100 then .inr (k.1, tw_fs ft b q k f) else .inl (cA k.1, tw_ar k.1 k.2.1 (f q))
def tw_ws (ft : Nat → Nat → Nat) (cA : Nat → ClassId) (b : Nat) (L : tw_L) (f : tw_S) : va_W := L.mapIdx (fun q k => (b + q, tw_e ft cA b q k f))
section WORLD
variable {cl : List vw_C} {ft : Nat → Nat → Nat} {D : va_G} {cA : Nat → ClassId} {b : Nat} {fl : Bool} {L L' : tw_L} {f f' : tw_S} {H H1 : Heap} {q : Nat} {k : tw_K}
theorem tw_ws_at (h : L[q]? = some k) : (tw_ws ft cA b L f)[q]? = some (b + q, tw_e ft cA b q k f) := by
  unfold tw_ws
  rw [List.getElem?_mapIdx, h]
  rfl
theorem tw_ws_inv {i : Nat} {p : Nat × va_E} (h : (tw_ws ft cA b L f)[i]? = some p) : ∃ k, L[i]? = some k ∧ p = (b + i, tw_e ft cA b i k f) := by
  unfold tw_ws at h
  rw [List.getElem?_mapIdx] at h
  cases hk : L[i]? with
  | none => rw [hk] at h; cases h
  | some k => rw [hk] at h; exact ⟨k, rfl, (Option.some.inj h).symm⟩
theorem tw_D : va_D (fun x => b ≤ x) (tw_ws ft cA b L f) := by
  refine ⟨fun i j p r hi hj hpr => ?_, fun i p hi => ?_⟩
  · obtain ⟨k1, -, rfl⟩ := tw_ws_inv hi
    obtain ⟨k2, -, rfl⟩ := tw_ws_inv hj
    have h : b + i = b + j := hpr
    omega
  · obtain ⟨k1, -, rfl⟩ := tw_ws_inv hi
    exact Nat.le_add_right b i
def tw_W (cl : List vw_C) (ft : Nat → Nat → Nat) (D : va_G) (cA : Nat → ClassId) (b : Nat) (fl : Bool) (L : tw_L) (f : tw_S) (H : Heap) : Prop :=
  va_P D cl (tw_ws ft cA b L f) H ∧ b + L.length ≤ H.size ∧ (fl = true → H.size = b + L.length)
theorem tw_W.at (h : tw_W cl ft D cA b fl L f H) (hq : L[q]? = some k) : va_at D cl (b + q, tw_e ft cA b q k f) H := h.1 q _ (tw_ws_at hq)
theorem tw_W.put (h : tw_W cl ft D cA b fl L f H) (hl : L'.length = L.length) (hL : ∀ i, i ≠ q → L'[i]? = L[i]?) (hf : ∀ i, i ≠ q → f' i = f i) (hq : L'[q]? = some k) (he : va_at D cl (b + q, tw_e ft cA b q k f') H1) (hz : H1.size = H.size) (ho : ∀ x : Nat, x ≠ b + q → H1[x]? = H[x]?) : tw_W cl ft D cA b fl L' f' H1 := by
  refine ⟨fun i p hp => ?_, by rw [hz, hl]; exact h.2.1, fun g => by rw [hz, hl]; exact h.2.2 g⟩
  obtain ⟨k1, hk1, rfl⟩ := tw_ws_inv hp
  by_cases hi : i = q
  · subst hi
    rw [hq] at hk1
    cases hk1
    exact he
  · rw [hL i hi] at hk1
    have h2 : tw_e ft cA b i k1 f' = tw_e ft cA b i k1 f := by
      unfold tw_e tw_fs
      rw [hf i hi]
    rw [h2]
    exact (h.at hk1).kept (ho _ (by show b + i ≠ b + q; omega))
theorem tw_W.push (h : tw_W cl ft D cA b true L f H) (hf : ∀ i, i < L.length → f' i = f i) (he : va_at D cl (b + L.length, tw_e ft cA b L.length k f') H1) (hz : H1.size = H.size + 1) (ho : ∀ x : Nat, x < H.size → H1[x]? = H[x]?) : tw_W cl ft D cA b true (L ++ [k]) f' H1 := by
  have hs := h.2.2 rfl
  refine ⟨fun i p hp => ?_, by rw [hz, hs, List.length_append]; exact Nat.le_refl _, fun _ => by rw [hz, hs, List.length_append]; rfl⟩
  obtain ⟨k1, hk1, rfl⟩ := tw_ws_inv hp
  by_cases hi : i < L.length
  · rw [List.getElem?_append_left hi] at hk1
    have h2 : tw_e ft cA b i k1 f' = tw_e ft cA b i k1 f := by
      unfold tw_e tw_fs
      rw [hf i hi]
    rw [h2]
    exact (h.at hk1).kept (ho _ (by show b + i < H.size; omega))
  · rw [List.getElem?_append_right (by omega)] at hk1
    have hlt : i - L.length < 1 := (List.getElem?_eq_some_iff.mp hk1).1
    have hi2 : i = L.length := by omega
    subst hi2
    rw [Nat.sub_self] at hk1
    cases hk1
    exact he
theorem tw_fs_at {i : Nat} (h : i < k.2.1) : (tw_fs ft b q k f)[i]? = some (tw_fv (ft k.1 i) b (k.2.2.getD i none) (f q i)) := by
  unfold tw_fs
  rw [List.getElem?_map, List.getElem?_range h]
  rfl
theorem tw_fs_len : (tw_fs ft b q k f).length = k.2.1 := by
  unfold tw_fs
  rw [List.length_map, List.length_range]
end WORLD
/-- the locals: what is known of them -/
def tw_lh (b z nL : Nat) (ls : List (Option tw_A)) (la : Array Slot) : Prop := la.size = nL ∧ lv_wf la ∧ ls.length ≤ nL ∧ ∀ (i : Nat) (v : tw_A), ls[i]? = some (some v) → la[i]? = some (.val (tw_v b z v)) ∧ tw_ct v = 1
def tw_ll (b z : Nat) (ls : List (Option tw_A)) : List (Nat × Value) := (ls.mapIdx (fun i o => o.map (fun v => (i, tw_v b z v)))).filterMap id
theorem tw_ll_mem {b z : Nat} {ls : List (Option tw_A)} {i : Nat} {v : tw_A} (h : ls[i]? = some (some v)) : (i, tw_v b z v) ∈ tw_ll b z ls := by
  unfold tw_ll
  rw [List.mem_filterMap]
  refine ⟨some (i, tw_v b z v), ?_, rfl⟩
  refine List.mem_of_getElem? (i := i) ?_
  rw [List.getElem?_mapIdx, h]
  rfl
theorem tw_ll_of {b z : Nat} {ls : List (Option tw_A)} {p : Nat × Value} (h : p ∈ tw_ll b z ls) : ∃ v, ls[p.1]? = some (some v) ∧ p.2 = tw_v b z v := by
  unfold tw_ll at h
  rw [List.mem_filterMap] at h
  obtain ⟨o, ho, he⟩ := h
  obtain ⟨i, hi⟩ := List.getElem?_of_mem ho
  rw [List.getElem?_mapIdx] at hi
  cases hl : ls[i]? with
  | none => rw [hl] at hi; cases hi
  | some w =>
    rw [hl] at hi
    have h1 : w.map (fun v => (i, tw_v b z v)) = o := Option.some.inj hi
    have h2 : o = some p := he
    cases w with
    | none => rw [← h1] at h2; cases h2
    | some v =>
      rw [← h1] at h2
      have h3 : (i, tw_v b z v) = p := Option.some.inj h2
      subst h3
      exact ⟨v, hl, rfl⟩
theorem tw_lh.has {b z nL : Nat} {ls : List (Option tw_A)} {la : Array Slot} (h : tw_lh b z nL ls la) : lv_has la nL (tw_ll b z ls) := by
  refine ⟨h.1, h.2.1, fun p hp => ?_⟩
  obtain ⟨v, h1, h2⟩ := tw_ll_of hp
  rw [h2]
  exact (h.2.2.2 _ _ h1).1
theorem tw_lh.set {b z nL i : Nat} {ls : List (Option tw_A)} {la la' : Array Slot} {v : tw_A} (h : tw_lh b z nL ls la) (hv : tw_ct v = 1) (hi : i < nL)
    (h' : lv_has la' nL ((i, tw_v b z v) :: (tw_ll b z ls).filter (fun q => !(q.1 == i) && !(q.1 + 1 == i && q.2.category == 2)))) : tw_lh b z nL (ls.set i (some v)) la' := by
  refine ⟨h'.1, h'.2.1, by rw [List.length_set]; exact h.2.2.1, fun j w hj => ?_⟩
  by_cases hji : i = j
  · subst hji
    have hlt : i < ls.length := by
      have := (List.getElem?_eq_some_iff.mp hj).1
      rwa [List.length_set] at this
    rw [List.getElem?_set_self hlt] at hj
    cases hj
    exact ⟨h'.2.2 _ List.mem_cons_self, hv⟩
  · rw [List.getElem?_set_ne hji] at hj
    refine ⟨h'.2.2 (j, tw_v b z w) (List.mem_cons_of_mem _ (List.mem_filter.mpr ⟨tw_ll_mem hj, ?_⟩)), (h.2.2.2 _ _ hj).2⟩
    have hc : (tw_v b z w).category = 1 := by rw [tw_ct_v]; exact (h.2.2.2 _ _ hj).2
    have h1 : (j == i) = false := by simpa using fun e => hji e.symm
    simp [h1, hc]
end
section
/-! One instruction at a time: from the next frame back to this one, over the whole system's memory. -/
def tw_sl (L : tw_L) : Nat := (L.map (fun k => k.2.1)).sum
def tw_G (p : Program) (l : Launch) (e : Env) (R : Room) (s : State) (m : MethodId) (args : Array Value) (below : List Frame) (meth : Method) (c : Code) (Q : State → Prop) (cl : List vw_C) (ft : Nat → Nat → Nat) (D : va_G) (cA : Nat → ClassId) (b z nL n0 s0 : Nat) (fl : Bool) (pc : Nat) (ls : List (Option tw_A)) (st : List tw_A) (L : tw_L) (f : tw_S) : Prop :=
  ∀ (H : Heap) (locs : List Loc) (la : Array Slot), n0 ≤ L.length → s0 ≤ tw_sl L → tw_W cl ft D cA b fl L f H → va_S (fun x => b ≤ x) s.heap H locs → tw_lh b z nL ls la → W p l e R s m args below meth c H locs (L.length - n0) (tw_sl L - s0) Q (F0 m pc la (st.map (tw_v b z)))
section ROWS
variable {p : Program} {l : Launch} {e : Env} {R : Room} {s : State} {m : MethodId} {args : Array Value} {below : List Frame} {meth : Method} {c : Code} {Q : State → Prop} {cl : List vw_C} {ft : Nat → Nat → Nat} {D : va_G} {cA : Nat → ClassId} {b z nL n0 s0 : Nat} {fl : Bool} {cc : ByteArray} {pc : Nat} {ls : List (Option tw_A)} {st : List tw_A} {L : tw_L} {f : tw_S}
theorem tg_iload_n (hx : p.tables.exec = Jvm.exec) (hb : c.code = cc) {a : Nat} {k : Fin 4} {x : Int32} (hd : decode cc pc = .ok (.iload_n k, 1)) (hk : (k : Nat) = a) (hl : ls[a]? = some (some (tw_I x)))
    (kk : tw_G p l e R s m args below meth c Q cl ft D cA b z nL n0 s0 fl (pc + 1) ls (tw_I x :: st) L f) : tw_G p l e R s m args below meth c Q cl ft D cA b z nL n0 s0 fl pc ls st L f :=
  fun H locs la g1 g2 hW hS hh => lv_iload_n hx hb hd hk (hh.2.2.2 _ _ hl).1 (kk H locs la g1 g2 hW hS hh)
theorem tg_iload (hx : p.tables.exec = Jvm.exec) (hb : c.code = cc) {a : Nat} {x : Int32} (hd : decode cc pc = .ok (.iload a, 2)) (hl : ls[a]? = some (some (tw_I x)))
    (kk : tw_G p l e R s m args below meth c Q cl ft D cA b z nL n0 s0 fl (pc + 2) ls (tw_I x :: st) L f) : tw_G p l e R s m args below meth c Q cl ft D cA b z nL n0 s0 fl pc ls st L f :=
  fun H locs la g1 g2 hW hS hh => lv_iload hx hb hd (hh.2.2.2 _ _ hl).1 (kk H locs la g1 g2 hW hS hh)
theorem tg_aload_n (hx : p.tables.exec = Jvm.exec) (hb : c.code = cc) {a q : Nat} {k : Fin 4} (hd : decode cc pc = .ok (.aload_n k, 1)) (hk : (k : Nat) = a) (hl : ls[a]? = some (some (tw_R q)))
    (kk : tw_G p l e R s m args below meth c Q cl ft D cA b z nL n0 s0 fl (pc + 1) ls (tw_R q :: st) L f) : tw_G p l e R s m args below meth c Q cl ft D cA b z nL n0 s0 fl pc ls st L f :=
  fun H locs la g1 g2 hW hS hh => lv_aload_n hx hb hd hk (hh.2.2.2 _ _ hl).1 (kk H locs la g1 g2 hW hS hh)
theorem tg_aload (hx : p.tables.exec = Jvm.exec) (hb : c.code = cc) {a q : Nat} (hd : decode cc pc = .ok (.aload a, 2)) (hl : ls[a]? = some (some (tw_R q)))
    (kk : tw_G p l e R s m args below meth c Q cl ft D cA b z nL n0 s0 fl (pc + 2) ls (tw_R q :: st) L f) : tw_G p l e R s m args below meth c Q cl ft D cA b z nL n0 s0 fl pc ls st L f :=
  fun H locs la g1 g2 hW hS hh => lv_aload hx hb hd (hh.2.2.2 _ _ hl).1 (kk H locs la g1 g2 hW hS hh)
theorem tg_aload_nZ (hx : p.tables.exec = Jvm.exec) (hb : c.code = cc) {a : Nat} {k : Fin 4} (hd : decode cc pc = .ok (.aload_n k, 1)) (hk : (k : Nat) = a) (hl : ls[a]? = some (some tw_Z))
    (kk : tw_G p l e R s m args below meth c Q cl ft D cA b z nL n0 s0 fl (pc + 1) ls (tw_Z :: st) L f) : tw_G p l e R s m args below meth c Q cl ft D cA b z nL n0 s0 fl pc ls st L f :=
  fun H locs la g1 g2 hW hS hh => lv_aload_n hx hb hd hk (hh.2.2.2 _ _ hl).1 (kk H locs la g1 g2 hW hS hh)
theorem tg_iconst (hx : p.tables.exec = Jvm.exec) (hb : c.code = cc) {n : Int} {x : Int32} (hd : decode cc pc = .ok (.iconst n, 1)) (hv : Int32.ofInt n = x)
    (kk : tw_G p l e R s m args below meth c Q cl ft D cA b z nL n0 s0 fl (pc + 1) ls (tw_I x :: st) L f) : tw_G p l e R s m args below meth c Q cl ft D cA b z nL n0 s0 fl pc ls st L f :=
  fun H locs la g1 g2 hW hS hh => lv_iconst hx hb hd hv (kk H locs la g1 g2 hW hS hh)
theorem tg_bipush (hx : p.tables.exec = Jvm.exec) (hb : c.code = cc) {n : Int} {x : Int32} (hd : decode cc pc = .ok (.bipush n, 2)) (hv : (Int8.ofInt n).toInt32 = x)
    (kk : tw_G p l e R s m args below meth c Q cl ft D cA b z nL n0 s0 fl (pc + 2) ls (tw_I x :: st) L f) : tw_G p l e R s m args below meth c Q cl ft D cA b z nL n0 s0 fl pc ls st L f :=
  fun H locs la g1 g2 hW hS hh => lv_bipush hx hb hd hv (kk H locs la g1 g2 hW hS hh)
theorem tg_sipush (hx : p.tables.exec = Jvm.exec) (hb : c.code = cc) {n : Int} {x : Int32} (hd : decode cc pc = .ok (.sipush n, 3)) (hv : (Int16.ofInt n).toInt32 = x)
    (kk : tw_G p l e R s m args below meth c Q cl ft D cA b z nL n0 s0 fl (pc + 3) ls (tw_I x :: st) L f) : tw_G p l e R s m args below meth c Q cl ft D cA b z nL n0 s0 fl pc ls st L f :=
  fun H locs la g1 g2 hW hS hh => lv_sipush hx hb hd hv (kk H locs la g1 g2 hW hS hh)
theorem tg_istore_n (hx : p.tables.exec = Jvm.exec) (hb : c.code = cc) {a : Nat} {k : Fin 4} {x : Int32} (hd : decode cc pc = .ok (.istore_n k, 1)) (hk : (k : Nat) = a) (ha : a < ls.length)
    (kk : tw_G p l e R s m args below meth c Q cl ft D cA b z nL n0 s0 fl (pc + 1) (ls.set a (some (tw_I x))) st L f) : tw_G p l e R s m args below meth c Q cl ft D cA b z nL n0 s0 fl pc ls (tw_I x :: st) L f :=
  fun H locs _ g1 g2 hW hS hh => lv_istore_n hx hb hd hk hh.has (Nat.lt_of_lt_of_le ha hh.2.2.1) rfl (fun la' h' => kk H locs la' g1 g2 hW hS (hh.set (v := tw_I x) rfl (Nat.lt_of_lt_of_le ha hh.2.2.1) h'))
theorem tg_istore (hx : p.tables.exec = Jvm.exec) (hb : c.code = cc) {a : Nat} {x : Int32} (hd : decode cc pc = .ok (.istore a, 2)) (ha : a < ls.length)
    (kk : tw_G p l e R s m args below meth c Q cl ft D cA b z nL n0 s0 fl (pc + 2) (ls.set a (some (tw_I x))) st L f) : tw_G p l e R s m args below meth c Q cl ft D cA b z nL n0 s0 fl pc ls (tw_I x :: st) L f :=
  fun H locs _ g1 g2 hW hS hh => lv_istore hx hb hd hh.has (Nat.lt_of_lt_of_le ha hh.2.2.1) rfl (fun la' h' => kk H locs la' g1 g2 hW hS (hh.set (v := tw_I x) rfl (Nat.lt_of_lt_of_le ha hh.2.2.1) h'))
theorem tg_astore_n (hx : p.tables.exec = Jvm.exec) (hb : c.code = cc) {a q : Nat} {k : Fin 4} (hd : decode cc pc = .ok (.astore_n k, 1)) (hk : (k : Nat) = a) (ha : a < ls.length)
    (kk : tw_G p l e R s m args below meth c Q cl ft D cA b z nL n0 s0 fl (pc + 1) (ls.set a (some (tw_R q))) st L f) : tw_G p l e R s m args below meth c Q cl ft D cA b z nL n0 s0 fl pc ls (tw_R q :: st) L f :=
  fun H locs _ g1 g2 hW hS hh => lv_astore_n hx hb hd hk hh.has (Nat.lt_of_lt_of_le ha hh.2.2.1) rfl (fun la' h' => kk H locs la' g1 g2 hW hS (hh.set (v := tw_R q) rfl (Nat.lt_of_lt_of_le ha hh.2.2.1) h'))
theorem tg_astore (hx : p.tables.exec = Jvm.exec) (hb : c.code = cc) {a q : Nat} (hd : decode cc pc = .ok (.astore a, 2)) (ha : a < ls.length)
    (kk : tw_G p l e R s m args below meth c Q cl ft D cA b z nL n0 s0 fl (pc + 2) (ls.set a (some (tw_R q))) st L f) : tw_G p l e R s m args below meth c Q cl ft D cA b z nL n0 s0 fl pc ls (tw_R q :: st) L f :=
  fun H locs _ g1 g2 hW hS hh => lv_astore hx hb hd hh.has (Nat.lt_of_lt_of_le ha hh.2.2.1) rfl (fun la' h' => kk H locs la' g1 g2 hW hS (hh.set (v := tw_R q) rfl (Nat.lt_of_lt_of_le ha hh.2.2.1) h'))
theorem tg_iinc (hx : p.tables.exec = Jvm.exec) (hb : c.code = cc) {a : Nat} {n : Int} {x y : Int32} (hd : decode cc pc = .ok (.iinc a n, 3)) (hy : Int32.ofInt n = y) (hl : ls[a]? = some (some (tw_I x)))
    (kk : tw_G p l e R s m args below meth c Q cl ft D cA b z nL n0 s0 fl (pc + 3) (ls.set a (some (tw_I (x + y)))) st L f) : tw_G p l e R s m args below meth c Q cl ft D cA b z nL n0 s0 fl pc ls st L f := by
  intro H locs la g1 g2 hW hS hh
  have ha : a < nL := Nat.lt_of_lt_of_le (List.getElem?_eq_some_iff.mp hl).1 hh.2.2.1
  obtain ⟨i, hi⟩ := List.getElem?_of_mem (tw_ll_mem (b := b) (z := z) hl)
  exact lv_iinc hx hb hd hh.has hi (by rw [hy]) ha rfl (fun la' h' => kk H locs la' g1 g2 hW hS (hh.set (v := tw_I (x + y)) rfl ha h'))
theorem tg_iadd (hx : p.tables.exec = Jvm.exec) (hb : c.code = cc) {x y : Int32} (hd : decode cc pc = .ok (.iadd, 1))
    (kk : tw_G p l e R s m args below meth c Q cl ft D cA b z nL n0 s0 fl (pc + 1) ls (tw_I (x + y) :: st) L f) : tw_G p l e R s m args below meth c Q cl ft D cA b z nL n0 s0 fl pc ls (tw_I y :: tw_I x :: st) L f :=
  fun H locs la g1 g2 hW hS hh => lv_iadd hx hb hd (kk H locs la g1 g2 hW hS hh)
theorem tg_isub (hx : p.tables.exec = Jvm.exec) (hb : c.code = cc) {x y : Int32} (hd : decode cc pc = .ok (.isub, 1))
    (kk : tw_G p l e R s m args below meth c Q cl ft D cA b z nL n0 s0 fl (pc + 1) ls (tw_I (x - y) :: st) L f) : tw_G p l e R s m args below meth c Q cl ft D cA b z nL n0 s0 fl pc ls (tw_I y :: tw_I x :: st) L f :=
  fun H locs la g1 g2 hW hS hh => lv_isub hx hb hd (kk H locs la g1 g2 hW hS hh)
theorem tg_imul (hx : p.tables.exec = Jvm.exec) (hb : c.code = cc) {x y : Int32} (hd : decode cc pc = .ok (.imul, 1))
    (kk : tw_G p l e R s m args below meth c Q cl ft D cA b z nL n0 s0 fl (pc + 1) ls (tw_I (x * y) :: st) L f) : tw_G p l e R s m args below meth c Q cl ft D cA b z nL n0 s0 fl pc ls (tw_I y :: tw_I x :: st) L f :=
  fun H locs la g1 g2 hW hS hh => lv_imul hx hb hd (kk H locs la g1 g2 hW hS hh)
theorem tg_iand (hx : p.tables.exec = Jvm.exec) (hb : c.code = cc) {x y : Int32} (hd : decode cc pc = .ok (.iand, 1))
    (kk : tw_G p l e R s m args below meth c Q cl ft D cA b z nL n0 s0 fl (pc + 1) ls (tw_I (x &&& y) :: st) L f) : tw_G p l e R s m args below meth c Q cl ft D cA b z nL n0 s0 fl pc ls (tw_I y :: tw_I x :: st) L f :=
  fun H locs la g1 g2 hW hS hh => lv_iand hx hb hd (kk H locs la g1 g2 hW hS hh)
theorem tg_ior (hx : p.tables.exec = Jvm.exec) (hb : c.code = cc) {x y : Int32} (hd : decode cc pc = .ok (.ior, 1))
    (kk : tw_G p l e R s m args below meth c Q cl ft D cA b z nL n0 s0 fl (pc + 1) ls (tw_I (x ||| y) :: st) L f) : tw_G p l e R s m args below meth c Q cl ft D cA b z nL n0 s0 fl pc ls (tw_I y :: tw_I x :: st) L f :=
  fun H locs la g1 g2 hW hS hh => lv_ior hx hb hd (kk H locs la g1 g2 hW hS hh)
theorem tg_ixor (hx : p.tables.exec = Jvm.exec) (hb : c.code = cc) {x y : Int32} (hd : decode cc pc = .ok (.ixor, 1))
    (kk : tw_G p l e R s m args below meth c Q cl ft D cA b z nL n0 s0 fl (pc + 1) ls (tw_I (x ^^^ y) :: st) L f) : tw_G p l e R s m args below meth c Q cl ft D cA b z nL n0 s0 fl pc ls (tw_I y :: tw_I x :: st) L f :=
  fun H locs la g1 g2 hW hS hh => lv_ixor hx hb hd (kk H locs la g1 g2 hW hS hh)
theorem tg_ishl (hx : p.tables.exec = Jvm.exec) (hb : c.code = cc) {x y : Int32} (hd : decode cc pc = .ok (.ishl, 1))
    (kk : tw_G p l e R s m args below meth c Q cl ft D cA b z nL n0 s0 fl (pc + 1) ls (tw_I (x <<< (y &&& 31)) :: st) L f) : tw_G p l e R s m args below meth c Q cl ft D cA b z nL n0 s0 fl pc ls (tw_I y :: tw_I x :: st) L f :=
  fun H locs la g1 g2 hW hS hh => lv_ishl hx hb hd (kk H locs la g1 g2 hW hS hh)
theorem tg_ishr (hx : p.tables.exec = Jvm.exec) (hb : c.code = cc) {x y : Int32} (hd : decode cc pc = .ok (.ishr, 1))
    (kk : tw_G p l e R s m args below meth c Q cl ft D cA b z nL n0 s0 fl (pc + 1) ls (tw_I (x >>> (y &&& 31)) :: st) L f) : tw_G p l e R s m args below meth c Q cl ft D cA b z nL n0 s0 fl pc ls (tw_I y :: tw_I x :: st) L f :=
  fun H locs la g1 g2 hW hS hh => lv_ishr hx hb hd (kk H locs la g1 g2 hW hS hh)
theorem tg_idiv (hx : p.tables.exec = Jvm.exec) (hb : c.code = cc) {x y : Int32} (hd : decode cc pc = .ok (.idiv, 1)) (hy : ¬ y = 0)
    (kk : tw_G p l e R s m args below meth c Q cl ft D cA b z nL n0 s0 fl (pc + 1) ls (tw_I (x / y) :: st) L f) : tw_G p l e R s m args below meth c Q cl ft D cA b z nL n0 s0 fl pc ls (tw_I y :: tw_I x :: st) L f :=
  fun H locs la g1 g2 hW hS hh => lv_idiv hx hb hd hy (kk H locs la g1 g2 hW hS hh)
theorem tg_irem (hx : p.tables.exec = Jvm.exec) (hb : c.code = cc) {x y : Int32} (hd : decode cc pc = .ok (.irem, 1)) (hy : ¬ y = 0)
    (kk : tw_G p l e R s m args below meth c Q cl ft D cA b z nL n0 s0 fl (pc + 1) ls (tw_I (x - x / y * y) :: st) L f) : tw_G p l e R s m args below meth c Q cl ft D cA b z nL n0 s0 fl pc ls (tw_I y :: tw_I x :: st) L f :=
  fun H locs la g1 g2 hW hS hh => lv_irem hx hb hd hy (kk H locs la g1 g2 hW hS hh)
/-- a branch's condition: 0 equal, 1 not equal, 2 less, 3 at least, 4 greater, else at most -/
def tw_cd (a : Nat) (x y : Int32) : Prop := if a = 0 then x = y else if a = 1 then ¬ x = y else if a = 2 then x < y else if a = 3 then y ≤ x else if a = 4 then y < x else x ≤ y
def tw_if (a : Nat) (off : Int) : Instr := if a = 0 then .ifCond .eq off else if a = 1 then .ifCond .ne off else if a = 2 then .ifCond .lt off else if a = 3 then .ifCond .ge off else if a = 4 then .ifCond .gt off else .ifCond .le off
def tw_ic (a : Nat) (off : Int) : Instr := if a = 0 then .if_icmp .eq off else if a = 1 then .if_icmp .ne off else if a = 2 then .if_icmp .lt off else if a = 3 then .if_icmp .ge off else if a = 4 then .if_icmp .gt off else .if_icmp .le off
theorem tg_if (hx : p.tables.exec = Jvm.exec) (hb : c.code = cc) {a tgt : Nat} {off : Int} {x : Int32} (hd : decode cc pc = .ok (tw_if a off, 3)) (ht : (pc : Int) + off = (tgt : Int))
    (kt : tw_cd a x 0 → tw_G p l e R s m args below meth c Q cl ft D cA b z nL n0 s0 fl tgt ls st L f) (kf : ¬ tw_cd a x 0 → tw_G p l e R s m args below meth c Q cl ft D cA b z nL n0 s0 fl (pc + 3) ls st L f) : tw_G p l e R s m args below meth c Q cl ft D cA b z nL n0 s0 fl pc ls (tw_I x :: st) L f := by
  intro H locs la g1 g2 hW hS hh
  unfold tw_if at hd
  unfold tw_cd at kt kf
  by_cases h0 : a = 0
  · simp only [if_pos h0] at hd kt kf
    exact lv_if_eq hx hb hd ht (fun h => kt h H locs la g1 g2 hW hS hh) (fun h => kf h H locs la g1 g2 hW hS hh)
  · simp only [if_neg h0] at hd kt kf
    by_cases h1 : a = 1
    · simp only [if_pos h1] at hd kt kf
      exact lv_if_ne hx hb hd ht (fun h => kt h H locs la g1 g2 hW hS hh) (fun h => kf (fun g => g h) H locs la g1 g2 hW hS hh)
    · simp only [if_neg h1] at hd kt kf
      by_cases h2 : a = 2
      · simp only [if_pos h2] at hd kt kf
        exact lv_if_lt hx hb hd ht (fun h => kt h H locs la g1 g2 hW hS hh) (fun h => kf h H locs la g1 g2 hW hS hh)
      · simp only [if_neg h2] at hd kt kf
        by_cases h3 : a = 3
        · simp only [if_pos h3] at hd kt kf
          exact lv_if_ge hx hb hd ht (fun h => kt h H locs la g1 g2 hW hS hh) (fun h => kf h H locs la g1 g2 hW hS hh)
        · simp only [if_neg h3] at hd kt kf
          by_cases h4 : a = 4
          · simp only [if_pos h4] at hd kt kf
            exact lv_if_gt hx hb hd ht (fun h => kt h H locs la g1 g2 hW hS hh) (fun h => kf h H locs la g1 g2 hW hS hh)
          · simp only [if_neg h4] at hd kt kf
            exact lv_if_le hx hb hd ht (fun h => kt h H locs la g1 g2 hW hS hh) (fun h => kf h H locs la g1 g2 hW hS hh)
theorem tg_icmp (hx : p.tables.exec = Jvm.exec) (hb : c.code = cc) {a tgt : Nat} {off : Int} {x y : Int32} (hd : decode cc pc = .ok (tw_ic a off, 3)) (ht : (pc : Int) + off = (tgt : Int))
    (kt : tw_cd a x y → tw_G p l e R s m args below meth c Q cl ft D cA b z nL n0 s0 fl tgt ls st L f) (kf : ¬ tw_cd a x y → tw_G p l e R s m args below meth c Q cl ft D cA b z nL n0 s0 fl (pc + 3) ls st L f) : tw_G p l e R s m args below meth c Q cl ft D cA b z nL n0 s0 fl pc ls (tw_I y :: tw_I x :: st) L f := by
  intro H locs la g1 g2 hW hS hh
  unfold tw_ic at hd
  unfold tw_cd at kt kf
  by_cases h0 : a = 0
  · simp only [if_pos h0] at hd kt kf
    exact lv_icmp_eq hx hb hd ht (fun h => kt h H locs la g1 g2 hW hS hh) (fun h => kf h H locs la g1 g2 hW hS hh)
  · simp only [if_neg h0] at hd kt kf
    by_cases h1 : a = 1
    · simp only [if_pos h1] at hd kt kf
      exact lv_icmp_ne hx hb hd ht (fun h => kt h H locs la g1 g2 hW hS hh) (fun h => kf (fun g => g h) H locs la g1 g2 hW hS hh)
    · simp only [if_neg h1] at hd kt kf
      by_cases h2 : a = 2
      · simp only [if_pos h2] at hd kt kf
        exact lv_icmp_lt hx hb hd ht (fun h => kt h H locs la g1 g2 hW hS hh) (fun h => kf h H locs la g1 g2 hW hS hh)
      · simp only [if_neg h2] at hd kt kf
        by_cases h3 : a = 3
        · simp only [if_pos h3] at hd kt kf
          exact lv_icmp_ge hx hb hd ht (fun h => kt h H locs la g1 g2 hW hS hh) (fun h => kf h H locs la g1 g2 hW hS hh)
        · simp only [if_neg h3] at hd kt kf
          by_cases h4 : a = 4
          · simp only [if_pos h4] at hd kt kf
            exact lv_icmp_gt hx hb hd ht (fun h => kt h H locs la g1 g2 hW hS hh) (fun h => kf h H locs la g1 g2 hW hS hh)
          · simp only [if_neg h4] at hd kt kf
            exact lv_icmp_le hx hb hd ht (fun h => kt h H locs la g1 g2 hW hS hh) (fun h => kf h H locs la g1 g2 hW hS hh)
theorem tg_goto (hx : p.tables.exec = Jvm.exec) (hb : c.code = cc) {tgt : Nat} {off : Int} (hd : decode cc pc = .ok (.goto off, 3)) (ht : (pc : Int) + off = (tgt : Int))
    (kk : tw_G p l e R s m args below meth c Q cl ft D cA b z nL n0 s0 fl tgt ls st L f) : tw_G p l e R s m args below meth c Q cl ft D cA b z nL n0 s0 fl pc ls st L f :=
  fun H locs la g1 g2 hW hS hh => lv_goto hx hb hd ht (kk H locs la g1 g2 hW hS hh)
theorem tg_dup (hx : p.tables.exec = Jvm.exec) (hb : c.code = cc) {v : tw_A} (hd : decode cc pc = .ok (.dup, 1)) (hv : tw_ct v = 1)
    (kk : tw_G p l e R s m args below meth c Q cl ft D cA b z nL n0 s0 fl (pc + 1) ls (v :: v :: st) L f) : tw_G p l e R s m args below meth c Q cl ft D cA b z nL n0 s0 fl pc ls (v :: st) L f :=
  fun H locs la g1 g2 hW hS hh => lv_dup hx hb hd (by rw [tw_ct_v]; exact hv) (kk H locs la g1 g2 hW hS hh)
theorem tg_dup2 (hx : p.tables.exec = Jvm.exec) (hb : c.code = cc) {v w : tw_A} (hd : decode cc pc = .ok (.dup2, 1)) (hv : tw_ct v = 1) (hw : tw_ct w = 1)
    (kk : tw_G p l e R s m args below meth c Q cl ft D cA b z nL n0 s0 fl (pc + 1) ls (v :: w :: v :: w :: st) L f) : tw_G p l e R s m args below meth c Q cl ft D cA b z nL n0 s0 fl pc ls (v :: w :: st) L f :=
  fun H locs la g1 g2 hW hS hh => lv_dup2_11 hx hb hd (by rw [tw_ct_v]; exact hv) (by rw [tw_ct_v]; exact hw) (kk H locs la g1 g2 hW hS hh)
theorem tg_max (hx : p.tables.exec = Jvm.exec) (hb : c.code = cc) (hml : c.maxLocals = nL) {own : String} {idx : Nat} (hown : s.vm.findClass own = some m.cls) (hlink : (Cond.methodLink own idx Lib.Math.max.name).before args s = true) (hstat : (Cond.static Lib.Math.max.name).before args s = true) (hini : (Cond.initialized "java/lang/Math").before args s = true) (hcode : (Cond.code Lib.Math.max.name Lib.Math.max.code 2 (some .int)).before args s = true)
    (hframes : 1 ≤ R.frames) (hlocals : (st.map tw_ct).sum + 13 ≤ R.locals) (hc : L.length - n0 ≤ R.cells) (hs : tw_sl L - s0 ≤ R.slots) {x y : Int32} (hd : decode cc pc = .ok (.invokestatic idx, 3))
    (kk : tw_G p l e R s m args below meth c Q cl ft D cA b z nL n0 s0 fl (pc + 3) ls (tw_I (if x < y then y else x) :: st) L f) : tw_G p l e R s m args below meth c Q cl ft D cA b z nL n0 s0 fl pc ls (tw_I y :: tw_I x :: st) L f := by
  intro H locs la g1 g2 hW hS hh
  refine va_mmax hx hb (by rw [hml, hh.1]) hown hlink hstat hini hcode hframes ?_ hc hs hd (kk H locs la g1 g2 hW hS hh)
  rw [List.map_map]
  have h : ((fun v : Value => v.category) ∘ tw_v b z) = tw_ct := by
    funext a
    exact tw_ct_v b z a
  rw [h]
  exact hlocals
theorem tg_objInit (hx : p.tables.exec = Jvm.exec) (hb : c.code = cc) (hml : c.maxLocals = nL) {own : String} {idx q : Nat} (hown : s.vm.findClass own = some m.cls) (hlink : (Cond.methodLink own idx Lib.objectInit).before args s = true) (hinst : (Cond.instanceMethod Lib.objectInit).before args s = true) (hcode : (Cond.code Lib.objectInit ⟨#[0xb1]⟩ 1 none).before args s = true)
    (hframes : 1 ≤ R.frames) (hlocals : (st.map tw_ct).sum + 12 ≤ R.locals) (hd : decode cc pc = .ok (.invokespecial idx, 3))
    (kk : tw_G p l e R s m args below meth c Q cl ft D cA b z nL n0 s0 fl (pc + 3) ls st L f) : tw_G p l e R s m args below meth c Q cl ft D cA b z nL n0 s0 fl pc ls (tw_R q :: st) L f := by
  intro H locs la g1 g2 hW hS hh
  refine W.objInit hx hb hown hlink hinst hcode (g := F0 m pc la (((tw_R q) :: st).map (tw_v b z))) rfl (by rw [hml]; exact hh.1) (a := b + q) (rest := st.map (tw_v b z)) rfl hd hframes ?_ (kk H locs la g1 g2 hW hS hh)
  rw [List.map_map]
  have h : ((fun v : Value => v.category) ∘ tw_v b z) = tw_ct := by
    funext a
    exact tw_ct_v b z a
  rw [h]
  show 2 * 0 + _ + 12 ≤ _
  omega
end ROWS
end
section
/-! Fields, arrays, new cells. -/
theorem tw_e_obj {ft : Nat → Nat → Nat} {cA : Nat → ClassId} {b q ci n : Nat} {rs : List (Option Nat)} {f : tw_S} (h : ci < 100) : tw_e ft cA b q (ci, n, rs) f = .inr (ci, tw_fs ft b q (ci, n, rs) f) := if_pos h
theorem tw_e_int {ft : Nat → Nat → Nat} {cA : Nat → ClassId} {b q n : Nat} {rs : List (Option Nat)} {f : tw_S} : tw_e ft cA b q (100, n, rs) f = .inl (cA 100, n, .inl (f q)) := rfl
theorem tw_e_boo {ft : Nat → Nat → Nat} {cA : Nat → ClassId} {b q n : Nat} {rs : List (Option Nat)} {f : tw_S} : tw_e ft cA b q (101, n, rs) f = .inl (cA 101, n, .inl (fun j => tw_nz (f q j))) := rfl
theorem tw_e_lon {ft : Nat → Nat → Nat} {cA : Nat → ClassId} {b q n : Nat} {rs : List (Option Nat)} {f : tw_S} : tw_e ft cA b q (102, n, rs) f = .inl (cA 102, n, .inr (.inl (fun j => (f q j).toInt64))) := rfl
theorem tw_up_off {f : tw_S} {q i j : Nat} {x : Int32} (h : j ≠ q) : tw_up f q i x j = f j := by
  funext w
  unfold tw_up
  rw [if_neg (fun g => h g.1)]
theorem tw_up_on {f : tw_S} {q i : Nat} {x : Int32} : tw_up f q i x q = upd (f q) i x := by
  funext w
  unfold tw_up upd
  by_cases h : w = i
  · rw [if_pos ⟨rfl, h⟩, if_pos h]
  · rw [if_neg (fun g => h g.2), if_neg h]
theorem tw_fs_set {ft : Nat → Nat → Nat} {b q ci n i : Nat} {rs : List (Option Nat)} {f : tw_S} {x : Int32} (hi : i < n) (h : ft ci i = 0 ∨ (ft ci i = 1 ∧ (x = 0 ∨ x = 1))) : (tw_fs ft b q (ci, n, rs) f).set i (.int x) = tw_fs ft b q (ci, n, rs) (tw_up f q i x) := by
  refine List.ext_getElem? (fun j => ?_)
  by_cases hj : j < n
  · rw [tw_fs_at (k := (ci, n, rs)) hj]
    by_cases hij : i = j
    · subst hij
      rw [List.getElem?_set_self (by rw [tw_fs_len]; exact hi)]
      have h1 : tw_up f q i x q i = x := by unfold tw_up; rw [if_pos ⟨rfl, rfl⟩]
      rw [h1]
      unfold tw_fv
      rcases h with h | ⟨h, hx⟩
      · have h' : ft (ci, n, rs).1 i = 0 := h
        rw [h']; rfl
      · have h' : ft (ci, n, rs).1 i = 1 := h
        rw [h', tw_nz_of hx]; rfl
    · rw [List.getElem?_set_ne hij, tw_fs_at (k := (ci, n, rs)) hj]
      have h1 : tw_up f q i x q j = f q j := by unfold tw_up; rw [if_neg (fun g => hij g.2.symm)]
      rw [h1]
  · rw [List.getElem?_eq_none (by rw [List.length_set, tw_fs_len]; exact Nat.not_lt.mp hj), List.getElem?_eq_none (by rw [tw_fs_len]; exact Nat.not_lt.mp hj)]
theorem tw_fs_setR {ft : Nat → Nat → Nat} {b q ci n i r : Nat} {rs : List (Option Nat)} {f : tw_S} (hi : i < n) (hr : i < rs.length) (h : ft ci i = 2) : (tw_fs ft b q (ci, n, rs) f).set i (.ref (b + r)) = tw_fs ft b q (ci, n, rs.set i (some r)) f := by
  refine List.ext_getElem? (fun j => ?_)
  by_cases hj : j < n
  · rw [tw_fs_at (k := (ci, n, rs.set i (some r))) hj]
    by_cases hij : i = j
    · subst hij
      rw [List.getElem?_set_self (by rw [tw_fs_len]; exact hi)]
      have h' : ft (ci, n, rs.set i (some r)).1 i = 2 := h
      have h2 : (rs.set i (some r)).getD i none = some r := by
        rw [List.getD_eq_getElem?_getD, List.getElem?_set_self hr]; rfl
      show _ = some (tw_fv _ b ((rs.set i (some r)).getD i none) _)
      rw [h2, h']
      rfl
    · rw [List.getElem?_set_ne hij, tw_fs_at (k := (ci, n, rs)) hj]
      have h2 : (rs.set i (some r)).getD j none = rs.getD j none := by
        rw [List.getD_eq_getElem?_getD, List.getElem?_set_ne hij, ← List.getD_eq_getElem?_getD]
      show _ = some (tw_fv _ b ((rs.set i (some r)).getD j none) _)
      rw [h2]
  · rw [List.getElem?_eq_none (by rw [List.length_set, tw_fs_len]; exact Nat.not_lt.mp hj), List.getElem?_eq_none (by rw [tw_fs_len]; exact Nat.not_lt.mp hj)]
/-- what the tables say of a class: its words, its fields' types and names, and what kind each is -/
def tw_C (ft : Nat → Nat → Nat) (Ts : List Cond) (ci : Nat) (r : vw_C) (ty : Nat → FieldType) : Prop :=
  (∀ w ∈ u_ws r.1 r.2.1 r.2.2, w ∈ Ts) ∧ (∀ k, k < r.2.2 → parseFieldDescriptor (r.2.1 k).2.2.1 = some (ty k)) ∧ (∀ a, a < r.2.2 → ∀ b, b < r.2.2 → a ≠ b → (r.2.1 a).2.1 ≠ (r.2.1 b).2.1) ∧ ci < 100 ∧
  ∀ k, k < r.2.2 → (ft ci k = 0 ∧ ty k = .int) ∨ (ft ci k = 1 ∧ ty k = .boolean) ∨ (ft ci k = 2 ∧ ((∃ C, ty k = .object C) ∨ ∃ t, ty k = .array t))
section HEAP
variable {p : Program} {l : Launch} {e : Env} {R : Room} {s : State} {m : MethodId} {args : Array Value} {below : List Frame} {meth : Method} {c : Code} {Q : State → Prop} {cl : List vw_C} {ft : Nat → Nat → Nat} {D : va_G} {cA : Nat → ClassId} {b z nL n0 s0 : Nat} {fl : Bool} {cc : ByteArray} {pc : Nat} {ls : List (Option tw_A)} {st : List tw_A} {L : tw_L} {f : tw_S} {tys : List (ClassId × FieldType)} {Ts : List Cond} {own : String} {ci i idx q n : Nat} {rs : List (Option Nat)} {r : vw_C} {ty : Nat → FieldType}
theorem tg_getf (hx : p.tables.exec = Jvm.exec) (hb : c.code = cc) (hts : ∀ w ∈ Ts, w.before args s = true) (hown : s.vm.findClass own = some m.cls) (hK : va_K D cl tys s) (hc : cl[ci]? = some r) (hC : tw_C ft Ts ci r ty) (hi : i < r.2.2) (hlink : (Cond.fieldLink own idx (r.2.1 i).1 (r.2.1 i).2.1 (r.2.1 i).2.2.1).before args s = true) (hd : decode cc pc = .ok (.getfield idx, 3)) (hq : L[q]? = some (ci, n, rs)) (hn : i < n)
    (kk : tw_G p l e R s m args below meth c Q cl ft D cA b z nL n0 s0 fl (pc + 3) ls (tw_fa (ft ci i) (rs.getD i none) (f q i) :: st) L f) : tw_G p l e R s m args below meth c Q cl ft D cA b z nL n0 s0 fl pc ls (tw_R q :: st) L f := by
  intro H locs la g1 g2 hW hS hh
  have he : (tw_ws ft cA b L f)[q]? = some (b + q, .inr (ci, tw_fs ft b q (ci, n, rs) f)) := by
    rw [tw_ws_at hq, tw_e_obj hC.2.2.2.1]
  have h := kk H locs la g1 g2 hW hS hh
  rw [List.map_cons, tw_fa_v] at h
  obtain ⟨C, T, N⟩ := r
  exact va_get hx hb hts hC.1 hown hK hW.1 q he hc i hi hlink (fun _ h9 => h9) (tw_fs_at (k := (ci, n, rs)) hn) hd h
theorem tg_putf (hx : p.tables.exec = Jvm.exec) (hb : c.code = cc) (hts : ∀ w ∈ Ts, w.before args s = true) (hown : s.vm.findClass own = some m.cls) (hK : va_K D cl tys s) (hc : cl[ci]? = some r) (hC : tw_C ft Ts ci r ty) (hi : i < r.2.2) (hlink : (Cond.fieldLink own idx (r.2.1 i).1 (r.2.1 i).2.1 (r.2.1 i).2.2.1).before args s = true) (hd : decode cc pc = .ok (.putfield idx, 3)) (hfin : (r.2.1 i).2.2.2 = false) {x : Int32} (hq : L[q]? = some (ci, n, rs)) (hn : i < n) (hv : ft ci i = 0 ∨ (ft ci i = 1 ∧ (x = 0 ∨ x = 1)))
    (kk : tw_G p l e R s m args below meth c Q cl ft D cA b z nL n0 s0 fl (pc + 3) ls st L (tw_up f q i x)) : tw_G p l e R s m args below meth c Q cl ft D cA b z nL n0 s0 fl pc ls (tw_I x :: tw_R q :: st) L f := by
  intro H locs la g1 g2 hW hS hh
  obtain ⟨C, T, N⟩ := r
  obtain ⟨hin, hty, hnm, h100, hft⟩ := hC
  have hap := va_apart (own := own) hts hin ty hty hnm hK hc
  have h0 := hW.at hq
  rw [tw_e_obj h100] at h0
  obtain ⟨r', h1, cell, q1, q2, q3, q4⟩ := h0
  have hr : r' = (C, T, N) := Option.some.inj (h1.symm.trans hc)
  subst hr
  obtain ⟨hSl, hfc, kC, hkC, hkind⟩ := hK.1 ci _ hc
  obtain ⟨cf, kf, fi, fd, hi2, hsl⟩ := hSl i hi
  have hlay := hts _ (hin _ (u_in_lay hi))
  unfold u_lay at hlay
  rw [if_neg (by rw [hfin]; decide)] at hlay
  have hst := (u_facts hfc hkC (u_lays hts hin hi) hi2).1
  have hnf : narrow (ty i) (.int x) = .int x ∧ fits (ty i) (.int x) = true := by
    rcases hft i hi with ⟨a1, a2⟩ | ⟨a1, a2⟩ | ⟨a1, a2⟩
    · rw [a2]; exact ⟨rfl, rfl⟩
    · rw [a2]
      rcases hv with v1 | ⟨-, v1 | v1⟩
      · rw [v1] at a1; cases a1
      · subst v1; exact ⟨rfl, rfl⟩
      · subst v1; exact ⟨rfl, rfl⟩
    · rcases hv with v1 | ⟨v1, -⟩
      · rw [v1] at a1; cases a1
      · rw [v1] at a1; cases a1
  have h6 := u_store hfc hkC hkind hlay hi2 (hty i hi) hnf.1 hnf.2
  refine W.putK hx hb (f := fd) (v := .int x) (a := b + q) (rest := st.map (tw_v b z)) ⟨hown, hlink, ⟨_, _, _, hi2⟩, hst⟩ (by rw [q2]; exact h6) q1 q3 (by rw [hsl]; exact k2_hasslot (q4 i hi)) rfl rfl hd fun H' e1 e2 e3 => ?_
  rw [hsl] at e1 ⊢
  refine kk H' _ la g1 g2 (hW.put (k := (ci, n, rs)) rfl (fun _ _ => rfl) (fun j hj => tw_up_off hj) hq ?_ e2 e3) (hS.put e2 e3 (Nat.le_add_right b q)) hh
  rw [tw_e_obj h100, ← tw_fs_set hn hv]
  exact ⟨_, hc, t_OB.to (V := updV (vp_V (tw_fs ft b q (ci, n, rs) f)) i (.int x)) ⟨_, e1, q2, q3, t_set q4 hap hi _⟩ (fun j _ => vp_updV_set (by rw [tw_fs_len]; exact hn) _ j)⟩
theorem tg_putFi (hx : p.tables.exec = Jvm.exec) (hb : c.code = cc) (hts : ∀ w ∈ Ts, w.before args s = true) (hown : s.vm.findClass own = some m.cls) (hK : va_K D cl tys s) (hc : cl[ci]? = some r) (hC : tw_C ft Ts ci r ty) (hi : i < r.2.2) (hlink : (Cond.fieldLink own idx (r.2.1 i).1 (r.2.1 i).2.1 (r.2.1 i).2.2.1).before args s = true) (hd : decode cc pc = .ok (.putfield idx, 3)) (hfin : (r.2.1 i).2.2.2 = true) (hin2 : meth.name = "<init>") (hdecl : (r.2.1 i).1 = own) {x : Int32} (hq : L[q]? = some (ci, n, rs)) (hn : i < n) (hv : ft ci i = 0 ∨ (ft ci i = 1 ∧ (x = 0 ∨ x = 1)))
    (kk : tw_G p l e R s m args below meth c Q cl ft D cA b z nL n0 s0 fl (pc + 3) ls st L (tw_up f q i x)) : tw_G p l e R s m args below meth c Q cl ft D cA b z nL n0 s0 fl pc ls (tw_I x :: tw_R q :: st) L f := by
  intro H locs la g1 g2 hW hS hh
  obtain ⟨C, T, N⟩ := r
  obtain ⟨hin, hty, hnm, h100, hft⟩ := hC
  have hap := va_apart (own := own) hts hin ty hty hnm hK hc
  have h0 := hW.at hq
  rw [tw_e_obj h100] at h0
  obtain ⟨r', h1, cell, q1, q2, q3, q4⟩ := h0
  have hr : r' = (C, T, N) := Option.some.inj (h1.symm.trans hc)
  subst hr
  obtain ⟨hSl, hfc, kC, hkC, hkind⟩ := hK.1 ci _ hc
  obtain ⟨cf, kf, fi, fd, hi2, hsl⟩ := hSl i hi
  have hlay := hts _ (hin _ (u_in_lay hi))
  unfold u_lay at hlay
  rw [if_pos hfin] at hlay
  have hst := (u_facts hfc hkC (u_lays hts hin hi) hi2).1
  have hcf : m.cls = cf := by
    obtain ⟨_, _, c', _, _, _, -, -, hf', -, -, -, hown2, -⟩ := Cond.laysFinal_spec hlay
    have e1 : c' = cf := by have := hi2.symm.trans hf'; simp at this; exact this.1.symm
    have hdecl' : (T i).1 = own := hdecl
    rw [hdecl'] at hown2
    rw [← e1]; exact Option.some.inj (hown.symm.trans hown2)
  have hnf : narrow (ty i) (.int x) = .int x ∧ fits (ty i) (.int x) = true := by
    rcases hft i hi with ⟨a1, a2⟩ | ⟨a1, a2⟩ | ⟨a1, a2⟩
    · rw [a2]; exact ⟨rfl, rfl⟩
    · rw [a2]
      rcases hv with v1 | ⟨-, v1 | v1⟩
      · rw [v1] at a1; cases a1
      · subst v1; exact ⟨rfl, rfl⟩
      · subst v1; exact ⟨rfl, rfl⟩
    · rcases hv with v1 | ⟨v1, -⟩
      · rw [v1] at a1; cases a1
      · rw [v1] at a1; cases a1
  have h6 := u_fits hfc hkC hkind (Or.inr hlay) hi2 (hty i hi) hnf.1 hnf.2
  refine W.putFinK hx hb hown hlink hi2 hst hcf hin2 (v := .int x) (a := b + q) (rest := st.map (tw_v b z)) (by rw [q2]; exact h6) q1 q3 (by rw [hsl]; exact k2_hasslot (q4 i hi)) rfl rfl hd fun H' e1 e2 e3 => ?_
  rw [hsl] at e1 ⊢
  refine kk H' _ la g1 g2 (hW.put (k := (ci, n, rs)) rfl (fun _ _ => rfl) (fun j hj => tw_up_off hj) hq ?_ e2 e3) (hS.put e2 e3 (Nat.le_add_right b q)) hh
  rw [tw_e_obj h100, ← tw_fs_set hn hv]
  exact ⟨_, hc, t_OB.to (V := updV (vp_V (tw_fs ft b q (ci, n, rs) f)) i (.int x)) ⟨_, e1, q2, q3, t_set q4 hap hi _⟩ (fun j _ => vp_updV_set (by rw [tw_fs_len]; exact hn) _ j)⟩
theorem tg_putFr (hx : p.tables.exec = Jvm.exec) (hb : c.code = cc) (hts : ∀ w ∈ Ts, w.before args s = true) (hown : s.vm.findClass own = some m.cls) (hK : va_K D cl tys s) (hc : cl[ci]? = some r) (hC : tw_C ft Ts ci r ty) (hi : i < r.2.2) (hlink : (Cond.fieldLink own idx (r.2.1 i).1 (r.2.1 i).2.1 (r.2.1 i).2.2.1).before args s = true) (hd : decode cc pc = .ok (.putfield idx, 3)) (hfin : (r.2.1 i).2.2.2 = true) (hin2 : meth.name = "<init>") (hdecl : (r.2.1 i).1 = own) {q2 : Nat} (hq : L[q]? = some (ci, n, rs)) (hn : i < n) (hrs : i < rs.length) (hv : ft ci i = 2)
    (kk : tw_G p l e R s m args below meth c Q cl ft D cA b z nL n0 s0 fl (pc + 3) ls st (L.set q (ci, n, rs.set i (some q2))) f) : tw_G p l e R s m args below meth c Q cl ft D cA b z nL n0 s0 fl pc ls (tw_R q2 :: tw_R q :: st) L f := by
  intro H locs la g1 g2 hW hS hh
  obtain ⟨C, T, N⟩ := r
  obtain ⟨hin, hty, hnm, h100, hft⟩ := hC
  have hap := va_apart (own := own) hts hin ty hty hnm hK hc
  have h0 := hW.at hq
  rw [tw_e_obj h100] at h0
  obtain ⟨r', h1, cell, q1, q2', q3, q4⟩ := h0
  have hr : r' = (C, T, N) := Option.some.inj (h1.symm.trans hc)
  subst hr
  obtain ⟨hSl, hfc, kC, hkC, hkind⟩ := hK.1 ci _ hc
  obtain ⟨cf, kf, fi, fd, hi2, hsl⟩ := hSl i hi
  have hlay := hts _ (hin _ (u_in_lay hi))
  unfold u_lay at hlay
  rw [if_pos hfin] at hlay
  have hst := (u_facts hfc hkC (u_lays hts hin hi) hi2).1
  have hcf : m.cls = cf := by
    obtain ⟨_, _, c', _, _, _, -, -, hf', -, -, -, hown2, -⟩ := Cond.laysFinal_spec hlay
    have e1 : c' = cf := by have := hi2.symm.trans hf'; simp at this; exact this.1.symm
    have hdecl' : (T i).1 = own := hdecl
    rw [hdecl'] at hown2
    rw [← e1]; exact Option.some.inj (hown.symm.trans hown2)
  have hnf : narrow (ty i) (.ref (b + q2)) = .ref (b + q2) ∧ fits (ty i) (.ref (b + q2)) = true := by
    rcases hft i hi with ⟨a1, a2⟩ | ⟨a1, a2⟩ | ⟨a1, ⟨C', a2⟩ | ⟨t, a2⟩⟩
    · rw [hv] at a1; cases a1
    · rw [hv] at a1; cases a1
    · rw [a2]; exact ⟨rfl, rfl⟩
    · rw [a2]; exact ⟨rfl, rfl⟩
  have h6 := u_fits hfc hkC hkind (Or.inr hlay) hi2 (hty i hi) hnf.1 hnf.2
  have hlt : q < L.length := (List.getElem?_eq_some_iff.mp hq).1
  refine W.putFinK hx hb hown hlink hi2 hst hcf hin2 (v := .ref (b + q2)) (a := b + q) (rest := st.map (tw_v b z)) (by rw [q2']; exact h6) q1 q3 (by rw [hsl]; exact k2_hasslot (q4 i hi)) rfl rfl hd fun H' e1 e2 e3 => ?_
  rw [hsl] at e1 ⊢
  have hsl2 : tw_sl (L.set q (ci, n, rs.set i (some q2))) = tw_sl L := by
    unfold tw_sl
    rw [List.map_set]
    congr 1
    refine List.ext_getElem? (fun j => ?_)
    by_cases hj : q = j
    · subst hj
      rw [List.getElem?_set_self (by rw [List.length_map]; exact hlt), List.getElem?_map, hq]; rfl
    · rw [List.getElem?_set_ne hj]
  have hlen : (L.set q (ci, n, rs.set i (some q2))).length = L.length := List.length_set
  have h9 := kk H' _ la (by rw [hlen]; exact g1) (by rw [hsl2]; exact g2) (hW.put (k := (ci, n, rs.set i (some q2))) hlen (fun j hj => List.getElem?_set_ne (fun g => hj g.symm)) (fun j hj => rfl) (List.getElem?_set_self hlt) ?_ e2 e3) (hS.put (k := D.2 ci i) e2 e3 (Nat.le_add_right b q)) hh
  · rw [hlen, hsl2] at h9
    exact h9
  · rw [tw_e_obj h100, ← tw_fs_setR hn hrs hv]
    exact ⟨_, hc, t_OB.to (V := updV (vp_V (tw_fs ft b q (ci, n, rs) f)) i (.ref (b + q2))) ⟨_, e1, q2', q3, t_set q4 hap hi _⟩ (fun j _ => vp_updV_set (by rw [tw_fs_len]; exact hn) _ j)⟩
theorem tg_iaload (hx : p.tables.exec = Jvm.exec) (hb : c.code = cc) (hK : va_K D cl tys s) {t0 : Nat} (ht : tys[t0]? = some (cA 100, .int)) (hd : decode cc pc = .ok (.iaload, 1)) {x : Int32} (hq : L[q]? = some (100, n, rs)) (hin : vp_in x n)
    (kk : tw_G p l e R s m args below meth c Q cl ft D cA b z nL n0 s0 fl (pc + 1) ls (tw_I (f q x.toNatClampNeg) :: st) L f) : tw_G p l e R s m args below meth c Q cl ft D cA b z nL n0 s0 fl pc ls (tw_I x :: tw_R q :: st) L f :=
  fun H locs la g1 g2 hW hS hh => va_iald hx hb hK hW.1 q t0 (tw_ws_at hq) ht hin hd (kk H locs la g1 g2 hW hS hh)
theorem tg_baload (hx : p.tables.exec = Jvm.exec) (hb : c.code = cc) (hK : va_K D cl tys s) {t0 : Nat} (ht : tys[t0]? = some (cA 101, .boolean)) (hd : decode cc pc = .ok (.baload, 1)) {x : Int32} (hq : L[q]? = some (101, n, rs)) (hin : vp_in x n)
    (kk : tw_G p l e R s m args below meth c Q cl ft D cA b z nL n0 s0 fl (pc + 1) ls (tw_I (tw_nz (f q x.toNatClampNeg)) :: st) L f) : tw_G p l e R s m args below meth c Q cl ft D cA b z nL n0 s0 fl pc ls (tw_I x :: tw_R q :: st) L f :=
  fun H locs la g1 g2 hW hS hh => va_zald hx hb hK hW.1 q t0 (tw_ws_at hq) ht hin hd (kk H locs la g1 g2 hW hS hh)
theorem tg_laload (hx : p.tables.exec = Jvm.exec) (hb : c.code = cc) (hK : va_K D cl tys s) {t0 : Nat} (ht : tys[t0]? = some (cA 102, .long)) (hd : decode cc pc = .ok (.laload, 1)) {x : Int32} (hq : L[q]? = some (102, n, rs)) (hin : vp_in x n)
    (kk : tw_G p l e R s m args below meth c Q cl ft D cA b z nL n0 s0 fl (pc + 1) ls (tw_J (f q x.toNatClampNeg) :: st) L f) : tw_G p l e R s m args below meth c Q cl ft D cA b z nL n0 s0 fl pc ls (tw_I x :: tw_R q :: st) L f :=
  fun H locs la g1 g2 hW hS hh => va_lald hx hb hK hW.1 q t0 (tw_ws_at hq) ht hin hd (kk H locs la g1 g2 hW hS hh)
theorem tg_iastore (hx : p.tables.exec = Jvm.exec) (hb : c.code = cc) (hK : va_K D cl tys s) {t0 : Nat} (ht : tys[t0]? = some (cA 100, .int)) (hd : decode cc pc = .ok (.iastore, 1)) {x y : Int32} (hq : L[q]? = some (100, n, rs)) (hin : vp_in x n)
    (kk : tw_G p l e R s m args below meth c Q cl ft D cA b z nL n0 s0 fl (pc + 1) ls st L (tw_up f q x.toNatClampNeg y)) : tw_G p l e R s m args below meth c Q cl ft D cA b z nL n0 s0 fl pc ls (tw_I y :: tw_I x :: tw_R q :: st) L f := by
  intro H locs la g1 g2 hW hS hh
  have h0 : H[b + q]? = some (arrV (cA 100) n (fun j => .int (f q j))) := hW.at hq
  refine W.iast hx hb (a := b + q) (rest := st.map (tw_v b z)) h0 ((hK.2 t0 _ ht).1 n (fun j => .int (f q j))) (fun g => by cases g) (by rw [arrV_size]; exact hin) rfl rfl hd fun H1 e1 e2 e3 => ?_
  refine kk H1 _ la g1 g2 (hW.put (k := (100, n, rs)) rfl (fun _ _ => rfl) (fun j hj => tw_up_off hj) hq ?_ e2 e3) (hS.put e2 e3 (Nat.le_add_right b q)) hh
  show H1[b + q]? = some (arrV (cA 100) n (fun j => .int (tw_up f q x.toNatClampNeg y q j)))
  rw [e1, arrV_store, tw_up_on]
  congr 2
  funext j
  by_cases hj : j = x.toNatClampNeg
  · subst hj
    simp [updV, upd]
  · simp [updV, upd, hj]
theorem tg_bastore (hx : p.tables.exec = Jvm.exec) (hb : c.code = cc) (hK : va_K D cl tys s) {t0 : Nat} (ht : tys[t0]? = some (cA 101, .boolean)) (hd : decode cc pc = .ok (.bastore, 1)) {x y : Int32} (hq : L[q]? = some (101, n, rs)) (hin : vp_in x n) (hy : y = 0 ∨ y = 1)
    (kk : tw_G p l e R s m args below meth c Q cl ft D cA b z nL n0 s0 fl (pc + 1) ls st L (tw_up f q x.toNatClampNeg y)) : tw_G p l e R s m args below meth c Q cl ft D cA b z nL n0 s0 fl pc ls (tw_I y :: tw_I x :: tw_R q :: st) L f := by
  intro H locs la g1 g2 hW hS hh
  have h0 : H[b + q]? = some (arrV (cA 101) n (fun j => .int (tw_nz (f q j)))) := hW.at hq
  refine W.zast hx hb (a := b + q) (rest := st.map (tw_v b z)) h0 ((hK.2 t0 _ ht).1 n (fun j => .int (tw_nz (f q j)))) (fun g => by cases g) (by rw [arrV_size]; exact hin) rfl rfl hd fun H1 e1 e2 e3 => ?_
  refine kk H1 _ la g1 g2 (hW.put (k := (101, n, rs)) rfl (fun _ _ => rfl) (fun j hj => tw_up_off hj) hq ?_ e2 e3) (hS.put e2 e3 (Nat.le_add_right b q)) hh
  show H1[b + q]? = some (arrV (cA 101) n (fun j => .int (tw_nz (tw_up f q x.toNatClampNeg y q j))))
  have hn : narrow .boolean (.int y) = .int (tw_nz y) := by
    rcases hy with rfl | rfl
    · rfl
    · rfl
  rw [e1, arrV_store, hn, tw_up_on]
  congr 2
  funext j
  by_cases hj : j = x.toNatClampNeg
  · subst hj
    simp [updV, upd]
  · simp [updV, upd, hj]
/-- a fresh cell's ints are 0 -/
def tw_z (f : tw_S) (q : Nat) : tw_S := fun q' i' => if q' = q then 0 else f q' i'
theorem tw_z_off {f : tw_S} {q j : Nat} (h : j ≠ q) : tw_z f q j = f j := by
  funext w
  unfold tw_z
  rw [if_neg h]
theorem tw_z_on {f : tw_S} {q : Nat} : tw_z f q q = fun _ => 0 := by
  funext w
  unfold tw_z
  rw [if_pos rfl]
theorem tw_sl_push {L : tw_L} {k : tw_K} : tw_sl (L ++ [k]) = tw_sl L + k.2.1 := by
  unfold tw_sl
  rw [List.map_append, List.sum_append]
  simp
theorem tg_new (hx : p.tables.exec = Jvm.exec) (hb : c.code = cc) (hts : ∀ w ∈ Ts, w.before args s = true) (hown : s.vm.findClass own = some m.cls) (hK : va_K D cl tys s) (hc : cl[ci]? = some r) (hC : tw_C ft Ts ci r ty) (hlink : (Cond.classLink own idx r.1).before args s = true) (hinst : (Cond.instantiable r.1 r.2.2).before args s = true) (hini : (Cond.initialized r.1).before args s = true) (hd : decode cc pc = .ok (.new idx, 3)) (hb0 : b ≤ s.heap.size) (hcells : L.length + 1 - n0 ≤ R.cells) (hslots : tw_sl L + r.2.2 - s0 ≤ R.slots)
    (kk : tw_G p l e R s m args below meth c Q cl ft D cA b z nL n0 s0 true (pc + 3) ls (tw_R L.length :: st) (L ++ [(ci, r.2.2, List.replicate r.2.2 none)]) (tw_z f L.length)) : tw_G p l e R s m args below meth c Q cl ft D cA b z nL n0 s0 true pc ls st L f := by
  intro H locs la g1 g2 hW hS hh
  obtain ⟨C, T, N⟩ := r
  obtain ⟨hin, hty, hnm, h100, hft⟩ := hC
  have hKn := hK.1 ci _ hc
  have hsz := hW.2.2 rfl
  refine W.newcK hx hb hown hlink hinst hini (g := F0 m pc la (st.map (tw_v b z))) rfl hd (by show L.length - n0 + 1 ≤ _; omega) (by show tw_sl L - s0 + N ≤ _; have h9 : tw_sl L + N - s0 ≤ R.slots := hslots; omega) hKn.2.1 hsz fun H1 kC hkC e1 z1 o1 => ?_
  have hpush : tw_W cl ft D cA b true (L ++ [(ci, N, List.replicate N none)]) (tw_z f L.length) H1 := by
    refine hW.push (fun j hj => tw_z_off (by omega)) ?_ (by rw [z1, hsz]) (fun x hx => o1 x (by omega))
    rw [tw_e_obj h100]
    refine ⟨_, hc, (u_born ty hts hin hKn hkC e1 hty).to (fun j hj => ?_)⟩
    show defaultValue (ty j) = (tw_fs ft b L.length (ci, N, List.replicate N none) (tw_z f L.length)).getD j .null
    rw [List.getD_eq_getElem?_getD, tw_fs_at (k := (ci, N, List.replicate N none)) hj, tw_z_on]
    show defaultValue (ty j) = tw_fv (ft ci j) b ((List.replicate N none).getD j none) 0
    have h2 : (List.replicate N (none : Option Nat)).getD j none = none := by
      rw [List.getD_eq_getElem?_getD, List.getElem?_replicate]
      split
      · rfl
      · rfl
    rw [h2]
    rcases hft j hj with ⟨a1, a2⟩ | ⟨a1, a2⟩ | ⟨a1, ⟨C', a2⟩ | ⟨t, a2⟩⟩
    · rw [a1, a2]; rfl
    · rw [a1, a2]; rfl
    · rw [a1, a2]; rfl
    · rw [a1, a2]; rfl
  have h9 := kk H1 locs la (by rw [List.length_append]; omega) (by rw [tw_sl_push]; omega) hpush ⟨Nat.le_trans hS.1 (by omega), fun x h1 h2 => (o1 x (by have := hS.1; omega)).trans (hS.2.1 x h1 h2), hS.2.2⟩ hh
  rw [tw_sl_push, List.length_append] at h9
  have a1 : L.length + [(ci, N, List.replicate N (none : Option Nat))].length - n0 = L.length - n0 + 1 := by
    show L.length + 1 - n0 = _
    omega
  have a2 : tw_sl L + N - s0 = tw_sl L - s0 + N := by omega
  rw [a1] at h9
  show W p l e R s m args below meth c H1 locs (L.length - n0 + 1) (tw_sl L - s0 + N) Q (F0 m (pc + 3) la (.ref (b + L.length) :: st.map (tw_v b z)))
  rw [← a2]
  exact h9
def tw_ty (a : Nat) : FieldType := if a = 100 then .int else if a = 101 then .boolean else .long
def tw_at (a : Nat) : ArrayType := if a = 100 then .int else if a = 101 then .boolean else .long
theorem tg_newa (hx : p.tables.exec = Jvm.exec) (hb : c.code = cc) {a t0 : Nat} (ha : a = 100 ∨ a = 101 ∨ a = 102) (harr : (Cond.arrayClass (tw_ty a)).before args s = true) (hK : va_K D cl tys s) (ht : tys[t0]? = some (cA a, tw_ty a)) (hd : decode cc pc = .ok (.newarray (tw_at a), 2)) {x : Int32} (hxn : x = nI n) (hn : n < 4096) (hcells : L.length + 1 - n0 ≤ R.cells) (hslots : tw_sl L + n - s0 ≤ R.slots)
    (kk : tw_G p l e R s m args below meth c Q cl ft D cA b z nL n0 s0 true (pc + 2) ls (tw_R L.length :: st) (L ++ [(a, n, [])]) (tw_z f L.length)) : tw_G p l e R s m args below meth c Q cl ft D cA b z nL n0 s0 true pc ls (tw_I x :: st) L f := by
  intro H locs la g1 g2 hW hS hh
  subst hxn
  have hsz := hW.2.2 rfl
  have hty : newarray.typeOf (tw_at a) = tw_ty a := by rcases ha with rfl | rfl | rfl <;> rfl
  have hby : componentBytes (tw_ty a) ≤ 8 := by rcases ha with rfl | rfl | rfl <;> decide
  have hnm := (hK.2 t0 _ ht).2
  refine va_newaK hx hb (by rw [hty]; exact harr) (g := F0 m pc la ((tw_I (nI n) :: st).map (tw_v b z))) rfl hd (n := nI n) (rest := st.map (tw_v b z)) rfl (nI_pos (by omega)) (nI_clamp (by omega)) (by rw [hty]; exact Nat.le_trans (Nat.mul_le_mul (Nat.le_of_lt hn) hby) (by decide)) (by show L.length - n0 + 1 ≤ _; omega) (by show tw_sl L - s0 + n ≤ _; omega) hsz fun H1 cB e1 z1 o1 hAr hNm => ?_
  rw [hty] at e1 hNm hAr
  have hcB : cB = cA a := by
    have h2 : s.vm.findClass ("[" ++ (tw_ty a).toString) = some (cA a) := by
      rcases ha with rfl | rfl | rfl
      · exact hnm
      · exact hnm
      · exact hnm
    exact Option.some.inj (hNm.symm.trans h2)
  subst hcB
  have hpush : tw_W cl ft D cA b true (L ++ [(a, n, [])]) (tw_z f L.length) H1 := by
    refine hW.push (fun j hj => tw_z_off (by omega)) ?_ (by rw [z1, hsz]) (fun x hx => o1 x (by omega))
    rcases ha with rfl | rfl | rfl
    · show H1[b + L.length]? = some (arrV (cA 100) n (fun j => .int (tw_z f L.length L.length j)))
      rw [e1, tw_z_on]; rfl
    · show H1[b + L.length]? = some (arrV (cA 101) n (fun j => .int (tw_nz (tw_z f L.length L.length j))))
      rw [e1, tw_z_on]; rfl
    · show H1[b + L.length]? = some (arrV (cA 102) n (fun j => .long (tw_z f L.length L.length j).toInt64))
      rw [e1, tw_z_on]; rfl
  have h9 := kk H1 locs la (by rw [List.length_append]; omega) (by rw [tw_sl_push]; omega) hpush ⟨Nat.le_trans hS.1 (by omega), fun x h1 h2 => (o1 x (by have := hS.1; omega)).trans (hS.2.1 x h1 h2), hS.2.2⟩ hh
  rw [tw_sl_push, List.length_append] at h9
  have a1 : L.length + [(a, n, ([] : List (Option Nat)))].length - n0 = L.length - n0 + 1 := by
    show L.length + 1 - n0 = _
    omega
  have a2 : tw_sl L + n - s0 = tw_sl L - s0 + n := by omega
  rw [a1] at h9
  show W p l e R s m args below meth c H1 locs (L.length - n0 + 1) (tw_sl L - s0 + n) Q (F0 m (pc + 2) la (.ref (b + L.length) :: st.map (tw_v b z)))
  rw [← a2]
  exact h9
end HEAP
end
section
/-! Ends and calls. -/
def tw_Qc (cl : List vw_C) (ft : Nat → Nat → Nat) (D : va_G) (cA : Nat → ClassId) (b z : Nat) (fl : Bool) (L : tw_L) (P : tw_S → Option tw_A → Prop) : Array Value → State → Outcome → State → Prop := fun _ st oc t =>
  (∃ (f : tw_S) (r : Option tw_A), oc = .returned (r.map (tw_v b z)) ∧ P f r ∧ tw_W cl ft D cA b fl L f t.heap) ∧ va_F (fun x => b ≤ x) st t
abbrev tw_N : Type := String × Nat × MethodName × String
def tw_Pc (cl : List vw_C) (ft : Nat → Nat → Nat) (D : va_G) (cA : Nat → ClassId) (tys : List (ClassId × FieldType)) (Nm : List tw_N) (b z : Nat) (fl : Bool) (As : List tw_A) (L : tw_L) (f : tw_S) : Array Value → State → Prop := fun v U =>
  v = (As.map (tw_v b z)).toArray ∧ tw_W cl ft D cA b fl L f U.heap ∧ va_K D cl tys U ∧ ∀ x ∈ Nm, va_Nw (.methodLinkNest x.1 x.2.1 x.2.2.1 x.2.2.2) U
theorem tw_blind {cl : List vw_C} {ft : Nat → Nat → Nat} {D : va_G} {cA : Nat → ClassId} {tys : List (ClassId × FieldType)} {Nm : List tw_N} {b z : Nat} {fl : Bool} {As : List tw_A} {L : tw_L} {f : tw_S} : FrameBlind (tw_Pc cl ft D cA tys Nm b z fl As L f) :=
  fun a U g mk h => ⟨h.1, h.2.1, va_K.moved (u := U) (U := U.calling g mk a) (Vm.Alike.refl U.vm) h.2.2.1, fun x hx => va_Nw.same (u := U) (U := U.calling g mk a) rfl rfl (h.2.2.2 x hx)⟩
section CALLS
variable {p : Program} {l : Launch} {e : Env} {R : Room} {s : State} {m : MethodId} {args : Array Value} {below : List Frame} {meth : Method} {c : Code} {Q : State → Prop} {cl : List vw_C} {ft : Nat → Nat → Nat} {D : va_G} {cA : Nat → ClassId} {b z nL n0 s0 : Nat} {fl : Bool} {cc : ByteArray} {pc : Nat} {ls : List (Option tw_A)} {st : List tw_A} {L : tw_L} {f : tw_S} {tys : List (ClassId × FieldType)} {Nm : List tw_N} {P : tw_S → Option tw_A → Prop}
theorem tg_iret (hx : p.tables.exec = Jvm.exec) (hb : c.code = cc) (hr : meth.sig.returnType = some .int) (hlocks : meth.locks = false) {x : Int32} (hd : decode cc pc = .ok (.ireturn, 1)) (hP : P f (some (tw_I x))) :
    tw_G p l e R s m args below meth c (MQ below (tw_Qc cl ft D cA b z fl L P) args s (L.length - n0) (tw_sl L - s0) (fun x => b ≤ x)) cl ft D cA b z nL n0 s0 fl pc ls [tw_I x] L f :=
  fun _ _ _ _ _ hW hS _ => W.iret (v := x) hx hb hr (fun t ht _ => ⟨⟨f, some (tw_I x), rfl, hP, by rw [ht]; exact hW⟩, hS.F ht⟩) hS.2.2 hd hlocks
theorem tg_zret (hx : p.tables.exec = Jvm.exec) (hb : c.code = cc) (hr : meth.sig.returnType = some .boolean) (hlocks : meth.locks = false) {x : Int32} (hd : decode cc pc = .ok (.ireturn, 1)) (h01 : x = 0 ∨ x = 1) (hP : P f (some (tw_I x))) :
    tw_G p l e R s m args below meth c (MQ below (tw_Qc cl ft D cA b z fl L P) args s (L.length - n0) (tw_sl L - s0) (fun x => b ≤ x)) cl ft D cA b z nL n0 s0 fl pc ls [tw_I x] L f :=
  fun _ _ _ _ _ hW hS _ => W.zret (v := x) hx hb hr (by rcases h01 with rfl | rfl <;> rfl) (fun t ht _ => ⟨⟨f, some (tw_I x), rfl, hP, by rw [ht]; exact hW⟩, hS.F ht⟩) hS.2.2 hd hlocks
theorem tg_vret (hx : p.tables.exec = Jvm.exec) (hb : c.code = cc) (hr : meth.sig.returnType = none) (hlocks : meth.locks = false) (hd : decode cc pc = .ok (.return_, 1)) (hP : P f none) :
    tw_G p l e R s m args below meth c (MQ below (tw_Qc cl ft D cA b z fl L P) args s (L.length - n0) (tw_sl L - s0) (fun x => b ≤ x)) cl ft D cA b z nL n0 s0 fl pc ls [] L f :=
  fun _ _ _ _ _ hW hS _ => W.vret hx hb hr (fun t ht _ => ⟨⟨f, none, rfl, hP, by rw [ht]; exact hW⟩, hS.F ht⟩) hS.2.2 hd hlocks
theorem tg_aret (hx : p.tables.exec = Jvm.exec) (hb : c.code = cc) {rt : FieldType} (hr : meth.sig.returnType = some rt) (hrt : (∃ n, rt = .object n) ∨ ∃ t, rt = .array t) (hlocks : meth.locks = false) {q : Nat} (hd : decode cc pc = .ok (.areturn, 1)) (hP : P f (some (tw_R q))) :
    tw_G p l e R s m args below meth c (MQ below (tw_Qc cl ft D cA b z fl L P) args s (L.length - n0) (tw_sl L - s0) (fun x => b ≤ x)) cl ft D cA b z nL n0 s0 fl pc ls [tw_R q] L f :=
  fun _ _ _ _ _ hW hS _ => W.aret (v := .ref (b + q)) hx hb hr hrt (Or.inr ⟨_, rfl⟩) (fun t ht _ => ⟨⟨f, some (tw_R q), rfl, hP, by rw [ht]; exact hW⟩, hS.F ht⟩) hS.2.2 hd hlocks
theorem tw_callW {H : Heap} {H0 : Heap} {locs : List Loc} {cells slots mc ms : Nat} {la : Array Slot} {st0 rest : List Value} {L' : tw_L} {a : Array Value}
    (hr : va_Run p l e R s m args below meth c H locs cells slots mc ms (F0 m pc la st0) rest (tw_Qc cl ft D cA b z fl L' P a) (fun x => b ≤ x)) (hS : va_S (fun x => b ≤ x) H0 H locs)
    (kk : ∀ (f' : tw_S) (r : Option tw_A) (H1 : Heap) (locs1 : List Loc), P f' r → tw_W cl ft D cA b fl L' f' H1 → va_S (fun x => b ≤ x) H0 H1 locs1 → W p l e R s m args below meth c H1 locs1 (cells + mc) (slots + ms) Q (F0 m (pc + 3) la ((r.map (tw_v b z)).toList ++ rest))) : W p l e R s m args below meth c H locs cells slots Q (F0 m pc la st0) := by
  intro T hT X
  obtain ⟨v, st₀, t, T', L2, h0, X', hL, e1, e2, ⟨⟨f', r, hv, hp, hw⟩, hz, hk⟩, stp⟩ := hr T hT X
  cases hv
  rw [h0] at hz hk
  obtain ⟨t2, a1, b1⟩ := kk f' r T'.heap (locs ++ L2) hp (by rw [e1]; exact hw)
    ⟨Nat.le_trans hS.1 (by rw [e1]; exact hz), fun q h1 h2 => by rw [e1, hk q (Nat.lt_of_lt_of_le h1 hS.1) h2]; exact hS.2.1 q h1 h2, fun q hq => by
      rcases List.mem_append.mp hq with h | h
      · exact hS.2.2 q h
      · exact hL q h⟩ T' rfl X'
  exact ⟨t2, stp t2 a1, b1⟩
theorem tg_call {L' : tw_L} {st0 rest : List tw_A} {a : Array Value} (h1 : L.length ≤ L'.length) (h2 : tw_sl L ≤ tw_sl L')
    (hr : ∀ (H : Heap) (locs : List Loc) (la : Array Slot), n0 ≤ L.length → s0 ≤ tw_sl L → tw_W cl ft D cA b fl L f H → la.size = nL → va_Run p l e R s m args below meth c H locs (L.length - n0) (tw_sl L - s0) (L'.length - L.length) (tw_sl L' - tw_sl L) (F0 m pc la (st0.map (tw_v b z))) (rest.map (tw_v b z)) (tw_Qc cl ft D cA b z fl L' P a) (fun x => b ≤ x))
    (kk : ∀ (f' : tw_S) (r : Option tw_A), P f' r → tw_G p l e R s m args below meth c Q cl ft D cA b z nL n0 s0 fl (pc + 3) ls (r.toList ++ rest) L' f') : tw_G p l e R s m args below meth c Q cl ft D cA b z nL n0 s0 fl pc ls st0 L f := by
  intro H locs la g1 g2 hW hS hh
  refine tw_callW (hr H locs la g1 g2 hW hh.1) hS (fun f' r H1 locs1 hP hW1 hS1 => ?_)
  have h9 := kk f' r hP H1 locs1 la (by omega) (by omega) hW1 hS1 hh
  have a1 : L.length - n0 + (L'.length - L.length) = L'.length - n0 := by omega
  have a2 : tw_sl L - s0 + (tw_sl L' - tw_sl L) = tw_sl L' - s0 := by omega
  rw [a1, a2]
  have a3 : ((r.toList ++ rest).map (tw_v b z)) = (r.map (tw_v b z)).toList ++ rest.map (tw_v b z) := by
    rw [List.map_append]
    cases r <;> rfl
  rw [a3] at h9
  exact h9
theorem tw_room {g : JFrame} {rest : List tw_A} (hg : g.monitorRoom = 0) (h : (rest.map tw_ct).sum ≤ 8) : 2 * g.monitorRoom + ((rest.map (tw_v b z)).map fun v => v.category).sum ≤ 8 := by
  rw [List.map_map]
  have h2 : ((fun v : Value => v.category) ∘ tw_v b z) = tw_ct := by
    funext a
    exact tw_ct_v b z a
  rw [h2, hg]
  omega
/-- a method's end at the machine: from a contract to a run, for each kind of call -/
theorem tr_V {Ts ws : List Cond} {own C : String} {y : MethodName} {bytes : ByteArray} {maxL idx n q ci nn : Nat} {ret : Option FieldType} {rm : Room} {L' : tw_L} {As rest : List tw_A} {rs : List (Option Nat)} {r : vw_C} {H : Heap} {locs : List Loc} {la : Array Slot} {mc ms cells slots : Nat}
    (S : CallFix p m c cc nL s args Ts own) (hM : Met l y ws rm (tw_Pc cl ft D cA tys Nm b z fl (tw_R q :: As) L f) (tw_Qc cl ft D cA b z fl L' P) mc ms (fun x => b ≤ x)) (cw : CallW R s args own C idx y bytes maxL ret ws rm mc ms n) (hK : va_K D cl tys s) (hN : ∀ x ∈ Nm, va_Nw (.methodLinkNest x.1 x.2.1 x.2.2.1 x.2.2.2) s)
    (hq : L[q]? = some (ci, nn, rs)) (h100 : ci < 100) (hc : cl[ci]? = some r) (hC : r.1 = C) (hW : tw_W cl ft D cA b fl L f H) (hla : la.size = nL) (hn : As.length = n) (hrest : (rest.map tw_ct).sum ≤ 8) (hd : decode cc pc = .ok (.invokevirtual idx, 3)) (hf : cells + mc ≤ R.cells ∧ slots + ms ≤ R.slots) :
    va_Run p l e R s m args below meth c H locs cells slots mc ms (F0 m pc la ((As.reverse ++ tw_R q :: rest).map (tw_v b z))) (rest.map (tw_v b z)) (tw_Qc cl ft D cA b z fl L' P (Value.ref (b + q) :: As.map (tw_v b z)).toArray) (fun x => b ≤ x) := by
  have he : (tw_ws ft cA b L f)[q]? = some (b + q, .inr (ci, tw_fs ft b q (ci, nn, rs) f)) := by
    rw [tw_ws_at hq, tw_e_obj h100]
  have hrec := va_recv hK hW.1 hc he
  rw [hC] at hrec
  exact va_runV S hM cw ⟨tw_blind, hrec, fun U hU hWm => ⟨rfl, by rw [hU]; exact hW, va_K.moved hWm.alike hK, fun x hx => va_Nw.warmM hWm (hN x hx)⟩⟩ rfl (by rw [List.length_map]; exact hn) hla (by show ((As.reverse ++ tw_R q :: rest).map (tw_v b z)) = _; rw [List.map_append, List.map_reverse]; rfl) (tw_room rfl hrest) hd hf
theorem tr_VN {Ts ws : List Cond} {own C host : String} {y : MethodName} {bytes : ByteArray} {maxL idx n q ci nn : Nat} {ret : Option FieldType} {rm : Room} {L' : tw_L} {As rest : List tw_A} {rs : List (Option Nat)} {r : vw_C} {H : Heap} {locs : List Loc} {la : Array Slot} {mc ms cells slots : Nat}
    (S : CallFix p m c cc nL s args Ts own) (hM : Met l y ws rm (tw_Pc cl ft D cA tys Nm b z fl (tw_R q :: As) L f) (tw_Qc cl ft D cA b z fl L' P) mc ms (fun x => b ≤ x)) (cw : va_CN R s args own idx y host bytes maxL ret ws rm mc ms n ∧ (Cond.instanceMethod y).before args s = true ∧ (Cond.selects C y y).before args s = true) (hK : va_K D cl tys s) (hN : ∀ x ∈ Nm, va_Nw (.methodLinkNest x.1 x.2.1 x.2.2.1 x.2.2.2) s)
    (hq : L[q]? = some (ci, nn, rs)) (h100 : ci < 100) (hc : cl[ci]? = some r) (hC : r.1 = C) (hW : tw_W cl ft D cA b fl L f H) (hla : la.size = nL) (hn : As.length = n) (hrest : (rest.map tw_ct).sum ≤ 8) (hd : decode cc pc = .ok (.invokevirtual idx, 3)) (hf : cells + mc ≤ R.cells ∧ slots + ms ≤ R.slots) :
    va_Run p l e R s m args below meth c H locs cells slots mc ms (F0 m pc la ((As.reverse ++ tw_R q :: rest).map (tw_v b z))) (rest.map (tw_v b z)) (tw_Qc cl ft D cA b z fl L' P (Value.ref (b + q) :: As.map (tw_v b z)).toArray) (fun x => b ≤ x) := by
  have he : (tw_ws ft cA b L f)[q]? = some (b + q, .inr (ci, tw_fs ft b q (ci, nn, rs) f)) := by
    rw [tw_ws_at hq, tw_e_obj h100]
  have hrec := va_recv hK hW.1 hc he
  rw [hC] at hrec
  exact va_runVN S hM cw ⟨tw_blind, hrec, fun U hU hWm => ⟨rfl, by rw [hU]; exact hW, va_K.moved hWm.alike hK, fun x hx => va_Nw.warmM hWm (hN x hx)⟩⟩ rfl (by rw [List.length_map]; exact hn) hla (by show ((As.reverse ++ tw_R q :: rest).map (tw_v b z)) = _; rw [List.map_append, List.map_reverse]; rfl) (tw_room rfl hrest) hd hf
theorem tr_S {Ts ws : List Cond} {own : String} {y : MethodName} {bytes : ByteArray} {maxL idx n : Nat} {ret : Option FieldType} {rm : Room} {L' : tw_L} {As rest : List tw_A} {H : Heap} {locs : List Loc} {la : Array Slot} {mc ms cells slots : Nat}
    (S : CallFix p m c cc nL s args Ts own) (hM : Met l y ws rm (tw_Pc cl ft D cA tys Nm b z fl As L f) (tw_Qc cl ft D cA b z fl L' P) mc ms (fun x => b ≤ x)) (cw : CallB R s args own idx y bytes maxL ret ws rm mc ms n ∧ (Cond.static y).before args s = true) (hK : va_K D cl tys s) (hN : ∀ x ∈ Nm, va_Nw (.methodLinkNest x.1 x.2.1 x.2.2.1 x.2.2.2) s)
    (hW : tw_W cl ft D cA b fl L f H) (hla : la.size = nL) (hn : As.length = n) (hrest : (rest.map tw_ct).sum ≤ 8) (hd : decode cc pc = .ok (.invokestatic idx, 3)) (hf : cells + mc ≤ R.cells ∧ slots + ms ≤ R.slots) :
    va_Run p l e R s m args below meth c H locs cells slots mc ms (F0 m pc la ((As.reverse ++ rest).map (tw_v b z))) (rest.map (tw_v b z)) (tw_Qc cl ft D cA b z fl L' P (As.map (tw_v b z)).toArray) (fun x => b ≤ x) :=
  va_runS S hM cw ⟨tw_blind, fun U hU hWm => ⟨rfl, by rw [hU]; exact hW, va_K.moved hWm.alike hK, fun x hx => va_Nw.warmM hWm (hN x hx)⟩⟩ rfl (by rw [List.length_map]; exact hn) hla (by show ((As.reverse ++ rest).map (tw_v b z)) = _; rw [List.map_append, List.map_reverse]) (tw_room rfl hrest) hd hf
theorem tr_SN {Ts ws : List Cond} {own host : String} {y : MethodName} {bytes : ByteArray} {maxL idx n : Nat} {ret : Option FieldType} {rm : Room} {L' : tw_L} {As rest : List tw_A} {H : Heap} {locs : List Loc} {la : Array Slot} {mc ms cells slots : Nat}
    (S : CallFix p m c cc nL s args Ts own) (hM : Met l y ws rm (tw_Pc cl ft D cA tys Nm b z fl As L f) (tw_Qc cl ft D cA b z fl L' P) mc ms (fun x => b ≤ x)) (cw : va_CN R s args own idx y host bytes maxL ret ws rm mc ms n ∧ (Cond.static y).before args s = true ∧ True) (hK : va_K D cl tys s) (hN : ∀ x ∈ Nm, va_Nw (.methodLinkNest x.1 x.2.1 x.2.2.1 x.2.2.2) s)
    (hW : tw_W cl ft D cA b fl L f H) (hla : la.size = nL) (hn : As.length = n) (hrest : (rest.map tw_ct).sum ≤ 8) (hd : decode cc pc = .ok (.invokestatic idx, 3)) (hf : cells + mc ≤ R.cells ∧ slots + ms ≤ R.slots) :
    va_Run p l e R s m args below meth c H locs cells slots mc ms (F0 m pc la ((As.reverse ++ rest).map (tw_v b z))) (rest.map (tw_v b z)) (tw_Qc cl ft D cA b z fl L' P (As.map (tw_v b z)).toArray) (fun x => b ≤ x) :=
  va_runSN S hM cw ⟨tw_blind, fun U hU hWm => ⟨rfl, by rw [hU]; exact hW, va_K.moved hWm.alike hK, fun x hx => va_Nw.warmM hWm (hN x hx)⟩⟩ rfl (by rw [List.length_map]; exact hn) hla (by show ((As.reverse ++ rest).map (tw_v b z)) = _; rw [List.map_append, List.map_reverse]) (tw_room rfl hrest) hd hf
theorem tr_I {Ts ws : List Cond} {own : String} {y : MethodName} {bytes : ByteArray} {maxL idx n q : Nat} {rm : Room} {L' : tw_L} {As rest : List tw_A} {H : Heap} {locs : List Loc} {la : Array Slot} {mc ms cells slots : Nat}
    (S : CallFix p m c cc nL s args Ts own) (hM : Met l y ws rm (tw_Pc cl ft D cA tys Nm b z fl (tw_R q :: As) L f) (tw_Qc cl ft D cA b z fl L' P) mc ms (fun x => b ≤ x)) (cw : CallB R s args own idx y bytes maxL none ws rm mc ms n ∧ y.name = "<init>" ∧ (Cond.instanceMethod y).before args s = true) (hK : va_K D cl tys s) (hN : ∀ x ∈ Nm, va_Nw (.methodLinkNest x.1 x.2.1 x.2.2.1 x.2.2.2) s)
    (hW : tw_W cl ft D cA b fl L f H) (hla : la.size = nL) (hn : As.length = n) (hrest : (rest.map tw_ct).sum ≤ 8) (hd : decode cc pc = .ok (.invokespecial idx, 3)) (hf : cells + mc ≤ R.cells ∧ slots + ms ≤ R.slots) :
    va_Run p l e R s m args below meth c H locs cells slots mc ms (F0 m pc la ((As.reverse ++ tw_R q :: rest).map (tw_v b z))) (rest.map (tw_v b z)) (tw_Qc cl ft D cA b z fl L' P (Value.ref (b + q) :: As.map (tw_v b z)).toArray) (fun x => b ≤ x) :=
  va_runI S hM cw ⟨tw_blind, fun U hU hWm => ⟨rfl, by rw [hU]; exact hW, va_K.moved hWm.alike hK, fun x hx => va_Nw.warmM hWm (hN x hx)⟩⟩ rfl (by rw [List.length_map]; exact hn) hla (by show ((As.reverse ++ tw_R q :: rest).map (tw_v b z)) = _; rw [List.map_append, List.map_reverse]; rfl) (tw_room rfl hrest) hd hf
theorem tr_IN {Ts ws : List Cond} {own host : String} {y : MethodName} {bytes : ByteArray} {maxL idx n q : Nat} {rm : Room} {L' : tw_L} {As rest : List tw_A} {H : Heap} {locs : List Loc} {la : Array Slot} {mc ms cells slots : Nat}
    (S : CallFix p m c cc nL s args Ts own) (hM : Met l y ws rm (tw_Pc cl ft D cA tys Nm b z fl (tw_R q :: As) L f) (tw_Qc cl ft D cA b z fl L' P) mc ms (fun x => b ≤ x)) (cw : va_CN R s args own idx y host bytes maxL none ws rm mc ms n ∧ y.name = "<init>" ∧ (Cond.instanceMethod y).before args s = true) (hK : va_K D cl tys s) (hN : ∀ x ∈ Nm, va_Nw (.methodLinkNest x.1 x.2.1 x.2.2.1 x.2.2.2) s)
    (hW : tw_W cl ft D cA b fl L f H) (hla : la.size = nL) (hn : As.length = n) (hrest : (rest.map tw_ct).sum ≤ 8) (hd : decode cc pc = .ok (.invokespecial idx, 3)) (hf : cells + mc ≤ R.cells ∧ slots + ms ≤ R.slots) :
    va_Run p l e R s m args below meth c H locs cells slots mc ms (F0 m pc la ((As.reverse ++ tw_R q :: rest).map (tw_v b z))) (rest.map (tw_v b z)) (tw_Qc cl ft D cA b z fl L' P (Value.ref (b + q) :: As.map (tw_v b z)).toArray) (fun x => b ≤ x) :=
  va_runIN S hM cw ⟨tw_blind, fun U hU hWm => ⟨rfl, by rw [hU]; exact hW, va_K.moved hWm.alike hK, fun x hx => va_Nw.warmM hWm (hN x hx)⟩⟩ rfl (by rw [List.length_map]; exact hn) hla (by show ((As.reverse ++ tw_R q :: rest).map (tw_v b z)) = _; rw [List.map_append, List.map_reverse]; rfl) (tw_room rfl hrest) hd hf
end CALLS
end
section
/-! What a method does, said by rules: an instruction of its table at a time (tw_Cl), a method as the least that is closed under them (tw_Sp). -/
abbrev tw_O : Type := Nat × Nat × Nat × Nat × Int × Int32
abbrev tw_T : Type := List (Nat × tw_O)
abbrev tw_MR : Type := Nat × String × MethodName × ByteArray × Nat × Option FieldType × (Nat × Nat × Nat × Nat × Nat) × tw_T
abbrev tw_X : Type := Nat → List (Option tw_A) → List tw_A → tw_L → tw_S → Prop
abbrev tw_SP : Type := Nat → List tw_A → tw_L → tw_S → tw_L → (tw_S → Option tw_A → Prop) → Prop
abbrev tw_SW : Type := List (Int × List Nat × Nat)
def tw_na (mt : List tw_MR) (k : Nat) : Nat := match mt[k]? with
  | some r => r.2.2.2.2.2.2.1.2.2.1
  | none => 0
def tw_tg (lo : Int) (ts : List Nat) (df : Nat) (x : Int32) : Nat := if x.toInt < lo then df else ts.getD (x.toInt - lo).toNat df
def tw_in (n : Nat) (As : List tw_A) : List (Option tw_A) := As.map some ++ List.replicate (n - As.length) none
def tw_r0 (mt : List tw_MR) (sw : tw_SW) (ft : Nat → Nat → Nat) (fl : Bool) (xs : Option (Nat × (Nat → Int32))) (Sp : tw_SP) (Lf : tw_L) (P : tw_S → Option tw_A → Prop) (t : tw_T) (X : tw_X) : Prop := ∀ (ix pc a b c : Nat) (n : Int) (v : Int32) (ls : List (Option tw_A)) (st : List tw_A) (L : tw_L) (f : tw_S) (x : Int32), t[ix]? = some (pc, 0, a, b, c, n, v) → ls[a]? = some (some (tw_I x)) → X (ix + 1) ls (tw_I x :: st) L f → X ix ls st L f
def tw_r1 (mt : List tw_MR) (sw : tw_SW) (ft : Nat → Nat → Nat) (fl : Bool) (xs : Option (Nat × (Nat → Int32))) (Sp : tw_SP) (Lf : tw_L) (P : tw_S → Option tw_A → Prop) (t : tw_T) (X : tw_X) : Prop := ∀ (ix pc a b c : Nat) (n : Int) (v : Int32) (ls : List (Option tw_A)) (st : List tw_A) (L : tw_L) (f : tw_S) (x : Int32), t[ix]? = some (pc, 1, a, b, c, n, v) → ls[a]? = some (some (tw_I x)) → X (ix + 1) ls (tw_I x :: st) L f → X ix ls st L f
def tw_r2 (mt : List tw_MR) (sw : tw_SW) (ft : Nat → Nat → Nat) (fl : Bool) (xs : Option (Nat × (Nat → Int32))) (Sp : tw_SP) (Lf : tw_L) (P : tw_S → Option tw_A → Prop) (t : tw_T) (X : tw_X) : Prop := ∀ (ix pc a b c : Nat) (n : Int) (v : Int32) (ls : List (Option tw_A)) (st : List tw_A) (L : tw_L) (f : tw_S) (q : Nat), t[ix]? = some (pc, 2, a, b, c, n, v) → ls[a]? = some (some (tw_R q)) → X (ix + 1) ls (tw_R q :: st) L f → X ix ls st L f
def tw_r3 (mt : List tw_MR) (sw : tw_SW) (ft : Nat → Nat → Nat) (fl : Bool) (xs : Option (Nat × (Nat → Int32))) (Sp : tw_SP) (Lf : tw_L) (P : tw_S → Option tw_A → Prop) (t : tw_T) (X : tw_X) : Prop := ∀ (ix pc a b c : Nat) (n : Int) (v : Int32) (ls : List (Option tw_A)) (st : List tw_A) (L : tw_L) (f : tw_S) (q : Nat), t[ix]? = some (pc, 3, a, b, c, n, v) → ls[a]? = some (some (tw_R q)) → X (ix + 1) ls (tw_R q :: st) L f → X ix ls st L f
def tw_r4 (mt : List tw_MR) (sw : tw_SW) (ft : Nat → Nat → Nat) (fl : Bool) (xs : Option (Nat × (Nat → Int32))) (Sp : tw_SP) (Lf : tw_L) (P : tw_S → Option tw_A → Prop) (t : tw_T) (X : tw_X) : Prop := ∀ (ix pc a b c : Nat) (n : Int) (v : Int32) (ls : List (Option tw_A)) (st : List tw_A) (L : tw_L) (f : tw_S) , t[ix]? = some (pc, 4, a, b, c, n, v) → X (ix + 1) ls (tw_I v :: st) L f → X ix ls st L f
def tw_r5 (mt : List tw_MR) (sw : tw_SW) (ft : Nat → Nat → Nat) (fl : Bool) (xs : Option (Nat × (Nat → Int32))) (Sp : tw_SP) (Lf : tw_L) (P : tw_S → Option tw_A → Prop) (t : tw_T) (X : tw_X) : Prop := ∀ (ix pc a b c : Nat) (n : Int) (v : Int32) (ls : List (Option tw_A)) (st : List tw_A) (L : tw_L) (f : tw_S) , t[ix]? = some (pc, 5, a, b, c, n, v) → X (ix + 1) ls (tw_I v :: st) L f → X ix ls st L f
def tw_r6 (mt : List tw_MR) (sw : tw_SW) (ft : Nat → Nat → Nat) (fl : Bool) (xs : Option (Nat × (Nat → Int32))) (Sp : tw_SP) (Lf : tw_L) (P : tw_S → Option tw_A → Prop) (t : tw_T) (X : tw_X) : Prop := ∀ (ix pc a b c : Nat) (n : Int) (v : Int32) (ls : List (Option tw_A)) (st : List tw_A) (L : tw_L) (f : tw_S) , t[ix]? = some (pc, 6, a, b, c, n, v) → X (ix + 1) ls (tw_I v :: st) L f → X ix ls st L f
def tw_r7 (mt : List tw_MR) (sw : tw_SW) (ft : Nat → Nat → Nat) (fl : Bool) (xs : Option (Nat × (Nat → Int32))) (Sp : tw_SP) (Lf : tw_L) (P : tw_S → Option tw_A → Prop) (t : tw_T) (X : tw_X) : Prop := ∀ (ix pc a b c : Nat) (n : Int) (v : Int32) (ls : List (Option tw_A)) (st : List tw_A) (L : tw_L) (f : tw_S) (x : Int32), t[ix]? = some (pc, 7, a, b, c, n, v) → a < ls.length → X (ix + 1) (ls.set a (some (tw_I x))) st L f → X ix ls (tw_I x :: st) L f
def tw_r8 (mt : List tw_MR) (sw : tw_SW) (ft : Nat → Nat → Nat) (fl : Bool) (xs : Option (Nat × (Nat → Int32))) (Sp : tw_SP) (Lf : tw_L) (P : tw_S → Option tw_A → Prop) (t : tw_T) (X : tw_X) : Prop := ∀ (ix pc a b c : Nat) (n : Int) (v : Int32) (ls : List (Option tw_A)) (st : List tw_A) (L : tw_L) (f : tw_S) (x : Int32), t[ix]? = some (pc, 8, a, b, c, n, v) → a < ls.length → X (ix + 1) (ls.set a (some (tw_I x))) st L f → X ix ls (tw_I x :: st) L f
def tw_r9 (mt : List tw_MR) (sw : tw_SW) (ft : Nat → Nat → Nat) (fl : Bool) (xs : Option (Nat × (Nat → Int32))) (Sp : tw_SP) (Lf : tw_L) (P : tw_S → Option tw_A → Prop) (t : tw_T) (X : tw_X) : Prop := ∀ (ix pc a b c : Nat) (n : Int) (v : Int32) (ls : List (Option tw_A)) (st : List tw_A) (L : tw_L) (f : tw_S) (q : Nat), t[ix]? = some (pc, 9, a, b, c, n, v) → a < ls.length → X (ix + 1) (ls.set a (some (tw_R q))) st L f → X ix ls (tw_R q :: st) L f
def tw_r10 (mt : List tw_MR) (sw : tw_SW) (ft : Nat → Nat → Nat) (fl : Bool) (xs : Option (Nat × (Nat → Int32))) (Sp : tw_SP) (Lf : tw_L) (P : tw_S → Option tw_A → Prop) (t : tw_T) (X : tw_X) : Prop := ∀ (ix pc a b c : Nat) (n : Int) (v : Int32) (ls : List (Option tw_A)) (st : List tw_A) (L : tw_L) (f : tw_S) (q : Nat), t[ix]? = some (pc, 10, a, b, c, n, v) → a < ls.length → X (ix + 1) (ls.set a (some (tw_R q))) st L f → X ix ls (tw_R q :: st) L f
def tw_r11 (mt : List tw_MR) (sw : tw_SW) (ft : Nat → Nat → Nat) (fl : Bool) (xs : Option (Nat × (Nat → Int32))) (Sp : tw_SP) (Lf : tw_L) (P : tw_S → Option tw_A → Prop) (t : tw_T) (X : tw_X) : Prop := ∀ (ix pc a b c : Nat) (n : Int) (v : Int32) (ls : List (Option tw_A)) (st : List tw_A) (L : tw_L) (f : tw_S) (x : Int32), t[ix]? = some (pc, 11, a, b, c, n, v) → ls[a]? = some (some (tw_I x)) → X (ix + 1) (ls.set a (some (tw_I (x + v)))) st L f → X ix ls st L f
def tw_r12 (mt : List tw_MR) (sw : tw_SW) (ft : Nat → Nat → Nat) (fl : Bool) (xs : Option (Nat × (Nat → Int32))) (Sp : tw_SP) (Lf : tw_L) (P : tw_S → Option tw_A → Prop) (t : tw_T) (X : tw_X) : Prop := ∀ (ix pc a b c : Nat) (n : Int) (v : Int32) (ls : List (Option tw_A)) (st : List tw_A) (L : tw_L) (f : tw_S) (x y : Int32), t[ix]? = some (pc, 12, a, b, c, n, v) → X (ix + 1) ls (tw_I (x + y) :: st) L f → X ix ls (tw_I y :: tw_I x :: st) L f
def tw_r13 (mt : List tw_MR) (sw : tw_SW) (ft : Nat → Nat → Nat) (fl : Bool) (xs : Option (Nat × (Nat → Int32))) (Sp : tw_SP) (Lf : tw_L) (P : tw_S → Option tw_A → Prop) (t : tw_T) (X : tw_X) : Prop := ∀ (ix pc a b c : Nat) (n : Int) (v : Int32) (ls : List (Option tw_A)) (st : List tw_A) (L : tw_L) (f : tw_S) (x y : Int32), t[ix]? = some (pc, 13, a, b, c, n, v) → X (ix + 1) ls (tw_I (x - y) :: st) L f → X ix ls (tw_I y :: tw_I x :: st) L f
def tw_r14 (mt : List tw_MR) (sw : tw_SW) (ft : Nat → Nat → Nat) (fl : Bool) (xs : Option (Nat × (Nat → Int32))) (Sp : tw_SP) (Lf : tw_L) (P : tw_S → Option tw_A → Prop) (t : tw_T) (X : tw_X) : Prop := ∀ (ix pc a b c : Nat) (n : Int) (v : Int32) (ls : List (Option tw_A)) (st : List tw_A) (L : tw_L) (f : tw_S) (x y : Int32), t[ix]? = some (pc, 14, a, b, c, n, v) → X (ix + 1) ls (tw_I (x * y) :: st) L f → X ix ls (tw_I y :: tw_I x :: st) L f
def tw_r15 (mt : List tw_MR) (sw : tw_SW) (ft : Nat → Nat → Nat) (fl : Bool) (xs : Option (Nat × (Nat → Int32))) (Sp : tw_SP) (Lf : tw_L) (P : tw_S → Option tw_A → Prop) (t : tw_T) (X : tw_X) : Prop := ∀ (ix pc a b c : Nat) (n : Int) (v : Int32) (ls : List (Option tw_A)) (st : List tw_A) (L : tw_L) (f : tw_S) (x y : Int32), t[ix]? = some (pc, 15, a, b, c, n, v) → X (ix + 1) ls (tw_I (x &&& y) :: st) L f → X ix ls (tw_I y :: tw_I x :: st) L f
def tw_r16 (mt : List tw_MR) (sw : tw_SW) (ft : Nat → Nat → Nat) (fl : Bool) (xs : Option (Nat × (Nat → Int32))) (Sp : tw_SP) (Lf : tw_L) (P : tw_S → Option tw_A → Prop) (t : tw_T) (X : tw_X) : Prop := ∀ (ix pc a b c : Nat) (n : Int) (v : Int32) (ls : List (Option tw_A)) (st : List tw_A) (L : tw_L) (f : tw_S) (x y : Int32), t[ix]? = some (pc, 16, a, b, c, n, v) → X (ix + 1) ls (tw_I (x ||| y) :: st) L f → X ix ls (tw_I y :: tw_I x :: st) L f
def tw_r17 (mt : List tw_MR) (sw : tw_SW) (ft : Nat → Nat → Nat) (fl : Bool) (xs : Option (Nat × (Nat → Int32))) (Sp : tw_SP) (Lf : tw_L) (P : tw_S → Option tw_A → Prop) (t : tw_T) (X : tw_X) : Prop := ∀ (ix pc a b c : Nat) (n : Int) (v : Int32) (ls : List (Option tw_A)) (st : List tw_A) (L : tw_L) (f : tw_S) (x y : Int32), t[ix]? = some (pc, 17, a, b, c, n, v) → X (ix + 1) ls (tw_I (x ^^^ y) :: st) L f → X ix ls (tw_I y :: tw_I x :: st) L f
def tw_r18 (mt : List tw_MR) (sw : tw_SW) (ft : Nat → Nat → Nat) (fl : Bool) (xs : Option (Nat × (Nat → Int32))) (Sp : tw_SP) (Lf : tw_L) (P : tw_S → Option tw_A → Prop) (t : tw_T) (X : tw_X) : Prop := ∀ (ix pc a b c : Nat) (n : Int) (v : Int32) (ls : List (Option tw_A)) (st : List tw_A) (L : tw_L) (f : tw_S) (x y : Int32), t[ix]? = some (pc, 18, a, b, c, n, v) → X (ix + 1) ls (tw_I (x <<< (y &&& 31)) :: st) L f → X ix ls (tw_I y :: tw_I x :: st) L f
def tw_r19 (mt : List tw_MR) (sw : tw_SW) (ft : Nat → Nat → Nat) (fl : Bool) (xs : Option (Nat × (Nat → Int32))) (Sp : tw_SP) (Lf : tw_L) (P : tw_S → Option tw_A → Prop) (t : tw_T) (X : tw_X) : Prop := ∀ (ix pc a b c : Nat) (n : Int) (v : Int32) (ls : List (Option tw_A)) (st : List tw_A) (L : tw_L) (f : tw_S) (x y : Int32), t[ix]? = some (pc, 19, a, b, c, n, v) → X (ix + 1) ls (tw_I (x >>> (y &&& 31)) :: st) L f → X ix ls (tw_I y :: tw_I x :: st) L f
def tw_r20 (mt : List tw_MR) (sw : tw_SW) (ft : Nat → Nat → Nat) (fl : Bool) (xs : Option (Nat × (Nat → Int32))) (Sp : tw_SP) (Lf : tw_L) (P : tw_S → Option tw_A → Prop) (t : tw_T) (X : tw_X) : Prop := ∀ (ix pc a b c : Nat) (n : Int) (v : Int32) (ls : List (Option tw_A)) (st : List tw_A) (L : tw_L) (f : tw_S) (x y : Int32), t[ix]? = some (pc, 20, a, b, c, n, v) → ¬ y = 0 → X (ix + 1) ls (tw_I (x / y) :: st) L f → X ix ls (tw_I y :: tw_I x :: st) L f
def tw_r21 (mt : List tw_MR) (sw : tw_SW) (ft : Nat → Nat → Nat) (fl : Bool) (xs : Option (Nat × (Nat → Int32))) (Sp : tw_SP) (Lf : tw_L) (P : tw_S → Option tw_A → Prop) (t : tw_T) (X : tw_X) : Prop := ∀ (ix pc a b c : Nat) (n : Int) (v : Int32) (ls : List (Option tw_A)) (st : List tw_A) (L : tw_L) (f : tw_S) (x y : Int32), t[ix]? = some (pc, 21, a, b, c, n, v) → ¬ y = 0 → X (ix + 1) ls (tw_I (x - x / y * y) :: st) L f → X ix ls (tw_I y :: tw_I x :: st) L f
def tw_r22 (mt : List tw_MR) (sw : tw_SW) (ft : Nat → Nat → Nat) (fl : Bool) (xs : Option (Nat × (Nat → Int32))) (Sp : tw_SP) (Lf : tw_L) (P : tw_S → Option tw_A → Prop) (t : tw_T) (X : tw_X) : Prop := ∀ (ix pc a b c : Nat) (n : Int) (v : Int32) (ls : List (Option tw_A)) (st : List tw_A) (L : tw_L) (f : tw_S) (x : Int32), t[ix]? = some (pc, 22, a, b, c, n, v) → (tw_cd a x 0 → X b ls st L f) → (¬ tw_cd a x 0 → X (ix + 1) ls st L f) → X ix ls (tw_I x :: st) L f
def tw_r23 (mt : List tw_MR) (sw : tw_SW) (ft : Nat → Nat → Nat) (fl : Bool) (xs : Option (Nat × (Nat → Int32))) (Sp : tw_SP) (Lf : tw_L) (P : tw_S → Option tw_A → Prop) (t : tw_T) (X : tw_X) : Prop := ∀ (ix pc a b c : Nat) (n : Int) (v : Int32) (ls : List (Option tw_A)) (st : List tw_A) (L : tw_L) (f : tw_S) (x y : Int32), t[ix]? = some (pc, 23, a, b, c, n, v) → (tw_cd a x y → X b ls st L f) → (¬ tw_cd a x y → X (ix + 1) ls st L f) → X ix ls (tw_I y :: tw_I x :: st) L f
def tw_r24 (mt : List tw_MR) (sw : tw_SW) (ft : Nat → Nat → Nat) (fl : Bool) (xs : Option (Nat × (Nat → Int32))) (Sp : tw_SP) (Lf : tw_L) (P : tw_S → Option tw_A → Prop) (t : tw_T) (X : tw_X) : Prop := ∀ (ix pc a b c : Nat) (n : Int) (v : Int32) (ls : List (Option tw_A)) (st : List tw_A) (L : tw_L) (f : tw_S) , t[ix]? = some (pc, 24, a, b, c, n, v) → X b ls st L f → X ix ls st L f
def tw_r25 (mt : List tw_MR) (sw : tw_SW) (ft : Nat → Nat → Nat) (fl : Bool) (xs : Option (Nat × (Nat → Int32))) (Sp : tw_SP) (Lf : tw_L) (P : tw_S → Option tw_A → Prop) (t : tw_T) (X : tw_X) : Prop := ∀ (ix pc a b c : Nat) (n : Int) (v : Int32) (ls : List (Option tw_A)) (st : List tw_A) (L : tw_L) (f : tw_S) (w : tw_A), t[ix]? = some (pc, 25, a, b, c, n, v) → tw_ct w = 1 → X (ix + 1) ls (w :: w :: st) L f → X ix ls (w :: st) L f
def tw_r26 (mt : List tw_MR) (sw : tw_SW) (ft : Nat → Nat → Nat) (fl : Bool) (xs : Option (Nat × (Nat → Int32))) (Sp : tw_SP) (Lf : tw_L) (P : tw_S → Option tw_A → Prop) (t : tw_T) (X : tw_X) : Prop := ∀ (ix pc a b c : Nat) (n : Int) (v : Int32) (ls : List (Option tw_A)) (st : List tw_A) (L : tw_L) (f : tw_S) (w u : tw_A), t[ix]? = some (pc, 26, a, b, c, n, v) → tw_ct w = 1 → tw_ct u = 1 → X (ix + 1) ls (w :: u :: w :: u :: st) L f → X ix ls (w :: u :: st) L f
def tw_r27 (mt : List tw_MR) (sw : tw_SW) (ft : Nat → Nat → Nat) (fl : Bool) (xs : Option (Nat × (Nat → Int32))) (Sp : tw_SP) (Lf : tw_L) (P : tw_S → Option tw_A → Prop) (t : tw_T) (X : tw_X) : Prop := ∀ (ix pc a b c : Nat) (n : Int) (v : Int32) (ls : List (Option tw_A)) (st : List tw_A) (L : tw_L) (f : tw_S) (q nn : Nat) (rs : List (Option Nat)), t[ix]? = some (pc, 27, a, b, c, n, v) → L[q]? = some (a, nn, rs) → b < nn → X (ix + 1) ls (tw_fa (ft a b) (rs.getD b none) (f q b) :: st) L f → X ix ls (tw_R q :: st) L f
def tw_r28 (mt : List tw_MR) (sw : tw_SW) (ft : Nat → Nat → Nat) (fl : Bool) (xs : Option (Nat × (Nat → Int32))) (Sp : tw_SP) (Lf : tw_L) (P : tw_S → Option tw_A → Prop) (t : tw_T) (X : tw_X) : Prop := ∀ (ix pc a b c : Nat) (n : Int) (v : Int32) (ls : List (Option tw_A)) (st : List tw_A) (L : tw_L) (f : tw_S) (x : Int32) (q nn : Nat) (rs : List (Option Nat)), t[ix]? = some (pc, 28, a, b, c, n, v) → L[q]? = some (a, nn, rs) → b < nn → (ft a b = 0 ∨ (ft a b = 1 ∧ (x = 0 ∨ x = 1))) → X (ix + 1) ls st L (tw_up f q b x) → X ix ls (tw_I x :: tw_R q :: st) L f
def tw_r29 (mt : List tw_MR) (sw : tw_SW) (ft : Nat → Nat → Nat) (fl : Bool) (xs : Option (Nat × (Nat → Int32))) (Sp : tw_SP) (Lf : tw_L) (P : tw_S → Option tw_A → Prop) (t : tw_T) (X : tw_X) : Prop := ∀ (ix pc a b c : Nat) (n : Int) (v : Int32) (ls : List (Option tw_A)) (st : List tw_A) (L : tw_L) (f : tw_S) (x : Int32) (q nn : Nat) (rs : List (Option Nat)), t[ix]? = some (pc, 29, a, b, c, n, v) → L[q]? = some (a, nn, rs) → b < nn → (ft a b = 0 ∨ (ft a b = 1 ∧ (x = 0 ∨ x = 1))) → X (ix + 1) ls st L (tw_up f q b x) → X ix ls (tw_I x :: tw_R q :: st) L f
def tw_r30 (mt : List tw_MR) (sw : tw_SW) (ft : Nat → Nat → Nat) (fl : Bool) (xs : Option (Nat × (Nat → Int32))) (Sp : tw_SP) (Lf : tw_L) (P : tw_S → Option tw_A → Prop) (t : tw_T) (X : tw_X) : Prop := ∀ (ix pc a b c : Nat) (n : Int) (v : Int32) (ls : List (Option tw_A)) (st : List tw_A) (L : tw_L) (f : tw_S) (q2 q nn : Nat) (rs : List (Option Nat)), t[ix]? = some (pc, 30, a, b, c, n, v) → L[q]? = some (a, nn, rs) → b < nn → b < rs.length → ft a b = 2 → X (ix + 1) ls st (L.set q (a, nn, rs.set b (some q2))) f → X ix ls (tw_R q2 :: tw_R q :: st) L f
def tw_r31 (mt : List tw_MR) (sw : tw_SW) (ft : Nat → Nat → Nat) (fl : Bool) (xs : Option (Nat × (Nat → Int32))) (Sp : tw_SP) (Lf : tw_L) (P : tw_S → Option tw_A → Prop) (t : tw_T) (X : tw_X) : Prop := ∀ (ix pc a b c : Nat) (n : Int) (v : Int32) (ls : List (Option tw_A)) (st : List tw_A) (L : tw_L) (f : tw_S) (x : Int32) (q nn : Nat) (rs : List (Option Nat)), t[ix]? = some (pc, 31, a, b, c, n, v) → L[q]? = some (100, nn, rs) → vp_in x nn → X (ix + 1) ls (tw_I (f q x.toNatClampNeg) :: st) L f → X ix ls (tw_I x :: tw_R q :: st) L f
def tw_r32 (mt : List tw_MR) (sw : tw_SW) (ft : Nat → Nat → Nat) (fl : Bool) (xs : Option (Nat × (Nat → Int32))) (Sp : tw_SP) (Lf : tw_L) (P : tw_S → Option tw_A → Prop) (t : tw_T) (X : tw_X) : Prop := ∀ (ix pc a b c : Nat) (n : Int) (v : Int32) (ls : List (Option tw_A)) (st : List tw_A) (L : tw_L) (f : tw_S) (x : Int32) (q nn : Nat) (rs : List (Option Nat)), t[ix]? = some (pc, 32, a, b, c, n, v) → L[q]? = some (101, nn, rs) → vp_in x nn → X (ix + 1) ls (tw_I (tw_nz (f q x.toNatClampNeg)) :: st) L f → X ix ls (tw_I x :: tw_R q :: st) L f
def tw_r33 (mt : List tw_MR) (sw : tw_SW) (ft : Nat → Nat → Nat) (fl : Bool) (xs : Option (Nat × (Nat → Int32))) (Sp : tw_SP) (Lf : tw_L) (P : tw_S → Option tw_A → Prop) (t : tw_T) (X : tw_X) : Prop := ∀ (ix pc a b c : Nat) (n : Int) (v : Int32) (ls : List (Option tw_A)) (st : List tw_A) (L : tw_L) (f : tw_S) (x y : Int32) (q nn : Nat) (rs : List (Option Nat)), t[ix]? = some (pc, 33, a, b, c, n, v) → L[q]? = some (100, nn, rs) → vp_in x nn → X (ix + 1) ls st L (tw_up f q x.toNatClampNeg y) → X ix ls (tw_I y :: tw_I x :: tw_R q :: st) L f
def tw_r34 (mt : List tw_MR) (sw : tw_SW) (ft : Nat → Nat → Nat) (fl : Bool) (xs : Option (Nat × (Nat → Int32))) (Sp : tw_SP) (Lf : tw_L) (P : tw_S → Option tw_A → Prop) (t : tw_T) (X : tw_X) : Prop := ∀ (ix pc a b c : Nat) (n : Int) (v : Int32) (ls : List (Option tw_A)) (st : List tw_A) (L : tw_L) (f : tw_S) (x y : Int32) (q nn : Nat) (rs : List (Option Nat)), t[ix]? = some (pc, 34, a, b, c, n, v) → L[q]? = some (101, nn, rs) → vp_in x nn → (y = 0 ∨ y = 1) → X (ix + 1) ls st L (tw_up f q x.toNatClampNeg y) → X ix ls (tw_I y :: tw_I x :: tw_R q :: st) L f
def tw_r35 (mt : List tw_MR) (sw : tw_SW) (ft : Nat → Nat → Nat) (fl : Bool) (xs : Option (Nat × (Nat → Int32))) (Sp : tw_SP) (Lf : tw_L) (P : tw_S → Option tw_A → Prop) (t : tw_T) (X : tw_X) : Prop := ∀ (ix pc a b c : Nat) (n : Int) (v : Int32) (ls : List (Option tw_A)) (st : List tw_A) (L : tw_L) (f : tw_S) (As : List tw_A) (L2 : tw_L) (q nn : Nat) (rs : List (Option Nat)), t[ix]? = some (pc, 35, a, b, c, n, v) → L[q]? = some (b, nn, rs) → As.length = tw_na mt a → (st.map tw_ct).sum ≤ 8 → L.length ≤ L2.length → tw_sl L ≤ tw_sl L2 → L2.length ≤ Lf.length → tw_sl L2 ≤ tw_sl Lf → Sp a (tw_R q :: As) L f L2 (fun f2 r => X (ix + 1) ls (r.toList ++ st) L2 f2) → X ix ls (As.reverse ++ tw_R q :: st) L f
def tw_r36 (mt : List tw_MR) (sw : tw_SW) (ft : Nat → Nat → Nat) (fl : Bool) (xs : Option (Nat × (Nat → Int32))) (Sp : tw_SP) (Lf : tw_L) (P : tw_S → Option tw_A → Prop) (t : tw_T) (X : tw_X) : Prop := ∀ (ix pc a b c : Nat) (n : Int) (v : Int32) (ls : List (Option tw_A)) (st : List tw_A) (L : tw_L) (f : tw_S) (As : List tw_A) (L2 : tw_L), t[ix]? = some (pc, 36, a, b, c, n, v) → As.length = tw_na mt a → (st.map tw_ct).sum ≤ 8 → L.length ≤ L2.length → tw_sl L ≤ tw_sl L2 → L2.length ≤ Lf.length → tw_sl L2 ≤ tw_sl Lf → Sp a As L f L2 (fun f2 r => X (ix + 1) ls (r.toList ++ st) L2 f2) → X ix ls (As.reverse ++ st) L f
def tw_r37 (mt : List tw_MR) (sw : tw_SW) (ft : Nat → Nat → Nat) (fl : Bool) (xs : Option (Nat × (Nat → Int32))) (Sp : tw_SP) (Lf : tw_L) (P : tw_S → Option tw_A → Prop) (t : tw_T) (X : tw_X) : Prop := ∀ (ix pc a b c : Nat) (n : Int) (v : Int32) (ls : List (Option tw_A)) (st : List tw_A) (L : tw_L) (f : tw_S) (As : List tw_A) (L2 : tw_L) (q : Nat), t[ix]? = some (pc, 37, a, b, c, n, v) → As.length = tw_na mt a → (st.map tw_ct).sum ≤ 8 → L.length ≤ L2.length → tw_sl L ≤ tw_sl L2 → L2.length ≤ Lf.length → tw_sl L2 ≤ tw_sl Lf → Sp a (tw_R q :: As) L f L2 (fun f2 r => X (ix + 1) ls (r.toList ++ st) L2 f2) → X ix ls (As.reverse ++ tw_R q :: st) L f
def tw_r38 (mt : List tw_MR) (sw : tw_SW) (ft : Nat → Nat → Nat) (fl : Bool) (xs : Option (Nat × (Nat → Int32))) (Sp : tw_SP) (Lf : tw_L) (P : tw_S → Option tw_A → Prop) (t : tw_T) (X : tw_X) : Prop := ∀ (ix pc a b c : Nat) (n : Int) (v : Int32) (ls : List (Option tw_A)) (f : tw_S) (x : Int32), t[ix]? = some (pc, 38, a, b, c, n, v) → P f (some (tw_I x)) → X ix ls [tw_I x] Lf f
def tw_r39 (mt : List tw_MR) (sw : tw_SW) (ft : Nat → Nat → Nat) (fl : Bool) (xs : Option (Nat × (Nat → Int32))) (Sp : tw_SP) (Lf : tw_L) (P : tw_S → Option tw_A → Prop) (t : tw_T) (X : tw_X) : Prop := ∀ (ix pc a b c : Nat) (n : Int) (v : Int32) (ls : List (Option tw_A)) (f : tw_S) (x : Int32), t[ix]? = some (pc, 39, a, b, c, n, v) → (x = 0 ∨ x = 1) → P f (some (tw_I x)) → X ix ls [tw_I x] Lf f
def tw_r40 (mt : List tw_MR) (sw : tw_SW) (ft : Nat → Nat → Nat) (fl : Bool) (xs : Option (Nat × (Nat → Int32))) (Sp : tw_SP) (Lf : tw_L) (P : tw_S → Option tw_A → Prop) (t : tw_T) (X : tw_X) : Prop := ∀ (ix pc a b c : Nat) (n : Int) (v : Int32) (ls : List (Option tw_A)) (f : tw_S) , t[ix]? = some (pc, 40, a, b, c, n, v) → P f none → X ix ls [] Lf f
def tw_r41 (mt : List tw_MR) (sw : tw_SW) (ft : Nat → Nat → Nat) (fl : Bool) (xs : Option (Nat × (Nat → Int32))) (Sp : tw_SP) (Lf : tw_L) (P : tw_S → Option tw_A → Prop) (t : tw_T) (X : tw_X) : Prop := ∀ (ix pc a b c : Nat) (n : Int) (v : Int32) (ls : List (Option tw_A)) (f : tw_S) (q : Nat), t[ix]? = some (pc, 41, a, b, c, n, v) → P f (some (tw_R q)) → X ix ls [tw_R q] Lf f
def tw_r42 (mt : List tw_MR) (sw : tw_SW) (ft : Nat → Nat → Nat) (fl : Bool) (xs : Option (Nat × (Nat → Int32))) (Sp : tw_SP) (Lf : tw_L) (P : tw_S → Option tw_A → Prop) (t : tw_T) (X : tw_X) : Prop := ∀ (ix pc a b c : Nat) (n : Int) (v : Int32) (ls : List (Option tw_A)) (st : List tw_A) (L : tw_L) (f : tw_S) , t[ix]? = some (pc, 42, a, b, c, n, v) → fl = true → L.length + 1 ≤ Lf.length → tw_sl L + b ≤ tw_sl Lf → X (ix + 1) ls (tw_R L.length :: st) (L ++ [(a, b, List.replicate b none)]) (tw_z f L.length) → X ix ls st L f
def tw_r43 (mt : List tw_MR) (sw : tw_SW) (ft : Nat → Nat → Nat) (fl : Bool) (xs : Option (Nat × (Nat → Int32))) (Sp : tw_SP) (Lf : tw_L) (P : tw_S → Option tw_A → Prop) (t : tw_T) (X : tw_X) : Prop := ∀ (ix pc a b c : Nat) (n : Int) (v : Int32) (ls : List (Option tw_A)) (st : List tw_A) (L : tw_L) (f : tw_S) (x : Int32) (nn : Nat), t[ix]? = some (pc, 43, a, b, c, n, v) → fl = true → x = nI nn → nn < 4096 → L.length + 1 ≤ Lf.length → tw_sl L + nn ≤ tw_sl Lf → X (ix + 1) ls (tw_R L.length :: st) (L ++ [(a, nn, [])]) (tw_z f L.length) → X ix ls (tw_I x :: st) L f
def tw_r44 (mt : List tw_MR) (sw : tw_SW) (ft : Nat → Nat → Nat) (fl : Bool) (xs : Option (Nat × (Nat → Int32))) (Sp : tw_SP) (Lf : tw_L) (P : tw_S → Option tw_A → Prop) (t : tw_T) (X : tw_X) : Prop := ∀ (ix pc a b c : Nat) (n : Int) (v : Int32) (ls : List (Option tw_A)) (L : tw_L) (f : tw_S) (q : Nat), t[ix]? = some (pc, 44, a, b, c, n, v) → X (ix + 1) ls [] L f → X ix ls [tw_R q] L f
def tw_r45 (mt : List tw_MR) (sw : tw_SW) (ft : Nat → Nat → Nat) (fl : Bool) (xs : Option (Nat × (Nat → Int32))) (Sp : tw_SP) (Lf : tw_L) (P : tw_S → Option tw_A → Prop) (t : tw_T) (X : tw_X) : Prop := ∀ (ix pc a b c : Nat) (n : Int) (v : Int32) (ls : List (Option tw_A)) (st : List tw_A) (L : tw_L) (f : tw_S) (x y : Int32), t[ix]? = some (pc, 45, a, b, c, n, v) → (st.map tw_ct).sum ≤ 1 → L.length ≤ Lf.length → tw_sl L ≤ tw_sl Lf → X (ix + 1) ls (tw_I (if x < y then y else x) :: st) L f → X ix ls (tw_I y :: tw_I x :: st) L f
def tw_r46 (mt : List tw_MR) (sw : tw_SW) (ft : Nat → Nat → Nat) (fl : Bool) (xs : Option (Nat × (Nat → Int32))) (Sp : tw_SP) (Lf : tw_L) (P : tw_S → Option tw_A → Prop) (t : tw_T) (X : tw_X) : Prop := ∀ (ix pc a b c : Nat) (n : Int) (v : Int32) (ls : List (Option tw_A)) (st : List tw_A) (L : tw_L) (f : tw_S) (x : Int32) (lo : Int) (ts : List Nat) (df : Nat), t[ix]? = some (pc, 46, a, b, c, n, v) → sw[a]? = some (lo, ts, df) → X (tw_tg lo ts df x) ls st L f → X ix ls (tw_I x :: st) L f
def tw_r47 (mt : List tw_MR) (sw : tw_SW) (ft : Nat → Nat → Nat) (fl : Bool) (xs : Option (Nat × (Nat → Int32))) (Sp : tw_SP) (Lf : tw_L) (P : tw_S → Option tw_A → Prop) (t : tw_T) (X : tw_X) : Prop := ∀ (ix pc a b c : Nat) (n : Int) (v : Int32) (ls : List (Option tw_A)) (st : List tw_A) (L : tw_L) (f : tw_S) , t[ix]? = some (pc, 47, a, b, c, n, v) → ls[a]? = some (some tw_Z) → X (ix + 1) ls (tw_Z :: st) L f → X ix ls st L f
def tw_r48 (mt : List tw_MR) (sw : tw_SW) (ft : Nat → Nat → Nat) (fl : Bool) (xs : Option (Nat × (Nat → Int32))) (Sp : tw_SP) (Lf : tw_L) (P : tw_S → Option tw_A → Prop) (t : tw_T) (X : tw_X) : Prop := ∀ (ix pc a b c : Nat) (n : Int) (v : Int32) (ls : List (Option tw_A)) (st : List tw_A) (L : tw_L) (f : tw_S) (x : Int32) (N : Nat) (g : Nat → Int32), t[ix]? = some (pc, 48, a, b, c, n, v) → xs = some (N, g) → vp_in x N → X (ix + 1) ls (tw_I (g x.toNatClampNeg) :: st) L f → X ix ls (tw_I x :: tw_Z :: st) L f
def tw_r49 (mt : List tw_MR) (sw : tw_SW) (ft : Nat → Nat → Nat) (fl : Bool) (xs : Option (Nat × (Nat → Int32))) (Sp : tw_SP) (Lf : tw_L) (P : tw_S → Option tw_A → Prop) (t : tw_T) (X : tw_X) : Prop := ∀ (ix pc a b c : Nat) (n : Int) (v : Int32) (ls : List (Option tw_A)) (st : List tw_A) (L : tw_L) (f : tw_S) (N : Nat) (g : Nat → Int32), t[ix]? = some (pc, 49, a, b, c, n, v) → xs = some (N, g) → X (ix + 1) ls (tw_I (Int32.ofNat N) :: st) L f → X ix ls (tw_Z :: st) L f
def tw_r50 (mt : List tw_MR) (sw : tw_SW) (ft : Nat → Nat → Nat) (fl : Bool) (xs : Option (Nat × (Nat → Int32))) (Sp : tw_SP) (Lf : tw_L) (P : tw_S → Option tw_A → Prop) (t : tw_T) (X : tw_X) : Prop := ∀ (ix pc a b c : Nat) (n : Int) (v : Int32) (ls : List (Option tw_A)) (st : List tw_A) (L : tw_L) (f : tw_S) (x : Int32) (q nn : Nat) (rs : List (Option Nat)), t[ix]? = some (pc, 50, a, b, c, n, v) → L[q]? = some (102, nn, rs) → vp_in x nn → X (ix + 1) ls (tw_J (f q x.toNatClampNeg) :: st) L f → X ix ls (tw_I x :: tw_R q :: st) L f
def tw_r51 (mt : List tw_MR) (sw : tw_SW) (ft : Nat → Nat → Nat) (fl : Bool) (xs : Option (Nat × (Nat → Int32))) (Sp : tw_SP) (Lf : tw_L) (P : tw_S → Option tw_A → Prop) (t : tw_T) (X : tw_X) : Prop := ∀ (ix pc a b c : Nat) (n : Int) (v : Int32) (ls : List (Option tw_A)) (st : List tw_A) (L : tw_L) (f : tw_S) (x : Int32), t[ix]? = some (pc, 51, a, b, c, n, v) → X (ix + 1) ls (tw_J x :: st) L f → X ix ls (tw_I x :: st) L f
def tw_r52 (mt : List tw_MR) (sw : tw_SW) (ft : Nat → Nat → Nat) (fl : Bool) (xs : Option (Nat × (Nat → Int32))) (Sp : tw_SP) (Lf : tw_L) (P : tw_S → Option tw_A → Prop) (t : tw_T) (X : tw_X) : Prop := ∀ (ix pc a b c : Nat) (n : Int) (v : Int32) (ls : List (Option tw_A)) (st : List tw_A) (L : tw_L) (f : tw_S) (x y : Int32), t[ix]? = some (pc, 52, a, b, c, n, v) → X (ix + 1) ls (tw_I (lg_cmp x.toInt64 y.toInt64) :: st) L f → X ix ls (tw_J y :: tw_J x :: st) L f
def tw_Cl (mt : List tw_MR) (sw : tw_SW) (ft : Nat → Nat → Nat) (fl : Bool) (xs : Option (Nat × (Nat → Int32))) (Sp : tw_SP) (Lf : tw_L) (P : tw_S → Option tw_A → Prop) (t : tw_T) (X : tw_X) : Prop :=
  tw_r0 mt sw ft fl xs Sp Lf P t X ∧
  tw_r1 mt sw ft fl xs Sp Lf P t X ∧
  tw_r2 mt sw ft fl xs Sp Lf P t X ∧
  tw_r3 mt sw ft fl xs Sp Lf P t X ∧
  tw_r4 mt sw ft fl xs Sp Lf P t X ∧
  tw_r5 mt sw ft fl xs Sp Lf P t X ∧
  tw_r6 mt sw ft fl xs Sp Lf P t X ∧
  tw_r7 mt sw ft fl xs Sp Lf P t X ∧
  tw_r8 mt sw ft fl xs Sp Lf P t X ∧
  tw_r9 mt sw ft fl xs Sp Lf P t X ∧
  tw_r10 mt sw ft fl xs Sp Lf P t X ∧
  tw_r11 mt sw ft fl xs Sp Lf P t X ∧
  tw_r12 mt sw ft fl xs Sp Lf P t X ∧
  tw_r13 mt sw ft fl xs Sp Lf P t X ∧
  tw_r14 mt sw ft fl xs Sp Lf P t X ∧
  tw_r15 mt sw ft fl xs Sp Lf P t X ∧
  tw_r16 mt sw ft fl xs Sp Lf P t X ∧
  tw_r17 mt sw ft fl xs Sp Lf P t X ∧
  tw_r18 mt sw ft fl xs Sp Lf P t X ∧
  tw_r19 mt sw ft fl xs Sp Lf P t X ∧
  tw_r20 mt sw ft fl xs Sp Lf P t X ∧
  tw_r21 mt sw ft fl xs Sp Lf P t X ∧
  tw_r22 mt sw ft fl xs Sp Lf P t X ∧
  tw_r23 mt sw ft fl xs Sp Lf P t X ∧
  tw_r24 mt sw ft fl xs Sp Lf P t X ∧
  tw_r25 mt sw ft fl xs Sp Lf P t X ∧
  tw_r26 mt sw ft fl xs Sp Lf P t X ∧
  tw_r27 mt sw ft fl xs Sp Lf P t X ∧
  tw_r28 mt sw ft fl xs Sp Lf P t X ∧
  tw_r29 mt sw ft fl xs Sp Lf P t X ∧
  tw_r30 mt sw ft fl xs Sp Lf P t X ∧
  tw_r31 mt sw ft fl xs Sp Lf P t X ∧
  tw_r32 mt sw ft fl xs Sp Lf P t X ∧
  tw_r33 mt sw ft fl xs Sp Lf P t X ∧
  tw_r34 mt sw ft fl xs Sp Lf P t X ∧
  tw_r35 mt sw ft fl xs Sp Lf P t X ∧
  tw_r36 mt sw ft fl xs Sp Lf P t X ∧
  tw_r37 mt sw ft fl xs Sp Lf P t X ∧
  tw_r38 mt sw ft fl xs Sp Lf P t X ∧
  tw_r39 mt sw ft fl xs Sp Lf P t X ∧
  tw_r40 mt sw ft fl xs Sp Lf P t X ∧
  tw_r41 mt sw ft fl xs Sp Lf P t X ∧
  tw_r42 mt sw ft fl xs Sp Lf P t X ∧
  tw_r43 mt sw ft fl xs Sp Lf P t X ∧
  tw_r44 mt sw ft fl xs Sp Lf P t X ∧
  tw_r45 mt sw ft fl xs Sp Lf P t X ∧
  tw_r46 mt sw ft fl xs Sp Lf P t X ∧
  tw_r47 mt sw ft fl xs Sp Lf P t X ∧
  tw_r48 mt sw ft fl xs Sp Lf P t X ∧
  tw_r49 mt sw ft fl xs Sp Lf P t X ∧
  tw_r50 mt sw ft fl xs Sp Lf P t X ∧
  tw_r51 mt sw ft fl xs Sp Lf P t X ∧
  tw_r52 mt sw ft fl xs Sp Lf P t X
section INTRO
variable {mt : List tw_MR} {sw : tw_SW} {ft : Nat → Nat → Nat} {fl : Bool} {xs : Option (Nat × (Nat → Int32))} {Sp : tw_SP} {Lf : tw_L} {P : tw_S → Option tw_A → Prop} {t : tw_T} {X : tw_X} {ix pc a b c : Nat} {n : Int} {v : Int32} {ls : List (Option tw_A)} {st : List tw_A} {L : tw_L} {f : tw_S}
theorem zi_iload_n (h : tw_Cl mt sw ft fl xs Sp Lf P t X) {x : Int32} (hi : t[ix]? = some (pc, 0, a, b, c, n, v)) (h0 : ls[a]? = some (some (tw_I x))) (k0 : X (ix + 1) ls (tw_I x :: st) L f) : X ix ls st L f := h.1 ix pc a b c n v ls st L f x hi h0 k0
theorem zi_iload (h : tw_Cl mt sw ft fl xs Sp Lf P t X) {x : Int32} (hi : t[ix]? = some (pc, 1, a, b, c, n, v)) (h0 : ls[a]? = some (some (tw_I x))) (k0 : X (ix + 1) ls (tw_I x :: st) L f) : X ix ls st L f := h.2.1 ix pc a b c n v ls st L f x hi h0 k0
theorem zi_aload_n (h : tw_Cl mt sw ft fl xs Sp Lf P t X) {q : Nat} (hi : t[ix]? = some (pc, 2, a, b, c, n, v)) (h0 : ls[a]? = some (some (tw_R q))) (k0 : X (ix + 1) ls (tw_R q :: st) L f) : X ix ls st L f := h.2.2.1 ix pc a b c n v ls st L f q hi h0 k0
theorem zi_aload (h : tw_Cl mt sw ft fl xs Sp Lf P t X) {q : Nat} (hi : t[ix]? = some (pc, 3, a, b, c, n, v)) (h0 : ls[a]? = some (some (tw_R q))) (k0 : X (ix + 1) ls (tw_R q :: st) L f) : X ix ls st L f := h.2.2.2.1 ix pc a b c n v ls st L f q hi h0 k0
theorem zi_iconst (h : tw_Cl mt sw ft fl xs Sp Lf P t X)  (hi : t[ix]? = some (pc, 4, a, b, c, n, v)) (k0 : X (ix + 1) ls (tw_I v :: st) L f) : X ix ls st L f := h.2.2.2.2.1 ix pc a b c n v ls st L f  hi  k0
theorem zi_bipush (h : tw_Cl mt sw ft fl xs Sp Lf P t X)  (hi : t[ix]? = some (pc, 5, a, b, c, n, v)) (k0 : X (ix + 1) ls (tw_I v :: st) L f) : X ix ls st L f := h.2.2.2.2.2.1 ix pc a b c n v ls st L f  hi  k0
theorem zi_sipush (h : tw_Cl mt sw ft fl xs Sp Lf P t X)  (hi : t[ix]? = some (pc, 6, a, b, c, n, v)) (k0 : X (ix + 1) ls (tw_I v :: st) L f) : X ix ls st L f := h.2.2.2.2.2.2.1 ix pc a b c n v ls st L f  hi  k0
theorem zi_istore_n (h : tw_Cl mt sw ft fl xs Sp Lf P t X) {x : Int32} (hi : t[ix]? = some (pc, 7, a, b, c, n, v)) (h0 : a < ls.length) (k0 : X (ix + 1) (ls.set a (some (tw_I x))) st L f) : X ix ls (tw_I x :: st) L f := h.2.2.2.2.2.2.2.1 ix pc a b c n v ls st L f x hi h0 k0
theorem zi_istore (h : tw_Cl mt sw ft fl xs Sp Lf P t X) {x : Int32} (hi : t[ix]? = some (pc, 8, a, b, c, n, v)) (h0 : a < ls.length) (k0 : X (ix + 1) (ls.set a (some (tw_I x))) st L f) : X ix ls (tw_I x :: st) L f := h.2.2.2.2.2.2.2.2.1 ix pc a b c n v ls st L f x hi h0 k0
theorem zi_astore_n (h : tw_Cl mt sw ft fl xs Sp Lf P t X) {q : Nat} (hi : t[ix]? = some (pc, 9, a, b, c, n, v)) (h0 : a < ls.length) (k0 : X (ix + 1) (ls.set a (some (tw_R q))) st L f) : X ix ls (tw_R q :: st) L f := h.2.2.2.2.2.2.2.2.2.1 ix pc a b c n v ls st L f q hi h0 k0
theorem zi_astore (h : tw_Cl mt sw ft fl xs Sp Lf P t X) {q : Nat} (hi : t[ix]? = some (pc, 10, a, b, c, n, v)) (h0 : a < ls.length) (k0 : X (ix + 1) (ls.set a (some (tw_R q))) st L f) : X ix ls (tw_R q :: st) L f := h.2.2.2.2.2.2.2.2.2.2.1 ix pc a b c n v ls st L f q hi h0 k0
theorem zi_iinc (h : tw_Cl mt sw ft fl xs Sp Lf P t X) {x : Int32} (hi : t[ix]? = some (pc, 11, a, b, c, n, v)) (h0 : ls[a]? = some (some (tw_I x))) (k0 : X (ix + 1) (ls.set a (some (tw_I (x + v)))) st L f) : X ix ls st L f := h.2.2.2.2.2.2.2.2.2.2.2.1 ix pc a b c n v ls st L f x hi h0 k0
theorem zi_iadd (h : tw_Cl mt sw ft fl xs Sp Lf P t X) {x y : Int32} (hi : t[ix]? = some (pc, 12, a, b, c, n, v)) (k0 : X (ix + 1) ls (tw_I (x + y) :: st) L f) : X ix ls (tw_I y :: tw_I x :: st) L f := h.2.2.2.2.2.2.2.2.2.2.2.2.1 ix pc a b c n v ls st L f x y hi  k0
theorem zi_isub (h : tw_Cl mt sw ft fl xs Sp Lf P t X) {x y : Int32} (hi : t[ix]? = some (pc, 13, a, b, c, n, v)) (k0 : X (ix + 1) ls (tw_I (x - y) :: st) L f) : X ix ls (tw_I y :: tw_I x :: st) L f := h.2.2.2.2.2.2.2.2.2.2.2.2.2.1 ix pc a b c n v ls st L f x y hi  k0
theorem zi_imul (h : tw_Cl mt sw ft fl xs Sp Lf P t X) {x y : Int32} (hi : t[ix]? = some (pc, 14, a, b, c, n, v)) (k0 : X (ix + 1) ls (tw_I (x * y) :: st) L f) : X ix ls (tw_I y :: tw_I x :: st) L f := h.2.2.2.2.2.2.2.2.2.2.2.2.2.2.1 ix pc a b c n v ls st L f x y hi  k0
theorem zi_iand (h : tw_Cl mt sw ft fl xs Sp Lf P t X) {x y : Int32} (hi : t[ix]? = some (pc, 15, a, b, c, n, v)) (k0 : X (ix + 1) ls (tw_I (x &&& y) :: st) L f) : X ix ls (tw_I y :: tw_I x :: st) L f := h.2.2.2.2.2.2.2.2.2.2.2.2.2.2.2.1 ix pc a b c n v ls st L f x y hi  k0
theorem zi_ior (h : tw_Cl mt sw ft fl xs Sp Lf P t X) {x y : Int32} (hi : t[ix]? = some (pc, 16, a, b, c, n, v)) (k0 : X (ix + 1) ls (tw_I (x ||| y) :: st) L f) : X ix ls (tw_I y :: tw_I x :: st) L f := h.2.2.2.2.2.2.2.2.2.2.2.2.2.2.2.2.1 ix pc a b c n v ls st L f x y hi  k0
theorem zi_ixor (h : tw_Cl mt sw ft fl xs Sp Lf P t X) {x y : Int32} (hi : t[ix]? = some (pc, 17, a, b, c, n, v)) (k0 : X (ix + 1) ls (tw_I (x ^^^ y) :: st) L f) : X ix ls (tw_I y :: tw_I x :: st) L f := h.2.2.2.2.2.2.2.2.2.2.2.2.2.2.2.2.2.1 ix pc a b c n v ls st L f x y hi  k0
theorem zi_ishl (h : tw_Cl mt sw ft fl xs Sp Lf P t X) {x y : Int32} (hi : t[ix]? = some (pc, 18, a, b, c, n, v)) (k0 : X (ix + 1) ls (tw_I (x <<< (y &&& 31)) :: st) L f) : X ix ls (tw_I y :: tw_I x :: st) L f := h.2.2.2.2.2.2.2.2.2.2.2.2.2.2.2.2.2.2.1 ix pc a b c n v ls st L f x y hi  k0
theorem zi_ishr (h : tw_Cl mt sw ft fl xs Sp Lf P t X) {x y : Int32} (hi : t[ix]? = some (pc, 19, a, b, c, n, v)) (k0 : X (ix + 1) ls (tw_I (x >>> (y &&& 31)) :: st) L f) : X ix ls (tw_I y :: tw_I x :: st) L f := h.2.2.2.2.2.2.2.2.2.2.2.2.2.2.2.2.2.2.2.1 ix pc a b c n v ls st L f x y hi  k0
theorem zi_idiv (h : tw_Cl mt sw ft fl xs Sp Lf P t X) {x y : Int32} (hi : t[ix]? = some (pc, 20, a, b, c, n, v)) (h0 : ¬ y = 0) (k0 : X (ix + 1) ls (tw_I (x / y) :: st) L f) : X ix ls (tw_I y :: tw_I x :: st) L f := h.2.2.2.2.2.2.2.2.2.2.2.2.2.2.2.2.2.2.2.2.1 ix pc a b c n v ls st L f x y hi h0 k0
theorem zi_irem (h : tw_Cl mt sw ft fl xs Sp Lf P t X) {x y : Int32} (hi : t[ix]? = some (pc, 21, a, b, c, n, v)) (h0 : ¬ y = 0) (k0 : X (ix + 1) ls (tw_I (x - x / y * y) :: st) L f) : X ix ls (tw_I y :: tw_I x :: st) L f := h.2.2.2.2.2.2.2.2.2.2.2.2.2.2.2.2.2.2.2.2.2.1 ix pc a b c n v ls st L f x y hi h0 k0
theorem zi_if (h : tw_Cl mt sw ft fl xs Sp Lf P t X) {x : Int32} (hi : t[ix]? = some (pc, 22, a, b, c, n, v)) (k0 : (tw_cd a x 0 → X b ls st L f)) (k1 : (¬ tw_cd a x 0 → X (ix + 1) ls st L f)) : X ix ls (tw_I x :: st) L f := h.2.2.2.2.2.2.2.2.2.2.2.2.2.2.2.2.2.2.2.2.2.2.1 ix pc a b c n v ls st L f x hi  k0 k1
theorem zi_icmp (h : tw_Cl mt sw ft fl xs Sp Lf P t X) {x y : Int32} (hi : t[ix]? = some (pc, 23, a, b, c, n, v)) (k0 : (tw_cd a x y → X b ls st L f)) (k1 : (¬ tw_cd a x y → X (ix + 1) ls st L f)) : X ix ls (tw_I y :: tw_I x :: st) L f := h.2.2.2.2.2.2.2.2.2.2.2.2.2.2.2.2.2.2.2.2.2.2.2.1 ix pc a b c n v ls st L f x y hi  k0 k1
theorem zi_goto (h : tw_Cl mt sw ft fl xs Sp Lf P t X)  (hi : t[ix]? = some (pc, 24, a, b, c, n, v)) (k0 : X b ls st L f) : X ix ls st L f := h.2.2.2.2.2.2.2.2.2.2.2.2.2.2.2.2.2.2.2.2.2.2.2.2.1 ix pc a b c n v ls st L f  hi  k0
theorem zi_dup (h : tw_Cl mt sw ft fl xs Sp Lf P t X) {w : tw_A} (hi : t[ix]? = some (pc, 25, a, b, c, n, v)) (h0 : tw_ct w = 1) (k0 : X (ix + 1) ls (w :: w :: st) L f) : X ix ls (w :: st) L f := h.2.2.2.2.2.2.2.2.2.2.2.2.2.2.2.2.2.2.2.2.2.2.2.2.2.1 ix pc a b c n v ls st L f w hi h0 k0
theorem zi_dup2 (h : tw_Cl mt sw ft fl xs Sp Lf P t X) {w u : tw_A} (hi : t[ix]? = some (pc, 26, a, b, c, n, v)) (h0 : tw_ct w = 1) (h1 : tw_ct u = 1) (k0 : X (ix + 1) ls (w :: u :: w :: u :: st) L f) : X ix ls (w :: u :: st) L f := h.2.2.2.2.2.2.2.2.2.2.2.2.2.2.2.2.2.2.2.2.2.2.2.2.2.2.1 ix pc a b c n v ls st L f w u hi h0 h1 k0
theorem zi_getf (h : tw_Cl mt sw ft fl xs Sp Lf P t X) {q nn : Nat} {rs : List (Option Nat)} (hi : t[ix]? = some (pc, 27, a, b, c, n, v)) (h0 : L[q]? = some (a, nn, rs)) (h1 : b < nn) (k0 : X (ix + 1) ls (tw_fa (ft a b) (rs.getD b none) (f q b) :: st) L f) : X ix ls (tw_R q :: st) L f := h.2.2.2.2.2.2.2.2.2.2.2.2.2.2.2.2.2.2.2.2.2.2.2.2.2.2.2.1 ix pc a b c n v ls st L f q nn rs hi h0 h1 k0
theorem zi_putf (h : tw_Cl mt sw ft fl xs Sp Lf P t X) {x : Int32} {q nn : Nat} {rs : List (Option Nat)} (hi : t[ix]? = some (pc, 28, a, b, c, n, v)) (h0 : L[q]? = some (a, nn, rs)) (h1 : b < nn) (h2 : (ft a b = 0 ∨ (ft a b = 1 ∧ (x = 0 ∨ x = 1)))) (k0 : X (ix + 1) ls st L (tw_up f q b x)) : X ix ls (tw_I x :: tw_R q :: st) L f := h.2.2.2.2.2.2.2.2.2.2.2.2.2.2.2.2.2.2.2.2.2.2.2.2.2.2.2.2.1 ix pc a b c n v ls st L f x q nn rs hi h0 h1 h2 k0
theorem zi_putFi (h : tw_Cl mt sw ft fl xs Sp Lf P t X) {x : Int32} {q nn : Nat} {rs : List (Option Nat)} (hi : t[ix]? = some (pc, 29, a, b, c, n, v)) (h0 : L[q]? = some (a, nn, rs)) (h1 : b < nn) (h2 : (ft a b = 0 ∨ (ft a b = 1 ∧ (x = 0 ∨ x = 1)))) (k0 : X (ix + 1) ls st L (tw_up f q b x)) : X ix ls (tw_I x :: tw_R q :: st) L f := h.2.2.2.2.2.2.2.2.2.2.2.2.2.2.2.2.2.2.2.2.2.2.2.2.2.2.2.2.2.1 ix pc a b c n v ls st L f x q nn rs hi h0 h1 h2 k0
theorem zi_putFr (h : tw_Cl mt sw ft fl xs Sp Lf P t X) {q2 q nn : Nat} {rs : List (Option Nat)} (hi : t[ix]? = some (pc, 30, a, b, c, n, v)) (h0 : L[q]? = some (a, nn, rs)) (h1 : b < nn) (h2 : b < rs.length) (h3 : ft a b = 2) (k0 : X (ix + 1) ls st (L.set q (a, nn, rs.set b (some q2))) f) : X ix ls (tw_R q2 :: tw_R q :: st) L f := h.2.2.2.2.2.2.2.2.2.2.2.2.2.2.2.2.2.2.2.2.2.2.2.2.2.2.2.2.2.2.1 ix pc a b c n v ls st L f q2 q nn rs hi h0 h1 h2 h3 k0
theorem zi_iaload (h : tw_Cl mt sw ft fl xs Sp Lf P t X) {x : Int32} {q nn : Nat} {rs : List (Option Nat)} (hi : t[ix]? = some (pc, 31, a, b, c, n, v)) (h0 : L[q]? = some (100, nn, rs)) (h1 : vp_in x nn) (k0 : X (ix + 1) ls (tw_I (f q x.toNatClampNeg) :: st) L f) : X ix ls (tw_I x :: tw_R q :: st) L f := h.2.2.2.2.2.2.2.2.2.2.2.2.2.2.2.2.2.2.2.2.2.2.2.2.2.2.2.2.2.2.2.1 ix pc a b c n v ls st L f x q nn rs hi h0 h1 k0
theorem zi_baload (h : tw_Cl mt sw ft fl xs Sp Lf P t X) {x : Int32} {q nn : Nat} {rs : List (Option Nat)} (hi : t[ix]? = some (pc, 32, a, b, c, n, v)) (h0 : L[q]? = some (101, nn, rs)) (h1 : vp_in x nn) (k0 : X (ix + 1) ls (tw_I (tw_nz (f q x.toNatClampNeg)) :: st) L f) : X ix ls (tw_I x :: tw_R q :: st) L f := h.2.2.2.2.2.2.2.2.2.2.2.2.2.2.2.2.2.2.2.2.2.2.2.2.2.2.2.2.2.2.2.2.1 ix pc a b c n v ls st L f x q nn rs hi h0 h1 k0
theorem zi_iastore (h : tw_Cl mt sw ft fl xs Sp Lf P t X) {x y : Int32} {q nn : Nat} {rs : List (Option Nat)} (hi : t[ix]? = some (pc, 33, a, b, c, n, v)) (h0 : L[q]? = some (100, nn, rs)) (h1 : vp_in x nn) (k0 : X (ix + 1) ls st L (tw_up f q x.toNatClampNeg y)) : X ix ls (tw_I y :: tw_I x :: tw_R q :: st) L f := h.2.2.2.2.2.2.2.2.2.2.2.2.2.2.2.2.2.2.2.2.2.2.2.2.2.2.2.2.2.2.2.2.2.1 ix pc a b c n v ls st L f x y q nn rs hi h0 h1 k0
theorem zi_bastore (h : tw_Cl mt sw ft fl xs Sp Lf P t X) {x y : Int32} {q nn : Nat} {rs : List (Option Nat)} (hi : t[ix]? = some (pc, 34, a, b, c, n, v)) (h0 : L[q]? = some (101, nn, rs)) (h1 : vp_in x nn) (h2 : (y = 0 ∨ y = 1)) (k0 : X (ix + 1) ls st L (tw_up f q x.toNatClampNeg y)) : X ix ls (tw_I y :: tw_I x :: tw_R q :: st) L f := h.2.2.2.2.2.2.2.2.2.2.2.2.2.2.2.2.2.2.2.2.2.2.2.2.2.2.2.2.2.2.2.2.2.2.1 ix pc a b c n v ls st L f x y q nn rs hi h0 h1 h2 k0
theorem zi_callV (h : tw_Cl mt sw ft fl xs Sp Lf P t X) {As : List tw_A} {L2 : tw_L} {q nn : Nat} {rs : List (Option Nat)} (hi : t[ix]? = some (pc, 35, a, b, c, n, v)) (h0 : L[q]? = some (b, nn, rs)) (h1 : As.length = tw_na mt a) (h2 : (st.map tw_ct).sum ≤ 8) (h3 : L.length ≤ L2.length) (h4 : tw_sl L ≤ tw_sl L2) (h5 : L2.length ≤ Lf.length) (h6 : tw_sl L2 ≤ tw_sl Lf) (k0 : Sp a (tw_R q :: As) L f L2 (fun f2 r => X (ix + 1) ls (r.toList ++ st) L2 f2)) : X ix ls (As.reverse ++ tw_R q :: st) L f := h.2.2.2.2.2.2.2.2.2.2.2.2.2.2.2.2.2.2.2.2.2.2.2.2.2.2.2.2.2.2.2.2.2.2.2.1 ix pc a b c n v ls st L f As L2 q nn rs hi h0 h1 h2 h3 h4 h5 h6 k0
theorem zi_callS (h : tw_Cl mt sw ft fl xs Sp Lf P t X) {As : List tw_A} {L2 : tw_L} (hi : t[ix]? = some (pc, 36, a, b, c, n, v)) (h0 : As.length = tw_na mt a) (h1 : (st.map tw_ct).sum ≤ 8) (h2 : L.length ≤ L2.length) (h3 : tw_sl L ≤ tw_sl L2) (h4 : L2.length ≤ Lf.length) (h5 : tw_sl L2 ≤ tw_sl Lf) (k0 : Sp a As L f L2 (fun f2 r => X (ix + 1) ls (r.toList ++ st) L2 f2)) : X ix ls (As.reverse ++ st) L f := h.2.2.2.2.2.2.2.2.2.2.2.2.2.2.2.2.2.2.2.2.2.2.2.2.2.2.2.2.2.2.2.2.2.2.2.2.1 ix pc a b c n v ls st L f As L2 hi h0 h1 h2 h3 h4 h5 k0
theorem zi_callI (h : tw_Cl mt sw ft fl xs Sp Lf P t X) {As : List tw_A} {L2 : tw_L} {q : Nat} (hi : t[ix]? = some (pc, 37, a, b, c, n, v)) (h0 : As.length = tw_na mt a) (h1 : (st.map tw_ct).sum ≤ 8) (h2 : L.length ≤ L2.length) (h3 : tw_sl L ≤ tw_sl L2) (h4 : L2.length ≤ Lf.length) (h5 : tw_sl L2 ≤ tw_sl Lf) (k0 : Sp a (tw_R q :: As) L f L2 (fun f2 r => X (ix + 1) ls (r.toList ++ st) L2 f2)) : X ix ls (As.reverse ++ tw_R q :: st) L f := h.2.2.2.2.2.2.2.2.2.2.2.2.2.2.2.2.2.2.2.2.2.2.2.2.2.2.2.2.2.2.2.2.2.2.2.2.2.1 ix pc a b c n v ls st L f As L2 q hi h0 h1 h2 h3 h4 h5 k0
theorem zi_iret (h : tw_Cl mt sw ft fl xs Sp Lf P t X) {x : Int32} (hi : t[ix]? = some (pc, 38, a, b, c, n, v)) (k0 : P f (some (tw_I x))) : X ix ls [tw_I x] Lf f := h.2.2.2.2.2.2.2.2.2.2.2.2.2.2.2.2.2.2.2.2.2.2.2.2.2.2.2.2.2.2.2.2.2.2.2.2.2.2.1 ix pc a b c n v ls f x hi  k0
theorem zi_zret (h : tw_Cl mt sw ft fl xs Sp Lf P t X) {x : Int32} (hi : t[ix]? = some (pc, 39, a, b, c, n, v)) (h0 : (x = 0 ∨ x = 1)) (k0 : P f (some (tw_I x))) : X ix ls [tw_I x] Lf f := h.2.2.2.2.2.2.2.2.2.2.2.2.2.2.2.2.2.2.2.2.2.2.2.2.2.2.2.2.2.2.2.2.2.2.2.2.2.2.2.1 ix pc a b c n v ls f x hi h0 k0
theorem zi_vret (h : tw_Cl mt sw ft fl xs Sp Lf P t X)  (hi : t[ix]? = some (pc, 40, a, b, c, n, v)) (k0 : P f none) : X ix ls [] Lf f := h.2.2.2.2.2.2.2.2.2.2.2.2.2.2.2.2.2.2.2.2.2.2.2.2.2.2.2.2.2.2.2.2.2.2.2.2.2.2.2.2.1 ix pc a b c n v ls f  hi  k0
theorem zi_aret (h : tw_Cl mt sw ft fl xs Sp Lf P t X) {q : Nat} (hi : t[ix]? = some (pc, 41, a, b, c, n, v)) (k0 : P f (some (tw_R q))) : X ix ls [tw_R q] Lf f := h.2.2.2.2.2.2.2.2.2.2.2.2.2.2.2.2.2.2.2.2.2.2.2.2.2.2.2.2.2.2.2.2.2.2.2.2.2.2.2.2.2.1 ix pc a b c n v ls f q hi  k0
theorem zi_new (h : tw_Cl mt sw ft fl xs Sp Lf P t X)  (hi : t[ix]? = some (pc, 42, a, b, c, n, v)) (h0 : fl = true) (h1 : L.length + 1 ≤ Lf.length) (h2 : tw_sl L + b ≤ tw_sl Lf) (k0 : X (ix + 1) ls (tw_R L.length :: st) (L ++ [(a, b, List.replicate b none)]) (tw_z f L.length)) : X ix ls st L f := h.2.2.2.2.2.2.2.2.2.2.2.2.2.2.2.2.2.2.2.2.2.2.2.2.2.2.2.2.2.2.2.2.2.2.2.2.2.2.2.2.2.2.1 ix pc a b c n v ls st L f  hi h0 h1 h2 k0
theorem zi_newa (h : tw_Cl mt sw ft fl xs Sp Lf P t X) {x : Int32} {nn : Nat} (hi : t[ix]? = some (pc, 43, a, b, c, n, v)) (h0 : fl = true) (h1 : x = nI nn) (h2 : nn < 4096) (h3 : L.length + 1 ≤ Lf.length) (h4 : tw_sl L + nn ≤ tw_sl Lf) (k0 : X (ix + 1) ls (tw_R L.length :: st) (L ++ [(a, nn, [])]) (tw_z f L.length)) : X ix ls (tw_I x :: st) L f := h.2.2.2.2.2.2.2.2.2.2.2.2.2.2.2.2.2.2.2.2.2.2.2.2.2.2.2.2.2.2.2.2.2.2.2.2.2.2.2.2.2.2.2.1 ix pc a b c n v ls st L f x nn hi h0 h1 h2 h3 h4 k0
theorem zi_objInit (h : tw_Cl mt sw ft fl xs Sp Lf P t X) {q : Nat} (hi : t[ix]? = some (pc, 44, a, b, c, n, v)) (k0 : X (ix + 1) ls [] L f) : X ix ls [tw_R q] L f := h.2.2.2.2.2.2.2.2.2.2.2.2.2.2.2.2.2.2.2.2.2.2.2.2.2.2.2.2.2.2.2.2.2.2.2.2.2.2.2.2.2.2.2.2.1 ix pc a b c n v ls L f q hi  k0
theorem zi_max (h : tw_Cl mt sw ft fl xs Sp Lf P t X) {x y : Int32} (hi : t[ix]? = some (pc, 45, a, b, c, n, v)) (h0 : (st.map tw_ct).sum ≤ 1) (h1 : L.length ≤ Lf.length) (h2 : tw_sl L ≤ tw_sl Lf) (k0 : X (ix + 1) ls (tw_I (if x < y then y else x) :: st) L f) : X ix ls (tw_I y :: tw_I x :: st) L f := h.2.2.2.2.2.2.2.2.2.2.2.2.2.2.2.2.2.2.2.2.2.2.2.2.2.2.2.2.2.2.2.2.2.2.2.2.2.2.2.2.2.2.2.2.2.1 ix pc a b c n v ls st L f x y hi h0 h1 h2 k0
theorem zi_switch (h : tw_Cl mt sw ft fl xs Sp Lf P t X) {x : Int32} {lo : Int} {ts : List Nat} {df : Nat} (hi : t[ix]? = some (pc, 46, a, b, c, n, v)) (h0 : sw[a]? = some (lo, ts, df)) (k0 : X (tw_tg lo ts df x) ls st L f) : X ix ls (tw_I x :: st) L f := h.2.2.2.2.2.2.2.2.2.2.2.2.2.2.2.2.2.2.2.2.2.2.2.2.2.2.2.2.2.2.2.2.2.2.2.2.2.2.2.2.2.2.2.2.2.2.1 ix pc a b c n v ls st L f x lo ts df hi h0 k0
theorem zi_aloadZ (h : tw_Cl mt sw ft fl xs Sp Lf P t X)  (hi : t[ix]? = some (pc, 47, a, b, c, n, v)) (h0 : ls[a]? = some (some tw_Z)) (k0 : X (ix + 1) ls (tw_Z :: st) L f) : X ix ls st L f := h.2.2.2.2.2.2.2.2.2.2.2.2.2.2.2.2.2.2.2.2.2.2.2.2.2.2.2.2.2.2.2.2.2.2.2.2.2.2.2.2.2.2.2.2.2.2.2.1 ix pc a b c n v ls st L f  hi h0 k0
theorem zi_scr (h : tw_Cl mt sw ft fl xs Sp Lf P t X) {x : Int32} {N : Nat} {g : Nat → Int32} (hi : t[ix]? = some (pc, 48, a, b, c, n, v)) (h0 : xs = some (N, g)) (h1 : vp_in x N) (k0 : X (ix + 1) ls (tw_I (g x.toNatClampNeg) :: st) L f) : X ix ls (tw_I x :: tw_Z :: st) L f := h.2.2.2.2.2.2.2.2.2.2.2.2.2.2.2.2.2.2.2.2.2.2.2.2.2.2.2.2.2.2.2.2.2.2.2.2.2.2.2.2.2.2.2.2.2.2.2.2.1 ix pc a b c n v ls st L f x N g hi h0 h1 k0
theorem zi_slen (h : tw_Cl mt sw ft fl xs Sp Lf P t X) {N : Nat} {g : Nat → Int32} (hi : t[ix]? = some (pc, 49, a, b, c, n, v)) (h0 : xs = some (N, g)) (k0 : X (ix + 1) ls (tw_I (Int32.ofNat N) :: st) L f) : X ix ls (tw_Z :: st) L f := h.2.2.2.2.2.2.2.2.2.2.2.2.2.2.2.2.2.2.2.2.2.2.2.2.2.2.2.2.2.2.2.2.2.2.2.2.2.2.2.2.2.2.2.2.2.2.2.2.2.1 ix pc a b c n v ls st L f N g hi h0 k0
theorem zi_laload (h : tw_Cl mt sw ft fl xs Sp Lf P t X) {x : Int32} {q nn : Nat} {rs : List (Option Nat)} (hi : t[ix]? = some (pc, 50, a, b, c, n, v)) (h0 : L[q]? = some (102, nn, rs)) (h1 : vp_in x nn) (k0 : X (ix + 1) ls (tw_J (f q x.toNatClampNeg) :: st) L f) : X ix ls (tw_I x :: tw_R q :: st) L f := h.2.2.2.2.2.2.2.2.2.2.2.2.2.2.2.2.2.2.2.2.2.2.2.2.2.2.2.2.2.2.2.2.2.2.2.2.2.2.2.2.2.2.2.2.2.2.2.2.2.2.1 ix pc a b c n v ls st L f x q nn rs hi h0 h1 k0
theorem zi_i2l (h : tw_Cl mt sw ft fl xs Sp Lf P t X) {x : Int32} (hi : t[ix]? = some (pc, 51, a, b, c, n, v)) (k0 : X (ix + 1) ls (tw_J x :: st) L f) : X ix ls (tw_I x :: st) L f := h.2.2.2.2.2.2.2.2.2.2.2.2.2.2.2.2.2.2.2.2.2.2.2.2.2.2.2.2.2.2.2.2.2.2.2.2.2.2.2.2.2.2.2.2.2.2.2.2.2.2.2.1 ix pc a b c n v ls st L f x hi  k0
theorem zi_lcmp (h : tw_Cl mt sw ft fl xs Sp Lf P t X) {x y : Int32} (hi : t[ix]? = some (pc, 52, a, b, c, n, v)) (k0 : X (ix + 1) ls (tw_I (lg_cmp x.toInt64 y.toInt64) :: st) L f) : X ix ls (tw_J y :: tw_J x :: st) L f := h.2.2.2.2.2.2.2.2.2.2.2.2.2.2.2.2.2.2.2.2.2.2.2.2.2.2.2.2.2.2.2.2.2.2.2.2.2.2.2.2.2.2.2.2.2.2.2.2.2.2.2.2 ix pc a b c n v ls st L f x y hi  k0
end INTRO
end
section
/-! The rules are sound: what they say of a method is a contract that the machine meets. -/
def tw_Sp (mt : List tw_MR) (sw : tw_SW) (ft : Nat → Nat → Nat) (fl : Bool) : Nat → tw_SP
  | 0 => fun _ _ _ _ _ _ => False
  | d + 1 => fun k As L f L2 P => ∃ r, mt[k]? = some r ∧ As.all (fun a => tw_ct a == 1) = true ∧ As.length ≤ r.2.2.2.2.1 ∧ ∀ X : tw_X, tw_Cl mt sw ft fl none (tw_Sp mt sw ft fl d) L2 P r.2.2.2.2.2.2.2 X → X 0 (tw_in r.2.2.2.2.1 As) [] L f
def tw_pc (t : tw_T) (ix : Nat) : Nat := match t[ix]? with
  | some r => r.1
  | none => 0
/-- the instruction that a row of a table stands for, and its length -/
def tw_x (t : tw_T) (sw : tw_SW) (ix pc : Nat) (o : tw_O) : Instr × Nat := match o.1 with
  | 0 => (.iload_n (Fin.ofNat 4 o.2.1), 1)
  | 1 => (.iload o.2.1, 2)
  | 2 => (.aload_n (Fin.ofNat 4 o.2.1), 1)
  | 3 => (.aload o.2.1, 2)
  | 4 => (.iconst o.2.2.2.2.1, 1)
  | 5 => (.bipush o.2.2.2.2.1, 2)
  | 6 => (.sipush o.2.2.2.2.1, 3)
  | 7 => (.istore_n (Fin.ofNat 4 o.2.1), 1)
  | 8 => (.istore o.2.1, 2)
  | 9 => (.astore_n (Fin.ofNat 4 o.2.1), 1)
  | 10 => (.astore o.2.1, 2)
  | 11 => (.iinc o.2.1 o.2.2.2.2.1, 3)
  | 12 => (.iadd, 1)
  | 13 => (.isub, 1)
  | 14 => (.imul, 1)
  | 15 => (.iand, 1)
  | 16 => (.ior, 1)
  | 17 => (.ixor, 1)
  | 18 => (.ishl, 1)
  | 19 => (.ishr, 1)
  | 20 => (.idiv, 1)
  | 21 => (.irem, 1)
  | 22 => (tw_if o.2.1 ((tw_pc t o.2.2.1 : Int) - (pc : Int)), 3)
  | 23 => (tw_ic o.2.1 ((tw_pc t o.2.2.1 : Int) - (pc : Int)), 3)
  | 24 => (.goto ((tw_pc t o.2.2.1 : Int) - (pc : Int)), 3)
  | 25 => (.dup, 1)
  | 26 => (.dup2, 1)
  | 27 => (.getfield o.2.2.2.1, 3)
  | 28 => (.putfield o.2.2.2.1, 3)
  | 29 => (.putfield o.2.2.2.1, 3)
  | 30 => (.putfield o.2.2.2.1, 3)
  | 31 => (.iaload, 1)
  | 32 => (.baload, 1)
  | 33 => (.iastore, 1)
  | 34 => (.bastore, 1)
  | 35 => (.invokevirtual o.2.2.2.1, 3)
  | 36 => (.invokestatic o.2.2.2.1, 3)
  | 37 => (.invokespecial o.2.2.2.1, 3)
  | 38 => (.ireturn, 1)
  | 39 => (.ireturn, 1)
  | 40 => (.return_, 1)
  | 41 => (.areturn, 1)
  | 42 => (.new o.2.2.2.1, 3)
  | 43 => (.newarray (tw_at o.2.1), 2)
  | 44 => (.invokespecial o.2.2.2.1, 3)
  | 45 => (.invokestatic o.2.2.2.1, 3)
  | 46 => (match sw[o.2.1]? with
    | some s => .tableswitch ((tw_pc t s.2.2 : Int) - (pc : Int)) s.1 (s.1 + (s.2.1.length : Int) - 1) (s.2.1.map (fun j => (tw_pc t j : Int) - (pc : Int))).toArray
    | none => .nop, tw_pc t (ix + 1) - pc)
  | 47 => (.aload_n (Fin.ofNat 4 o.2.1), 1)
  | 48 => (.iaload, 1)
  | 49 => (.arraylength, 1)
  | 50 => (.laload, 1)
  | 51 => (.i2l, 1)
  | 52 => (.lcmp, 1)
  | _ => (.nop, 1)
def tw_kd (mt : List tw_MR) (k d c : Nat) : Bool := match mt[k]? with
  | some r => decide (r.2.2.2.2.2.2.1.1 = d) && decide (r.2.2.2.2.2.2.1.2.1 = c)
  | none => false
def tw_fit (mt : List tw_MR) (k : Nat) (r : tw_MR) : Bool := match mt[k]? with
  | some x => decide (x.2.2.2.2.2.2.1.2.2.2.1 + 1 ≤ r.2.2.2.2.2.2.1.2.2.2.1 ∧ 8 + (x.2.2.2.2.1 + 11) + x.2.2.2.2.2.2.1.2.2.2.2 ≤ r.2.2.2.2.2.2.1.2.2.2.2)
  | none => false
def tw_isR (t : Option FieldType) : Bool := match t with
  | some (.object _) => true
  | some (.array _) => true
  | _ => false
def tw_sok (sw : tw_SW) (k : Nat) : Bool := match sw[k]? with
  | some s => decide (0 < s.2.1.length) && decide (s.2.1.length < 1000) && decide (s.1 = 0)
  | none => false
abbrev tw_LK : Type := List (Nat × Nat × Nat × Nat × Nat) × List (Nat × Nat × Nat) × List (Nat × Nat × Nat × Nat) × List (Nat × Nat) × List (Nat × Nat)
/-- what a row needs beside its bytes: links by their places (fields; methods; classes; Object's constructor; Math.max), constants, the kind of end -/
def tw_wd (lk : tw_LK) (mt : List tw_MR) (sw : tw_SW) (r : tw_MR) (o : tw_O) : Bool := match o.1 with
  | 0 => decide (o.2.1 < 4)
  | 2 => decide (o.2.1 < 4)
  | 4 => decide (Int32.ofInt o.2.2.2.2.1 = o.2.2.2.2.2)
  | 5 => decide ((Int8.ofInt o.2.2.2.2.1).toInt32 = o.2.2.2.2.2)
  | 6 => decide ((Int16.ofInt o.2.2.2.2.1).toInt32 = o.2.2.2.2.2)
  | 7 => decide (o.2.1 < 4)
  | 9 => decide (o.2.1 < 4)
  | 11 => decide (Int32.ofInt o.2.2.2.2.1 = o.2.2.2.2.2)
  | 27 => decide (lk.1[o.2.2.2.2.1.toNat]? = some (r.1, o.2.2.2.1, o.2.1, o.2.2.1, 0)) || decide (lk.1[o.2.2.2.2.1.toNat]? = some (r.1, o.2.2.2.1, o.2.1, o.2.2.1, 1))
  | 28 => decide (lk.1[o.2.2.2.2.1.toNat]? = some (r.1, o.2.2.2.1, o.2.1, o.2.2.1, 0))
  | 29 => decide (lk.1[o.2.2.2.2.1.toNat]? = some (r.1, o.2.2.2.1, o.2.1, o.2.2.1, 1)) && decide (r.2.2.2.2.2.2.1.1 = 2) && decide (r.2.2.2.2.2.2.1.2.1 = o.2.1)
  | 30 => decide (lk.1[o.2.2.2.2.1.toNat]? = some (r.1, o.2.2.2.1, o.2.1, o.2.2.1, 1)) && decide (r.2.2.2.2.2.2.1.1 = 2) && decide (r.2.2.2.2.2.2.1.2.1 = o.2.1)
  | 35 => decide (lk.2.1[o.2.2.2.2.1.toNat]? = some (r.1, o.2.2.2.1, o.2.1)) && tw_kd mt o.2.1 1 o.2.2.1 && tw_fit mt o.2.1 r
  | 36 => decide (lk.2.1[o.2.2.2.2.1.toNat]? = some (r.1, o.2.2.2.1, o.2.1)) && tw_kd mt o.2.1 0 0 && tw_fit mt o.2.1 r
  | 37 => decide (lk.2.1[o.2.2.2.2.1.toNat]? = some (r.1, o.2.2.2.1, o.2.1)) && tw_kd mt o.2.1 2 o.2.2.1 && tw_fit mt o.2.1 r
  | 38 => decide (r.2.2.2.2.2.1 = some .int)
  | 39 => decide (r.2.2.2.2.2.1 = some .boolean)
  | 40 => decide (r.2.2.2.2.2.1 = none)
  | 41 => tw_isR r.2.2.2.2.2.1
  | 42 => decide (lk.2.2.1[o.2.2.2.2.1.toNat]? = some (r.1, o.2.2.2.1, o.2.1, o.2.2.1))
  | 43 => decide (o.2.1 = 100 ∨ o.2.1 = 101 ∨ o.2.1 = 102)
  | 44 => decide (lk.2.2.2.1[o.2.2.2.2.1.toNat]? = some (r.1, o.2.2.2.1)) && decide (1 ≤ r.2.2.2.2.2.2.1.2.2.2.1 ∧ 12 ≤ r.2.2.2.2.2.2.1.2.2.2.2)
  | 45 => decide (lk.2.2.2.2[o.2.2.2.2.1.toNat]? = some (r.1, o.2.2.2.1)) && decide (1 ≤ r.2.2.2.2.2.2.1.2.2.2.1 ∧ 14 ≤ r.2.2.2.2.2.2.1.2.2.2.2)
  | 46 => tw_sok sw o.2.1
  | 47 => decide (o.2.1 < 4)
  | _ => true
/-- does the instruction go on to the next row? -/
def tw_th (o : tw_O) : Bool := match o.1 with
  | 24 => false
  | 38 => false
  | 39 => false
  | 40 => false
  | 41 => false
  | 46 => false
  | _ => true
def tw_ck (lk : tw_LK) (mt : List tw_MR) (sw : tw_SW) (r : tw_MR) (ix : Nat) (x : Nat × tw_O) : Bool :=
  Nat.beq x.2.1 99 || (decide (decode r.2.2.2.1 x.1 = .ok (tw_x r.2.2.2.2.2.2.2 sw ix x.1 x.2)) && (!tw_th x.2 || decide (tw_pc r.2.2.2.2.2.2.2 (ix + 1) = x.1 + (tw_x r.2.2.2.2.2.2.2 sw ix x.1 x.2).2)) && tw_wd lk mt sw r x.2)
def tw_cm (lk : tw_LK) (mt : List tw_MR) (sw : tw_SW) (r : tw_MR) : Bool := r.2.2.2.2.2.2.2.zipIdx.all (fun x => tw_ck lk mt sw r x.2 x.1)
end
section
/-! The tables' facts, and the closure of the machine under the rules. -/
abbrev tw_my (r : tw_MR) : MethodName := r.2.2.1
def tw_mok (cl : List vw_C) (mt : List tw_MR) (sw : tw_SW) (lk : tw_LK) (nm : Nat → String) (Ts : List Cond) (r : tw_MR) : Prop :=
  (r.2.1 = nm r.1 ∧ (tw_my r).cls = r.2.1 ∧ plainName (tw_my r).cls = true ∧ Cond.code (tw_my r) r.2.2.2.1 r.2.2.2.2.1 r.2.2.2.2.2.1 ∈ Ts ∧ Cond.initialized (tw_my r).cls ∈ Ts) ∧
  ((tw_my r).cls ≠ "java/lang/invoke/MethodHandle" ∧ (tw_my r).cls ≠ "java/lang/invoke/VarHandle" ∧ (parseMethodDescriptor (tw_my r).desc).map (fun d => d.parameters.length) = some r.2.2.2.2.2.2.1.2.2.1) ∧
  (tw_pc r.2.2.2.2.2.2.2 0 = 0 ∧ tw_cm lk mt sw r = true) ∧
  (r.2.2.2.2.2.2.1.1 = 0 → Cond.static (tw_my r) ∈ Ts) ∧
  (r.2.2.2.2.2.2.1.1 = 1 → Cond.instanceMethod (tw_my r) ∈ Ts ∧ Cond.selects (tw_my r).cls (tw_my r) (tw_my r) ∈ Ts ∧ ∃ x, cl[r.2.2.2.2.2.2.1.2.1]? = some x ∧ x.1 = (tw_my r).cls) ∧
  (r.2.2.2.2.2.2.1.1 = 2 → (tw_my r).name = "<init>" ∧ Cond.instanceMethod (tw_my r) ∈ Ts ∧ r.2.2.2.2.2.1 = none ∧ ∃ x, cl[r.2.2.2.2.2.2.1.2.1]? = some x ∧ x.1 = (tw_my r).cls)
def tw_OK (cl : List vw_C) (ft : Nat → Nat → Nat) (ty : Nat → Nat → FieldType) (mt : List tw_MR) (sw : tw_SW) (lk : tw_LK) (nm : Nat → String) (Ts : List Cond) (Nm : List tw_N) : Prop :=
  (∀ (ci : Nat) (x : vw_C), cl[ci]? = some x → tw_C ft Ts ci x (ty ci)) ∧
  (∀ x ∈ lk.1, ∃ r, cl[x.2.2.1]? = some r ∧ x.2.2.2.1 < r.2.2 ∧ Cond.fieldLink (nm x.1) x.2.1 (r.2.1 x.2.2.2.1).1 (r.2.1 x.2.2.2.1).2.1 (r.2.1 x.2.2.2.1).2.2.1 ∈ Ts ∧ (x.2.2.2.2 = 0 → (r.2.1 x.2.2.2.1).2.2.2 = false) ∧ (x.2.2.2.2 = 1 → (r.2.1 x.2.2.2.1).2.2.2 = true ∧ (r.2.1 x.2.2.2.1).1 = r.1)) ∧
  (∀ x ∈ lk.2.1, ∃ r, mt[x.2.2]? = some r ∧ (Cond.methodLink (nm x.1) x.2.1 (tw_my r) ∈ Ts ∨ ∃ host, (nm x.1, x.2.1, tw_my r, host) ∈ Nm)) ∧
  (∀ x ∈ lk.2.2.1, ∃ r, cl[x.2.2.1]? = some r ∧ x.2.2.2 = r.2.2 ∧ Cond.classLink (nm x.1) x.2.1 r.1 ∈ Ts ∧ Cond.instantiable r.1 r.2.2 ∈ Ts ∧ Cond.initialized r.1 ∈ Ts) ∧
  (∀ x ∈ lk.2.2.2.1, Cond.methodLink (nm x.1) x.2 Lib.objectInit ∈ Ts ∧ Cond.instanceMethod Lib.objectInit ∈ Ts ∧ Cond.code Lib.objectInit ⟨#[0xb1]⟩ 1 none ∈ Ts) ∧
  (∀ x ∈ lk.2.2.2.2, Cond.methodLink (nm x.1) x.2 Lib.Math.max.name ∈ Ts ∧ Cond.static Lib.Math.max.name ∈ Ts ∧ Cond.initialized "java/lang/Math" ∈ Ts ∧ Cond.code Lib.Math.max.name Lib.Math.max.code 2 (some .int) ∈ Ts) ∧
  (∀ a, a = 100 ∨ a = 101 ∨ a = 102 → Cond.arrayClass (tw_ty a) ∈ Ts) ∧
  (∀ w ∈ Ts, (w.onTables && w.keeps) = true ∨ ∃ t, w = .arrayClass t) ∧
  (∀ (k : Nat) (r : tw_MR), mt[k]? = some r → tw_mok cl mt sw lk nm Ts r)
theorem tw_pc_at {t : tw_T} {ix : Nat} {x : Nat × tw_O} (h : t[ix]? = some x) : tw_pc t ix = x.1 := by
  unfold tw_pc
  rw [h]
theorem tw_ck_at {lk : tw_LK} {mt : List tw_MR} {sw : tw_SW} {r : tw_MR} (h : tw_cm lk mt sw r = true) {ix : Nat} {x : Nat × tw_O} (hx : r.2.2.2.2.2.2.2[ix]? = some x) (hne : Nat.beq x.2.1 99 = false) :
    decode r.2.2.2.1 x.1 = .ok (tw_x r.2.2.2.2.2.2.2 sw ix x.1 x.2) ∧ (tw_th x.2 = true → tw_pc r.2.2.2.2.2.2.2 (ix + 1) = x.1 + (tw_x r.2.2.2.2.2.2.2 sw ix x.1 x.2).2) ∧ tw_wd lk mt sw r x.2 = true := by
  unfold tw_cm at h
  have h1 := List.all_eq_true.mp h (x, ix) (by
    refine List.mem_of_getElem? (i := ix) ?_
    rw [List.getElem?_zipIdx, hx]
    simp)
  have h2 : tw_ck lk mt sw r ix x = true := h1
  unfold tw_ck at h2
  rw [hne, Bool.false_or, Bool.and_eq_true, Bool.and_eq_true] at h2
  refine ⟨of_decide_eq_true h2.1.1, fun g => ?_, h2.2⟩
  have h3 := h2.1.2
  rw [g] at h3
  exact of_decide_eq_true h3
theorem tw_kd_of {mt : List tw_MR} {k d q : Nat} {r : tw_MR} (hr : mt[k]? = some r) (h : tw_kd mt k d q = true) : r.2.2.2.2.2.2.1.1 = d ∧ r.2.2.2.2.2.2.1.2.1 = q := by
  unfold tw_kd at h
  rw [hr] at h
  have h' := Bool.and_eq_true_iff.mp h
  exact ⟨of_decide_eq_true h'.1, of_decide_eq_true h'.2⟩
theorem tw_na_of {mt : List tw_MR} {k : Nat} {r : tw_MR} (hr : mt[k]? = some r) : tw_na mt k = r.2.2.2.2.2.2.1.2.2.1 := by
  unfold tw_na
  rw [hr]
def tw_rm (r : tw_MR) (L L2 : tw_L) : Room := { frames := r.2.2.2.2.2.2.1.2.2.2.1, cells := L2.length - L.length, slots := tw_sl L2 - tw_sl L, locals := r.2.2.2.2.2.2.1.2.2.2.2 }
theorem tw_fit_of {mt : List tw_MR} {k : Nat} {r r2 : tw_MR} (hr : mt[k]? = some r2) (h : tw_fit mt k r = true) : r2.2.2.2.2.2.2.1.2.2.2.1 + 1 ≤ r.2.2.2.2.2.2.1.2.2.2.1 ∧ 8 + (r2.2.2.2.2.1 + 11) + r2.2.2.2.2.2.2.1.2.2.2.2 ≤ r.2.2.2.2.2.2.1.2.2.2.2 := by
  unfold tw_fit at h
  rw [hr] at h
  exact of_decide_eq_true h
def tw_MT (l : Launch) (cl : List vw_C) (ft : Nat → Nat → Nat) (mt : List tw_MR) (Ts : List Cond) (Nm : List tw_N) (D : va_G) (cA : Nat → ClassId) (tys : List (ClassId × FieldType)) (b z : Nat) (fl : Bool) (Sp : tw_SP) : Prop :=
  ∀ (k : Nat) (As : List tw_A) (L : tw_L) (f : tw_S) (L2 : tw_L) (P : tw_S → Option tw_A → Prop), Sp k As L f L2 P → ∀ r, mt[k]? = some r →
    Met l (tw_my r) (Cond.code (tw_my r) r.2.2.2.1 r.2.2.2.2.1 r.2.2.2.2.2.1 :: Ts) (tw_rm r L L2) (tw_Pc cl ft D cA tys Nm b z fl As L f) (tw_Qc cl ft D cA b z fl L2 P) (L2.length - L.length) (tw_sl L2 - tw_sl L) (fun x => b ≤ x)
section CLOSED
variable {p : Program} {l : Launch} {e : Env} {R : Room} {s : State} {m : MethodId} {args : Array Value} {below : List Frame} {meth : Method} {c : Code} {Q : State → Prop} {cl : List vw_C} {ft : Nat → Nat → Nat} {D : va_G} {cA : Nat → ClassId} {b z nL n0 s0 : Nat} {fl : Bool} {ls : List (Option tw_A)} {st : List tw_A} {L : tw_L} {f : tw_S} {tys : List (ClassId × FieldType)} {Nm : List tw_N}
theorem tw_cgr {pc pc2 : Nat} (h : pc = pc2) (k : tw_G p l e R s m args below meth c Q cl ft D cA b z nL n0 s0 fl pc2 ls st L f) : tw_G p l e R s m args below meth c Q cl ft D cA b z nL n0 s0 fl pc ls st L f := h ▸ k
theorem tw_good {Ts : List Cond} (hG : ∀ w ∈ Ts, (w.onTables && w.keeps) = true ∨ ∃ t, w = .arrayClass t) {y : MethodName} {bytes : ByteArray} {ml : Nat} {rt : Option FieldType} (h : Cond.code y bytes ml rt ∈ Ts) : GoodIn Ts (Cond.code y bytes ml rt :: Ts) := by
  intro w hw
  rcases List.mem_cons.mp hw with rfl | hw
  · exact ⟨h, hG _ h⟩
  · exact ⟨hw, hG _ hw⟩
end CLOSED
section SWITCH
variable {p : Program} {l : Launch} {e : Env} {R : Room} {s : State} {m : MethodId} {args : Array Value} {below : List Frame} {meth : Method} {c : Code} {Q : State → Prop} {cl : List vw_C} {ft : Nat → Nat → Nat} {D : va_G} {cA : Nat → ClassId} {b z nL n0 s0 : Nat} {fl : Bool} {ls : List (Option tw_A)} {st : List tw_A} {L : tw_L} {f : tw_S}
theorem tg_switch (hx : p.tables.exec = Jvm.exec) {cc : ByteArray} (hb : c.code = cc) {pc df len : Nat} {ts : List Nat} {t : tw_T} {x : Int32} (hd : decode cc pc = .ok (.tableswitch ((tw_pc t df : Int) - (pc : Int)) 0 (0 + (ts.length : Int) - 1) (ts.map (fun j => (tw_pc t j : Int) - (pc : Int))).toArray, len)) (h0 : 0 < ts.length) (h1 : ts.length < 1000)
    (kk : tw_G p l e R s m args below meth c Q cl ft D cA b z nL n0 s0 fl (tw_pc t (tw_tg 0 ts df x)) ls st L f) : tw_G p l e R s m args below meth c Q cl ft D cA b z nL n0 s0 fl pc ls (tw_I x :: st) L f := by
  intro H locs la g1 g2 hW hS hh
  have k2 := kk H locs la g1 g2 hW hS hh
  unfold tw_tg at k2
  by_cases hlo : x.toInt < 0
  · rw [if_pos hlo] at k2
    exact lv_tableOut hx hb hd (Or.inl hlo) (by omega) k2
  · rw [if_neg hlo] at k2
    by_cases hhi : 0 + (ts.length : Int) - 1 < x.toInt
    · have h2 : ts.getD (x.toInt - 0).toNat df = df := by
        rw [List.getD_eq_getElem?_getD, List.getElem?_eq_none (by omega)]
        rfl
      rw [h2] at k2
      exact lv_tableOut hx hb hd (Or.inr hhi) (by omega) k2
    · have hlt : (x.toInt - 0).toNat < ts.length := by omega
      have h2 : ts.getD (x.toInt - 0).toNat df = ts[(x.toInt - 0).toNat] := by
        rw [List.getD_eq_getElem?_getD, List.getElem?_eq_getElem hlt]
        rfl
      rw [h2] at k2
      refine lv_tableIn hx hb hd hlo hhi (off := (tw_pc t ts[(x.toInt - 0).toNat] : Int) - (pc : Int)) ?_ (by omega) k2
      rw [List.getElem?_toArray, List.getElem?_map, List.getElem?_eq_getElem hlt]
      rfl
end SWITCH
set_option maxHeartbeats 4000000 in
theorem tw_closed {p : Program} {l : Launch} {e : Env} {R : Room} {s : State} {m : MethodId} {args : Array Value} {below : List Frame} {meth : Method} {c : Code} {cl : List vw_C} {ft : Nat → Nat → Nat} {ty : Nat → Nat → FieldType} {mt : List tw_MR} {sw : tw_SW} {lk : tw_LK} {nm : Nat → String} {Ts : List Cond} {Nm : List tw_N} {D : va_G} {cA : Nat → ClassId} {b z n0 s0 : Nat} {fl : Bool} {xs : Option (Nat × (Nat → Int32))} {Sp : tw_SP} {Lf : tw_L} {P : tw_S → Option tw_A → Prop} {r : tw_MR}
    (hOK : tw_OK cl ft ty mt sw lk nm Ts Nm) (hr : tw_mok cl mt sw lk nm Ts r) (hx : p.tables.exec = Jvm.exec) (hb : c.code = r.2.2.2.1) (hml : c.maxLocals = r.2.2.2.2.1) (hret : meth.sig.returnType = r.2.2.2.2.2.1) (hlocks : meth.locks = false) (hname : meth.name = (tw_my r).name) (hts : ∀ w ∈ Ts, w.before args s = true) (hown : s.vm.findClass (nm r.1) = some m.cls) (hK : va_K D cl [(cA 100, .int), (cA 101, .boolean), (cA 102, .long)] s) (hN : ∀ x ∈ Nm, va_Nw (.methodLinkNest x.1 x.2.1 x.2.2.1 x.2.2.2) s)
    (hb0 : b ≤ s.heap.size) (hxs : ∀ N g, xs = some (N, g) → va_X z N g s s.heap ∧ z < s.heap.size ∧ z < b)
    (hRf : r.2.2.2.2.2.2.1.2.2.2.1 ≤ R.frames) (hRl : r.2.2.2.2.2.2.1.2.2.2.2 ≤ R.locals) (hRc : Lf.length - n0 ≤ R.cells) (hRs : tw_sl Lf - s0 ≤ R.slots) (IH : tw_MT l cl ft mt Ts Nm D cA [(cA 100, .int), (cA 101, .boolean), (cA 102, .long)] b z fl Sp) :
    tw_Cl mt sw ft fl xs Sp Lf P r.2.2.2.2.2.2.2 (fun ix ls st L f => tw_G p l e R s m args below meth c (MQ below (tw_Qc cl ft D cA b z fl Lf P) args s (Lf.length - n0) (tw_sl Lf - s0) (fun x => b ≤ x)) cl ft D cA b z r.2.2.2.2.1 n0 s0 fl (tw_pc r.2.2.2.2.2.2.2 ix) ls st L f) := by
  obtain ⟨hOC, hOF, hOM, hON, hOO, hOX, hOA, hOG, hOR⟩ := hOK
  have hck : ∀ {ix : Nat} {x : Nat × tw_O}, r.2.2.2.2.2.2.2[ix]? = some x → Nat.beq x.2.1 99 = false → decode r.2.2.2.1 x.1 = .ok (tw_x r.2.2.2.2.2.2.2 sw ix x.1 x.2) ∧ (tw_th x.2 = true → tw_pc r.2.2.2.2.2.2.2 (ix + 1) = x.1 + (tw_x r.2.2.2.2.2.2.2 sw ix x.1 x.2).2) ∧ tw_wd lk mt sw r x.2 = true := fun h g => tw_ck_at hr.2.2.1.2 h g
  refine ⟨?_, ?_, ?_, ?_, ?_, ?_, ?_, ?_, ?_, ?_, ?_, ?_, ?_, ?_, ?_, ?_, ?_, ?_, ?_, ?_, ?_, ?_, ?_, ?_, ?_, ?_, ?_, ?_, ?_, ?_, ?_, ?_, ?_, ?_, ?_, ?_, ?_, ?_, ?_, ?_, ?_, ?_, ?_, ?_, ?_, ?_, ?_, ?_, ?_, ?_, ?_, ?_, ?_⟩
  · intro ix pc a b1 c1 n v ls st L f x ht hl k
    have hd : decode r.2.2.2.1 pc = .ok (.iload_n (Fin.ofNat 4 a), 1) := (hck ht rfl).1
    have hn : tw_pc r.2.2.2.2.2.2.2 (ix + 1) = pc + 1 := (hck ht rfl).2.1 rfl
    have hw : a < 4 := of_decide_eq_true (hck ht rfl).2.2
    exact tw_cgr (tw_pc_at ht) (tg_iload_n hx hb hd (Nat.mod_eq_of_lt hw) hl (tw_cgr hn.symm k))
  · intro ix pc a b1 c1 n v ls st L f x ht hl k
    have hd : decode r.2.2.2.1 pc = .ok (.iload a, 2) := (hck ht rfl).1
    have hn : tw_pc r.2.2.2.2.2.2.2 (ix + 1) = pc + 2 := (hck ht rfl).2.1 rfl
    exact tw_cgr (tw_pc_at ht) (tg_iload hx hb hd hl (tw_cgr hn.symm k))
  · intro ix pc a b1 c1 n v ls st L f q ht hl k
    have hd : decode r.2.2.2.1 pc = .ok (.aload_n (Fin.ofNat 4 a), 1) := (hck ht rfl).1
    have hn : tw_pc r.2.2.2.2.2.2.2 (ix + 1) = pc + 1 := (hck ht rfl).2.1 rfl
    have hw : a < 4 := of_decide_eq_true (hck ht rfl).2.2
    exact tw_cgr (tw_pc_at ht) (tg_aload_n hx hb hd (Nat.mod_eq_of_lt hw) hl (tw_cgr hn.symm k))
  · intro ix pc a b1 c1 n v ls st L f q ht hl k
    have hd : decode r.2.2.2.1 pc = .ok (.aload a, 2) := (hck ht rfl).1
    have hn : tw_pc r.2.2.2.2.2.2.2 (ix + 1) = pc + 2 := (hck ht rfl).2.1 rfl
    exact tw_cgr (tw_pc_at ht) (tg_aload hx hb hd hl (tw_cgr hn.symm k))
  · intro ix pc a b1 c1 n v ls st L f ht k
    have hd : decode r.2.2.2.1 pc = .ok (.iconst n, 1) := (hck ht rfl).1
    have hn : tw_pc r.2.2.2.2.2.2.2 (ix + 1) = pc + 1 := (hck ht rfl).2.1 rfl
    have hw : Int32.ofInt n = v := of_decide_eq_true (hck ht rfl).2.2
    exact tw_cgr (tw_pc_at ht) (tg_iconst hx hb hd hw (tw_cgr hn.symm k))
  · intro ix pc a b1 c1 n v ls st L f ht k
    have hd : decode r.2.2.2.1 pc = .ok (.bipush n, 2) := (hck ht rfl).1
    have hn : tw_pc r.2.2.2.2.2.2.2 (ix + 1) = pc + 2 := (hck ht rfl).2.1 rfl
    have hw : (Int8.ofInt n).toInt32 = v := of_decide_eq_true (hck ht rfl).2.2
    exact tw_cgr (tw_pc_at ht) (tg_bipush hx hb hd hw (tw_cgr hn.symm k))
  · intro ix pc a b1 c1 n v ls st L f ht k
    have hd : decode r.2.2.2.1 pc = .ok (.sipush n, 3) := (hck ht rfl).1
    have hn : tw_pc r.2.2.2.2.2.2.2 (ix + 1) = pc + 3 := (hck ht rfl).2.1 rfl
    have hw : (Int16.ofInt n).toInt32 = v := of_decide_eq_true (hck ht rfl).2.2
    exact tw_cgr (tw_pc_at ht) (tg_sipush hx hb hd hw (tw_cgr hn.symm k))
  · intro ix pc a b1 c1 n v ls st L f x ht hl k
    have hd : decode r.2.2.2.1 pc = .ok (.istore_n (Fin.ofNat 4 a), 1) := (hck ht rfl).1
    have hn : tw_pc r.2.2.2.2.2.2.2 (ix + 1) = pc + 1 := (hck ht rfl).2.1 rfl
    have hw : a < 4 := of_decide_eq_true (hck ht rfl).2.2
    exact tw_cgr (tw_pc_at ht) (tg_istore_n hx hb hd (Nat.mod_eq_of_lt hw) hl (tw_cgr hn.symm k))
  · intro ix pc a b1 c1 n v ls st L f x ht hl k
    have hd : decode r.2.2.2.1 pc = .ok (.istore a, 2) := (hck ht rfl).1
    have hn : tw_pc r.2.2.2.2.2.2.2 (ix + 1) = pc + 2 := (hck ht rfl).2.1 rfl
    exact tw_cgr (tw_pc_at ht) (tg_istore hx hb hd hl (tw_cgr hn.symm k))
  · intro ix pc a b1 c1 n v ls st L f q ht hl k
    have hd : decode r.2.2.2.1 pc = .ok (.astore_n (Fin.ofNat 4 a), 1) := (hck ht rfl).1
    have hn : tw_pc r.2.2.2.2.2.2.2 (ix + 1) = pc + 1 := (hck ht rfl).2.1 rfl
    have hw : a < 4 := of_decide_eq_true (hck ht rfl).2.2
    exact tw_cgr (tw_pc_at ht) (tg_astore_n hx hb hd (Nat.mod_eq_of_lt hw) hl (tw_cgr hn.symm k))
  · intro ix pc a b1 c1 n v ls st L f q ht hl k
    have hd : decode r.2.2.2.1 pc = .ok (.astore a, 2) := (hck ht rfl).1
    have hn : tw_pc r.2.2.2.2.2.2.2 (ix + 1) = pc + 2 := (hck ht rfl).2.1 rfl
    exact tw_cgr (tw_pc_at ht) (tg_astore hx hb hd hl (tw_cgr hn.symm k))
  · intro ix pc a b1 c1 n v ls st L f x ht hl k
    have hd : decode r.2.2.2.1 pc = .ok (.iinc a n, 3) := (hck ht rfl).1
    have hn : tw_pc r.2.2.2.2.2.2.2 (ix + 1) = pc + 3 := (hck ht rfl).2.1 rfl
    have hw : Int32.ofInt n = v := of_decide_eq_true (hck ht rfl).2.2
    exact tw_cgr (tw_pc_at ht) (tg_iinc hx hb hd hw hl (tw_cgr hn.symm k))
  · intro ix pc a b1 c1 n v ls st L f x y ht k
    have hd : decode r.2.2.2.1 pc = .ok (.iadd, 1) := (hck ht rfl).1
    have hn : tw_pc r.2.2.2.2.2.2.2 (ix + 1) = pc + 1 := (hck ht rfl).2.1 rfl
    exact tw_cgr (tw_pc_at ht) (tg_iadd hx hb hd (tw_cgr hn.symm k))
  · intro ix pc a b1 c1 n v ls st L f x y ht k
    have hd : decode r.2.2.2.1 pc = .ok (.isub, 1) := (hck ht rfl).1
    have hn : tw_pc r.2.2.2.2.2.2.2 (ix + 1) = pc + 1 := (hck ht rfl).2.1 rfl
    exact tw_cgr (tw_pc_at ht) (tg_isub hx hb hd (tw_cgr hn.symm k))
  · intro ix pc a b1 c1 n v ls st L f x y ht k
    have hd : decode r.2.2.2.1 pc = .ok (.imul, 1) := (hck ht rfl).1
    have hn : tw_pc r.2.2.2.2.2.2.2 (ix + 1) = pc + 1 := (hck ht rfl).2.1 rfl
    exact tw_cgr (tw_pc_at ht) (tg_imul hx hb hd (tw_cgr hn.symm k))
  · intro ix pc a b1 c1 n v ls st L f x y ht k
    have hd : decode r.2.2.2.1 pc = .ok (.iand, 1) := (hck ht rfl).1
    have hn : tw_pc r.2.2.2.2.2.2.2 (ix + 1) = pc + 1 := (hck ht rfl).2.1 rfl
    exact tw_cgr (tw_pc_at ht) (tg_iand hx hb hd (tw_cgr hn.symm k))
  · intro ix pc a b1 c1 n v ls st L f x y ht k
    have hd : decode r.2.2.2.1 pc = .ok (.ior, 1) := (hck ht rfl).1
    have hn : tw_pc r.2.2.2.2.2.2.2 (ix + 1) = pc + 1 := (hck ht rfl).2.1 rfl
    exact tw_cgr (tw_pc_at ht) (tg_ior hx hb hd (tw_cgr hn.symm k))
  · intro ix pc a b1 c1 n v ls st L f x y ht k
    have hd : decode r.2.2.2.1 pc = .ok (.ixor, 1) := (hck ht rfl).1
    have hn : tw_pc r.2.2.2.2.2.2.2 (ix + 1) = pc + 1 := (hck ht rfl).2.1 rfl
    exact tw_cgr (tw_pc_at ht) (tg_ixor hx hb hd (tw_cgr hn.symm k))
  · intro ix pc a b1 c1 n v ls st L f x y ht k
    have hd : decode r.2.2.2.1 pc = .ok (.ishl, 1) := (hck ht rfl).1
    have hn : tw_pc r.2.2.2.2.2.2.2 (ix + 1) = pc + 1 := (hck ht rfl).2.1 rfl
    exact tw_cgr (tw_pc_at ht) (tg_ishl hx hb hd (tw_cgr hn.symm k))
  · intro ix pc a b1 c1 n v ls st L f x y ht k
    have hd : decode r.2.2.2.1 pc = .ok (.ishr, 1) := (hck ht rfl).1
    have hn : tw_pc r.2.2.2.2.2.2.2 (ix + 1) = pc + 1 := (hck ht rfl).2.1 rfl
    exact tw_cgr (tw_pc_at ht) (tg_ishr hx hb hd (tw_cgr hn.symm k))
  · intro ix pc a b1 c1 n v ls st L f x y ht hy k
    have hd : decode r.2.2.2.1 pc = .ok (.idiv, 1) := (hck ht rfl).1
    have hn : tw_pc r.2.2.2.2.2.2.2 (ix + 1) = pc + 1 := (hck ht rfl).2.1 rfl
    exact tw_cgr (tw_pc_at ht) (tg_idiv hx hb hd hy (tw_cgr hn.symm k))
  · intro ix pc a b1 c1 n v ls st L f x y ht hy k
    have hd : decode r.2.2.2.1 pc = .ok (.irem, 1) := (hck ht rfl).1
    have hn : tw_pc r.2.2.2.2.2.2.2 (ix + 1) = pc + 1 := (hck ht rfl).2.1 rfl
    exact tw_cgr (tw_pc_at ht) (tg_irem hx hb hd hy (tw_cgr hn.symm k))
  · intro ix pc a b1 c1 n v ls st L f x ht kt kf
    have hd : decode r.2.2.2.1 pc = .ok (tw_if a ((tw_pc r.2.2.2.2.2.2.2 b1 : Int) - (pc : Int)), 3) := (hck ht rfl).1
    have hn : tw_pc r.2.2.2.2.2.2.2 (ix + 1) = pc + 3 := (hck ht rfl).2.1 rfl
    exact tw_cgr (tw_pc_at ht) (tg_if hx hb hd (tgt := tw_pc r.2.2.2.2.2.2.2 b1) (by omega) (fun g => kt g) (fun g => tw_cgr hn.symm (kf g)))
  · intro ix pc a b1 c1 n v ls st L f x y ht kt kf
    have hd : decode r.2.2.2.1 pc = .ok (tw_ic a ((tw_pc r.2.2.2.2.2.2.2 b1 : Int) - (pc : Int)), 3) := (hck ht rfl).1
    have hn : tw_pc r.2.2.2.2.2.2.2 (ix + 1) = pc + 3 := (hck ht rfl).2.1 rfl
    exact tw_cgr (tw_pc_at ht) (tg_icmp hx hb hd (tgt := tw_pc r.2.2.2.2.2.2.2 b1) (by omega) (fun g => kt g) (fun g => tw_cgr hn.symm (kf g)))
  · intro ix pc a b1 c1 n v ls st L f ht k
    have hd : decode r.2.2.2.1 pc = .ok (.goto ((tw_pc r.2.2.2.2.2.2.2 b1 : Int) - (pc : Int)), 3) := (hck ht rfl).1
    exact tw_cgr (tw_pc_at ht) (tg_goto hx hb hd (tgt := tw_pc r.2.2.2.2.2.2.2 b1) (by omega) k)
  · intro ix pc a b1 c1 n v ls st L f u1 ht hu k
    have hd : decode r.2.2.2.1 pc = .ok (.dup, 1) := (hck ht rfl).1
    have hn : tw_pc r.2.2.2.2.2.2.2 (ix + 1) = pc + 1 := (hck ht rfl).2.1 rfl
    exact tw_cgr (tw_pc_at ht) (tg_dup hx hb hd hu (tw_cgr hn.symm k))
  · intro ix pc a b1 c1 n v ls st L f u1 u2 ht hu1 hu2 k
    have hd : decode r.2.2.2.1 pc = .ok (.dup2, 1) := (hck ht rfl).1
    have hn : tw_pc r.2.2.2.2.2.2.2 (ix + 1) = pc + 1 := (hck ht rfl).2.1 rfl
    exact tw_cgr (tw_pc_at ht) (tg_dup2 hx hb hd hu1 hu2 (tw_cgr hn.symm k))
  · intro ix pc a b1 c1 n v ls st L f q nn rs ht hq hi k
    have hd : decode r.2.2.2.1 pc = .ok (.getfield c1, 3) := (hck ht rfl).1
    have hn : tw_pc r.2.2.2.2.2.2.2 (ix + 1) = pc + 3 := (hck ht rfl).2.1 rfl
    have hw0 : (decide (lk.1[n.toNat]? = some (r.1, c1, a, b1, 0)) || decide (lk.1[n.toNat]? = some (r.1, c1, a, b1, 1))) = true := (hck ht rfl).2.2
    have hw : ∃ j, lk.1[n.toNat]? = some (r.1, c1, a, b1, j) := by
      rcases Bool.or_eq_true_iff.mp hw0 with g | g
      · exact ⟨_, of_decide_eq_true g⟩
      · exact ⟨_, of_decide_eq_true g⟩
    obtain ⟨j, hj⟩ := hw
    obtain ⟨cr, hc, hlt, hlink, -, -⟩ := hOF _ (List.mem_of_getElem? hj)
    exact tw_cgr (tw_pc_at ht) (tg_getf hx hb hts hown hK hc (hOC _ _ hc) hlt (hts _ hlink) hd hq hi (tw_cgr hn.symm k))
  · intro ix pc a b1 c1 n v ls st L f x q nn rs ht hq hi hv k
    have hd : decode r.2.2.2.1 pc = .ok (.putfield c1, 3) := (hck ht rfl).1
    have hn : tw_pc r.2.2.2.2.2.2.2 (ix + 1) = pc + 3 := (hck ht rfl).2.1 rfl
    have hw : lk.1[n.toNat]? = some (r.1, c1, a, b1, 0) := of_decide_eq_true (hck ht rfl).2.2
    obtain ⟨cr, hc, hlt, hlink, hfin, -⟩ := hOF _ (List.mem_of_getElem? hw)
    exact tw_cgr (tw_pc_at ht) (tg_putf hx hb hts hown hK hc (hOC _ _ hc) hlt (hts _ hlink) hd (hfin rfl) hq hi hv (tw_cgr hn.symm k))
  · intro ix pc a b1 c1 n v ls st L f x q nn rs ht hq hi hv k
    have hd : decode r.2.2.2.1 pc = .ok (.putfield c1, 3) := (hck ht rfl).1
    have hn : tw_pc r.2.2.2.2.2.2.2 (ix + 1) = pc + 3 := (hck ht rfl).2.1 rfl
    have hw0 : (decide (lk.1[n.toNat]? = some (r.1, c1, a, b1, 1)) && decide (r.2.2.2.2.2.2.1.1 = 2) && decide (r.2.2.2.2.2.2.1.2.1 = a)) = true := (hck ht rfl).2.2
    rw [Bool.and_eq_true, Bool.and_eq_true] at hw0
    have hw := of_decide_eq_true hw0.1.1
    obtain ⟨cr, hc, hlt, hlink, -, hfin⟩ := hOF _ (List.mem_of_getElem? hw)
    obtain ⟨hf1, hf2⟩ := hfin rfl
    obtain ⟨hnm2, -, -, x2, hx2, hx3⟩ := hr.2.2.2.2.2 (of_decide_eq_true hw0.1.2)
    have hc2 : cl[a]? = some cr := hc
    rw [of_decide_eq_true hw0.2] at hx2
    have hxc : x2 = cr := Option.some.inj (hx2.symm.trans hc2)
    subst hxc
    exact tw_cgr (tw_pc_at ht) (tg_putFi hx hb hts hown hK hc (hOC _ _ hc) hlt (hts _ hlink) hd hf1 (hname.trans hnm2) (hf2.trans (hx3.trans (hr.1.2.1.trans hr.1.1))) hq hi hv (tw_cgr hn.symm k))
  · intro ix pc a b1 c1 n v ls st L f q2 q nn rs ht hq hi hrs hv k
    have hd : decode r.2.2.2.1 pc = .ok (.putfield c1, 3) := (hck ht rfl).1
    have hn : tw_pc r.2.2.2.2.2.2.2 (ix + 1) = pc + 3 := (hck ht rfl).2.1 rfl
    have hw0 : (decide (lk.1[n.toNat]? = some (r.1, c1, a, b1, 1)) && decide (r.2.2.2.2.2.2.1.1 = 2) && decide (r.2.2.2.2.2.2.1.2.1 = a)) = true := (hck ht rfl).2.2
    rw [Bool.and_eq_true, Bool.and_eq_true] at hw0
    have hw := of_decide_eq_true hw0.1.1
    obtain ⟨cr, hc, hlt, hlink, -, hfin⟩ := hOF _ (List.mem_of_getElem? hw)
    obtain ⟨hf1, hf2⟩ := hfin rfl
    obtain ⟨hnm2, -, -, x2, hx2, hx3⟩ := hr.2.2.2.2.2 (of_decide_eq_true hw0.1.2)
    have hc2 : cl[a]? = some cr := hc
    rw [of_decide_eq_true hw0.2] at hx2
    have hxc : x2 = cr := Option.some.inj (hx2.symm.trans hc2)
    subst hxc
    exact tw_cgr (tw_pc_at ht) (tg_putFr hx hb hts hown hK hc (hOC _ _ hc) hlt (hts _ hlink) hd hf1 (hname.trans hnm2) (hf2.trans (hx3.trans (hr.1.2.1.trans hr.1.1))) hq hi hrs hv (tw_cgr hn.symm k))
  · intro ix pc a b1 c1 n v ls st L f x q nn rs ht hq hv k
    have hd : decode r.2.2.2.1 pc = .ok (.iaload, 1) := (hck ht rfl).1
    have hn : tw_pc r.2.2.2.2.2.2.2 (ix + 1) = pc + 1 := (hck ht rfl).2.1 rfl
    exact tw_cgr (tw_pc_at ht) (tg_iaload (t0 := 0) hx hb hK rfl hd hq hv (tw_cgr hn.symm k))
  · intro ix pc a b1 c1 n v ls st L f x q nn rs ht hq hv k
    have hd : decode r.2.2.2.1 pc = .ok (.baload, 1) := (hck ht rfl).1
    have hn : tw_pc r.2.2.2.2.2.2.2 (ix + 1) = pc + 1 := (hck ht rfl).2.1 rfl
    exact tw_cgr (tw_pc_at ht) (tg_baload (t0 := 1) hx hb hK rfl hd hq hv (tw_cgr hn.symm k))
  · intro ix pc a b1 c1 n v ls st L f x y q nn rs ht hq hv k
    have hd : decode r.2.2.2.1 pc = .ok (.iastore, 1) := (hck ht rfl).1
    have hn : tw_pc r.2.2.2.2.2.2.2 (ix + 1) = pc + 1 := (hck ht rfl).2.1 rfl
    exact tw_cgr (tw_pc_at ht) (tg_iastore (t0 := 0) hx hb hK rfl hd hq hv (tw_cgr hn.symm k))
  · intro ix pc a b1 c1 n v ls st L f x y q nn rs ht hq hv hy k
    have hd : decode r.2.2.2.1 pc = .ok (.bastore, 1) := (hck ht rfl).1
    have hn : tw_pc r.2.2.2.2.2.2.2 (ix + 1) = pc + 1 := (hck ht rfl).2.1 rfl
    exact tw_cgr (tw_pc_at ht) (tg_bastore (t0 := 1) hx hb hK rfl hd hq hv hy (tw_cgr hn.symm k))
  · intro ix pc a b1 c1 n v ls st L f As L2 q nn rs ht hq hna hct g1 g2 g3 g4 hS
    have hd : decode r.2.2.2.1 pc = .ok (.invokevirtual c1, 3) := (hck ht rfl).1
    have hn : tw_pc r.2.2.2.2.2.2.2 (ix + 1) = pc + 3 := (hck ht rfl).2.1 rfl
    have hw0 : (decide (lk.2.1[n.toNat]? = some (r.1, c1, a)) && tw_kd mt a 1 b1 && tw_fit mt a r) = true := (hck ht rfl).2.2
    rw [Bool.and_eq_true, Bool.and_eq_true] at hw0
    obtain ⟨r2, hr2, hlink⟩ := hOM _ (List.mem_of_getElem? (of_decide_eq_true hw0.1.1))
    have hr2' : mt[a]? = some r2 := hr2
    obtain ⟨hkd, hrc⟩ := tw_kd_of hr2' hw0.1.2
    obtain ⟨⟨q1, q2, q3, q4, q5⟩, q6, -, q10, q11, q12⟩ := hOR a r2 hr2'
    have hM := IH _ _ _ _ _ _ hS r2 hr2'
    have hlen : As.length = r2.2.2.2.2.2.2.1.2.2.1 := hna.trans (tw_na_of hr2')
    have hfit := tw_fit_of hr2' hw0.2
    have hroom : (tw_rm r2 L L2).frames + 1 ≤ R.frames ∧ 8 + (r2.2.2.2.2.1 + 11) + (tw_rm r2 L L2).locals ≤ R.locals := ⟨Nat.le_trans hfit.1 hRf, Nat.le_trans hfit.2 hRl⟩
    obtain ⟨w1, w2, x2, hx2, hx3⟩ := q11 hkd
    rw [hrc] at hx2
    refine tw_cgr (tw_pc_at ht) (tg_call (rest := st) (a := #[]) g1 g2 (fun H locs la j1 j2 hW hla => ?_) (fun f2 r3 hP => tw_cgr hn.symm hP))
    rcases hlink with hl | ⟨host, hl⟩
    · exact tr_V ⟨hx, hb, hml, hown, hts⟩ hM ⟨callB_of _ hts (tw_good hOG q4) rfl rfl rfl (hts _ q5) (hts _ hl) q6 hroom, hts _ w1, hts _ w2⟩ hK hN hq (hOC _ _ hx2).2.2.2.1 hx2 hx3 hW hla hlen hct hd ⟨by show L.length - n0 + (L2.length - L.length) ≤ _; omega, by show tw_sl L - s0 + (tw_sl L2 - tw_sl L) ≤ _; omega⟩
    · exact tr_VN ⟨hx, hb, hml, hown, hts⟩ hM ⟨va_cnB _ hts (tw_good hOG q4) rfl rfl rfl (hN _ hl) (hts _ q5) q6 hroom, hts _ w1, hts _ w2⟩ hK hN hq (hOC _ _ hx2).2.2.2.1 hx2 hx3 hW hla hlen hct hd ⟨by show L.length - n0 + (L2.length - L.length) ≤ _; omega, by show tw_sl L - s0 + (tw_sl L2 - tw_sl L) ≤ _; omega⟩
  · intro ix pc a b1 c1 n v ls st L f As L2 ht hna hct g1 g2 g3 g4 hS
    have hd : decode r.2.2.2.1 pc = .ok (.invokestatic c1, 3) := (hck ht rfl).1
    have hn : tw_pc r.2.2.2.2.2.2.2 (ix + 1) = pc + 3 := (hck ht rfl).2.1 rfl
    have hw0 : (decide (lk.2.1[n.toNat]? = some (r.1, c1, a)) && tw_kd mt a 0 0 && tw_fit mt a r) = true := (hck ht rfl).2.2
    rw [Bool.and_eq_true, Bool.and_eq_true] at hw0
    obtain ⟨r2, hr2, hlink⟩ := hOM _ (List.mem_of_getElem? (of_decide_eq_true hw0.1.1))
    have hr2' : mt[a]? = some r2 := hr2
    obtain ⟨hkd, hrc⟩ := tw_kd_of hr2' hw0.1.2
    obtain ⟨⟨q1, q2, q3, q4, q5⟩, q6, -, q10, q11, q12⟩ := hOR a r2 hr2'
    have hM := IH _ _ _ _ _ _ hS r2 hr2'
    have hlen : As.length = r2.2.2.2.2.2.2.1.2.2.1 := hna.trans (tw_na_of hr2')
    have hfit := tw_fit_of hr2' hw0.2
    have hroom : (tw_rm r2 L L2).frames + 1 ≤ R.frames ∧ 8 + (r2.2.2.2.2.1 + 11) + (tw_rm r2 L L2).locals ≤ R.locals := ⟨Nat.le_trans hfit.1 hRf, Nat.le_trans hfit.2 hRl⟩
    have w1 := q10 hkd
    refine tw_cgr (tw_pc_at ht) (tg_call (rest := st) (a := #[]) g1 g2 (fun H locs la j1 j2 hW hla => ?_) (fun f2 r3 hP => tw_cgr hn.symm hP))
    rcases hlink with hl | ⟨host, hl⟩
    · exact tr_S ⟨hx, hb, hml, hown, hts⟩ hM ⟨callB_of _ hts (tw_good hOG q4) rfl rfl rfl (hts _ q5) (hts _ hl) q6 hroom, hts _ w1⟩ hK hN hW hla hlen hct hd ⟨by show L.length - n0 + (L2.length - L.length) ≤ _; omega, by show tw_sl L - s0 + (tw_sl L2 - tw_sl L) ≤ _; omega⟩
    · exact tr_SN ⟨hx, hb, hml, hown, hts⟩ hM ⟨va_cnB _ hts (tw_good hOG q4) rfl rfl rfl (hN _ hl) (hts _ q5) q6 hroom, hts _ w1, trivial⟩ hK hN hW hla hlen hct hd ⟨by show L.length - n0 + (L2.length - L.length) ≤ _; omega, by show tw_sl L - s0 + (tw_sl L2 - tw_sl L) ≤ _; omega⟩
  · intro ix pc a b1 c1 n v ls st L f As L2 q ht hna hct g1 g2 g3 g4 hS
    have hd : decode r.2.2.2.1 pc = .ok (.invokespecial c1, 3) := (hck ht rfl).1
    have hn : tw_pc r.2.2.2.2.2.2.2 (ix + 1) = pc + 3 := (hck ht rfl).2.1 rfl
    have hw0 : (decide (lk.2.1[n.toNat]? = some (r.1, c1, a)) && tw_kd mt a 2 b1 && tw_fit mt a r) = true := (hck ht rfl).2.2
    rw [Bool.and_eq_true, Bool.and_eq_true] at hw0
    obtain ⟨r2, hr2, hlink⟩ := hOM _ (List.mem_of_getElem? (of_decide_eq_true hw0.1.1))
    have hr2' : mt[a]? = some r2 := hr2
    obtain ⟨hkd, hrc⟩ := tw_kd_of hr2' hw0.1.2
    obtain ⟨⟨q1, q2, q3, q4, q5⟩, q6, -, q10, q11, q12⟩ := hOR a r2 hr2'
    have hM := IH _ _ _ _ _ _ hS r2 hr2'
    have hlen : As.length = r2.2.2.2.2.2.2.1.2.2.1 := hna.trans (tw_na_of hr2')
    have hfit := tw_fit_of hr2' hw0.2
    have hroom : (tw_rm r2 L L2).frames + 1 ≤ R.frames ∧ 8 + (r2.2.2.2.2.1 + 11) + (tw_rm r2 L L2).locals ≤ R.locals := ⟨Nat.le_trans hfit.1 hRf, Nat.le_trans hfit.2 hRl⟩
    obtain ⟨w1, w2, w3, -⟩ := q12 hkd
    rw [w3] at hM q4
    refine tw_cgr (tw_pc_at ht) (tg_call (rest := st) (a := #[]) g1 g2 (fun H locs la j1 j2 hW hla => ?_) (fun f2 r3 hP => tw_cgr hn.symm hP))
    rcases hlink with hl | ⟨host, hl⟩
    · exact tr_I ⟨hx, hb, hml, hown, hts⟩ hM ⟨callB_of _ hts (tw_good hOG q4) rfl rfl rfl (hts _ q5) (hts _ hl) q6 hroom, w1, hts _ w2⟩ hK hN hW hla hlen hct hd ⟨by show L.length - n0 + (L2.length - L.length) ≤ _; omega, by show tw_sl L - s0 + (tw_sl L2 - tw_sl L) ≤ _; omega⟩
    · exact tr_IN ⟨hx, hb, hml, hown, hts⟩ hM ⟨va_cnB _ hts (tw_good hOG q4) rfl rfl rfl (hN _ hl) (hts _ q5) q6 hroom, w1, hts _ w2⟩ hK hN hW hla hlen hct hd ⟨by show L.length - n0 + (L2.length - L.length) ≤ _; omega, by show tw_sl L - s0 + (tw_sl L2 - tw_sl L) ≤ _; omega⟩
  · intro ix pc a b1 c1 n v ls f x ht k
    have hd : decode r.2.2.2.1 pc = .ok (.ireturn, 1) := (hck ht rfl).1
    have hw : r.2.2.2.2.2.1 = some .int := of_decide_eq_true (hck ht rfl).2.2
    exact tw_cgr (tw_pc_at ht) (tg_iret hx hb (hret.trans hw) hlocks hd k)
  · intro ix pc a b1 c1 n v ls f x ht h01 k
    have hd : decode r.2.2.2.1 pc = .ok (.ireturn, 1) := (hck ht rfl).1
    have hw : r.2.2.2.2.2.1 = some .boolean := of_decide_eq_true (hck ht rfl).2.2
    exact tw_cgr (tw_pc_at ht) (tg_zret hx hb (hret.trans hw) hlocks hd h01 k)
  · intro ix pc a b1 c1 n v ls f ht k
    have hd : decode r.2.2.2.1 pc = .ok (.return_, 1) := (hck ht rfl).1
    have hw : r.2.2.2.2.2.1 = none := of_decide_eq_true (hck ht rfl).2.2
    exact tw_cgr (tw_pc_at ht) (tg_vret hx hb (hret.trans hw) hlocks hd k)
  · intro ix pc a b1 c1 n v ls f q ht k
    have hd : decode r.2.2.2.1 pc = .ok (.areturn, 1) := (hck ht rfl).1
    have hw : tw_isR r.2.2.2.2.2.1 = true := (hck ht rfl).2.2
    have hw2 : ∃ rt, r.2.2.2.2.2.1 = some rt ∧ ((∃ n, rt = .object n) ∨ ∃ t, rt = .array t) := by
      unfold tw_isR at hw
      split at hw
      · exact ⟨_, by assumption, Or.inl ⟨_, rfl⟩⟩
      · exact ⟨_, by assumption, Or.inr ⟨_, rfl⟩⟩
      · cases hw
    obtain ⟨rt, e1, e2⟩ := hw2
    exact tw_cgr (tw_pc_at ht) (tg_aret hx hb (hret.trans e1) e2 hlocks hd k)
  · intro ix pc a b1 c1 n v ls st L f ht hfl g1 g2 k
    subst hfl
    have hd : decode r.2.2.2.1 pc = .ok (.new c1, 3) := (hck ht rfl).1
    have hn : tw_pc r.2.2.2.2.2.2.2 (ix + 1) = pc + 3 := (hck ht rfl).2.1 rfl
    have hw : lk.2.2.1[n.toNat]? = some (r.1, c1, a, b1) := of_decide_eq_true (hck ht rfl).2.2
    obtain ⟨cr, hc, hb2, w1, w2, w3⟩ := hON _ (List.mem_of_getElem? hw)
    have hb3 : b1 = cr.2.2 := hb2
    subst hb3
    exact tw_cgr (tw_pc_at ht) (tg_new hx hb hts hown hK hc (hOC _ _ hc) (hts _ w1) (hts _ w2) (hts _ w3) hd hb0 (by omega) (by omega) (tw_cgr hn.symm k))
  · intro ix pc a b1 c1 n v ls st L f x nn ht hfl hxn hnn g1 g2 k
    subst hfl
    have hd : decode r.2.2.2.1 pc = .ok (.newarray (tw_at a), 2) := (hck ht rfl).1
    have hn : tw_pc r.2.2.2.2.2.2.2 (ix + 1) = pc + 2 := (hck ht rfl).2.1 rfl
    have hw : a = 100 ∨ a = 101 ∨ a = 102 := of_decide_eq_true (hck ht rfl).2.2
    have htys : ∃ t0 : Nat, [(cA 100, FieldType.int), (cA 101, .boolean), (cA 102, .long)][t0]? = some (cA a, tw_ty a) := by
      rcases hw with rfl | rfl | rfl
      · exact ⟨0, rfl⟩
      · exact ⟨1, rfl⟩
      · exact ⟨2, rfl⟩
    obtain ⟨t0, ht0⟩ := htys
    exact tw_cgr (tw_pc_at ht) (tg_newa hx hb hw (hts _ (hOA a hw)) hK ht0 hd hxn hnn (by omega) (by omega) (tw_cgr hn.symm k))
  · intro ix pc a b1 c1 n v ls L f q ht k
    have hd : decode r.2.2.2.1 pc = .ok (.invokespecial c1, 3) := (hck ht rfl).1
    have hn : tw_pc r.2.2.2.2.2.2.2 (ix + 1) = pc + 3 := (hck ht rfl).2.1 rfl
    have hw0 : (decide (lk.2.2.2.1[n.toNat]? = some (r.1, c1)) && decide (1 ≤ r.2.2.2.2.2.2.1.2.2.2.1 ∧ 12 ≤ r.2.2.2.2.2.2.1.2.2.2.2)) = true := (hck ht rfl).2.2
    rw [Bool.and_eq_true] at hw0
    have hw := of_decide_eq_true hw0.1
    have hw2 := of_decide_eq_true hw0.2
    obtain ⟨w1, w2, w3⟩ := hOO _ (List.mem_of_getElem? hw)
    exact tw_cgr (tw_pc_at ht) (tg_objInit hx hb hml hown (hts _ w1) (hts _ w2) (hts _ w3) (by omega) (by show 0 + 12 ≤ _; omega) hd (tw_cgr hn.symm k))
  · intro ix pc a b1 c1 n v ls st L f x y ht hct g1 g2 k
    have hd : decode r.2.2.2.1 pc = .ok (.invokestatic c1, 3) := (hck ht rfl).1
    have hn : tw_pc r.2.2.2.2.2.2.2 (ix + 1) = pc + 3 := (hck ht rfl).2.1 rfl
    have hw0 : (decide (lk.2.2.2.2[n.toNat]? = some (r.1, c1)) && decide (1 ≤ r.2.2.2.2.2.2.1.2.2.2.1 ∧ 14 ≤ r.2.2.2.2.2.2.1.2.2.2.2)) = true := (hck ht rfl).2.2
    rw [Bool.and_eq_true] at hw0
    have hw := of_decide_eq_true hw0.1
    have hw2 := of_decide_eq_true hw0.2
    obtain ⟨w1, w2, w3, w4⟩ := hOX _ (List.mem_of_getElem? hw)
    exact tw_cgr (tw_pc_at ht) (tg_max hx hb hml hown (hts _ w1) (hts _ w2) (hts _ w3) (hts _ w4) (by omega) (by omega) (by omega) (by omega) hd (tw_cgr hn.symm k))
  · intro ix pc a b1 c1 n v ls st L f x lo ts df ht hsw k
    have hok : tw_sok sw a = true := (hck ht rfl).2.2
    have hlo : 0 < ts.length ∧ ts.length < 1000 ∧ lo = 0 := by
      unfold tw_sok at hok
      rw [hsw] at hok
      have h2 := Bool.and_eq_true_iff.mp hok
      have h3 := Bool.and_eq_true_iff.mp h2.1
      exact ⟨of_decide_eq_true h3.1, of_decide_eq_true h3.2, of_decide_eq_true h2.2⟩
    obtain ⟨hl0, hl1, rfl⟩ := hlo
    have hd0 := (hck ht rfl).1
    have hd : decode r.2.2.2.1 pc = .ok (.tableswitch ((tw_pc r.2.2.2.2.2.2.2 df : Int) - (pc : Int)) 0 (0 + (ts.length : Int) - 1) (ts.map (fun j => (tw_pc r.2.2.2.2.2.2.2 j : Int) - (pc : Int))).toArray, tw_pc r.2.2.2.2.2.2.2 (ix + 1) - pc) := by
      rw [hd0]
      show Except.ok ((match sw[a]? with | some s => _ | none => _), _) = _
      rw [hsw]
    refine tw_cgr (tw_pc_at ht) (tg_switch hx hb (t := r.2.2.2.2.2.2.2) hd hl0 hl1 k)
  · intro ix pc a b1 c1 n v ls st L f ht hl k
    have hd : decode r.2.2.2.1 pc = .ok (.aload_n (Fin.ofNat 4 a), 1) := (hck ht rfl).1
    have hn : tw_pc r.2.2.2.2.2.2.2 (ix + 1) = pc + 1 := (hck ht rfl).2.1 rfl
    have hw : a < 4 := of_decide_eq_true (hck ht rfl).2.2
    exact tw_cgr (tw_pc_at ht) (tg_aload_nZ hx hb hd (Nat.mod_eq_of_lt hw) hl (tw_cgr hn.symm k))
  · intro ix pc a b1 c1 n v ls st L f x N g ht hg hv k
    have hd : decode r.2.2.2.1 pc = .ok (.iaload, 1) := (hck ht rfl).1
    have hn : tw_pc r.2.2.2.2.2.2.2 (ix + 1) = pc + 1 := (hck ht rfl).2.1 rfl
    obtain ⟨y1, y2, y3⟩ := hxs N g hg
    exact tw_cgr (tw_pc_at ht) (fun H locs la g1 g2 hW hS hh => va_sld hx hb y1 y2 (by show ¬ b ≤ z; omega) hS hv hd (tw_cgr hn.symm k H locs la g1 g2 hW hS hh))
  · intro ix pc a b1 c1 n v ls st L f N g ht hg k
    have hd : decode r.2.2.2.1 pc = .ok (.arraylength, 1) := (hck ht rfl).1
    have hn : tw_pc r.2.2.2.2.2.2.2 (ix + 1) = pc + 1 := (hck ht rfl).2.1 rfl
    obtain ⟨y1, y2, y3⟩ := hxs N g hg
    exact tw_cgr (tw_pc_at ht) (fun H locs la g1 g2 hW hS hh => va_slen hx hb y1 y2 (by show ¬ b ≤ z; omega) hS hd (tw_cgr hn.symm k H locs la g1 g2 hW hS hh))
  · intro ix pc a b1 c1 n v ls st L f x q nn rs ht hq hv k
    have hd : decode r.2.2.2.1 pc = .ok (.laload, 1) := (hck ht rfl).1
    have hn : tw_pc r.2.2.2.2.2.2.2 (ix + 1) = pc + 1 := (hck ht rfl).2.1 rfl
    exact tw_cgr (tw_pc_at ht) (tg_laload (t0 := 2) hx hb hK rfl hd hq hv (tw_cgr hn.symm k))
  · intro ix pc a b1 c1 n v ls st L f x ht k
    have hd : decode r.2.2.2.1 pc = .ok (.i2l, 1) := (hck ht rfl).1
    have hn : tw_pc r.2.2.2.2.2.2.2 (ix + 1) = pc + 1 := (hck ht rfl).2.1 rfl
    exact tw_cgr (tw_pc_at ht) (fun H locs la g1 g2 hW hS hh => lv_i2l hx hb hd rfl (tw_cgr hn.symm k H locs la g1 g2 hW hS hh))
  · intro ix pc a b1 c1 n v ls st L f x y ht k
    have hd : decode r.2.2.2.1 pc = .ok (.lcmp, 1) := (hck ht rfl).1
    have hn : tw_pc r.2.2.2.2.2.2.2 (ix + 1) = pc + 1 := (hck ht rfl).2.1 rfl
    exact tw_cgr (tw_pc_at ht) (fun H locs la g1 g2 hW hS hh => W.lcmp hx hb hd (tw_cgr hn.symm k H locs la g1 g2 hW hS hh))
end
section
/-! A method that the rules give has its contract at the machine. -/
theorem tw_sl_len (vs : List Value) (h : ∀ v ∈ vs, v.category = 1) : (lg_sl vs).length = vs.length := by
  induction vs with
  | nil => rfl
  | cons v vs ih =>
    have h1 : v.category = 1 := h v List.mem_cons_self
    have h2 := ih (fun w hw => h w (List.mem_cons_of_mem _ hw))
    have h3 : lg_sl (v :: vs) = [Slot.val v] ++ lg_sl vs := by
      unfold lg_sl
      rw [List.flatMap_cons, if_neg (by omega)]
    rw [h3, List.length_append, h2, List.length_cons, List.length_cons, List.length_nil]
    omega
theorem tw_args_mem (vs : List Value) (h : ∀ v ∈ vs, v.category = 1) : ∀ (j i : Nat) (v : Value), vs[i]? = some v → (j + i, v) ∈ lv_args j vs := by
  induction vs with
  | nil => intro j i v hi; simp at hi
  | cons w vs ih =>
    intro j i v hi
    have h1 : w.category = 1 := h w List.mem_cons_self
    have h3 : lv_args j (w :: vs) = (j, w) :: lv_args (j + 1) vs := by
      show (j, w) :: lv_args (if w.category = 2 then j + 2 else j + 1) vs = _
      rw [if_neg (by omega)]
    rw [h3]
    cases i with
    | zero =>
      rw [List.getElem?_cons_zero] at hi
      cases hi
      exact List.mem_cons_self
    | succ i =>
      rw [List.getElem?_cons_succ] at hi
      have h4 := ih (fun w hw => h w (List.mem_cons_of_mem _ hw)) (j + 1) i v hi
      rw [show j + (i + 1) = j + 1 + i by omega]
      exact List.mem_cons_of_mem _ h4
theorem tw_entry {b z n : Nat} {As : List tw_A} (hall : As.all (fun a => tw_ct a == 1) = true) (hlen : As.length ≤ n) : tw_lh b z n (tw_in n As) ((lg_sl (As.map (tw_v b z)) ++ List.replicate (n - (lg_sl (As.map (tw_v b z))).length) Slot.unset).toArray) := by
  have hc1 : ∀ a ∈ As, tw_ct a = 1 := fun a ha => by
    have h1 := List.all_eq_true.mp hall a ha
    exact beq_iff_eq.mp h1
  have hc : ∀ v ∈ As.map (tw_v b z), v.category = 1 := fun v hv => by
    obtain ⟨a, ha, rfl⟩ := List.mem_map.mp hv
    rw [tw_ct_v]
    exact hc1 a ha
  have h0 : (lg_sl (As.map (tw_v b z))).length ≤ n := by
    rw [tw_sl_len _ hc, List.length_map]
    exact hlen
  have hl := lv_entry (As.map (tw_v b z)) (n := n) h0
  refine ⟨hl.1, hl.2.1, ?_, fun i v hi => ?_⟩
  · unfold tw_in
    rw [List.length_append, List.length_map, List.length_replicate]
    omega
  · unfold tw_in at hi
    by_cases hlt : i < As.length
    · rw [List.getElem?_append_left (by rw [List.length_map]; exact hlt), List.getElem?_map] at hi
      cases ha : As[i]? with
      | none => rw [ha] at hi; cases hi
      | some a =>
        rw [ha] at hi
        have h1 : a = v := Option.some.inj (Option.some.inj hi)
        subst h1
        have h2 := tw_args_mem (As.map (tw_v b z)) hc 0 i (tw_v b z a) (by rw [List.getElem?_map, ha]; rfl)
        rw [Nat.zero_add] at h2
        exact ⟨hl.2.2 _ h2, hc1 a (List.mem_of_getElem? ha)⟩
    · rw [List.getElem?_append_right (by rw [List.length_map]; omega), List.getElem?_replicate] at hi
      split at hi
      · cases hi
      · cases hi
theorem tw_met {l : Launch} {cl : List vw_C} {ft : Nat → Nat → Nat} {ty : Nat → Nat → FieldType} {mt : List tw_MR} {sw : tw_SW} {lk : tw_LK} {nm : Nat → String} {Ts : List Cond} {Nm : List tw_N} {D : va_G} {cA : Nat → ClassId} {b z : Nat} {fl : Bool} (hOK : tw_OK cl ft ty mt sw lk nm Ts Nm) (d : Nat) :
    tw_MT l cl ft mt Ts Nm D cA [(cA 100, .int), (cA 101, .boolean), (cA 102, .long)] b z fl (tw_Sp mt sw ft fl d) := by
  induction d with
  | zero => exact fun _ _ _ _ _ _ h => h.elim
  | succ d ih =>
    intro k As L f L2 P hSp r hr
    obtain ⟨r', hr', hall, hlen, hX⟩ := hSp
    have hrr : r' = r := Option.some.inj (hr'.symm.trans hr)
    subst hrr
    have hm := hOK.2.2.2.2.2.2.2.2 k r' hr
    refine Met.ofW (cc := r'.2.2.2.1) (maxL := r'.2.2.2.2.1) (ret := r'.2.2.2.2.2.1) hm.1.2.2.1 rfl ?_
    intro p e s m args below meth c s₁ B hml hv
    obtain ⟨rfl, hW, hK, hN⟩ := hv
    have hts0 := atoms_spec (ws := Cond.code (tw_my r') r'.2.2.2.1 r'.2.2.2.2.1 r'.2.2.2.2.2.1 :: Ts) B.pre
    have hown : s.vm.findClass (tw_my r').cls = some m.cls := findClass_of_methodNamed B.named
    rw [hm.1.2.1, hm.1.1] at hown
    have hcl := tw_closed (n0 := L.length) (s0 := tw_sl L) (xs := none) (P := P) (Lf := L2) (R := tw_rm r' L L2) (below := below) (l := l) (e := e) (z := z) (fl := fl) hOK hm B.exec B.bytes hml B.returns B.notSynchronized (name_of_methodNamed B.named B.method).1 (fun w hw => hts0 w (List.mem_cons_of_mem _ hw)) hown hK hN (by have h9 := hW.2.1; omega) (fun N g h => by cases h) (Nat.le_refl _) (Nat.le_refl _) (Nat.le_refl _) (Nat.le_refl _) ih
    have h2 := hX _ hcl s.heap [] _ (Nat.le_refl _) (Nat.le_refl _) hW va_S.rf (tw_entry hall hlen)
    rw [Nat.sub_self, Nat.sub_self, hm.2.2.1.1] at h2
    rw [lg_entry_eq]
    exact h2
theorem tw_Sp_of {mt : List tw_MR} {sw : tw_SW} {ft : Nat → Nat → Nat} {fl : Bool} {d k : Nat} {As : List tw_A} {L L2 : tw_L} {f : tw_S} {P : tw_S → Option tw_A → Prop} {r : tw_MR} (hr : mt[k]? = some r) (hall : As.all (fun a => tw_ct a == 1) = true) (hlen : As.length ≤ r.2.2.2.2.1)
    (h : ∀ X : tw_X, tw_Cl mt sw ft fl none (tw_Sp mt sw ft fl d) L2 P r.2.2.2.2.2.2.2 X → X 0 (tw_in r.2.2.2.2.1 As) [] L f) : tw_Sp mt sw ft fl (d + 1) k As L f L2 P := ⟨r, hr, hall, hlen, h⟩
theorem tw_isR_of {t : FieldType} (h : tw_isR (some t) = true) : (∃ C, t = .object C) ∨ ∃ u, t = .array u := by
  cases t with
  | object C => exact Or.inl ⟨C, rfl⟩
  | array u => exact Or.inr ⟨u, rfl⟩
  | _ => cases h
end
section
/-! Names and tables of the classes: made by program out of the Statement's words and javap's listing. -/
def tx_n (k : Nat) : String := ["TwinArray$Controller", "TwinArray$Destage", "TwinArray$DiskWrite", "TwinArray$Disks", "TwinArray$Entries", "TwinArray$Inbox", "TwinArray$LateWrites", "TwinArray$Tickets", "TwinArray", "TwinArrayModel", "TwinArrayLaw"].getD k ""
def tx_T0 : u_T := fun k => match k with
  | 0 => ("TwinArray$Controller", "number", "I", true)
  | 1 => ("TwinArray$Controller", "cache", "LTwinArray$Entries;", true)
  | 2 => ("TwinArray$Controller", "mirror", "LTwinArray$Entries;", true)
  | 3 => ("TwinArray$Controller", "inbox", "LTwinArray$Inbox;", true)
  | 4 => ("TwinArray$Controller", "destage", "LTwinArray$Destage;", true)
  | 5 => ("TwinArray$Controller", "write", "LTwinArray$DiskWrite;", true)
  | 6 => ("TwinArray$Controller", "up", "Z", false)
  | 7 => ("TwinArray$Controller", "paired", "Z", false)
  | 8 => ("TwinArray$Controller", "takingOver", "Z", false)
  | 9 => ("TwinArray$Controller", "toFlush", "Z", false)
  | 10 => ("TwinArray$Controller", "key", "I", false)
  | 11 => ("TwinArray$Controller", "owned", "I", false)
  | 12 => ("TwinArray$Controller", "notes", "I", false)
  | 13 => ("TwinArray$Controller", "remarks", "I", false)
  | 14 => ("TwinArray$Controller", "repairs", "I", false)
  | 15 => ("TwinArray$Controller", "missedBeats", "I", false)
  | 16 => ("TwinArray$Controller", "versionsGiven", "I", false)
  | 17 => ("TwinArray$Controller", "nextDisk", "I", false)
  | _ => ("TwinArray$Controller", "disksTaken", "I", false)
def tx_y0 : Nat → FieldType := fun k => match k with
  | 0 => .int
  | 1 => .object "TwinArray$Entries"
  | 2 => .object "TwinArray$Entries"
  | 3 => .object "TwinArray$Inbox"
  | 4 => .object "TwinArray$Destage"
  | 5 => .object "TwinArray$DiskWrite"
  | 6 => .boolean
  | 7 => .boolean
  | 8 => .boolean
  | 9 => .boolean
  | 10 => .int
  | 11 => .int
  | 12 => .int
  | 13 => .int
  | 14 => .int
  | 15 => .int
  | 16 => .int
  | 17 => .int
  | _ => .int
def tx_T1 : u_T := fun k => match k with
  | 0 => ("TwinArray$Destage", "wasDirty", "[Z", true)
  | 1 => ("TwinArray$Destage", "values", "[I", true)
  | 2 => ("TwinArray$Destage", "versions", "[I", true)
  | 3 => ("TwinArray$Destage", "stripe", "I", false)
  | 4 => ("TwinArray$Destage", "nextPlace", "I", false)
  | 5 => ("TwinArray$Destage", "dataLost", "Z", false)
  | _ => ("TwinArray$Destage", "parityPassed", "Z", false)
def tx_y1 : Nat → FieldType := fun k => match k with
  | 0 => .array .boolean
  | 1 => .array .int
  | 2 => .array .int
  | 3 => .int
  | 4 => .int
  | 5 => .boolean
  | _ => .boolean
def tx_T2 : u_T := fun k => match k with
  | 0 => ("TwinArray$DiskWrite", "underWay", "Z", false)
  | 1 => ("TwinArray$DiskWrite", "disk", "I", false)
  | 2 => ("TwinArray$DiskWrite", "stripe", "I", false)
  | 3 => ("TwinArray$DiskWrite", "value", "I", false)
  | _ => ("TwinArray$DiskWrite", "key", "I", false)
def tx_y2 : Nat → FieldType := fun k => match k with
  | 0 => .boolean
  | 1 => .int
  | 2 => .int
  | 3 => .int
  | _ => .int
def tx_T3 : u_T := fun k => match k with
  | 0 => ("TwinArray$Disks", "there", "[Z", true)
  | 1 => ("TwinArray$Disks", "keys", "[I", true)
  | 2 => ("TwinArray$Disks", "blocks", "[I", true)
  | _ => ("TwinArray$Disks", "missing", "[Z", true)
def tx_y3 : Nat → FieldType := fun k => match k with
  | 0 => .array .boolean
  | 1 => .array .int
  | 2 => .array .int
  | _ => .array .boolean
def tx_T4 : u_T := fun k => match k with
  | 0 => ("TwinArray$Entries", "held", "[Z", true)
  | 1 => ("TwinArray$Entries", "dirty", "[Z", true)
  | 2 => ("TwinArray$Entries", "values", "[I", true)
  | _ => ("TwinArray$Entries", "versions", "[I", true)
def tx_y4 : Nat → FieldType := fun k => match k with
  | 0 => .array .boolean
  | 1 => .array .boolean
  | 2 => .array .int
  | _ => .array .int
def tx_T5 : u_T := fun k => match k with
  | 0 => ("TwinArray$Inbox", "kinds", "[I", true)
  | 1 => ("TwinArray$Inbox", "places", "[I", true)
  | 2 => ("TwinArray$Inbox", "values", "[I", true)
  | 3 => ("TwinArray$Inbox", "versions", "[I", true)
  | 4 => ("TwinArray$Inbox", "tickets", "[I", true)
  | 5 => ("TwinArray$Inbox", "first", "I", false)
  | _ => ("TwinArray$Inbox", "count", "I", false)
def tx_y5 : Nat → FieldType := fun k => match k with
  | 0 => .array .int
  | 1 => .array .int
  | 2 => .array .int
  | 3 => .array .int
  | 4 => .array .int
  | 5 => .int
  | _ => .int
def tx_T6 : u_T := fun k => match k with
  | 0 => ("TwinArray$LateWrites", "disks", "[I", true)
  | 1 => ("TwinArray$LateWrites", "stripes", "[I", true)
  | 2 => ("TwinArray$LateWrites", "values", "[I", true)
  | 3 => ("TwinArray$LateWrites", "keys", "[I", true)
  | _ => ("TwinArray$LateWrites", "count", "I", false)
def tx_y6 : Nat → FieldType := fun k => match k with
  | 0 => .array .int
  | 1 => .array .int
  | 2 => .array .int
  | 3 => .array .int
  | _ => .int
def tx_T7 : u_T := fun k => match k with
  | 0 => ("TwinArray$Tickets", "states", "[I", true)
  | 1 => ("TwinArray$Tickets", "values", "[I", true)
  | 2 => ("TwinArray$Tickets", "controllers", "[I", true)
  | 3 => ("TwinArray$Tickets", "blocks", "[I", true)
  | 4 => ("TwinArray$Tickets", "versions", "[I", true)
  | _ => ("TwinArray$Tickets", "count", "I", false)
def tx_y7 : Nat → FieldType := fun k => match k with
  | 0 => .array .int
  | 1 => .array .int
  | 2 => .array .int
  | 3 => .array .int
  | 4 => .array .int
  | _ => .int
def tx_T8 : u_T := fun k => match k with
  | 0 => ("TwinArray", "disks", "LTwinArray$Disks;", true)
  | 1 => ("TwinArray", "tickets", "LTwinArray$Tickets;", true)
  | 2 => ("TwinArray", "lateWrites", "LTwinArray$LateWrites;", true)
  | 3 => ("TwinArray", "zero", "LTwinArray$Controller;", true)
  | 4 => ("TwinArray", "one", "LTwinArray$Controller;", true)
  | _ => ("TwinArray", "linkIsCut", "Z", false)
def tx_y8 : Nat → FieldType := fun k => match k with
  | 0 => .object "TwinArray$Disks"
  | 1 => .object "TwinArray$Tickets"
  | 2 => .object "TwinArray$LateWrites"
  | 3 => .object "TwinArray$Controller"
  | 4 => .object "TwinArray$Controller"
  | _ => .boolean
def tx_T9 : u_T := fun k => match k with
  | 0 => ("TwinArrayModel", "thrownCode", "I", false)
  | 1 => ("TwinArrayModel", "there", "[Z", true)
  | 2 => ("TwinArrayModel", "keys", "[I", true)
  | 3 => ("TwinArrayModel", "blocks", "[I", true)
  | 4 => ("TwinArrayModel", "missing", "[Z", true)
  | 5 => ("TwinArrayModel", "up", "[Z", true)
  | 6 => ("TwinArrayModel", "key", "[I", true)
  | 7 => ("TwinArrayModel", "paired", "[Z", true)
  | 8 => ("TwinArrayModel", "owns", "[Z", true)
  | 9 => ("TwinArrayModel", "has", "[Z", true)
  | 10 => ("TwinArrayModel", "cached", "[I", true)
  | 11 => ("TwinArrayModel", "version", "[I", true)
  | 12 => ("TwinArrayModel", "dirty", "[Z", true)
  | 13 => ("TwinArrayModel", "mirrored", "[Z", true)
  | 14 => ("TwinArrayModel", "mirror", "[I", true)
  | 15 => ("TwinArrayModel", "mirrorVersion", "[I", true)
  | 16 => ("TwinArrayModel", "note", "[Z", true)
  | 17 => ("TwinArrayModel", "remark", "[Z", true)
  | 18 => ("TwinArrayModel", "repair", "[Z", true)
  | 19 => ("TwinArrayModel", "wayDisk", "[I", true)
  | 20 => ("TwinArrayModel", "wayStripe", "[I", true)
  | 21 => ("TwinArrayModel", "wayValue", "[I", true)
  | 22 => ("TwinArrayModel", "wayKey", "[I", true)
  | 23 => ("TwinArrayModel", "taking", "[Z", true)
  | 24 => ("TwinArrayModel", "takeNext", "[I", true)
  | 25 => ("TwinArrayModel", "takeCount", "[I", true)
  | 26 => ("TwinArrayModel", "stripeOf", "[I", true)
  | 27 => ("TwinArrayModel", "stage", "[I", true)
  | 28 => ("TwinArrayModel", "took", "[Z", true)
  | 29 => ("TwinArrayModel", "tookValue", "[I", true)
  | 30 => ("TwinArrayModel", "tookVersion", "[I", true)
  | 31 => ("TwinArrayModel", "parity", "[I", true)
  | 32 => ("TwinArrayModel", "parityKnown", "[Z", true)
  | 33 => ("TwinArrayModel", "flushing", "[Z", true)
  | 34 => ("TwinArrayModel", "missed", "[I", true)
  | 35 => ("TwinArrayModel", "given", "[I", true)
  | 36 => ("TwinArrayModel", "message", "[I", true)
  | 37 => ("TwinArrayModel", "messages", "[I", true)
  | 38 => ("TwinArrayModel", "isCut", "Z", false)
  | 39 => ("TwinArrayModel", "tickets", "I", false)
  | 40 => ("TwinArrayModel", "ticketState", "[I", true)
  | 41 => ("TwinArrayModel", "ticketValue", "[I", true)
  | 42 => ("TwinArrayModel", "ticketOf", "[I", true)
  | 43 => ("TwinArrayModel", "ticketBlock", "[I", true)
  | 44 => ("TwinArrayModel", "ticketVersion", "[I", true)
  | 45 => ("TwinArrayModel", "lates", "I", false)
  | 46 => ("TwinArrayModel", "lateDisk", "[I", true)
  | 47 => ("TwinArrayModel", "lateStripe", "[I", true)
  | 48 => ("TwinArrayModel", "lateValue", "[I", true)
  | _ => ("TwinArrayModel", "lateKey", "[I", true)
def tx_y9 : Nat → FieldType := fun k => match k with
  | 0 => .int
  | 1 => .array .boolean
  | 2 => .array .int
  | 3 => .array .int
  | 4 => .array .boolean
  | 5 => .array .boolean
  | 6 => .array .int
  | 7 => .array .boolean
  | 8 => .array .boolean
  | 9 => .array .boolean
  | 10 => .array .int
  | 11 => .array .int
  | 12 => .array .boolean
  | 13 => .array .boolean
  | 14 => .array .int
  | 15 => .array .int
  | 16 => .array .boolean
  | 17 => .array .boolean
  | 18 => .array .boolean
  | 19 => .array .int
  | 20 => .array .int
  | 21 => .array .int
  | 22 => .array .int
  | 23 => .array .boolean
  | 24 => .array .int
  | 25 => .array .int
  | 26 => .array .int
  | 27 => .array .int
  | 28 => .array .boolean
  | 29 => .array .int
  | 30 => .array .int
  | 31 => .array .int
  | 32 => .array .boolean
  | 33 => .array .boolean
  | 34 => .array .int
  | 35 => .array .int
  | 36 => .array .int
  | 37 => .array .int
  | 38 => .boolean
  | 39 => .int
  | 40 => .array .int
  | 41 => .array .int
  | 42 => .array .int
  | 43 => .array .int
  | 44 => .array .int
  | 45 => .int
  | 46 => .array .int
  | 47 => .array .int
  | 48 => .array .int
  | _ => .array .int
def tx_cl : List vw_C := [("TwinArray$Controller", tx_T0, 19), ("TwinArray$Destage", tx_T1, 7), ("TwinArray$DiskWrite", tx_T2, 5), ("TwinArray$Disks", tx_T3, 4), ("TwinArray$Entries", tx_T4, 4), ("TwinArray$Inbox", tx_T5, 7), ("TwinArray$LateWrites", tx_T6, 5), ("TwinArray$Tickets", tx_T7, 6), ("TwinArray", tx_T8, 6), ("TwinArrayModel", tx_T9, 50)]
def tx_ft (c k : Nat) : Nat := ([[0, 2, 2, 2, 2, 2, 1, 1, 1, 1, 0, 0, 0, 0, 0, 0, 0, 0, 0], [2, 2, 2, 0, 0, 1, 1], [1, 0, 0, 0, 0], [2, 2, 2, 2], [2, 2, 2, 2], [2, 2, 2, 2, 2, 0, 0], [2, 2, 2, 2, 0], [2, 2, 2, 2, 2, 0], [2, 2, 2, 2, 2, 1], [0, 2, 2, 2, 2, 2, 2, 2, 2, 2, 2, 2, 2, 2, 2, 2, 2, 2, 2, 2, 2, 2, 2, 2, 2, 2, 2, 2, 2, 2, 2, 2, 2, 2, 2, 2, 2, 2, 1, 0, 2, 2, 2, 2, 2, 0, 2, 2, 2, 2]].getD c []).getD k 0
def tx_ty (c : Nat) : Nat → FieldType := match c with
  | 0 => tx_y0
  | 1 => tx_y1
  | 2 => tx_y2
  | 3 => tx_y3
  | 4 => tx_y4
  | 5 => tx_y5
  | 6 => tx_y6
  | 7 => tx_y7
  | 8 => tx_y8
  | _ => tx_y9
def tx_Nm : List tw_N := [("TwinArray", 18, ⟨"TwinArray$Tickets", "<init>", "()V"⟩, "TwinArray"), ("TwinArray", 25, ⟨"TwinArray$LateWrites", "<init>", "()V"⟩, "TwinArray"), ("TwinArray$Controller", 11, ⟨"TwinArray$Entries", "<init>", "()V"⟩, "TwinArray"), ("TwinArray$Controller", 23, ⟨"TwinArray$Inbox", "<init>", "()V"⟩, "TwinArray"), ("TwinArray$Controller", 30, ⟨"TwinArray$Destage", "<init>", "()V"⟩, "TwinArray"), ("TwinArray$Controller", 37, ⟨"TwinArray$DiskWrite", "<init>", "()V"⟩, "TwinArray"), ("TwinArray$Controller", 86, ⟨"TwinArray", "isIn", "(II)Z"⟩, "TwinArray"), ("TwinArray$Disks", 45, ⟨"TwinArray", "dataDisk", "(II)I"⟩, "TwinArray")]
def tx_Ts : List Cond := lw_tbl.filter goodWord
theorem tx_in {x : Cond} (i : Nat) (h : tables_1[i]? = some x) (g : goodWord x = true) : x ∈ tx_Ts := List.mem_filter.mpr ⟨List.mem_append_right _ (List.mem_of_getElem? h), g⟩
theorem tx_inS {x : Cond} (i : Nat) (h : (k2_sels lw_privs)[i]? = some x) (g : goodWord x = true) : x ∈ tx_Ts := List.mem_filter.mpr ⟨List.mem_append_left _ (List.mem_of_getElem? h), g⟩
theorem tx_inL {ws : List Cond} (ps : List Nat) (hp : ws = ps.filterMap (fun i => tables_1[i]?)) (h : ws.all goodWord = true) : ∀ x ∈ ws, x ∈ tx_Ts := by
  intro x hx
  have h1 := List.all_eq_true.mp h x hx
  rw [hp] at hx
  obtain ⟨i, -, hi⟩ := List.mem_filterMap.mp hx
  exact tx_in i hi h1
theorem tx_C0 : tw_C tx_ft tx_Ts 0 ("TwinArray$Controller", tx_T0, 19) tx_y0 := by
  refine ⟨tx_inL [271, 273, 275, 277, 279, 281, 283, 285, 287, 289, 291, 293, 295, 297, 299, 301, 303, 305, 307] (by decide +kernel) (by decide +kernel), ?_, ?_, by decide, ?_⟩
  · show ∀ k, k < 19 → parseFieldDescriptor (tx_T0 k).2.2.1 = some (tx_y0 k)
    decide +kernel
  · show ∀ a, a < 19 → ∀ b, b < 19 → a ≠ b → (tx_T0 a).2.1 ≠ (tx_T0 b).2.1
    decide +kernel
  · intro k hk
    have hk : k < 19 := hk
    have h : (tx_ft 0 k = 0 ∧ tx_y0 k = .int) ∨ (tx_ft 0 k = 1 ∧ tx_y0 k = .boolean) ∨ (tx_ft 0 k = 2 ∧ tw_isR (some (tx_y0 k)) = true) := by
      revert k
      decide +kernel
    rcases h with h | h | h
    · exact Or.inl h
    · exact Or.inr (Or.inl h)
    · exact Or.inr (Or.inr ⟨h.1, tw_isR_of h.2⟩)
theorem tx_C1 : tw_C tx_ft tx_Ts 1 ("TwinArray$Destage", tx_T1, 7) tx_y1 := by
  refine ⟨tx_inL [187, 189, 191, 193, 195, 197, 199] (by decide +kernel) (by decide +kernel), ?_, ?_, by decide, ?_⟩
  · show ∀ k, k < 7 → parseFieldDescriptor (tx_T1 k).2.2.1 = some (tx_y1 k)
    decide +kernel
  · show ∀ a, a < 7 → ∀ b, b < 7 → a ≠ b → (tx_T1 a).2.1 ≠ (tx_T1 b).2.1
    decide +kernel
  · intro k hk
    have hk : k < 7 := hk
    have h : (tx_ft 1 k = 0 ∧ tx_y1 k = .int) ∨ (tx_ft 1 k = 1 ∧ tx_y1 k = .boolean) ∨ (tx_ft 1 k = 2 ∧ tw_isR (some (tx_y1 k)) = true) := by
      revert k
      decide +kernel
    rcases h with h | h | h
    · exact Or.inl h
    · exact Or.inr (Or.inl h)
    · exact Or.inr (Or.inr ⟨h.1, tw_isR_of h.2⟩)
theorem tx_C2 : tw_C tx_ft tx_Ts 2 ("TwinArray$DiskWrite", tx_T2, 5) tx_y2 := by
  refine ⟨tx_inL [223, 225, 227, 229, 231] (by decide +kernel) (by decide +kernel), ?_, ?_, by decide, ?_⟩
  · show ∀ k, k < 5 → parseFieldDescriptor (tx_T2 k).2.2.1 = some (tx_y2 k)
    decide +kernel
  · show ∀ a, a < 5 → ∀ b, b < 5 → a ≠ b → (tx_T2 a).2.1 ≠ (tx_T2 b).2.1
    decide +kernel
  · intro k hk
    have hk : k < 5 := hk
    have h : (tx_ft 2 k = 0 ∧ tx_y2 k = .int) ∨ (tx_ft 2 k = 1 ∧ tx_y2 k = .boolean) ∨ (tx_ft 2 k = 2 ∧ tw_isR (some (tx_y2 k)) = true) := by
      revert k
      decide +kernel
    rcases h with h | h | h
    · exact Or.inl h
    · exact Or.inr (Or.inl h)
    · exact Or.inr (Or.inr ⟨h.1, tw_isR_of h.2⟩)
theorem tx_C3 : tw_C tx_ft tx_Ts 3 ("TwinArray$Disks", tx_T3, 4) tx_y3 := by
  refine ⟨tx_inL [36, 38, 40, 42] (by decide +kernel) (by decide +kernel), ?_, ?_, by decide, ?_⟩
  · show ∀ k, k < 4 → parseFieldDescriptor (tx_T3 k).2.2.1 = some (tx_y3 k)
    decide +kernel
  · show ∀ a, a < 4 → ∀ b, b < 4 → a ≠ b → (tx_T3 a).2.1 ≠ (tx_T3 b).2.1
    decide +kernel
  · intro k hk
    have hk : k < 4 := hk
    have h : (tx_ft 3 k = 0 ∧ tx_y3 k = .int) ∨ (tx_ft 3 k = 1 ∧ tx_y3 k = .boolean) ∨ (tx_ft 3 k = 2 ∧ tw_isR (some (tx_y3 k)) = true) := by
      revert k
      decide +kernel
    rcases h with h | h | h
    · exact Or.inl h
    · exact Or.inr (Or.inl h)
    · exact Or.inr (Or.inr ⟨h.1, tw_isR_of h.2⟩)
theorem tx_C4 : tw_C tx_ft tx_Ts 4 ("TwinArray$Entries", tx_T4, 4) tx_y4 := by
  refine ⟨tx_inL [123, 125, 127, 129] (by decide +kernel) (by decide +kernel), ?_, ?_, by decide, ?_⟩
  · show ∀ k, k < 4 → parseFieldDescriptor (tx_T4 k).2.2.1 = some (tx_y4 k)
    decide +kernel
  · show ∀ a, a < 4 → ∀ b, b < 4 → a ≠ b → (tx_T4 a).2.1 ≠ (tx_T4 b).2.1
    decide +kernel
  · intro k hk
    have hk : k < 4 := hk
    have h : (tx_ft 4 k = 0 ∧ tx_y4 k = .int) ∨ (tx_ft 4 k = 1 ∧ tx_y4 k = .boolean) ∨ (tx_ft 4 k = 2 ∧ tw_isR (some (tx_y4 k)) = true) := by
      revert k
      decide +kernel
    rcases h with h | h | h
    · exact Or.inl h
    · exact Or.inr (Or.inl h)
    · exact Or.inr (Or.inr ⟨h.1, tw_isR_of h.2⟩)
theorem tx_C5 : tw_C tx_ft tx_Ts 5 ("TwinArray$Inbox", tx_T5, 7) tx_y5 := by
  refine ⟨tx_inL [151, 153, 155, 157, 159, 161, 163] (by decide +kernel) (by decide +kernel), ?_, ?_, by decide, ?_⟩
  · show ∀ k, k < 7 → parseFieldDescriptor (tx_T5 k).2.2.1 = some (tx_y5 k)
    decide +kernel
  · show ∀ a, a < 7 → ∀ b, b < 7 → a ≠ b → (tx_T5 a).2.1 ≠ (tx_T5 b).2.1
    decide +kernel
  · intro k hk
    have hk : k < 7 := hk
    have h : (tx_ft 5 k = 0 ∧ tx_y5 k = .int) ∨ (tx_ft 5 k = 1 ∧ tx_y5 k = .boolean) ∨ (tx_ft 5 k = 2 ∧ tw_isR (some (tx_y5 k)) = true) := by
      revert k
      decide +kernel
    rcases h with h | h | h
    · exact Or.inl h
    · exact Or.inr (Or.inl h)
    · exact Or.inr (Or.inr ⟨h.1, tw_isR_of h.2⟩)
theorem tx_C6 : tw_C tx_ft tx_Ts 6 ("TwinArray$LateWrites", tx_T6, 5) tx_y6 := by
  refine ⟨tx_inL [90, 92, 94, 96, 98] (by decide +kernel) (by decide +kernel), ?_, ?_, by decide, ?_⟩
  · show ∀ k, k < 5 → parseFieldDescriptor (tx_T6 k).2.2.1 = some (tx_y6 k)
    decide +kernel
  · show ∀ a, a < 5 → ∀ b, b < 5 → a ≠ b → (tx_T6 a).2.1 ≠ (tx_T6 b).2.1
    decide +kernel
  · intro k hk
    have hk : k < 5 := hk
    have h : (tx_ft 6 k = 0 ∧ tx_y6 k = .int) ∨ (tx_ft 6 k = 1 ∧ tx_y6 k = .boolean) ∨ (tx_ft 6 k = 2 ∧ tw_isR (some (tx_y6 k)) = true) := by
      revert k
      decide +kernel
    rcases h with h | h | h
    · exact Or.inl h
    · exact Or.inr (Or.inl h)
    · exact Or.inr (Or.inr ⟨h.1, tw_isR_of h.2⟩)
theorem tx_C7 : tw_C tx_ft tx_Ts 7 ("TwinArray$Tickets", tx_T7, 6) tx_y7 := by
  refine ⟨tx_inL [61, 63, 65, 67, 69, 71] (by decide +kernel) (by decide +kernel), ?_, ?_, by decide, ?_⟩
  · show ∀ k, k < 6 → parseFieldDescriptor (tx_T7 k).2.2.1 = some (tx_y7 k)
    decide +kernel
  · show ∀ a, a < 6 → ∀ b, b < 6 → a ≠ b → (tx_T7 a).2.1 ≠ (tx_T7 b).2.1
    decide +kernel
  · intro k hk
    have hk : k < 6 := hk
    have h : (tx_ft 7 k = 0 ∧ tx_y7 k = .int) ∨ (tx_ft 7 k = 1 ∧ tx_y7 k = .boolean) ∨ (tx_ft 7 k = 2 ∧ tw_isR (some (tx_y7 k)) = true) := by
      revert k
      decide +kernel
    rcases h with h | h | h
    · exact Or.inl h
    · exact Or.inr (Or.inl h)
    · exact Or.inr (Or.inr ⟨h.1, tw_isR_of h.2⟩)
theorem tx_C8 : tw_C tx_ft tx_Ts 8 ("TwinArray", tx_T8, 6) tx_y8 := by
  refine ⟨tx_inL [316, 318, 320, 322, 324, 326] (by decide +kernel) (by decide +kernel), ?_, ?_, by decide, ?_⟩
  · show ∀ k, k < 6 → parseFieldDescriptor (tx_T8 k).2.2.1 = some (tx_y8 k)
    decide +kernel
  · show ∀ a, a < 6 → ∀ b, b < 6 → a ≠ b → (tx_T8 a).2.1 ≠ (tx_T8 b).2.1
    decide +kernel
  · intro k hk
    have hk : k < 6 := hk
    have h : (tx_ft 8 k = 0 ∧ tx_y8 k = .int) ∨ (tx_ft 8 k = 1 ∧ tx_y8 k = .boolean) ∨ (tx_ft 8 k = 2 ∧ tw_isR (some (tx_y8 k)) = true) := by
      revert k
      decide +kernel
    rcases h with h | h | h
    · exact Or.inl h
    · exact Or.inr (Or.inl h)
    · exact Or.inr (Or.inr ⟨h.1, tw_isR_of h.2⟩)
theorem tx_C9 : tw_C tx_ft tx_Ts 9 ("TwinArrayModel", tx_T9, 50) tx_y9 := by
  refine ⟨tx_inL [869, 871, 873, 875, 877, 879, 881, 883, 885, 887, 889, 891, 893, 895, 897, 899, 901, 903, 905, 907, 909, 911, 913, 915, 917, 919, 921, 923, 925, 927, 929, 931, 933, 935, 937, 939, 941, 943, 945, 947, 949, 951, 953, 955, 957, 959, 961, 963, 965, 967] (by decide +kernel) (by decide +kernel), ?_, ?_, by decide, ?_⟩
  · show ∀ k, k < 50 → parseFieldDescriptor (tx_T9 k).2.2.1 = some (tx_y9 k)
    decide +kernel
  · show ∀ a, a < 50 → ∀ b, b < 50 → a ≠ b → (tx_T9 a).2.1 ≠ (tx_T9 b).2.1
    decide +kernel
  · intro k hk
    have hk : k < 50 := hk
    have h : (tx_ft 9 k = 0 ∧ tx_y9 k = .int) ∨ (tx_ft 9 k = 1 ∧ tx_y9 k = .boolean) ∨ (tx_ft 9 k = 2 ∧ tw_isR (some (tx_y9 k)) = true) := by
      revert k
      decide +kernel
    rcases h with h | h | h
    · exact Or.inl h
    · exact Or.inr (Or.inl h)
    · exact Or.inr (Or.inr ⟨h.1, tw_isR_of h.2⟩)
end
section
/-! The methods' tables: a row an instruction (its place in the bytes, its code, its operands). -/
def tx_t0 : tw_T := [(0, 2, 0, 0, 0, 0, 0), (1, 44, 0, 0, 3, 0, 0), (4, 2, 0, 0, 0, 0, 0), (5, 5, 0, 0, 0, 32, 32), (7, 43, 101, 0, 0, 0, 0), (9, 30, 4, 0, 9, 0, 0), (12, 2, 0, 0, 0, 0, 0), (13, 5, 0, 0, 0, 32, 32), (15, 43, 101, 0, 0, 0, 0), (17, 30, 4, 1, 15, 1, 0), (20, 2, 0, 0, 0, 0, 0), (21, 5, 0, 0, 0, 32, 32), (23, 43, 100, 0, 0, 0, 0), (25, 30, 4, 2, 18, 2, 0), (28, 2, 0, 0, 0, 0, 0), (29, 5, 0, 0, 0, 32, 32), (31, 43, 100, 0, 0, 0, 0), (33, 30, 4, 3, 22, 3, 0), (36, 40, 0, 0, 0, 0, 0)]
def tx_t1 : tw_T := [(0, 2, 0, 0, 0, 0, 0), (1, 44, 0, 0, 3, 1, 0), (4, 2, 0, 0, 0, 0, 0), (5, 5, 0, 0, 0, 40, 40), (7, 43, 100, 0, 0, 0, 0), (9, 30, 5, 0, 9, 4, 0), (12, 2, 0, 0, 0, 0, 0), (13, 5, 0, 0, 0, 40, 40), (15, 43, 100, 0, 0, 0, 0), (17, 30, 5, 1, 15, 5, 0), (20, 2, 0, 0, 0, 0, 0), (21, 5, 0, 0, 0, 40, 40), (23, 43, 100, 0, 0, 0, 0), (25, 30, 5, 2, 18, 6, 0), (28, 2, 0, 0, 0, 0, 0), (29, 5, 0, 0, 0, 40, 40), (31, 43, 100, 0, 0, 0, 0), (33, 30, 5, 3, 21, 7, 0), (36, 2, 0, 0, 0, 0, 0), (37, 5, 0, 0, 0, 40, 40), (39, 43, 100, 0, 0, 0, 0), (41, 30, 5, 4, 24, 8, 0), (44, 2, 0, 0, 0, 0, 0), (45, 4, 0, 0, 0, 0, 0), (46, 28, 5, 5, 27, 9, 0), (49, 2, 0, 0, 0, 0, 0), (50, 4, 0, 0, 0, 0, 0), (51, 28, 5, 6, 31, 10, 0), (54, 40, 0, 0, 0, 0, 0)]
def tx_t2 : tw_T := [(0, 2, 0, 0, 0, 0, 0), (1, 44, 0, 0, 3, 2, 0), (4, 2, 0, 0, 0, 0, 0), (5, 4, 0, 0, 0, 4, 4), (6, 43, 101, 0, 0, 0, 0), (8, 30, 1, 0, 9, 11, 0), (11, 2, 0, 0, 0, 0, 0), (12, 4, 0, 0, 0, 4, 4), (13, 43, 100, 0, 0, 0, 0), (15, 30, 1, 1, 15, 12, 0), (18, 2, 0, 0, 0, 0, 0), (19, 4, 0, 0, 0, 4, 4), (20, 43, 100, 0, 0, 0, 0), (22, 30, 1, 2, 19, 13, 0), (25, 2, 0, 0, 0, 0, 0), (26, 4, 0, 0, 0, (-1), (-1)), (27, 28, 1, 3, 22, 14, 0), (30, 2, 0, 0, 0, 0, 0), (31, 4, 0, 0, 0, 0, 0), (32, 28, 1, 4, 26, 15, 0), (35, 2, 0, 0, 0, 0, 0), (36, 4, 0, 0, 0, 0, 0), (37, 28, 1, 5, 29, 16, 0), (40, 2, 0, 0, 0, 0, 0), (41, 4, 0, 0, 0, 0, 0), (42, 28, 1, 6, 33, 17, 0), (45, 40, 0, 0, 0, 0, 0)]
def tx_t3 : tw_T := [(0, 2, 0, 0, 0, 0, 0), (1, 44, 0, 0, 1, 3, 0), (4, 2, 0, 0, 0, 0, 0), (5, 4, 0, 0, 0, 0, 0), (6, 28, 2, 0, 7, 18, 0), (9, 2, 0, 0, 0, 0, 0), (10, 4, 0, 0, 0, 0, 0), (11, 28, 2, 1, 13, 19, 0), (14, 2, 0, 0, 0, 0, 0), (15, 4, 0, 0, 0, 0, 0), (16, 28, 2, 2, 17, 20, 0), (19, 2, 0, 0, 0, 0, 0), (20, 4, 0, 0, 0, 0, 0), (21, 28, 2, 3, 20, 21, 0), (24, 2, 0, 0, 0, 0, 0), (25, 4, 0, 0, 0, 0, 0), (26, 28, 2, 4, 23, 22, 0), (29, 40, 0, 0, 0, 0, 0)]
def tx_t4 : tw_T := [(0, 2, 0, 0, 0, 0, 0), (1, 44, 0, 0, 3, 4, 0), (4, 2, 0, 0, 0, 0, 0), (5, 42, 4, 4, 9, 0, 0), (8, 25, 0, 0, 0, 0, 0), (9, 37, 0, 4, 11, 0, 0), (12, 30, 0, 1, 12, 23, 0), (15, 2, 0, 0, 0, 0, 0), (16, 42, 4, 4, 9, 0, 0), (19, 25, 0, 0, 0, 0, 0), (20, 37, 0, 4, 11, 0, 0), (23, 30, 0, 2, 18, 24, 0), (26, 2, 0, 0, 0, 0, 0), (27, 42, 5, 7, 21, 1, 0), (30, 25, 0, 0, 0, 0, 0), (31, 37, 1, 5, 23, 1, 0), (34, 30, 0, 3, 24, 25, 0), (37, 2, 0, 0, 0, 0, 0), (38, 42, 1, 7, 28, 2, 0), (41, 25, 0, 0, 0, 0, 0), (42, 37, 2, 1, 30, 2, 0), (45, 30, 0, 4, 31, 26, 0), (48, 2, 0, 0, 0, 0, 0), (49, 42, 2, 5, 35, 3, 0), (52, 25, 0, 0, 0, 0, 0), (53, 37, 3, 2, 37, 3, 0), (56, 30, 0, 5, 38, 27, 0), (59, 2, 0, 0, 0, 0, 0), (60, 4, 0, 0, 0, 1, 1), (61, 28, 0, 6, 42, 28, 0), (64, 2, 0, 0, 0, 0, 0), (65, 4, 0, 0, 0, 1, 1), (66, 28, 0, 7, 46, 29, 0), (69, 2, 0, 0, 0, 0, 0), (70, 4, 0, 0, 0, 0, 0), (71, 28, 0, 8, 49, 30, 0), (74, 2, 0, 0, 0, 0, 0), (75, 4, 0, 0, 0, 0, 0), (76, 28, 0, 9, 52, 31, 0), (79, 2, 0, 0, 0, 0, 0), (80, 4, 0, 0, 0, 1, 1), (81, 28, 0, 10, 55, 32, 0), (84, 2, 0, 0, 0, 0, 0), (85, 4, 0, 0, 0, 0, 0), (86, 28, 0, 12, 59, 33, 0), (89, 2, 0, 0, 0, 0, 0), (90, 4, 0, 0, 0, 0, 0), (91, 28, 0, 13, 62, 34, 0), (94, 2, 0, 0, 0, 0, 0), (95, 4, 0, 0, 0, 0, 0), (96, 28, 0, 14, 65, 35, 0), (99, 2, 0, 0, 0, 0, 0), (100, 4, 0, 0, 0, 0, 0), (101, 28, 0, 15, 68, 36, 0), (104, 2, 0, 0, 0, 0, 0), (105, 4, 0, 0, 0, 0, 0), (106, 28, 0, 16, 71, 37, 0), (109, 2, 0, 0, 0, 0, 0), (110, 4, 0, 0, 0, 0, 0), (111, 28, 0, 17, 74, 38, 0), (114, 2, 0, 0, 0, 0, 0), (115, 4, 0, 0, 0, 0, 0), (116, 28, 0, 18, 77, 39, 0), (119, 2, 0, 0, 0, 0, 0), (120, 0, 1, 0, 0, 0, 0), (121, 29, 0, 0, 80, 40, 0), (124, 2, 0, 0, 0, 0, 0), (125, 4, 0, 0, 0, 1, 1), (126, 0, 1, 0, 0, 0, 0), (127, 18, 0, 0, 0, 0, 0), (128, 28, 0, 11, 83, 41, 0), (131, 40, 0, 0, 0, 0, 0)]
def tx_t5 : tw_T := [(0, 0, 0, 0, 0, 0, 0), (1, 0, 1, 0, 0, 0, 0), (2, 19, 0, 0, 0, 0, 0), (3, 4, 0, 0, 0, 1, 1), (4, 15, 0, 0, 0, 0, 0), (5, 4, 0, 0, 0, 1, 1), (6, 23, 1, 9, 0, 0, 0), (9, 4, 0, 0, 0, 1, 1), (10, 24, 0, 10, 0, 0, 0), (13, 4, 0, 0, 0, 0, 0), (14, 39, 0, 0, 0, 0, 0)]
def tx_t6 : tw_T := [(0, 2, 0, 0, 0, 0, 0), (1, 27, 0, 11, 83, 41, 0), (4, 0, 1, 0, 0, 0, 0), (5, 36, 5, 0, 86, 4, 0), (8, 39, 0, 0, 0, 0, 0)]
def tx_t7 : tw_T := [(0, 2, 0, 0, 0, 0, 0), (1, 27, 0, 6, 42, 28, 0), (4, 22, 0, 11, 0, 0, 0), (7, 2, 0, 0, 0, 0, 0), (8, 0, 1, 0, 0, 0, 0), (9, 5, 0, 0, 0, 16, 16), (11, 20, 0, 0, 0, 0, 0), (12, 35, 6, 0, 90, 5, 0), (15, 22, 0, 11, 0, 0, 0), (18, 4, 0, 0, 0, 1, 1), (19, 24, 0, 12, 0, 0, 0), (22, 4, 0, 0, 0, 0, 0), (23, 39, 0, 0, 0, 0, 0)]
def tx_t8 : tw_T := [(0, 2, 0, 0, 0, 0, 0), (1, 25, 0, 0, 0, 0, 0), (2, 27, 0, 16, 71, 37, 0), (5, 4, 0, 0, 0, 1, 1), (6, 12, 0, 0, 0, 0, 0), (7, 28, 0, 16, 71, 37, 0), (10, 2, 0, 0, 0, 0, 0), (11, 27, 0, 16, 71, 37, 0), (14, 38, 0, 0, 0, 0, 0)]
def tx_t9 : tw_T := [(0, 2, 0, 0, 0, 0, 0), (1, 27, 4, 0, 9, 0, 0), (4, 0, 1, 0, 0, 0, 0), (5, 4, 0, 0, 0, 0, 0), (6, 34, 0, 0, 0, 0, 0), (7, 2, 0, 0, 0, 0, 0), (8, 27, 4, 1, 15, 1, 0), (11, 0, 1, 0, 0, 0, 0), (12, 4, 0, 0, 0, 0, 0), (13, 34, 0, 0, 0, 0, 0), (14, 40, 0, 0, 0, 0, 0)]
def tx_t10 : tw_T := [(0, 4, 0, 0, 0, 0, 0), (1, 7, 1, 0, 0, 0, 0), (2, 0, 1, 0, 0, 0, 0), (3, 5, 0, 0, 0, 32, 32), (5, 23, 3, 10, 0, 0, 0), (8, 2, 0, 0, 0, 0, 0), (9, 0, 1, 0, 0, 0, 0), (10, 35, 9, 4, 29, 6, 0), (13, 11, 1, 0, 0, 1, 1), (16, 24, 0, 2, 0, 0, 0), (19, 40, 0, 0, 0, 0, 0)]
def tx_t11 : tw_T := [(0, 2, 0, 0, 0, 0, 0), (1, 4, 0, 0, 0, 0, 0), (2, 28, 0, 6, 42, 28, 0), (5, 2, 0, 0, 0, 0, 0), (6, 4, 0, 0, 0, 0, 0), (7, 28, 0, 7, 46, 29, 0), (10, 2, 0, 0, 0, 0, 0), (11, 4, 0, 0, 0, 0, 0), (12, 28, 0, 8, 49, 30, 0), (15, 2, 0, 0, 0, 0, 0), (16, 4, 0, 0, 0, 0, 0), (17, 28, 0, 9, 52, 31, 0), (20, 2, 0, 0, 0, 0, 0), (21, 4, 0, 0, 0, 0, 0), (22, 28, 0, 11, 83, 41, 0), (25, 2, 0, 0, 0, 0, 0), (26, 4, 0, 0, 0, 0, 0), (27, 28, 0, 12, 59, 33, 0), (30, 2, 0, 0, 0, 0, 0), (31, 4, 0, 0, 0, 0, 0), (32, 28, 0, 13, 62, 34, 0), (35, 2, 0, 0, 0, 0, 0), (36, 4, 0, 0, 0, 0, 0), (37, 28, 0, 14, 65, 35, 0), (40, 2, 0, 0, 0, 0, 0), (41, 4, 0, 0, 0, 0, 0), (42, 28, 0, 15, 68, 36, 0), (45, 2, 0, 0, 0, 0, 0), (46, 4, 0, 0, 0, 0, 0), (47, 28, 0, 16, 71, 37, 0), (50, 2, 0, 0, 0, 0, 0), (51, 27, 0, 1, 12, 23, 0), (54, 35, 10, 4, 104, 7, 0), (57, 2, 0, 0, 0, 0, 0), (58, 27, 0, 2, 18, 24, 0), (61, 35, 10, 4, 104, 7, 0), (64, 2, 0, 0, 0, 0, 0), (65, 27, 0, 4, 31, 26, 0), (68, 4, 0, 0, 0, (-1), (-1)), (69, 28, 1, 3, 94, 42, 0), (72, 2, 0, 0, 0, 0, 0), (73, 27, 0, 5, 38, 27, 0), (76, 4, 0, 0, 0, 0, 0), (77, 28, 2, 0, 101, 43, 0), (80, 40, 0, 0, 0, 0, 0)]
def tx_t12 : tw_T := [(0, 2, 0, 0, 0, 0, 0), (1, 27, 4, 0, 9, 0, 0), (4, 0, 1, 0, 0, 0, 0), (5, 4, 0, 0, 0, 1, 1), (6, 34, 0, 0, 0, 0, 0), (7, 2, 0, 0, 0, 0, 0), (8, 27, 4, 1, 15, 1, 0), (11, 0, 1, 0, 0, 0, 0), (12, 1, 4, 0, 0, 0, 0), (14, 34, 0, 0, 0, 0, 0), (15, 2, 0, 0, 0, 0, 0), (16, 27, 4, 2, 18, 2, 0), (19, 0, 1, 0, 0, 0, 0), (20, 0, 2, 0, 0, 0, 0), (21, 33, 0, 0, 0, 0, 0), (22, 2, 0, 0, 0, 0, 0), (23, 27, 4, 3, 22, 3, 0), (26, 0, 1, 0, 0, 0, 0), (27, 0, 3, 0, 0, 0, 0), (28, 33, 0, 0, 0, 0, 0), (29, 40, 0, 0, 0, 0, 0)]
def tx_t13 : tw_T := [(0, 2, 0, 0, 0, 0, 0), (1, 4, 0, 0, 0, 3, 3), (2, 28, 0, 11, 83, 41, 0), (5, 4, 0, 0, 0, 0, 0), (6, 7, 1, 0, 0, 0, 0), (7, 0, 1, 0, 0, 0, 0), (8, 5, 0, 0, 0, 32, 32), (10, 23, 3, 32, 0, 0, 0), (13, 2, 0, 0, 0, 0, 0), (14, 27, 0, 2, 18, 24, 0), (17, 27, 4, 0, 114, 44, 0), (20, 0, 1, 0, 0, 0, 0), (21, 32, 0, 0, 0, 0, 0), (22, 22, 0, 30, 0, 0, 0), (25, 2, 0, 0, 0, 0, 0), (26, 27, 0, 1, 12, 23, 0), (29, 0, 1, 0, 0, 0, 0), (30, 2, 0, 0, 0, 0, 0), (31, 27, 0, 2, 18, 24, 0), (34, 27, 4, 2, 118, 45, 0), (37, 0, 1, 0, 0, 0, 0), (38, 31, 0, 0, 0, 0, 0), (39, 2, 0, 0, 0, 0, 0), (40, 35, 8, 0, 122, 8, 0), (43, 4, 0, 0, 0, 1, 1), (44, 35, 12, 4, 125, 9, 0), (47, 2, 0, 0, 0, 0, 0), (48, 27, 0, 2, 18, 24, 0), (51, 0, 1, 0, 0, 0, 0), (52, 35, 9, 4, 129, 10, 0), (55, 11, 1, 0, 0, 1, 1), (58, 24, 0, 5, 0, 0, 0), (61, 2, 0, 0, 0, 0, 0), (62, 25, 0, 0, 0, 0, 0), (63, 27, 0, 12, 59, 33, 0), (66, 2, 0, 0, 0, 0, 0), (67, 27, 0, 13, 62, 34, 0), (70, 16, 0, 0, 0, 0, 0), (71, 28, 0, 12, 59, 33, 0), (74, 2, 0, 0, 0, 0, 0), (75, 25, 0, 0, 0, 0, 0), (76, 27, 0, 14, 65, 35, 0), (79, 2, 0, 0, 0, 0, 0), (80, 27, 0, 13, 62, 34, 0), (83, 16, 0, 0, 0, 0, 0), (84, 28, 0, 14, 65, 35, 0), (87, 2, 0, 0, 0, 0, 0), (88, 4, 0, 0, 0, 0, 0), (89, 28, 0, 13, 62, 34, 0), (92, 2, 0, 0, 0, 0, 0), (93, 4, 0, 0, 0, 0, 0), (94, 28, 0, 8, 49, 30, 0), (97, 40, 0, 0, 0, 0, 0)]
def tx_t14 : tw_T := [(0, 4, 0, 0, 0, 0, 0), (1, 7, 2, 0, 0, 0, 0), (2, 4, 0, 0, 0, 0, 0), (3, 7, 3, 0, 0, 0, 0), (4, 0, 3, 0, 0, 0, 0), (5, 4, 0, 0, 0, 4, 4), (6, 23, 3, 24, 0, 0, 0), (9, 0, 2, 0, 0, 0, 0), (10, 2, 0, 0, 0, 0, 0), (11, 27, 4, 1, 15, 1, 0), (14, 0, 1, 0, 0, 0, 0), (15, 4, 0, 0, 0, 4, 4), (16, 14, 0, 0, 0, 0, 0), (17, 0, 3, 0, 0, 0, 0), (18, 12, 0, 0, 0, 0, 0), (19, 32, 0, 0, 0, 0, 0), (20, 22, 0, 19, 0, 0, 0), (23, 4, 0, 0, 0, 1, 1), (24, 24, 0, 20, 0, 0, 0), (27, 4, 0, 0, 0, 0, 0), (28, 12, 0, 0, 0, 0, 0), (29, 7, 2, 0, 0, 0, 0), (30, 11, 3, 0, 0, 1, 1), (33, 24, 0, 4, 0, 0, 0), (36, 0, 2, 0, 0, 0, 0), (37, 38, 0, 0, 0, 0, 0)]
def tx_t15 : tw_T := [(0, 4, 0, 0, 0, 0, 0), (1, 7, 1, 0, 0, 0, 0), (2, 4, 0, 0, 0, 0, 0), (3, 7, 2, 0, 0, 0, 0), (4, 0, 2, 0, 0, 0, 0), (5, 5, 0, 0, 0, 8, 8), (7, 23, 3, 15, 0, 0, 0), (10, 0, 1, 0, 0, 0, 0), (11, 2, 0, 0, 0, 0, 0), (12, 0, 2, 0, 0, 0, 0), (13, 35, 14, 4, 33, 11, 0), (16, 12, 0, 0, 0, 0, 0), (17, 7, 1, 0, 0, 0, 0), (18, 11, 2, 0, 0, 1, 1), (21, 24, 0, 4, 0, 0, 0), (24, 0, 1, 0, 0, 0, 0), (25, 38, 0, 0, 0, 0, 0)]
def tx_t16 : tw_T := [(0, 2, 0, 0, 0, 0, 0), (1, 27, 0, 6, 42, 28, 0), (4, 22, 0, 24, 0, 0, 0), (7, 2, 0, 0, 0, 0, 0), (8, 27, 0, 8, 49, 30, 0), (11, 22, 1, 24, 0, 0, 0), (14, 2, 0, 0, 0, 0, 0), (15, 27, 0, 4, 31, 26, 0), (18, 27, 1, 3, 94, 42, 0), (21, 4, 0, 0, 0, (-1), (-1)), (22, 23, 1, 24, 0, 0, 0), (25, 2, 0, 0, 0, 0, 0), (26, 27, 0, 1, 12, 23, 0), (29, 35, 15, 4, 97, 12, 0), (32, 22, 1, 24, 0, 0, 0), (35, 2, 0, 0, 0, 0, 0), (36, 27, 0, 12, 59, 33, 0), (39, 22, 1, 24, 0, 0, 0), (42, 2, 0, 0, 0, 0, 0), (43, 27, 0, 5, 38, 27, 0), (46, 27, 2, 0, 101, 43, 0), (49, 22, 1, 24, 0, 0, 0), (52, 4, 0, 0, 0, 1, 1), (53, 24, 0, 25, 0, 0, 0), (56, 4, 0, 0, 0, 0, 0), (57, 39, 0, 0, 0, 0, 0)]
def tx_t17 : tw_T := [(0, 2, 0, 0, 0, 0, 0), (1, 4, 0, 0, 0, 0, 0), (2, 28, 5, 6, 31, 10, 0), (5, 40, 0, 0, 0, 0, 0)]
def tx_t18 : tw_T := [(0, 2, 0, 0, 0, 0, 0), (1, 4, 0, 0, 0, 1, 1), (2, 28, 0, 7, 46, 29, 0), (5, 2, 0, 0, 0, 0, 0), (6, 0, 1, 0, 0, 0, 0), (7, 28, 0, 10, 55, 32, 0), (10, 2, 0, 0, 0, 0, 0), (11, 27, 0, 1, 12, 23, 0), (14, 35, 10, 4, 104, 7, 0), (17, 2, 0, 0, 0, 0, 0), (18, 27, 0, 2, 18, 24, 0), (21, 35, 10, 4, 104, 7, 0), (24, 2, 0, 0, 0, 0, 0), (25, 27, 0, 3, 24, 25, 0), (28, 35, 17, 5, 107, 13, 0), (31, 2, 0, 0, 0, 0, 0), (32, 4, 0, 0, 0, 0, 0), (33, 28, 0, 13, 62, 34, 0), (36, 2, 0, 0, 0, 0, 0), (37, 4, 0, 0, 0, 0, 0), (38, 28, 0, 15, 68, 36, 0), (41, 40, 0, 0, 0, 0, 0)]
def tx_t19 : tw_T := [(0, 4, 0, 0, 0, 0, 0), (1, 7, 2, 0, 0, 0, 0), (2, 0, 2, 0, 0, 0, 0), (3, 4, 0, 0, 0, 4, 4), (4, 23, 3, 30, 0, 0, 0), (7, 0, 1, 0, 0, 0, 0), (8, 4, 0, 0, 0, 4, 4), (9, 14, 0, 0, 0, 0, 0), (10, 0, 2, 0, 0, 0, 0), (11, 12, 0, 0, 0, 0, 0), (12, 7, 3, 0, 0, 0, 0), (13, 2, 0, 0, 0, 0, 0), (14, 27, 0, 12, 59, 33, 0), (17, 0, 3, 0, 0, 0, 0), (18, 36, 5, 0, 86, 4, 0), (21, 22, 1, 26, 0, 0, 0), (24, 2, 0, 0, 0, 0, 0), (25, 27, 0, 4, 31, 26, 0), (28, 27, 1, 3, 94, 42, 0), (31, 0, 3, 0, 0, 0, 0), (32, 23, 0, 26, 0, 0, 0), (35, 2, 0, 0, 0, 0, 0), (36, 27, 0, 1, 12, 23, 0), (39, 0, 3, 0, 0, 0, 0), (40, 35, 14, 4, 110, 14, 0), (43, 22, 5, 28, 0, 0, 0), (46, 4, 0, 0, 0, 1, 1), (47, 39, 0, 0, 0, 0, 0), (48, 11, 2, 0, 0, 1, 1), (51, 24, 0, 2, 0, 0, 0), (54, 4, 0, 0, 0, 0, 0), (55, 39, 0, 0, 0, 0, 0)]
def tx_t20 : tw_T := [(0, 4, 0, 0, 0, 0, 0), (1, 7, 1, 0, 0, 0, 0), (2, 4, 0, 0, 0, 0, 0), (3, 7, 2, 0, 0, 0, 0), (4, 0, 2, 0, 0, 0, 0), (5, 4, 0, 0, 0, 4, 4), (6, 23, 3, 16, 0, 0, 0), (9, 0, 1, 0, 0, 0, 0), (10, 2, 0, 0, 0, 0, 0), (11, 27, 1, 1, 15, 12, 0), (14, 0, 2, 0, 0, 0, 0), (15, 31, 0, 0, 0, 0, 0), (16, 17, 0, 0, 0, 0, 0), (17, 7, 1, 0, 0, 0, 0), (18, 11, 2, 0, 0, 1, 1), (21, 24, 0, 4, 0, 0, 0), (24, 0, 1, 0, 0, 0, 0), (25, 38, 0, 0, 0, 0, 0)]
def tx_t21 : tw_T := [(0, 2, 0, 0, 0, 0, 0), (1, 0, 1, 0, 0, 0, 0), (2, 28, 1, 3, 22, 14, 0), (5, 2, 0, 0, 0, 0, 0), (6, 4, 0, 0, 0, 0, 0), (7, 28, 1, 4, 26, 15, 0), (10, 2, 0, 0, 0, 0, 0), (11, 4, 0, 0, 0, 0, 0), (12, 28, 1, 5, 29, 16, 0), (15, 2, 0, 0, 0, 0, 0), (16, 4, 0, 0, 0, 0, 0), (17, 28, 1, 6, 33, 17, 0), (20, 4, 0, 0, 0, 0, 0), (21, 7, 2, 0, 0, 0, 0), (22, 0, 2, 0, 0, 0, 0), (23, 4, 0, 0, 0, 4, 4), (24, 23, 3, 29, 0, 0, 0), (27, 2, 0, 0, 0, 0, 0), (28, 27, 1, 0, 9, 11, 0), (31, 0, 2, 0, 0, 0, 0), (32, 4, 0, 0, 0, 0, 0), (33, 34, 0, 0, 0, 0, 0), (34, 2, 0, 0, 0, 0, 0), (35, 27, 1, 1, 15, 12, 0), (38, 0, 2, 0, 0, 0, 0), (39, 4, 0, 0, 0, 0, 0), (40, 33, 0, 0, 0, 0, 0), (41, 11, 2, 0, 0, 1, 1), (44, 24, 0, 14, 0, 0, 0), (47, 40, 0, 0, 0, 0, 0)]
def tx_t22 : tw_T := [(0, 2, 0, 0, 0, 0, 0), (1, 27, 1, 0, 9, 11, 0), (4, 0, 1, 0, 0, 0, 0), (5, 4, 0, 0, 0, 1, 1), (6, 34, 0, 0, 0, 0, 0), (7, 2, 0, 0, 0, 0, 0), (8, 27, 1, 1, 15, 12, 0), (11, 0, 1, 0, 0, 0, 0), (12, 0, 2, 0, 0, 0, 0), (13, 33, 0, 0, 0, 0, 0), (14, 2, 0, 0, 0, 0, 0), (15, 27, 1, 2, 19, 13, 0), (18, 0, 1, 0, 0, 0, 0), (19, 0, 3, 0, 0, 0, 0), (20, 33, 0, 0, 0, 0, 0), (21, 40, 0, 0, 0, 0, 0)]
def tx_t23 : tw_T := [(0, 2, 0, 0, 0, 0, 0), (1, 4, 0, 0, 0, 1, 1), (2, 28, 2, 0, 7, 18, 0), (5, 2, 0, 0, 0, 0, 0), (6, 0, 1, 0, 0, 0, 0), (7, 28, 2, 1, 13, 19, 0), (10, 2, 0, 0, 0, 0, 0), (11, 0, 2, 0, 0, 0, 0), (12, 28, 2, 2, 17, 20, 0), (15, 2, 0, 0, 0, 0, 0), (16, 0, 3, 0, 0, 0, 0), (17, 28, 2, 3, 20, 21, 0), (20, 2, 0, 0, 0, 0, 0), (21, 1, 4, 0, 0, 0, 0), (23, 28, 2, 4, 23, 22, 0), (26, 40, 0, 0, 0, 0, 0)]
def tx_t24 : tw_T := [(0, 2, 0, 0, 0, 0, 0), (1, 44, 0, 0, 3, 5, 0), (4, 2, 0, 0, 0, 0, 0), (5, 4, 0, 0, 0, 5, 5), (6, 43, 101, 0, 0, 0, 0), (8, 30, 3, 0, 9, 46, 0), (11, 2, 0, 0, 0, 0, 0), (12, 4, 0, 0, 0, 5, 5), (13, 43, 100, 0, 0, 0, 0), (15, 30, 3, 1, 15, 47, 0), (18, 2, 0, 0, 0, 0, 0), (19, 5, 0, 0, 0, 40, 40), (21, 43, 100, 0, 0, 0, 0), (23, 30, 3, 2, 19, 48, 0), (26, 2, 0, 0, 0, 0, 0), (27, 5, 0, 0, 0, 40, 40), (29, 43, 101, 0, 0, 0, 0), (31, 30, 3, 3, 22, 49, 0), (34, 4, 0, 0, 0, 0, 0), (35, 7, 1, 0, 0, 0, 0), (36, 0, 1, 0, 0, 0, 0), (37, 4, 0, 0, 0, 5, 5), (38, 23, 3, 35, 0, 0, 0), (41, 2, 0, 0, 0, 0, 0), (42, 27, 3, 0, 9, 46, 0), (45, 0, 1, 0, 0, 0, 0), (46, 4, 0, 0, 0, 1, 1), (47, 34, 0, 0, 0, 0, 0), (48, 2, 0, 0, 0, 0, 0), (49, 27, 3, 1, 15, 47, 0), (52, 0, 1, 0, 0, 0, 0), (53, 4, 0, 0, 0, 1, 1), (54, 33, 0, 0, 0, 0, 0), (55, 11, 1, 0, 0, 1, 1), (58, 24, 0, 20, 0, 0, 0), (61, 40, 0, 0, 0, 0, 0)]
def tx_t25 : tw_T := [(0, 4, 0, 0, 0, 0, 0), (1, 7, 2, 0, 0, 0, 0), (2, 4, 0, 0, 0, 0, 0), (3, 7, 3, 0, 0, 0, 0), (4, 0, 3, 0, 0, 0, 0), (5, 4, 0, 0, 0, 5, 5), (6, 23, 3, 21, 0, 0, 0), (9, 2, 0, 0, 0, 0, 0), (10, 27, 3, 0, 9, 46, 0), (13, 0, 3, 0, 0, 0, 0), (14, 32, 0, 0, 0, 0, 0), (15, 22, 0, 19, 0, 0, 0), (18, 2, 0, 0, 0, 0, 0), (19, 27, 3, 1, 15, 47, 0), (22, 0, 3, 0, 0, 0, 0), (23, 31, 0, 0, 0, 0, 0), (24, 0, 1, 0, 0, 0, 0), (25, 23, 0, 19, 0, 0, 0), (28, 11, 2, 0, 0, 1, 1), (31, 11, 3, 0, 0, 1, 1), (34, 24, 0, 4, 0, 0, 0), (37, 0, 2, 0, 0, 0, 0), (38, 38, 0, 0, 0, 0, 0)]
def tx_t26 : tw_T := [(0, 4, 0, 0, 0, 4, 4), (1, 0, 0, 0, 0, 0, 0), (2, 4, 0, 0, 0, 5, 5), (3, 21, 0, 0, 0, 0, 0), (4, 13, 0, 0, 0, 0, 0), (5, 38, 0, 0, 0, 0, 0)]
def tx_t27 : tw_T := [(0, 0, 1, 0, 0, 0, 0), (1, 0, 0, 0, 0, 0, 0), (2, 36, 26, 0, 260, 15, 0), (5, 23, 3, 6, 0, 0, 0), (8, 0, 1, 0, 0, 0, 0), (9, 24, 0, 9, 0, 0, 0), (12, 0, 1, 0, 0, 0, 0), (13, 4, 0, 0, 0, 1, 1), (14, 12, 0, 0, 0, 0, 0), (15, 38, 0, 0, 0, 0, 0)]
def tx_t28 : tw_T := [(0, 2, 0, 0, 0, 0, 0), (1, 27, 3, 3, 22, 49, 0), (4, 0, 1, 0, 0, 0, 0), (5, 5, 0, 0, 0, 8, 8), (7, 14, 0, 0, 0, 0, 0), (8, 0, 2, 0, 0, 0, 0), (9, 12, 0, 0, 0, 0, 0), (10, 32, 0, 0, 0, 0, 0), (11, 39, 0, 0, 0, 0, 0)]
def tx_t29 : tw_T := [(0, 4, 0, 0, 0, 0, 0), (1, 7, 3, 0, 0, 0, 0), (2, 0, 3, 0, 0, 0, 0), (3, 4, 0, 0, 0, 5, 5), (4, 23, 3, 17, 0, 0, 0), (7, 0, 3, 0, 0, 0, 0), (8, 0, 1, 0, 0, 0, 0), (9, 23, 0, 15, 0, 0, 0), (12, 2, 0, 0, 0, 0, 0), (13, 0, 3, 0, 0, 0, 0), (14, 0, 2, 0, 0, 0, 0), (15, 35, 28, 3, 35, 16, 0), (18, 22, 0, 15, 0, 0, 0), (21, 4, 0, 0, 0, 1, 1), (22, 39, 0, 0, 0, 0, 0), (23, 11, 3, 0, 0, 1, 1), (26, 24, 0, 2, 0, 0, 0), (29, 4, 0, 0, 0, 0, 0), (30, 39, 0, 0, 0, 0, 0)]
def tx_t30 : tw_T := [(0, 0, 1, 0, 0, 0, 0), (1, 4, 0, 0, 0, 4, 4), (2, 20, 0, 0, 0, 0, 0), (3, 7, 2, 0, 0, 0, 0), (4, 0, 2, 0, 0, 0, 0), (5, 0, 1, 0, 0, 0, 0), (6, 4, 0, 0, 0, 4, 4), (7, 21, 0, 0, 0, 0, 0), (8, 36, 27, 0, 45, 17, 0), (11, 7, 3, 0, 0, 0, 0), (12, 2, 0, 0, 0, 0, 0), (13, 0, 3, 0, 0, 0, 0), (14, 0, 2, 0, 0, 0, 0), (15, 35, 28, 3, 35, 16, 0), (18, 22, 0, 22, 0, 0, 0), (21, 2, 0, 0, 0, 0, 0), (22, 0, 3, 0, 0, 0, 0), (23, 0, 2, 0, 0, 0, 0), (24, 35, 29, 3, 39, 18, 0), (27, 22, 0, 22, 0, 0, 0), (30, 4, 0, 0, 0, 1, 1), (31, 24, 0, 23, 0, 0, 0), (34, 4, 0, 0, 0, 0, 0), (35, 39, 0, 0, 0, 0, 0)]
def tx_t31 : tw_T := [(0, 2, 0, 0, 0, 0, 0), (1, 27, 3, 2, 19, 48, 0), (4, 0, 1, 0, 0, 0, 0), (5, 5, 0, 0, 0, 8, 8), (7, 14, 0, 0, 0, 0, 0), (8, 0, 2, 0, 0, 0, 0), (9, 12, 0, 0, 0, 0, 0), (10, 31, 0, 0, 0, 0, 0), (11, 38, 0, 0, 0, 0, 0)]
def tx_t32 : tw_T := [(0, 4, 0, 0, 0, 0, 0), (1, 7, 3, 0, 0, 0, 0), (2, 4, 0, 0, 0, 0, 0), (3, 8, 4, 0, 0, 0, 0), (5, 1, 4, 0, 0, 0, 0), (7, 4, 0, 0, 0, 5, 5), (8, 23, 3, 19, 0, 0, 0), (11, 1, 4, 0, 0, 0, 0), (13, 0, 1, 0, 0, 0, 0), (14, 23, 0, 17, 0, 0, 0), (17, 0, 3, 0, 0, 0, 0), (18, 2, 0, 0, 0, 0, 0), (19, 1, 4, 0, 0, 0, 0), (21, 0, 2, 0, 0, 0, 0), (22, 35, 31, 3, 42, 19, 0), (25, 17, 0, 0, 0, 0, 0), (26, 7, 3, 0, 0, 0, 0), (27, 11, 4, 0, 0, 1, 1), (30, 24, 0, 4, 0, 0, 0), (33, 0, 3, 0, 0, 0, 0), (34, 38, 0, 0, 0, 0, 0)]
def tx_t33 : tw_T := [(0, 0, 1, 0, 0, 0, 0), (1, 4, 0, 0, 0, 4, 4), (2, 20, 0, 0, 0, 0, 0), (3, 7, 2, 0, 0, 0, 0), (4, 0, 2, 0, 0, 0, 0), (5, 0, 1, 0, 0, 0, 0), (6, 4, 0, 0, 0, 4, 4), (7, 21, 0, 0, 0, 0, 0), (8, 36, 27, 0, 45, 17, 0), (11, 7, 3, 0, 0, 0, 0), (12, 2, 0, 0, 0, 0, 0), (13, 0, 3, 0, 0, 0, 0), (14, 0, 2, 0, 0, 0, 0), (15, 35, 28, 3, 35, 16, 0), (18, 22, 0, 20, 0, 0, 0), (21, 2, 0, 0, 0, 0, 0), (22, 0, 3, 0, 0, 0, 0), (23, 0, 2, 0, 0, 0, 0), (24, 35, 32, 3, 48, 20, 0), (27, 24, 0, 24, 0, 0, 0), (30, 2, 0, 0, 0, 0, 0), (31, 0, 3, 0, 0, 0, 0), (32, 0, 2, 0, 0, 0, 0), (33, 35, 31, 3, 42, 19, 0), (36, 38, 0, 0, 0, 0, 0)]
def tx_t34 : tw_T := [(0, 2, 0, 0, 0, 0, 0), (1, 27, 3, 2, 19, 48, 0), (4, 0, 1, 0, 0, 0, 0), (5, 5, 0, 0, 0, 8, 8), (7, 14, 0, 0, 0, 0, 0), (8, 0, 2, 0, 0, 0, 0), (9, 12, 0, 0, 0, 0, 0), (10, 0, 3, 0, 0, 0, 0), (11, 33, 0, 0, 0, 0, 0), (12, 2, 0, 0, 0, 0, 0), (13, 27, 3, 3, 22, 49, 0), (16, 0, 1, 0, 0, 0, 0), (17, 5, 0, 0, 0, 8, 8), (19, 14, 0, 0, 0, 0, 0), (20, 0, 2, 0, 0, 0, 0), (21, 12, 0, 0, 0, 0, 0), (22, 4, 0, 0, 0, 0, 0), (23, 34, 0, 0, 0, 0, 0), (24, 40, 0, 0, 0, 0, 0)]
def tx_t35 : tw_T := [(0, 0, 1, 0, 0, 0, 0), (1, 7, 2, 0, 0, 0, 0), (2, 0, 2, 0, 0, 0, 0), (3, 4, 0, 0, 0, 5, 5), (4, 23, 3, 14, 0, 0, 0), (7, 2, 0, 0, 0, 0, 0), (8, 27, 3, 0, 9, 46, 0), (11, 0, 2, 0, 0, 0, 0), (12, 32, 0, 0, 0, 0, 0), (13, 22, 0, 12, 0, 0, 0), (16, 0, 2, 0, 0, 0, 0), (17, 38, 0, 0, 0, 0, 0), (18, 11, 2, 0, 0, 1, 1), (21, 24, 0, 2, 0, 0, 0), (24, 4, 0, 0, 0, (-1), (-1)), (25, 38, 0, 0, 0, 0, 0)]
def tx_t36 : tw_T := [(0, 2, 0, 0, 0, 0, 0), (1, 4, 0, 0, 0, 0, 0), (2, 0, 1, 0, 0, 0, 0), (3, 35, 28, 3, 35, 16, 0), (6, 22, 1, 10, 0, 0, 0), (9, 2, 0, 0, 0, 0, 0), (10, 4, 0, 0, 0, 0, 0), (11, 0, 1, 0, 0, 0, 0), (12, 35, 29, 3, 39, 18, 0), (15, 22, 0, 12, 0, 0, 0), (18, 4, 0, 0, 0, 1, 1), (19, 24, 0, 13, 0, 0, 0), (22, 4, 0, 0, 0, 0, 0), (23, 39, 0, 0, 0, 0, 0)]
def tx_t37 : tw_T := [(0, 4, 0, 0, 0, 0, 0), (1, 7, 1, 0, 0, 0, 0), (2, 4, 0, 0, 0, 0, 0), (3, 7, 2, 0, 0, 0, 0), (4, 0, 2, 0, 0, 0, 0), (5, 4, 0, 0, 0, 5, 5), (6, 23, 3, 21, 0, 0, 0), (9, 2, 0, 0, 0, 0, 0), (10, 27, 3, 0, 9, 46, 0), (13, 0, 2, 0, 0, 0, 0), (14, 32, 0, 0, 0, 0, 0), (15, 22, 0, 19, 0, 0, 0), (18, 0, 1, 0, 0, 0, 0), (19, 2, 0, 0, 0, 0, 0), (20, 27, 3, 1, 15, 47, 0), (23, 0, 2, 0, 0, 0, 0), (24, 31, 0, 0, 0, 0, 0), (25, 45, 0, 0, 29, 0, 0), (28, 7, 1, 0, 0, 0, 0), (29, 11, 2, 0, 0, 1, 1), (32, 24, 0, 4, 0, 0, 0), (35, 0, 1, 0, 0, 0, 0), (36, 38, 0, 0, 0, 0, 0)]
def tx_t38 : tw_T := [(0, 2, 0, 0, 0, 0, 0), (1, 27, 3, 0, 9, 46, 0), (4, 0, 1, 0, 0, 0, 0), (5, 4, 0, 0, 0, 0, 0), (6, 34, 0, 0, 0, 0, 0), (7, 4, 0, 0, 0, 0, 0), (8, 7, 2, 0, 0, 0, 0), (9, 0, 2, 0, 0, 0, 0), (10, 5, 0, 0, 0, 8, 8), (12, 23, 3, 21, 0, 0, 0), (15, 2, 0, 0, 0, 0, 0), (16, 27, 3, 3, 22, 49, 0), (19, 0, 1, 0, 0, 0, 0), (20, 5, 0, 0, 0, 8, 8), (22, 14, 0, 0, 0, 0, 0), (23, 0, 2, 0, 0, 0, 0), (24, 12, 0, 0, 0, 0, 0), (25, 4, 0, 0, 0, 1, 1), (26, 34, 0, 0, 0, 0, 0), (27, 11, 2, 0, 0, 1, 1), (30, 24, 0, 7, 0, 0, 0), (33, 40, 0, 0, 0, 0, 0)]
def tx_t39 : tw_T := [(0, 2, 0, 0, 0, 0, 0), (1, 27, 3, 1, 15, 47, 0), (4, 0, 1, 0, 0, 0, 0), (5, 2, 0, 0, 0, 0, 0), (6, 35, 37, 3, 25, 21, 0), (9, 33, 0, 0, 0, 0, 0), (10, 2, 0, 0, 0, 0, 0), (11, 27, 3, 0, 9, 46, 0), (14, 0, 1, 0, 0, 0, 0), (15, 4, 0, 0, 0, 1, 1), (16, 34, 0, 0, 0, 0, 0), (17, 40, 0, 0, 0, 0, 0)]
def tx_t40 : tw_T := [(0, 4, 0, 0, 0, 0, 0), (1, 7, 2, 0, 0, 0, 0), (2, 0, 2, 0, 0, 0, 0), (3, 5, 0, 0, 0, 8, 8), (5, 23, 3, 14, 0, 0, 0), (8, 2, 0, 0, 0, 0, 0), (9, 0, 1, 0, 0, 0, 0), (10, 0, 2, 0, 0, 0, 0), (11, 35, 28, 3, 35, 16, 0), (14, 22, 0, 12, 0, 0, 0), (17, 0, 2, 0, 0, 0, 0), (18, 38, 0, 0, 0, 0, 0), (19, 11, 2, 0, 0, 1, 1), (22, 24, 0, 2, 0, 0, 0), (25, 4, 0, 0, 0, (-1), (-1)), (26, 38, 0, 0, 0, 0, 0)]
def tx_t41 : tw_T := [(0, 4, 0, 0, 0, 0, 0), (1, 7, 1, 0, 0, 0, 0), (2, 4, 0, 0, 0, 1, 1), (3, 7, 2, 0, 0, 0, 0), (4, 0, 2, 0, 0, 0, 0), (5, 5, 0, 0, 0, 8, 8), (7, 23, 3, 18, 0, 0, 0), (10, 2, 0, 0, 0, 0, 0), (11, 0, 2, 0, 0, 0, 0), (12, 35, 14, 4, 33, 11, 0), (15, 2, 0, 0, 0, 0, 0), (16, 0, 1, 0, 0, 0, 0), (17, 35, 14, 4, 33, 11, 0), (20, 23, 5, 16, 0, 0, 0), (23, 0, 2, 0, 0, 0, 0), (24, 7, 1, 0, 0, 0, 0), (25, 11, 2, 0, 0, 1, 1), (28, 24, 0, 4, 0, 0, 0), (31, 0, 1, 0, 0, 0, 0), (32, 38, 0, 0, 0, 0, 0)]
def tx_t42 : tw_T := [(0, 2, 0, 0, 0, 0, 0), (1, 27, 4, 0, 9, 0, 0), (4, 0, 1, 0, 0, 0, 0), (5, 32, 0, 0, 0, 0, 0), (6, 22, 0, 11, 0, 0, 0), (9, 2, 0, 0, 0, 0, 0), (10, 27, 4, 3, 22, 3, 0), (13, 0, 1, 0, 0, 0, 0), (14, 31, 0, 0, 0, 0, 0), (15, 0, 3, 0, 0, 0, 0), (16, 23, 3, 17, 0, 0, 0), (19, 2, 0, 0, 0, 0, 0), (20, 0, 1, 0, 0, 0, 0), (21, 0, 2, 0, 0, 0, 0), (22, 0, 3, 0, 0, 0, 0), (23, 4, 0, 0, 0, 0, 0), (24, 35, 12, 4, 25, 22, 0), (27, 40, 0, 0, 0, 0, 0)]
def tx_t43 : tw_T := [(0, 2, 0, 0, 0, 0, 0), (1, 27, 4, 0, 9, 0, 0), (4, 0, 1, 0, 0, 0, 0), (5, 32, 0, 0, 0, 0, 0), (6, 22, 0, 14, 0, 0, 0), (9, 2, 0, 0, 0, 0, 0), (10, 27, 4, 3, 22, 3, 0), (13, 0, 1, 0, 0, 0, 0), (14, 31, 0, 0, 0, 0, 0), (15, 0, 2, 0, 0, 0, 0), (16, 23, 1, 14, 0, 0, 0), (19, 2, 0, 0, 0, 0, 0), (20, 0, 1, 0, 0, 0, 0), (21, 35, 9, 4, 29, 6, 0), (24, 40, 0, 0, 0, 0, 0)]
def tx_t44 : tw_T := [(0, 4, 0, 0, 0, 0, 0), (1, 7, 2, 0, 0, 0, 0), (2, 0, 2, 0, 0, 0, 0), (3, 5, 0, 0, 0, 16, 16), (5, 23, 3, 18, 0, 0, 0), (8, 2, 0, 0, 0, 0, 0), (9, 27, 4, 0, 9, 0, 0), (12, 0, 1, 0, 0, 0, 0), (13, 5, 0, 0, 0, 16, 16), (15, 14, 0, 0, 0, 0, 0), (16, 0, 2, 0, 0, 0, 0), (17, 12, 0, 0, 0, 0, 0), (18, 32, 0, 0, 0, 0, 0), (19, 22, 0, 16, 0, 0, 0), (22, 4, 0, 0, 0, 1, 1), (23, 39, 0, 0, 0, 0, 0), (24, 11, 2, 0, 0, 1, 1), (27, 24, 0, 2, 0, 0, 0), (30, 4, 0, 0, 0, 0, 0), (31, 39, 0, 0, 0, 0, 0)]
def tx_t45 : tw_T := [(0, 4, 0, 0, 0, 0, 0), (1, 7, 2, 0, 0, 0, 0), (2, 0, 2, 0, 0, 0, 0), (3, 5, 0, 0, 0, 16, 16), (5, 23, 3, 14, 0, 0, 0), (8, 2, 0, 0, 0, 0, 0), (9, 0, 1, 0, 0, 0, 0), (10, 5, 0, 0, 0, 16, 16), (12, 14, 0, 0, 0, 0, 0), (13, 0, 2, 0, 0, 0, 0), (14, 12, 0, 0, 0, 0, 0), (15, 35, 9, 4, 29, 6, 0), (18, 11, 2, 0, 0, 1, 1), (21, 24, 0, 2, 0, 0, 0), (24, 40, 0, 0, 0, 0, 0)]
def tx_t46 : tw_T := [(0, 4, 0, 0, 0, 0, 0), (1, 7, 1, 0, 0, 0, 0), (2, 4, 0, 0, 0, 0, 0), (3, 7, 2, 0, 0, 0, 0), (4, 0, 2, 0, 0, 0, 0), (5, 5, 0, 0, 0, 32, 32), (7, 23, 3, 20, 0, 0, 0), (10, 0, 1, 0, 0, 0, 0), (11, 2, 0, 0, 0, 0, 0), (12, 27, 4, 0, 9, 0, 0), (15, 0, 2, 0, 0, 0, 0), (16, 32, 0, 0, 0, 0, 0), (17, 22, 0, 15, 0, 0, 0), (20, 4, 0, 0, 0, 1, 1), (21, 24, 0, 16, 0, 0, 0), (24, 4, 0, 0, 0, 0, 0), (25, 12, 0, 0, 0, 0, 0), (26, 7, 1, 0, 0, 0, 0), (27, 11, 2, 0, 0, 1, 1), (30, 24, 0, 4, 0, 0, 0), (33, 0, 1, 0, 0, 0, 0), (34, 38, 0, 0, 0, 0, 0)]
def tx_t47 : tw_T := [(0, 2, 0, 0, 0, 0, 0), (1, 27, 5, 6, 31, 10, 0), (4, 5, 0, 0, 0, 40, 40), (6, 23, 3, 43, 0, 0, 0), (9, 2, 0, 0, 0, 0, 0), (10, 27, 5, 5, 27, 9, 0), (13, 2, 0, 0, 0, 0, 0), (14, 27, 5, 6, 31, 10, 0), (17, 12, 0, 0, 0, 0, 0), (18, 5, 0, 0, 0, 40, 40), (20, 21, 0, 0, 0, 0, 0), (21, 8, 6, 0, 0, 0, 0), (23, 2, 0, 0, 0, 0, 0), (24, 27, 5, 0, 9, 4, 0), (27, 1, 6, 0, 0, 0, 0), (29, 0, 1, 0, 0, 0, 0), (30, 33, 0, 0, 0, 0, 0), (31, 2, 0, 0, 0, 0, 0), (32, 27, 5, 1, 15, 5, 0), (35, 1, 6, 0, 0, 0, 0), (37, 0, 2, 0, 0, 0, 0), (38, 33, 0, 0, 0, 0, 0), (39, 2, 0, 0, 0, 0, 0), (40, 27, 5, 2, 18, 6, 0), (43, 1, 6, 0, 0, 0, 0), (45, 0, 3, 0, 0, 0, 0), (46, 33, 0, 0, 0, 0, 0), (47, 2, 0, 0, 0, 0, 0), (48, 27, 5, 3, 21, 7, 0), (51, 1, 6, 0, 0, 0, 0), (53, 1, 4, 0, 0, 0, 0), (55, 33, 0, 0, 0, 0, 0), (56, 2, 0, 0, 0, 0, 0), (57, 27, 5, 4, 24, 8, 0), (60, 1, 6, 0, 0, 0, 0), (62, 1, 5, 0, 0, 0, 0), (64, 33, 0, 0, 0, 0, 0), (65, 2, 0, 0, 0, 0, 0), (66, 25, 0, 0, 0, 0, 0), (67, 27, 5, 6, 31, 10, 0), (70, 4, 0, 0, 0, 1, 1), (71, 12, 0, 0, 0, 0, 0), (72, 28, 5, 6, 31, 10, 0), (75, 40, 0, 0, 0, 0, 0)]
def tx_t48 : tw_T := [(0, 2, 0, 0, 0, 0, 0), (1, 27, 5, 5, 27, 9, 0), (4, 7, 1, 0, 0, 0, 0), (5, 2, 0, 0, 0, 0, 0), (6, 2, 0, 0, 0, 0, 0), (7, 27, 5, 5, 27, 9, 0), (10, 4, 0, 0, 0, 1, 1), (11, 12, 0, 0, 0, 0, 0), (12, 5, 0, 0, 0, 40, 40), (14, 21, 0, 0, 0, 0, 0), (15, 28, 5, 5, 27, 9, 0), (18, 2, 0, 0, 0, 0, 0), (19, 25, 0, 0, 0, 0, 0), (20, 27, 5, 6, 31, 10, 0), (23, 4, 0, 0, 0, 1, 1), (24, 13, 0, 0, 0, 0, 0), (25, 28, 5, 6, 31, 10, 0), (28, 0, 1, 0, 0, 0, 0), (29, 38, 0, 0, 0, 0, 0)]
def tx_t49 : tw_T := [(0, 2, 0, 0, 0, 0, 0), (1, 44, 0, 0, 3, 6, 0), (4, 2, 0, 0, 0, 0, 0), (5, 5, 0, 0, 0, 20, 20), (7, 43, 100, 0, 0, 0, 0), (9, 30, 6, 0, 9, 50, 0), (12, 2, 0, 0, 0, 0, 0), (13, 5, 0, 0, 0, 20, 20), (15, 43, 100, 0, 0, 0, 0), (17, 30, 6, 1, 15, 51, 0), (20, 2, 0, 0, 0, 0, 0), (21, 5, 0, 0, 0, 20, 20), (23, 43, 100, 0, 0, 0, 0), (25, 30, 6, 2, 18, 52, 0), (28, 2, 0, 0, 0, 0, 0), (29, 5, 0, 0, 0, 20, 20), (31, 43, 100, 0, 0, 0, 0), (33, 30, 6, 3, 21, 53, 0), (36, 2, 0, 0, 0, 0, 0), (37, 4, 0, 0, 0, 0, 0), (38, 28, 6, 4, 24, 54, 0), (41, 40, 0, 0, 0, 0, 0)]
def tx_t50 : tw_T := [(0, 2, 0, 0, 0, 0, 0), (1, 27, 6, 4, 24, 54, 0), (4, 5, 0, 0, 0, 20, 20), (6, 23, 3, 38, 0, 0, 0), (9, 2, 0, 0, 0, 0, 0), (10, 27, 6, 0, 9, 50, 0), (13, 2, 0, 0, 0, 0, 0), (14, 27, 6, 4, 24, 54, 0), (17, 2, 1, 0, 0, 0, 0), (18, 27, 2, 1, 28, 55, 0), (21, 33, 0, 0, 0, 0, 0), (22, 2, 0, 0, 0, 0, 0), (23, 27, 6, 1, 15, 51, 0), (26, 2, 0, 0, 0, 0, 0), (27, 27, 6, 4, 24, 54, 0), (30, 2, 1, 0, 0, 0, 0), (31, 27, 2, 2, 33, 56, 0), (34, 33, 0, 0, 0, 0, 0), (35, 2, 0, 0, 0, 0, 0), (36, 27, 6, 2, 18, 52, 0), (39, 2, 0, 0, 0, 0, 0), (40, 27, 6, 4, 24, 54, 0), (43, 2, 1, 0, 0, 0, 0), (44, 27, 2, 3, 36, 57, 0), (47, 33, 0, 0, 0, 0, 0), (48, 2, 0, 0, 0, 0, 0), (49, 27, 6, 3, 21, 53, 0), (52, 2, 0, 0, 0, 0, 0), (53, 27, 6, 4, 24, 54, 0), (56, 2, 1, 0, 0, 0, 0), (57, 27, 2, 4, 39, 58, 0), (60, 33, 0, 0, 0, 0, 0), (61, 2, 0, 0, 0, 0, 0), (62, 25, 0, 0, 0, 0, 0), (63, 27, 6, 4, 24, 54, 0), (66, 4, 0, 0, 0, 1, 1), (67, 12, 0, 0, 0, 0, 0), (68, 28, 6, 4, 24, 54, 0), (71, 40, 0, 0, 0, 0, 0)]
def tx_t51 : tw_T := [(0, 0, 1, 0, 0, 0, 0), (1, 22, 2, 8, 0, 0, 0), (4, 0, 1, 0, 0, 0, 0), (5, 2, 0, 0, 0, 0, 0), (6, 27, 6, 4, 24, 54, 0), (9, 23, 3, 8, 0, 0, 0), (12, 4, 0, 0, 0, 1, 1), (13, 24, 0, 9, 0, 0, 0), (16, 4, 0, 0, 0, 0, 0), (17, 39, 0, 0, 0, 0, 0)]
def tx_t52 : tw_T := [(0, 2, 0, 0, 0, 0, 0), (1, 25, 0, 0, 0, 0, 0), (2, 27, 6, 4, 24, 54, 0), (5, 4, 0, 0, 0, 1, 1), (6, 13, 0, 0, 0, 0, 0), (7, 28, 6, 4, 24, 54, 0), (10, 0, 1, 0, 0, 0, 0), (11, 7, 2, 0, 0, 0, 0), (12, 0, 2, 0, 0, 0, 0), (13, 2, 0, 0, 0, 0, 0), (14, 27, 6, 4, 24, 54, 0), (17, 23, 3, 54, 0, 0, 0), (20, 2, 0, 0, 0, 0, 0), (21, 27, 6, 0, 9, 50, 0), (24, 0, 2, 0, 0, 0, 0), (25, 2, 0, 0, 0, 0, 0), (26, 27, 6, 0, 9, 50, 0), (29, 0, 2, 0, 0, 0, 0), (30, 4, 0, 0, 0, 1, 1), (31, 12, 0, 0, 0, 0, 0), (32, 31, 0, 0, 0, 0, 0), (33, 33, 0, 0, 0, 0, 0), (34, 2, 0, 0, 0, 0, 0), (35, 27, 6, 1, 15, 51, 0), (38, 0, 2, 0, 0, 0, 0), (39, 2, 0, 0, 0, 0, 0), (40, 27, 6, 1, 15, 51, 0), (43, 0, 2, 0, 0, 0, 0), (44, 4, 0, 0, 0, 1, 1), (45, 12, 0, 0, 0, 0, 0), (46, 31, 0, 0, 0, 0, 0), (47, 33, 0, 0, 0, 0, 0), (48, 2, 0, 0, 0, 0, 0), (49, 27, 6, 2, 18, 52, 0), (52, 0, 2, 0, 0, 0, 0), (53, 2, 0, 0, 0, 0, 0), (54, 27, 6, 2, 18, 52, 0), (57, 0, 2, 0, 0, 0, 0), (58, 4, 0, 0, 0, 1, 1), (59, 12, 0, 0, 0, 0, 0), (60, 31, 0, 0, 0, 0, 0), (61, 33, 0, 0, 0, 0, 0), (62, 2, 0, 0, 0, 0, 0), (63, 27, 6, 3, 21, 53, 0), (66, 0, 2, 0, 0, 0, 0), (67, 2, 0, 0, 0, 0, 0), (68, 27, 6, 3, 21, 53, 0), (71, 0, 2, 0, 0, 0, 0), (72, 4, 0, 0, 0, 1, 1), (73, 12, 0, 0, 0, 0, 0), (74, 31, 0, 0, 0, 0, 0), (75, 33, 0, 0, 0, 0, 0), (76, 11, 2, 0, 0, 1, 1), (79, 24, 0, 8, 0, 0, 0), (82, 40, 0, 0, 0, 0, 0)]
def tx_t53 : tw_T := [(0, 2, 0, 0, 0, 0, 0), (1, 44, 0, 0, 3, 7, 0), (4, 2, 0, 0, 0, 0, 0), (5, 6, 0, 0, 0, 200, 200), (8, 43, 100, 0, 0, 0, 0), (10, 30, 7, 0, 9, 59, 0), (13, 2, 0, 0, 0, 0, 0), (14, 6, 0, 0, 0, 200, 200), (17, 43, 100, 0, 0, 0, 0), (19, 30, 7, 1, 15, 60, 0), (22, 2, 0, 0, 0, 0, 0), (23, 6, 0, 0, 0, 200, 200), (26, 43, 100, 0, 0, 0, 0), (28, 30, 7, 2, 18, 61, 0), (31, 2, 0, 0, 0, 0, 0), (32, 6, 0, 0, 0, 200, 200), (35, 43, 100, 0, 0, 0, 0), (37, 30, 7, 3, 21, 62, 0), (40, 2, 0, 0, 0, 0, 0), (41, 6, 0, 0, 0, 200, 200), (44, 43, 100, 0, 0, 0, 0), (46, 30, 7, 4, 24, 63, 0), (49, 2, 0, 0, 0, 0, 0), (50, 4, 0, 0, 0, 0, 0), (51, 28, 7, 5, 27, 64, 0), (54, 40, 0, 0, 0, 0, 0)]
def tx_t54 : tw_T := [(0, 2, 0, 0, 0, 0, 0), (1, 27, 7, 5, 27, 64, 0), (4, 6, 0, 0, 0, 200, 200), (7, 23, 2, 6, 0, 0, 0), (10, 4, 0, 0, 0, 1, 1), (11, 24, 0, 7, 0, 0, 0), (14, 4, 0, 0, 0, 0, 0), (15, 39, 0, 0, 0, 0, 0)]
def tx_t55 : tw_T := [(0, 2, 0, 0, 0, 0, 0), (1, 27, 7, 0, 9, 59, 0), (4, 2, 0, 0, 0, 0, 0), (5, 27, 7, 5, 27, 64, 0), (8, 0, 1, 0, 0, 0, 0), (9, 33, 0, 0, 0, 0, 0), (10, 2, 0, 0, 0, 0, 0), (11, 27, 7, 1, 15, 60, 0), (14, 2, 0, 0, 0, 0, 0), (15, 27, 7, 5, 27, 64, 0), (18, 0, 2, 0, 0, 0, 0), (19, 33, 0, 0, 0, 0, 0), (20, 2, 0, 0, 0, 0, 0), (21, 25, 0, 0, 0, 0, 0), (22, 27, 7, 5, 27, 64, 0), (25, 4, 0, 0, 0, 1, 1), (26, 12, 0, 0, 0, 0, 0), (27, 28, 7, 5, 27, 64, 0), (30, 2, 0, 0, 0, 0, 0), (31, 27, 7, 5, 27, 64, 0), (34, 4, 0, 0, 0, 1, 1), (35, 13, 0, 0, 0, 0, 0), (36, 38, 0, 0, 0, 0, 0)]
def tx_t56 : tw_T := [(0, 2, 0, 0, 0, 0, 0), (1, 4, 0, 0, 0, 0, 0), (2, 1, 4, 0, 0, 0, 0), (4, 35, 55, 7, 31, 23, 0), (7, 8, 5, 0, 0, 0, 0), (9, 2, 0, 0, 0, 0, 0), (10, 27, 7, 2, 18, 61, 0), (13, 1, 5, 0, 0, 0, 0), (15, 0, 1, 0, 0, 0, 0), (16, 33, 0, 0, 0, 0, 0), (17, 2, 0, 0, 0, 0, 0), (18, 27, 7, 3, 21, 62, 0), (21, 1, 5, 0, 0, 0, 0), (23, 0, 2, 0, 0, 0, 0), (24, 33, 0, 0, 0, 0, 0), (25, 2, 0, 0, 0, 0, 0), (26, 27, 7, 4, 24, 63, 0), (29, 1, 5, 0, 0, 0, 0), (31, 0, 3, 0, 0, 0, 0), (32, 33, 0, 0, 0, 0, 0), (33, 1, 5, 0, 0, 0, 0), (35, 38, 0, 0, 0, 0, 0)]
def tx_t57 : tw_T := [(0, 4, 0, 0, 0, 0, 0), (1, 7, 2, 0, 0, 0, 0), (2, 0, 2, 0, 0, 0, 0), (3, 2, 0, 0, 0, 0, 0), (4, 27, 7, 5, 27, 64, 0), (7, 23, 3, 24, 0, 0, 0), (10, 2, 0, 0, 0, 0, 0), (11, 27, 7, 0, 9, 59, 0), (14, 0, 2, 0, 0, 0, 0), (15, 31, 0, 0, 0, 0, 0), (16, 22, 1, 22, 0, 0, 0), (19, 2, 0, 0, 0, 0, 0), (20, 27, 7, 2, 18, 61, 0), (23, 0, 2, 0, 0, 0, 0), (24, 31, 0, 0, 0, 0, 0), (25, 0, 1, 0, 0, 0, 0), (26, 23, 1, 22, 0, 0, 0), (29, 2, 0, 0, 0, 0, 0), (30, 27, 7, 0, 9, 59, 0), (33, 0, 2, 0, 0, 0, 0), (34, 4, 0, 0, 0, 2, 2), (35, 33, 0, 0, 0, 0, 0), (36, 11, 2, 0, 0, 1, 1), (39, 24, 0, 2, 0, 0, 0), (42, 40, 0, 0, 0, 0, 0)]
def tx_t58 : tw_T := [(0, 0, 1, 0, 0, 0, 0), (1, 22, 2, 8, 0, 0, 0), (4, 0, 1, 0, 0, 0, 0), (5, 2, 0, 0, 0, 0, 0), (6, 27, 7, 5, 27, 64, 0), (9, 23, 3, 8, 0, 0, 0), (12, 4, 0, 0, 0, 1, 1), (13, 24, 0, 9, 0, 0, 0), (16, 4, 0, 0, 0, 0, 0), (17, 39, 0, 0, 0, 0, 0)]
def tx_t59 : tw_T := [(0, 2, 0, 0, 0, 0, 0), (1, 0, 1, 0, 0, 0, 0), (2, 35, 58, 7, 35, 24, 0), (5, 22, 0, 14, 0, 0, 0), (8, 2, 0, 0, 0, 0, 0), (9, 27, 7, 0, 9, 59, 0), (12, 0, 1, 0, 0, 0, 0), (13, 31, 0, 0, 0, 0, 0), (14, 22, 1, 14, 0, 0, 0), (17, 2, 0, 0, 0, 0, 0), (18, 27, 7, 0, 9, 59, 0), (21, 0, 1, 0, 0, 0, 0), (22, 4, 0, 0, 0, 1, 1), (23, 33, 0, 0, 0, 0, 0), (24, 40, 0, 0, 0, 0, 0)]
def tx_t60 : tw_T := [(0, 4, 0, 0, 0, 0, 0), (1, 8, 4, 0, 0, 0, 0), (3, 1, 4, 0, 0, 0, 0), (5, 2, 0, 0, 0, 0, 0), (6, 27, 7, 5, 27, 64, 0), (9, 23, 3, 29, 0, 0, 0), (12, 2, 0, 0, 0, 0, 0), (13, 27, 7, 2, 18, 61, 0), (16, 1, 4, 0, 0, 0, 0), (18, 31, 0, 0, 0, 0, 0), (19, 0, 1, 0, 0, 0, 0), (20, 23, 1, 27, 0, 0, 0), (23, 2, 0, 0, 0, 0, 0), (24, 27, 7, 3, 21, 62, 0), (27, 1, 4, 0, 0, 0, 0), (29, 31, 0, 0, 0, 0, 0), (30, 0, 2, 0, 0, 0, 0), (31, 23, 1, 27, 0, 0, 0), (34, 2, 0, 0, 0, 0, 0), (35, 27, 7, 4, 24, 63, 0), (38, 1, 4, 0, 0, 0, 0), (40, 31, 0, 0, 0, 0, 0), (41, 0, 3, 0, 0, 0, 0), (42, 23, 4, 27, 0, 0, 0), (45, 2, 0, 0, 0, 0, 0), (46, 1, 4, 0, 0, 0, 0), (48, 35, 59, 7, 39, 25, 0), (51, 11, 4, 0, 0, 1, 1), (54, 24, 0, 2, 0, 0, 0), (57, 40, 0, 0, 0, 0, 0)]
def tx_t61 : tw_T := [(0, 2, 0, 0, 0, 0, 0), (1, 44, 0, 0, 1, 8, 0), (4, 2, 0, 0, 0, 0, 0), (5, 42, 3, 4, 7, 4, 0), (8, 25, 0, 0, 0, 0, 0), (9, 37, 24, 3, 9, 26, 0), (12, 30, 8, 0, 10, 65, 0), (15, 2, 0, 0, 0, 0, 0), (16, 42, 7, 6, 16, 5, 0), (19, 25, 0, 0, 0, 0, 0), (20, 37, 53, 7, 18, 27, 0), (23, 30, 8, 1, 19, 66, 0), (26, 2, 0, 0, 0, 0, 0), (27, 42, 6, 5, 23, 6, 0), (30, 25, 0, 0, 0, 0, 0), (31, 37, 49, 6, 25, 28, 0), (34, 30, 8, 2, 26, 67, 0), (37, 2, 0, 0, 0, 0, 0), (38, 42, 0, 19, 30, 7, 0), (41, 25, 0, 0, 0, 0, 0), (42, 4, 0, 0, 0, 0, 0), (43, 37, 4, 0, 32, 29, 0), (46, 30, 8, 3, 35, 68, 0), (49, 2, 0, 0, 0, 0, 0), (50, 42, 0, 19, 30, 7, 0), (53, 25, 0, 0, 0, 0, 0), (54, 4, 0, 0, 0, 1, 1), (55, 37, 4, 0, 32, 29, 0), (58, 30, 8, 4, 39, 69, 0), (61, 2, 0, 0, 0, 0, 0), (62, 4, 0, 0, 0, 0, 0), (63, 28, 8, 5, 42, 70, 0), (66, 40, 0, 0, 0, 0, 0)]
def tx_t62 : tw_T := [(0, 0, 0, 0, 0, 0, 0), (1, 22, 0, 5, 0, 0, 0), (4, 0, 0, 0, 0, 0, 0), (5, 4, 0, 0, 0, 1, 1), (6, 23, 1, 7, 0, 0, 0), (9, 4, 0, 0, 0, 1, 1), (10, 24, 0, 8, 0, 0, 0), (13, 4, 0, 0, 0, 0, 0), (14, 39, 0, 0, 0, 0, 0)]
def tx_t63 : tw_T := [(0, 0, 0, 0, 0, 0, 0), (1, 22, 2, 7, 0, 0, 0), (4, 0, 0, 0, 0, 0, 0), (5, 5, 0, 0, 0, 32, 32), (7, 23, 3, 7, 0, 0, 0), (10, 4, 0, 0, 0, 1, 1), (11, 24, 0, 8, 0, 0, 0), (14, 4, 0, 0, 0, 0, 0), (15, 39, 0, 0, 0, 0, 0)]
def tx_t64 : tw_T := [(0, 0, 1, 0, 0, 0, 0), (1, 22, 1, 5, 0, 0, 0), (4, 2, 0, 0, 0, 0, 0), (5, 27, 8, 3, 35, 68, 0), (8, 24, 0, 7, 0, 0, 0), (11, 2, 0, 0, 0, 0, 0), (12, 27, 8, 4, 39, 69, 0), (15, 41, 0, 0, 0, 0, 0)]
def tx_t65 : tw_T := [(0, 2, 1, 0, 0, 0, 0), (1, 27, 0, 0, 82, 71, 0), (4, 22, 1, 6, 0, 0, 0), (7, 2, 0, 0, 0, 0, 0), (8, 27, 8, 4, 39, 69, 0), (11, 24, 0, 8, 0, 0, 0), (14, 2, 0, 0, 0, 0, 0), (15, 27, 8, 3, 35, 68, 0), (18, 41, 0, 0, 0, 0, 0)]
def tx_t66 : tw_T := [(0, 2, 0, 0, 0, 0, 0), (1, 27, 8, 5, 42, 70, 0), (4, 22, 1, 11, 0, 0, 0), (7, 2, 1, 0, 0, 0, 0), (8, 27, 0, 3, 143, 72, 0), (11, 0, 2, 0, 0, 0, 0), (12, 0, 3, 0, 0, 0, 0), (13, 1, 4, 0, 0, 0, 0), (15, 1, 5, 0, 0, 0, 0), (17, 1, 6, 0, 0, 0, 0), (19, 35, 47, 5, 299, 30, 0), (22, 40, 0, 0, 0, 0, 0)]
def tx_t67 : tw_T := [(0, 0, 1, 0, 0, 0, 0), (1, 36, 62, 0, 46, 31, 0), (4, 22, 0, 10, 0, 0, 0), (7, 0, 2, 0, 0, 0, 0), (8, 36, 63, 0, 50, 32, 0), (11, 22, 0, 10, 0, 0, 0), (14, 2, 0, 0, 0, 0, 0), (15, 27, 8, 1, 19, 66, 0), (18, 35, 54, 7, 53, 33, 0), (21, 22, 0, 12, 0, 0, 0), (24, 4, 0, 0, 0, (-1), (-1)), (25, 38, 0, 0, 0, 0, 0), (26, 2, 0, 0, 0, 0, 0), (27, 0, 1, 0, 0, 0, 0), (28, 35, 64, 8, 57, 34, 0), (31, 10, 4, 0, 0, 0, 0), (33, 3, 4, 0, 0, 0, 0), (35, 0, 2, 0, 0, 0, 0), (36, 35, 7, 0, 61, 35, 0), (39, 22, 1, 26, 0, 0, 0), (42, 2, 0, 0, 0, 0, 0), (43, 27, 8, 1, 19, 66, 0), (46, 4, 0, 0, 0, 2, 2), (47, 0, 3, 0, 0, 0, 0), (48, 35, 55, 7, 64, 36, 0), (51, 38, 0, 0, 0, 0, 0), (52, 3, 4, 0, 0, 0, 0), (54, 35, 8, 0, 68, 37, 0), (57, 8, 5, 0, 0, 0, 0), (59, 3, 4, 0, 0, 0, 0), (61, 27, 0, 1, 72, 73, 0), (64, 0, 2, 0, 0, 0, 0), (65, 0, 3, 0, 0, 0, 0), (66, 1, 5, 0, 0, 0, 0), (68, 4, 0, 0, 0, 1, 1), (69, 35, 12, 4, 76, 38, 0), (72, 2, 0, 0, 0, 0, 0), (73, 27, 8, 1, 19, 66, 0), (76, 3, 4, 0, 0, 0, 0), (78, 27, 0, 0, 82, 71, 0), (81, 0, 2, 0, 0, 0, 0), (82, 1, 5, 0, 0, 0, 0), (84, 0, 3, 0, 0, 0, 0), (85, 35, 56, 7, 86, 39, 0), (88, 8, 6, 0, 0, 0, 0), (90, 3, 4, 0, 0, 0, 0), (92, 27, 0, 7, 90, 74, 0), (95, 22, 0, 58, 0, 0, 0), (98, 2, 0, 0, 0, 0, 0), (99, 2, 0, 0, 0, 0, 0), (100, 3, 4, 0, 0, 0, 0), (102, 35, 65, 8, 93, 40, 0), (105, 4, 0, 0, 0, 0, 0), (106, 0, 2, 0, 0, 0, 0), (107, 0, 3, 0, 0, 0, 0), (108, 1, 5, 0, 0, 0, 0), (110, 1, 6, 0, 0, 0, 0), (112, 35, 66, 8, 97, 41, 0), (115, 1, 6, 0, 0, 0, 0), (117, 38, 0, 0, 0, 0, 0)]
def tx_t68 : tw_T := [(0, 2, 1, 0, 0, 0, 0), (1, 27, 0, 5, 321, 75, 0), (4, 27, 2, 0, 325, 76, 0), (7, 22, 0, 9, 0, 0, 0), (10, 2, 0, 0, 0, 0, 0), (11, 27, 8, 2, 26, 67, 0), (14, 2, 1, 0, 0, 0, 0), (15, 27, 0, 5, 321, 75, 0), (18, 35, 50, 6, 330, 42, 0), (21, 2, 0, 0, 0, 0, 0), (22, 27, 8, 1, 19, 66, 0), (25, 2, 1, 0, 0, 0, 0), (26, 27, 0, 0, 82, 71, 0), (29, 35, 57, 7, 333, 43, 0), (32, 2, 1, 0, 0, 0, 0), (33, 35, 11, 0, 336, 44, 0), (36, 40, 0, 0, 0, 0, 0)]
def tx_t69 : tw_T := [(0, 0, 1, 0, 0, 0, 0), (1, 36, 62, 0, 46, 31, 0), (4, 22, 0, 10, 0, 0, 0), (7, 0, 2, 0, 0, 0, 0), (8, 36, 63, 0, 50, 32, 0), (11, 22, 0, 10, 0, 0, 0), (14, 2, 0, 0, 0, 0, 0), (15, 27, 8, 1, 19, 66, 0), (18, 35, 54, 7, 53, 33, 0), (21, 22, 0, 12, 0, 0, 0), (24, 4, 0, 0, 0, (-1), (-1)), (25, 38, 0, 0, 0, 0, 0), (26, 2, 0, 0, 0, 0, 0), (27, 0, 1, 0, 0, 0, 0), (28, 35, 64, 8, 57, 34, 0), (31, 9, 3, 0, 0, 0, 0), (32, 2, 3, 0, 0, 0, 0), (33, 0, 2, 0, 0, 0, 0), (34, 35, 7, 0, 61, 35, 0), (37, 22, 1, 26, 0, 0, 0), (40, 2, 0, 0, 0, 0, 0), (41, 27, 8, 1, 19, 66, 0), (44, 4, 0, 0, 0, 2, 2), (45, 4, 0, 0, 0, 0, 0), (46, 35, 55, 7, 64, 36, 0), (49, 38, 0, 0, 0, 0, 0), (50, 2, 0, 0, 0, 0, 0), (51, 27, 8, 0, 10, 65, 0), (54, 2, 3, 0, 0, 0, 0), (55, 27, 0, 10, 101, 77, 0), (58, 35, 25, 3, 104, 45, 0), (61, 4, 0, 0, 0, 3, 3), (62, 23, 2, 42, 0, 0, 0), (65, 2, 0, 0, 0, 0, 0), (66, 2, 3, 0, 0, 0, 0), (67, 35, 68, 8, 108, 46, 0), (70, 2, 0, 0, 0, 0, 0), (71, 27, 8, 1, 19, 66, 0), (74, 4, 0, 0, 0, 2, 2), (75, 4, 0, 0, 0, 0, 0), (76, 35, 55, 7, 64, 36, 0), (79, 38, 0, 0, 0, 0, 0), (80, 2, 3, 0, 0, 0, 0), (81, 27, 0, 1, 72, 73, 0), (84, 27, 4, 0, 112, 78, 0), (87, 0, 2, 0, 0, 0, 0), (88, 32, 0, 0, 0, 0, 0), (89, 22, 1, 69, 0, 0, 0), (92, 2, 0, 0, 0, 0, 0), (93, 27, 8, 0, 10, 65, 0), (96, 0, 2, 0, 0, 0, 0), (97, 35, 30, 3, 116, 47, 0), (100, 22, 0, 59, 0, 0, 0), (103, 2, 0, 0, 0, 0, 0), (104, 27, 8, 1, 19, 66, 0), (107, 4, 0, 0, 0, 2, 2), (108, 4, 0, 0, 0, 0, 0), (109, 35, 55, 7, 64, 36, 0), (112, 38, 0, 0, 0, 0, 0), (113, 2, 3, 0, 0, 0, 0), (114, 27, 0, 1, 72, 73, 0), (117, 0, 2, 0, 0, 0, 0), (118, 2, 0, 0, 0, 0, 0), (119, 27, 8, 0, 10, 65, 0), (122, 0, 2, 0, 0, 0, 0), (123, 35, 33, 3, 119, 48, 0), (126, 4, 0, 0, 0, 0, 0), (127, 4, 0, 0, 0, 0, 0), (128, 35, 12, 4, 76, 38, 0), (131, 2, 0, 0, 0, 0, 0), (132, 27, 8, 1, 19, 66, 0), (135, 4, 0, 0, 0, 1, 1), (136, 2, 3, 0, 0, 0, 0), (137, 27, 0, 1, 72, 73, 0), (140, 27, 4, 2, 122, 79, 0), (143, 0, 2, 0, 0, 0, 0), (144, 31, 0, 0, 0, 0, 0), (145, 35, 55, 7, 64, 36, 0), (148, 38, 0, 0, 0, 0, 0)]
def tx_t70 : tw_T := [(0, 2, 1, 0, 0, 0, 0), (1, 27, 0, 5, 321, 75, 0), (4, 9, 2, 0, 0, 0, 0), (5, 2, 2, 0, 0, 0, 0), (6, 4, 0, 0, 0, 0, 0), (7, 28, 2, 0, 325, 76, 0), (10, 2, 0, 0, 0, 0, 0), (11, 27, 8, 0, 10, 65, 0), (14, 27, 3, 0, 219, 80, 0), (17, 2, 2, 0, 0, 0, 0), (18, 27, 2, 1, 368, 81, 0), (21, 32, 0, 0, 0, 0, 0), (22, 22, 1, 14, 0, 0, 0), (25, 40, 0, 0, 0, 0, 0), (26, 2, 0, 0, 0, 0, 0), (27, 27, 8, 0, 10, 65, 0), (30, 27, 3, 1, 244, 82, 0), (33, 2, 2, 0, 0, 0, 0), (34, 27, 2, 1, 368, 81, 0), (37, 31, 0, 0, 0, 0, 0), (38, 2, 2, 0, 0, 0, 0), (39, 27, 2, 4, 371, 83, 0), (42, 23, 1, 33, 0, 0, 0), (45, 2, 0, 0, 0, 0, 0), (46, 27, 8, 0, 10, 65, 0), (49, 2, 2, 0, 0, 0, 0), (50, 27, 2, 1, 368, 81, 0), (53, 2, 2, 0, 0, 0, 0), (54, 27, 2, 2, 372, 84, 0), (57, 2, 2, 0, 0, 0, 0), (58, 27, 2, 3, 373, 85, 0), (61, 35, 34, 3, 238, 49, 0), (64, 24, 0, 36, 0, 0, 0), (67, 2, 0, 0, 0, 0, 0), (68, 2, 1, 0, 0, 0, 0), (69, 35, 68, 8, 108, 46, 0), (72, 40, 0, 0, 0, 0, 0)]
def tx_t71 : tw_T := [(0, 2, 0, 0, 0, 0, 0), (1, 27, 8, 0, 10, 65, 0), (4, 2, 1, 0, 0, 0, 0), (5, 27, 0, 17, 189, 86, 0), (8, 35, 35, 3, 376, 50, 0), (11, 7, 2, 0, 0, 0, 0), (12, 0, 2, 0, 0, 0, 0), (13, 4, 0, 0, 0, (-1), (-1)), (14, 23, 0, 28, 0, 0, 0), (17, 2, 0, 0, 0, 0, 0), (18, 27, 8, 0, 10, 65, 0), (21, 27, 3, 1, 244, 82, 0), (24, 0, 2, 0, 0, 0, 0), (25, 2, 1, 0, 0, 0, 0), (26, 27, 0, 10, 101, 77, 0), (29, 33, 0, 0, 0, 0, 0), (30, 2, 1, 0, 0, 0, 0), (31, 25, 0, 0, 0, 0, 0), (32, 27, 0, 18, 192, 87, 0), (35, 4, 0, 0, 0, 1, 1), (36, 12, 0, 0, 0, 0, 0), (37, 28, 0, 18, 192, 87, 0), (40, 2, 1, 0, 0, 0, 0), (41, 0, 2, 0, 0, 0, 0), (42, 4, 0, 0, 0, 1, 1), (43, 12, 0, 0, 0, 0, 0), (44, 28, 0, 17, 189, 86, 0), (47, 24, 0, 38, 0, 0, 0), (50, 2, 1, 0, 0, 0, 0), (51, 27, 0, 18, 192, 87, 0), (54, 4, 0, 0, 0, 4, 4), (55, 23, 3, 36, 0, 0, 0), (58, 2, 0, 0, 0, 0, 0), (59, 2, 1, 0, 0, 0, 0), (60, 35, 68, 8, 108, 46, 0), (63, 24, 0, 38, 0, 0, 0), (66, 2, 1, 0, 0, 0, 0), (67, 35, 13, 0, 379, 51, 0), (70, 40, 0, 0, 0, 0, 0)]
def tx_t72 : tw_T := [(0, 4, 0, 0, 0, 0, 0), (1, 7, 1, 0, 0, 0, 0), (2, 0, 1, 0, 0, 0, 0), (3, 5, 0, 0, 0, 8, 8), (5, 23, 3, 13, 0, 0, 0), (8, 0, 0, 0, 0, 0, 0), (9, 0, 1, 0, 0, 0, 0), (10, 36, 5, 0, 296, 52, 0), (13, 22, 0, 11, 0, 0, 0), (16, 0, 1, 0, 0, 0, 0), (17, 38, 0, 0, 0, 0, 0), (18, 11, 1, 0, 0, 1, 1), (21, 24, 0, 2, 0, 0, 0), (24, 4, 0, 0, 0, (-1), (-1)), (25, 38, 0, 0, 0, 0, 0)]
def tx_t73 : tw_T := [(0, 2, 1, 0, 0, 0, 0), (1, 25, 0, 0, 0, 0, 0), (2, 27, 0, 14, 293, 88, 0), (5, 4, 0, 0, 0, 1, 1), (6, 0, 2, 0, 0, 0, 0), (7, 18, 0, 0, 0, 0, 0), (8, 4, 0, 0, 0, (-1), (-1)), (9, 17, 0, 0, 0, 0, 0), (10, 15, 0, 0, 0, 0, 0), (11, 28, 0, 14, 293, 88, 0), (14, 2, 0, 0, 0, 0, 0), (15, 27, 8, 0, 10, 65, 0), (18, 0, 2, 0, 0, 0, 0), (19, 35, 36, 3, 257, 53, 0), (22, 22, 1, 30, 0, 0, 0), (25, 0, 2, 0, 0, 0, 0), (26, 36, 26, 0, 260, 15, 0), (29, 7, 3, 0, 0, 0, 0), (30, 2, 1, 0, 0, 0, 0), (31, 27, 0, 5, 321, 75, 0), (34, 0, 3, 0, 0, 0, 0), (35, 0, 2, 0, 0, 0, 0), (36, 2, 0, 0, 0, 0, 0), (37, 27, 8, 0, 10, 65, 0), (40, 0, 3, 0, 0, 0, 0), (41, 0, 2, 0, 0, 0, 0), (42, 35, 32, 3, 235, 54, 0), (45, 2, 1, 0, 0, 0, 0), (46, 27, 0, 10, 101, 77, 0), (49, 35, 23, 2, 382, 55, 0), (52, 40, 0, 0, 0, 0, 0)]
def tx_t74 : tw_T := [(0, 2, 1, 0, 0, 0, 0), (1, 27, 0, 7, 90, 74, 0), (4, 22, 0, 13, 0, 0, 0), (7, 2, 0, 0, 0, 0, 0), (8, 2, 0, 0, 0, 0, 0), (9, 2, 1, 0, 0, 0, 0), (10, 35, 65, 8, 93, 40, 0), (13, 0, 2, 0, 0, 0, 0), (14, 0, 3, 0, 0, 0, 0), (15, 4, 0, 0, 0, 0, 0), (16, 1, 4, 0, 0, 0, 0), (18, 4, 0, 0, 0, (-1), (-1)), (19, 35, 66, 8, 97, 41, 0), (22, 40, 0, 0, 0, 0, 0)]
def tx_t75 : tw_T := [(0, 2, 1, 0, 0, 0, 0), (1, 27, 0, 1, 72, 73, 0), (4, 27, 4, 0, 112, 78, 0), (7, 0, 2, 0, 0, 0, 0), (8, 32, 0, 0, 0, 0, 0), (9, 22, 0, 25, 0, 0, 0), (12, 2, 1, 0, 0, 0, 0), (13, 27, 0, 1, 72, 73, 0), (16, 27, 4, 3, 397, 89, 0), (19, 0, 2, 0, 0, 0, 0), (20, 31, 0, 0, 0, 0, 0), (21, 0, 3, 0, 0, 0, 0), (22, 23, 1, 25, 0, 0, 0), (25, 2, 1, 0, 0, 0, 0), (26, 27, 0, 1, 72, 73, 0), (29, 27, 4, 1, 394, 90, 0), (32, 0, 2, 0, 0, 0, 0), (33, 4, 0, 0, 0, 0, 0), (34, 34, 0, 0, 0, 0, 0), (35, 2, 0, 0, 0, 0, 0), (36, 2, 1, 0, 0, 0, 0), (37, 4, 0, 0, 0, 2, 2), (38, 0, 2, 0, 0, 0, 0), (39, 0, 3, 0, 0, 0, 0), (40, 35, 74, 8, 361, 56, 0), (43, 2, 1, 0, 0, 0, 0), (44, 27, 0, 7, 90, 74, 0), (47, 22, 1, 35, 0, 0, 0), (50, 2, 0, 0, 0, 0, 0), (51, 27, 8, 1, 19, 66, 0), (54, 2, 1, 0, 0, 0, 0), (55, 27, 0, 0, 82, 71, 0), (58, 0, 2, 0, 0, 0, 0), (59, 0, 3, 0, 0, 0, 0), (60, 35, 60, 7, 427, 57, 0), (63, 40, 0, 0, 0, 0, 0)]
def tx_t76 : tw_T := [(0, 2, 1, 0, 0, 0, 0), (1, 27, 0, 4, 278, 91, 0), (4, 9, 2, 0, 0, 0, 0), (5, 4, 0, 0, 0, 0, 0), (6, 7, 3, 0, 0, 0, 0), (7, 0, 3, 0, 0, 0, 0), (8, 4, 0, 0, 0, 4, 4), (9, 23, 3, 28, 0, 0, 0), (12, 2, 2, 0, 0, 0, 0), (13, 27, 1, 0, 411, 92, 0), (16, 0, 3, 0, 0, 0, 0), (17, 32, 0, 0, 0, 0, 0), (18, 22, 0, 26, 0, 0, 0), (21, 2, 0, 0, 0, 0, 0), (22, 2, 1, 0, 0, 0, 0), (23, 2, 2, 0, 0, 0, 0), (24, 27, 1, 3, 282, 93, 0), (27, 4, 0, 0, 0, 4, 4), (28, 14, 0, 0, 0, 0, 0), (29, 0, 3, 0, 0, 0, 0), (30, 12, 0, 0, 0, 0, 0), (31, 2, 2, 0, 0, 0, 0), (32, 27, 1, 2, 423, 94, 0), (35, 0, 3, 0, 0, 0, 0), (36, 31, 0, 0, 0, 0, 0), (37, 35, 75, 8, 424, 58, 0), (40, 11, 3, 0, 0, 1, 1), (43, 24, 0, 5, 0, 0, 0), (46, 2, 2, 0, 0, 0, 0), (47, 4, 0, 0, 0, (-1), (-1)), (48, 28, 1, 3, 282, 93, 0), (51, 40, 0, 0, 0, 0, 0)]
def tx_t77 : tw_T := [(0, 2, 1, 0, 0, 0, 0), (1, 27, 0, 4, 278, 91, 0), (4, 9, 2, 0, 0, 0, 0), (5, 2, 2, 0, 0, 0, 0), (6, 27, 1, 4, 405, 95, 0), (9, 7, 3, 0, 0, 0, 0), (10, 0, 3, 0, 0, 0, 0), (11, 4, 0, 0, 0, 4, 4), (12, 23, 3, 45, 0, 0, 0), (15, 2, 2, 0, 0, 0, 0), (16, 0, 3, 0, 0, 0, 0), (17, 4, 0, 0, 0, 1, 1), (18, 12, 0, 0, 0, 0, 0), (19, 28, 1, 4, 405, 95, 0), (22, 2, 2, 0, 0, 0, 0), (23, 27, 1, 3, 282, 93, 0), (26, 0, 3, 0, 0, 0, 0), (27, 36, 27, 0, 408, 59, 0), (30, 8, 4, 0, 0, 0, 0), (32, 2, 2, 0, 0, 0, 0), (33, 27, 1, 0, 411, 92, 0), (36, 0, 3, 0, 0, 0, 0), (37, 32, 0, 0, 0, 0, 0), (38, 22, 0, 43, 0, 0, 0), (41, 2, 0, 0, 0, 0, 0), (42, 27, 8, 0, 10, 65, 0), (45, 27, 3, 0, 219, 80, 0), (48, 1, 4, 0, 0, 0, 0), (50, 32, 0, 0, 0, 0, 0), (51, 22, 0, 43, 0, 0, 0), (54, 2, 1, 0, 0, 0, 0), (55, 27, 0, 5, 321, 75, 0), (58, 1, 4, 0, 0, 0, 0), (60, 2, 2, 0, 0, 0, 0), (61, 27, 1, 3, 282, 93, 0), (64, 2, 2, 0, 0, 0, 0), (65, 27, 1, 1, 404, 96, 0), (68, 0, 3, 0, 0, 0, 0), (69, 31, 0, 0, 0, 0, 0), (70, 2, 1, 0, 0, 0, 0), (71, 27, 0, 10, 101, 77, 0), (74, 35, 23, 2, 382, 55, 0), (77, 40, 0, 0, 0, 0, 0), (78, 11, 3, 0, 0, 1, 1), (81, 24, 0, 6, 0, 0, 0), (84, 2, 2, 0, 0, 0, 0), (85, 27, 1, 3, 282, 93, 0), (88, 36, 26, 0, 260, 15, 0), (91, 7, 3, 0, 0, 0, 0), (92, 2, 2, 0, 0, 0, 0), (93, 27, 1, 6, 414, 97, 0), (96, 22, 1, 75, 0, 0, 0), (99, 2, 2, 0, 0, 0, 0), (100, 27, 1, 5, 401, 98, 0), (103, 22, 1, 75, 0, 0, 0), (106, 2, 0, 0, 0, 0, 0), (107, 27, 8, 0, 10, 65, 0), (110, 27, 3, 0, 219, 80, 0), (113, 0, 3, 0, 0, 0, 0), (114, 32, 0, 0, 0, 0, 0), (115, 22, 0, 75, 0, 0, 0), (118, 2, 2, 0, 0, 0, 0), (119, 4, 0, 0, 0, 1, 1), (120, 28, 1, 6, 414, 97, 0), (123, 2, 1, 0, 0, 0, 0), (124, 27, 0, 5, 321, 75, 0), (127, 0, 3, 0, 0, 0, 0), (128, 2, 2, 0, 0, 0, 0), (129, 27, 1, 3, 282, 93, 0), (132, 2, 2, 0, 0, 0, 0), (133, 35, 20, 1, 417, 60, 0), (136, 2, 1, 0, 0, 0, 0), (137, 27, 0, 10, 101, 77, 0), (140, 35, 23, 2, 382, 55, 0), (143, 40, 0, 0, 0, 0, 0), (144, 2, 0, 0, 0, 0, 0), (145, 2, 1, 0, 0, 0, 0), (146, 35, 76, 8, 420, 61, 0), (149, 40, 0, 0, 0, 0, 0)]
def tx_t78 : tw_T := [(0, 2, 1, 0, 0, 0, 0), (1, 27, 0, 1, 72, 73, 0), (4, 27, 4, 1, 394, 90, 0), (7, 0, 2, 0, 0, 0, 0), (8, 32, 0, 0, 0, 0, 0), (9, 22, 0, 21, 0, 0, 0), (12, 2, 1, 0, 0, 0, 0), (13, 27, 0, 4, 278, 91, 0), (16, 0, 3, 0, 0, 0, 0), (17, 2, 1, 0, 0, 0, 0), (18, 27, 0, 1, 72, 73, 0), (21, 27, 4, 2, 122, 79, 0), (24, 0, 2, 0, 0, 0, 0), (25, 31, 0, 0, 0, 0, 0), (26, 2, 1, 0, 0, 0, 0), (27, 27, 0, 1, 72, 73, 0), (30, 27, 4, 3, 397, 89, 0), (33, 0, 2, 0, 0, 0, 0), (34, 31, 0, 0, 0, 0, 0), (35, 35, 22, 1, 398, 62, 0), (38, 24, 0, 40, 0, 0, 0), (41, 2, 0, 0, 0, 0, 0), (42, 27, 8, 0, 10, 65, 0), (45, 0, 2, 0, 0, 0, 0), (46, 35, 30, 3, 116, 47, 0), (49, 22, 0, 31, 0, 0, 0), (52, 2, 1, 0, 0, 0, 0), (53, 27, 0, 4, 278, 91, 0), (56, 4, 0, 0, 0, 1, 1), (57, 28, 1, 5, 401, 98, 0), (60, 24, 0, 40, 0, 0, 0), (63, 2, 1, 0, 0, 0, 0), (64, 27, 0, 4, 278, 91, 0), (67, 27, 1, 1, 404, 96, 0), (70, 0, 3, 0, 0, 0, 0), (71, 2, 0, 0, 0, 0, 0), (72, 27, 8, 0, 10, 65, 0), (75, 0, 2, 0, 0, 0, 0), (76, 35, 33, 3, 119, 48, 0), (79, 33, 0, 0, 0, 0, 0), (80, 40, 0, 0, 0, 0, 0)]
def tx_t79 : tw_T := [(0, 2, 1, 0, 0, 0, 0), (1, 27, 0, 1, 72, 73, 0), (4, 35, 41, 4, 386, 63, 0), (7, 7, 2, 0, 0, 0, 0), (8, 2, 1, 0, 0, 0, 0), (9, 25, 0, 0, 0, 0, 0), (10, 27, 0, 12, 287, 99, 0), (13, 4, 0, 0, 0, 1, 1), (14, 0, 2, 0, 0, 0, 0), (15, 18, 0, 0, 0, 0, 0), (16, 16, 0, 0, 0, 0, 0), (17, 28, 0, 12, 287, 99, 0), (20, 2, 0, 0, 0, 0, 0), (21, 2, 1, 0, 0, 0, 0), (22, 4, 0, 0, 0, 3, 3), (23, 0, 2, 0, 0, 0, 0), (24, 4, 0, 0, 0, 0, 0), (25, 35, 74, 8, 361, 56, 0), (28, 2, 1, 0, 0, 0, 0), (29, 27, 0, 4, 278, 91, 0), (32, 0, 2, 0, 0, 0, 0), (33, 35, 21, 1, 389, 64, 0), (36, 4, 0, 0, 0, 0, 0), (37, 7, 3, 0, 0, 0, 0), (38, 0, 3, 0, 0, 0, 0), (39, 4, 0, 0, 0, 4, 4), (40, 23, 3, 38, 0, 0, 0), (43, 2, 0, 0, 0, 0, 0), (44, 2, 1, 0, 0, 0, 0), (45, 0, 2, 0, 0, 0, 0), (46, 4, 0, 0, 0, 4, 4), (47, 14, 0, 0, 0, 0, 0), (48, 0, 3, 0, 0, 0, 0), (49, 12, 0, 0, 0, 0, 0), (50, 0, 3, 0, 0, 0, 0), (51, 35, 78, 8, 391, 65, 0), (54, 11, 3, 0, 0, 1, 1), (57, 24, 0, 24, 0, 0, 0), (60, 40, 0, 0, 0, 0, 0)]
def tx_t80 : tw_T := [(0, 2, 0, 0, 0, 0, 0), (1, 2, 1, 0, 0, 0, 0), (2, 4, 0, 0, 0, 5, 5), (3, 4, 0, 0, 0, 0, 0), (4, 4, 0, 0, 0, 0, 0), (5, 35, 74, 8, 361, 56, 0), (8, 2, 1, 0, 0, 0, 0), (9, 25, 0, 0, 0, 0, 0), (10, 27, 0, 15, 275, 100, 0), (13, 4, 0, 0, 0, 1, 1), (14, 12, 0, 0, 0, 0, 0), (15, 28, 0, 15, 275, 100, 0), (18, 2, 1, 0, 0, 0, 0), (19, 27, 0, 15, 275, 100, 0), (22, 4, 0, 0, 0, 4, 4), (23, 23, 2, 19, 0, 0, 0), (26, 2, 1, 0, 0, 0, 0), (27, 4, 0, 0, 0, 0, 0), (28, 28, 0, 7, 90, 74, 0), (31, 40, 0, 0, 0, 0, 0)]
def tx_t81 : tw_T := [(0, 2, 1, 0, 0, 0, 0), (1, 27, 0, 12, 287, 99, 0), (4, 2, 1, 0, 0, 0, 0), (5, 27, 0, 14, 293, 88, 0), (8, 4, 0, 0, 0, (-1), (-1)), (9, 17, 0, 0, 0, 0, 0), (10, 15, 0, 0, 0, 0, 0), (11, 36, 72, 0, 345, 66, 0), (14, 7, 2, 0, 0, 0, 0), (15, 0, 2, 0, 0, 0, 0), (16, 4, 0, 0, 0, (-1), (-1)), (17, 23, 0, 30, 0, 0, 0), (20, 2, 1, 0, 0, 0, 0), (21, 25, 0, 0, 0, 0, 0), (22, 27, 0, 12, 287, 99, 0), (25, 4, 0, 0, 0, 1, 1), (26, 0, 2, 0, 0, 0, 0), (27, 18, 0, 0, 0, 0, 0), (28, 4, 0, 0, 0, (-1), (-1)), (29, 17, 0, 0, 0, 0, 0), (30, 15, 0, 0, 0, 0, 0), (31, 28, 0, 12, 287, 99, 0), (34, 2, 0, 0, 0, 0, 0), (35, 2, 1, 0, 0, 0, 0), (36, 4, 0, 0, 0, 4, 4), (37, 0, 2, 0, 0, 0, 0), (38, 4, 0, 0, 0, 0, 0), (39, 35, 74, 8, 361, 56, 0), (42, 5, 0, 0, 0, 6, 6), (44, 38, 0, 0, 0, 0, 0), (45, 2, 1, 0, 0, 0, 0), (46, 27, 0, 9, 213, 101, 0), (49, 22, 0, 38, 0, 0, 0), (52, 2, 1, 0, 0, 0, 0), (53, 4, 0, 0, 0, 0, 0), (54, 28, 0, 9, 213, 101, 0), (57, 5, 0, 0, 0, 7, 7), (59, 38, 0, 0, 0, 0, 0), (60, 2, 1, 0, 0, 0, 0), (61, 27, 0, 7, 90, 74, 0), (64, 22, 0, 46, 0, 0, 0), (67, 2, 0, 0, 0, 0, 0), (68, 2, 1, 0, 0, 0, 0), (69, 35, 80, 8, 365, 67, 0), (72, 5, 0, 0, 0, 8, 8), (74, 38, 0, 0, 0, 0, 0), (75, 5, 0, 0, 0, 9, 9), (77, 38, 0, 0, 0, 0, 0)]
def tx_t82 : tw_T := [(0, 2, 1, 0, 0, 0, 0), (1, 27, 0, 5, 321, 75, 0), (4, 27, 2, 0, 325, 76, 0), (7, 22, 0, 9, 0, 0, 0), (10, 2, 0, 0, 0, 0, 0), (11, 2, 1, 0, 0, 0, 0), (12, 35, 70, 8, 339, 68, 0), (15, 4, 0, 0, 0, 1, 1), (16, 38, 0, 0, 0, 0, 0), (17, 2, 1, 0, 0, 0, 0), (18, 27, 0, 8, 178, 102, 0), (21, 22, 0, 17, 0, 0, 0), (24, 2, 0, 0, 0, 0, 0), (25, 2, 1, 0, 0, 0, 0), (26, 35, 71, 8, 342, 69, 0), (29, 4, 0, 0, 0, 2, 2), (30, 38, 0, 0, 0, 0, 0), (31, 2, 1, 0, 0, 0, 0), (32, 27, 0, 14, 293, 88, 0), (35, 36, 72, 0, 345, 66, 0), (38, 4, 0, 0, 0, (-1), (-1)), (39, 23, 0, 30, 0, 0, 0), (42, 2, 0, 0, 0, 0, 0), (43, 2, 1, 0, 0, 0, 0), (44, 2, 1, 0, 0, 0, 0), (45, 27, 0, 14, 293, 88, 0), (48, 36, 72, 0, 345, 66, 0), (51, 35, 73, 8, 348, 70, 0), (54, 4, 0, 0, 0, 3, 3), (55, 38, 0, 0, 0, 0, 0), (56, 2, 1, 0, 0, 0, 0), (57, 27, 0, 4, 278, 91, 0), (60, 27, 1, 3, 282, 93, 0), (63, 4, 0, 0, 0, (-1), (-1)), (64, 23, 0, 40, 0, 0, 0), (67, 2, 0, 0, 0, 0, 0), (68, 2, 1, 0, 0, 0, 0), (69, 35, 77, 8, 352, 71, 0), (72, 4, 0, 0, 0, 4, 4), (73, 38, 0, 0, 0, 0, 0), (74, 2, 1, 0, 0, 0, 0), (75, 27, 0, 9, 213, 101, 0), (78, 22, 1, 46, 0, 0, 0), (81, 2, 1, 0, 0, 0, 0), (82, 27, 0, 7, 90, 74, 0), (85, 22, 1, 55, 0, 0, 0), (88, 2, 1, 0, 0, 0, 0), (89, 27, 0, 1, 72, 73, 0), (92, 35, 15, 4, 269, 72, 0), (95, 22, 5, 55, 0, 0, 0), (98, 2, 0, 0, 0, 0, 0), (99, 2, 1, 0, 0, 0, 0), (100, 35, 79, 8, 355, 73, 0), (103, 4, 0, 0, 0, 5, 5), (104, 38, 0, 0, 0, 0, 0), (105, 2, 0, 0, 0, 0, 0), (106, 2, 1, 0, 0, 0, 0), (107, 35, 81, 8, 358, 74, 0), (110, 38, 0, 0, 0, 0, 0)]
def tx_t83 : tw_T := [(0, 0, 1, 0, 0, 0, 0), (1, 36, 62, 0, 46, 31, 0), (4, 22, 1, 5, 0, 0, 0), (7, 4, 0, 0, 0, (-1), (-1)), (8, 38, 0, 0, 0, 0, 0), (9, 2, 0, 0, 0, 0, 0), (10, 0, 1, 0, 0, 0, 0), (11, 35, 64, 8, 57, 34, 0), (14, 9, 2, 0, 0, 0, 0), (15, 2, 2, 0, 0, 0, 0), (16, 27, 0, 6, 136, 103, 0), (19, 22, 0, 16, 0, 0, 0), (22, 2, 0, 0, 0, 0, 0), (23, 2, 2, 0, 0, 0, 0), (24, 35, 82, 8, 139, 75, 0), (27, 24, 0, 17, 0, 0, 0), (30, 4, 0, 0, 0, 0, 0), (31, 38, 0, 0, 0, 0, 0)]
def tx_t84 : tw_T := [(0, 2, 1, 0, 0, 0, 0), (1, 27, 0, 3, 143, 72, 0), (4, 10, 4, 0, 0, 0, 0), (6, 3, 4, 0, 0, 0, 0), (8, 27, 5, 1, 302, 104, 0), (11, 0, 3, 0, 0, 0, 0), (12, 31, 0, 0, 0, 0, 0), (13, 8, 5, 0, 0, 0, 0), (15, 0, 2, 0, 0, 0, 0), (16, 46, 0, 0, 0, 0, 0), (52, 2, 1, 0, 0, 0, 0), (53, 27, 0, 2, 210, 105, 0), (56, 1, 5, 0, 0, 0, 0), (58, 3, 4, 0, 0, 0, 0), (60, 27, 5, 2, 305, 106, 0), (63, 0, 3, 0, 0, 0, 0), (64, 31, 0, 0, 0, 0, 0), (65, 3, 4, 0, 0, 0, 0), (67, 27, 5, 3, 306, 107, 0), (70, 0, 3, 0, 0, 0, 0), (71, 31, 0, 0, 0, 0, 0), (72, 35, 42, 4, 309, 76, 0), (75, 2, 0, 0, 0, 0, 0), (76, 2, 0, 0, 0, 0, 0), (77, 2, 1, 0, 0, 0, 0), (78, 35, 65, 8, 93, 40, 0), (81, 4, 0, 0, 0, 1, 1), (82, 4, 0, 0, 0, 0, 0), (83, 4, 0, 0, 0, 0, 0), (84, 4, 0, 0, 0, 0, 0), (85, 3, 4, 0, 0, 0, 0), (87, 27, 5, 4, 312, 108, 0), (90, 0, 3, 0, 0, 0, 0), (91, 31, 0, 0, 0, 0, 0), (92, 35, 66, 8, 97, 41, 0), (95, 24, 0, 76, 0, 0, 0), (98, 2, 0, 0, 0, 0, 0), (99, 27, 8, 1, 19, 66, 0), (102, 3, 4, 0, 0, 0, 0), (104, 27, 5, 4, 312, 108, 0), (107, 0, 3, 0, 0, 0, 0), (108, 31, 0, 0, 0, 0, 0), (109, 35, 59, 7, 314, 77, 0), (112, 24, 0, 76, 0, 0, 0), (115, 2, 1, 0, 0, 0, 0), (116, 27, 0, 2, 210, 105, 0), (119, 1, 5, 0, 0, 0, 0), (121, 3, 4, 0, 0, 0, 0), (123, 27, 5, 3, 306, 107, 0), (126, 0, 3, 0, 0, 0, 0), (127, 31, 0, 0, 0, 0, 0), (128, 35, 43, 4, 317, 78, 0), (131, 24, 0, 76, 0, 0, 0), (134, 2, 1, 0, 0, 0, 0), (135, 25, 0, 0, 0, 0, 0), (136, 27, 0, 13, 290, 109, 0), (139, 4, 0, 0, 0, 1, 1), (140, 1, 5, 0, 0, 0, 0), (142, 18, 0, 0, 0, 0, 0), (143, 16, 0, 0, 0, 0, 0), (144, 28, 0, 13, 290, 109, 0), (147, 24, 0, 76, 0, 0, 0), (150, 2, 1, 0, 0, 0, 0), (151, 25, 0, 0, 0, 0, 0), (152, 27, 0, 13, 290, 109, 0), (155, 4, 0, 0, 0, 1, 1), (156, 1, 5, 0, 0, 0, 0), (158, 18, 0, 0, 0, 0, 0), (159, 4, 0, 0, 0, (-1), (-1)), (160, 17, 0, 0, 0, 0, 0), (161, 15, 0, 0, 0, 0, 0), (162, 28, 0, 13, 290, 109, 0), (165, 24, 0, 76, 0, 0, 0), (168, 2, 1, 0, 0, 0, 0), (169, 4, 0, 0, 0, 0, 0), (170, 28, 0, 15, 275, 100, 0), (173, 40, 0, 0, 0, 0, 0)]
def tx_t85 : tw_T := [(0, 0, 1, 0, 0, 0, 0), (1, 36, 62, 0, 46, 31, 0), (4, 22, 0, 6, 0, 0, 0), (7, 2, 0, 0, 0, 0, 0), (8, 27, 8, 5, 42, 70, 0), (11, 22, 0, 8, 0, 0, 0), (14, 4, 0, 0, 0, (-1), (-1)), (15, 38, 0, 0, 0, 0, 0), (16, 2, 0, 0, 0, 0, 0), (17, 0, 1, 0, 0, 0, 0), (18, 35, 64, 8, 57, 34, 0), (21, 9, 2, 0, 0, 0, 0), (22, 2, 2, 0, 0, 0, 0), (23, 27, 0, 3, 143, 72, 0), (26, 27, 5, 6, 147, 110, 0), (29, 22, 1, 18, 0, 0, 0), (32, 4, 0, 0, 0, (-1), (-1)), (33, 38, 0, 0, 0, 0, 0), (34, 2, 2, 0, 0, 0, 0), (35, 27, 0, 3, 143, 72, 0), (38, 35, 48, 5, 152, 79, 0), (41, 7, 3, 0, 0, 0, 0), (42, 2, 2, 0, 0, 0, 0), (43, 27, 0, 3, 143, 72, 0), (46, 27, 5, 0, 155, 111, 0), (49, 0, 3, 0, 0, 0, 0), (50, 31, 0, 0, 0, 0, 0), (51, 8, 4, 0, 0, 0, 0), (53, 2, 2, 0, 0, 0, 0), (54, 27, 0, 6, 136, 103, 0), (57, 22, 0, 39, 0, 0, 0), (60, 2, 2, 0, 0, 0, 0), (61, 27, 0, 7, 90, 74, 0), (64, 22, 0, 39, 0, 0, 0), (67, 2, 0, 0, 0, 0, 0), (68, 2, 2, 0, 0, 0, 0), (69, 1, 4, 0, 0, 0, 0), (71, 0, 3, 0, 0, 0, 0), (72, 35, 84, 8, 158, 80, 0), (75, 1, 4, 0, 0, 0, 0), (77, 38, 0, 0, 0, 0, 0)]
def tx_t86 : tw_T := [(0, 2, 0, 0, 0, 0, 0), (1, 0, 1, 0, 0, 0, 0), (2, 28, 8, 5, 42, 70, 0), (5, 40, 0, 0, 0, 0, 0)]
def tx_t87 : tw_T := [(0, 0, 1, 0, 0, 0, 0), (1, 36, 62, 0, 46, 31, 0), (4, 22, 0, 8, 0, 0, 0), (7, 2, 0, 0, 0, 0, 0), (8, 0, 1, 0, 0, 0, 0), (9, 35, 64, 8, 57, 34, 0), (12, 27, 0, 6, 136, 103, 0), (15, 22, 1, 10, 0, 0, 0), (18, 4, 0, 0, 0, 0, 0), (19, 39, 0, 0, 0, 0, 0), (20, 2, 0, 0, 0, 0, 0), (21, 2, 0, 0, 0, 0, 0), (22, 0, 1, 0, 0, 0, 0), (23, 35, 64, 8, 57, 34, 0), (26, 35, 68, 8, 108, 46, 0), (29, 4, 0, 0, 0, 1, 1), (30, 39, 0, 0, 0, 0, 0)]
def tx_t88 : tw_T := [(0, 0, 1, 0, 0, 0, 0), (1, 36, 62, 0, 46, 31, 0), (4, 22, 0, 8, 0, 0, 0), (7, 2, 0, 0, 0, 0, 0), (8, 0, 1, 0, 0, 0, 0), (9, 35, 64, 8, 57, 34, 0), (12, 27, 0, 6, 136, 103, 0), (15, 22, 0, 10, 0, 0, 0), (18, 4, 0, 0, 0, 0, 0), (19, 39, 0, 0, 0, 0, 0), (20, 2, 0, 0, 0, 0, 0), (21, 0, 1, 0, 0, 0, 0), (22, 35, 64, 8, 57, 34, 0), (25, 9, 2, 0, 0, 0, 0), (26, 2, 2, 0, 0, 0, 0), (27, 4, 0, 0, 0, 1, 1), (28, 28, 0, 6, 136, 103, 0), (31, 2, 2, 0, 0, 0, 0), (32, 27, 0, 3, 143, 72, 0), (35, 35, 17, 5, 162, 81, 0), (38, 4, 0, 0, 0, 1, 1), (39, 39, 0, 0, 0, 0, 0)]
def tx_t89 : tw_T := [(0, 4, 0, 0, 0, 0, 0), (1, 7, 1, 0, 0, 0, 0), (2, 0, 1, 0, 0, 0, 0), (3, 4, 0, 0, 0, 2, 2), (4, 23, 3, 37, 0, 0, 0), (7, 2, 0, 0, 0, 0, 0), (8, 27, 8, 3, 35, 68, 0), (11, 0, 1, 0, 0, 0, 0), (12, 35, 6, 0, 198, 82, 0), (15, 22, 1, 15, 0, 0, 0), (18, 2, 0, 0, 0, 0, 0), (19, 27, 8, 4, 39, 69, 0), (22, 0, 1, 0, 0, 0, 0), (23, 35, 6, 0, 198, 82, 0), (26, 22, 0, 17, 0, 0, 0), (29, 4, 0, 0, 0, 1, 1), (30, 24, 0, 18, 0, 0, 0), (33, 4, 0, 0, 0, 0, 0), (34, 7, 2, 0, 0, 0, 0), (35, 0, 2, 0, 0, 0, 0), (36, 22, 1, 35, 0, 0, 0), (39, 2, 0, 0, 0, 0, 0), (40, 27, 8, 3, 35, 68, 0), (43, 27, 0, 2, 210, 105, 0), (46, 0, 1, 0, 0, 0, 0), (47, 35, 44, 4, 430, 83, 0), (50, 22, 1, 33, 0, 0, 0), (53, 2, 0, 0, 0, 0, 0), (54, 27, 8, 4, 39, 69, 0), (57, 27, 0, 2, 210, 105, 0), (60, 0, 1, 0, 0, 0, 0), (61, 35, 44, 4, 430, 83, 0), (64, 22, 0, 35, 0, 0, 0), (67, 4, 0, 0, 0, 1, 1), (68, 39, 0, 0, 0, 0, 0), (69, 11, 1, 0, 0, 1, 1), (72, 24, 0, 2, 0, 0, 0), (75, 4, 0, 0, 0, 0, 0), (76, 39, 0, 0, 0, 0, 0)]
def tx_t90 : tw_T := [(0, 4, 0, 0, 0, 3, 3), (1, 2, 0, 0, 0, 0, 0), (2, 27, 8, 3, 35, 68, 0), (5, 27, 0, 11, 204, 112, 0), (8, 2, 0, 0, 0, 0, 0), (9, 27, 8, 4, 39, 69, 0), (12, 27, 0, 11, 204, 112, 0), (15, 16, 0, 0, 0, 0, 0), (16, 4, 0, 0, 0, (-1), (-1)), (17, 17, 0, 0, 0, 0, 0), (18, 15, 0, 0, 0, 0, 0), (19, 7, 2, 0, 0, 0, 0), (20, 2, 0, 0, 0, 0, 0), (21, 27, 8, 3, 35, 68, 0), (24, 27, 0, 11, 204, 112, 0), (27, 2, 0, 0, 0, 0, 0), (28, 27, 8, 4, 39, 69, 0), (31, 27, 0, 11, 204, 112, 0), (34, 15, 0, 0, 0, 0, 0), (35, 7, 3, 0, 0, 0, 0), (36, 2, 0, 0, 0, 0, 0), (37, 27, 8, 3, 35, 68, 0), (40, 25, 0, 0, 0, 0, 0), (41, 27, 0, 11, 204, 112, 0), (44, 0, 2, 0, 0, 0, 0), (45, 16, 0, 0, 0, 0, 0), (46, 28, 0, 11, 204, 112, 0), (49, 0, 1, 0, 0, 0, 0), (50, 22, 0, 39, 0, 0, 0), (53, 2, 0, 0, 0, 0, 0), (54, 27, 8, 4, 39, 69, 0), (57, 25, 0, 0, 0, 0, 0), (58, 27, 0, 11, 204, 112, 0), (61, 0, 3, 0, 0, 0, 0), (62, 4, 0, 0, 0, (-1), (-1)), (63, 17, 0, 0, 0, 0, 0), (64, 15, 0, 0, 0, 0, 0), (65, 28, 0, 11, 204, 112, 0), (68, 24, 0, 48, 0, 0, 0), (71, 2, 0, 0, 0, 0, 0), (72, 27, 8, 3, 35, 68, 0), (75, 25, 0, 0, 0, 0, 0), (76, 27, 0, 11, 204, 112, 0), (79, 0, 3, 0, 0, 0, 0), (80, 4, 0, 0, 0, (-1), (-1)), (81, 17, 0, 0, 0, 0, 0), (82, 15, 0, 0, 0, 0, 0), (83, 28, 0, 11, 204, 112, 0), (86, 40, 0, 0, 0, 0, 0)]
def tx_t91 : tw_T := [(0, 2, 0, 0, 0, 0, 0), (1, 27, 8, 5, 42, 70, 0), (4, 22, 1, 11, 0, 0, 0), (7, 2, 0, 0, 0, 0, 0), (8, 27, 8, 3, 35, 68, 0), (11, 35, 16, 0, 165, 84, 0), (14, 22, 0, 11, 0, 0, 0), (17, 2, 0, 0, 0, 0, 0), (18, 27, 8, 4, 39, 69, 0), (21, 35, 16, 0, 165, 84, 0), (24, 22, 1, 13, 0, 0, 0), (27, 4, 0, 0, 0, 0, 0), (28, 39, 0, 0, 0, 0, 0), (29, 2, 0, 0, 0, 0, 0), (30, 27, 8, 0, 10, 65, 0), (33, 2, 0, 0, 0, 0, 0), (34, 27, 8, 3, 35, 68, 0), (37, 27, 0, 10, 101, 77, 0), (40, 35, 25, 3, 104, 45, 0), (43, 22, 1, 22, 0, 0, 0), (46, 4, 0, 0, 0, 1, 1), (47, 24, 0, 23, 0, 0, 0), (50, 4, 0, 0, 0, 0, 0), (51, 7, 1, 0, 0, 0, 0), (52, 0, 1, 0, 0, 0, 0), (53, 22, 1, 35, 0, 0, 0), (56, 2, 0, 0, 0, 0, 0), (57, 27, 8, 0, 10, 65, 0), (60, 2, 0, 0, 0, 0, 0), (61, 27, 8, 4, 39, 69, 0), (64, 27, 0, 10, 101, 77, 0), (67, 35, 25, 3, 104, 45, 0), (70, 22, 0, 35, 0, 0, 0), (73, 4, 0, 0, 0, 0, 0), (74, 39, 0, 0, 0, 0, 0), (75, 2, 0, 0, 0, 0, 0), (76, 35, 89, 8, 168, 85, 0), (79, 22, 0, 40, 0, 0, 0), (82, 4, 0, 0, 0, 0, 0), (83, 39, 0, 0, 0, 0, 0), (84, 0, 1, 0, 0, 0, 0), (85, 22, 0, 46, 0, 0, 0), (88, 2, 0, 0, 0, 0, 0), (89, 27, 8, 3, 35, 68, 0), (92, 27, 0, 10, 101, 77, 0), (95, 24, 0, 49, 0, 0, 0), (98, 2, 0, 0, 0, 0, 0), (99, 27, 8, 4, 39, 69, 0), (102, 27, 0, 10, 101, 77, 0), (105, 7, 2, 0, 0, 0, 0), (106, 2, 0, 0, 0, 0, 0), (107, 0, 1, 0, 0, 0, 0), (108, 35, 90, 8, 171, 86, 0), (111, 2, 0, 0, 0, 0, 0), (112, 27, 8, 3, 35, 68, 0), (115, 0, 2, 0, 0, 0, 0), (116, 35, 18, 0, 175, 87, 0), (119, 2, 0, 0, 0, 0, 0), (120, 27, 8, 4, 39, 69, 0), (123, 0, 2, 0, 0, 0, 0), (124, 35, 18, 0, 175, 87, 0), (127, 4, 0, 0, 0, 1, 1), (128, 39, 0, 0, 0, 0, 0)]
def tx_t92 : tw_T := [(0, 0, 1, 0, 0, 0, 0), (1, 36, 62, 0, 46, 31, 0), (4, 22, 1, 5, 0, 0, 0), (7, 4, 0, 0, 0, 0, 0), (8, 39, 0, 0, 0, 0, 0), (9, 2, 0, 0, 0, 0, 0), (10, 0, 1, 0, 0, 0, 0), (11, 35, 64, 8, 57, 34, 0), (14, 9, 2, 0, 0, 0, 0), (15, 2, 2, 0, 0, 0, 0), (16, 27, 0, 6, 136, 103, 0), (19, 22, 0, 15, 0, 0, 0), (22, 2, 2, 0, 0, 0, 0), (23, 27, 0, 8, 178, 102, 0), (26, 22, 0, 17, 0, 0, 0), (29, 4, 0, 0, 0, 0, 0), (30, 39, 0, 0, 0, 0, 0), (31, 2, 2, 0, 0, 0, 0), (32, 4, 0, 0, 0, 0, 0), (33, 28, 0, 7, 90, 74, 0), (36, 2, 2, 0, 0, 0, 0), (37, 2, 2, 0, 0, 0, 0), (38, 27, 0, 10, 101, 77, 0), (41, 2, 0, 0, 0, 0, 0), (42, 27, 8, 0, 10, 65, 0), (45, 35, 37, 3, 181, 88, 0), (48, 45, 0, 0, 184, 1, 0), (51, 4, 0, 0, 0, 1, 1), (52, 12, 0, 0, 0, 0, 0), (53, 28, 0, 10, 101, 77, 0), (56, 2, 2, 0, 0, 0, 0), (57, 4, 0, 0, 0, 1, 1), (58, 28, 0, 8, 178, 102, 0), (61, 2, 2, 0, 0, 0, 0), (62, 4, 0, 0, 0, 0, 0), (63, 28, 0, 17, 189, 86, 0), (66, 2, 2, 0, 0, 0, 0), (67, 4, 0, 0, 0, 0, 0), (68, 28, 0, 18, 192, 87, 0), (71, 4, 0, 0, 0, 1, 1), (72, 39, 0, 0, 0, 0, 0)]
def tx_t93 : tw_T := [(0, 0, 0, 0, 0, 0, 0), (1, 22, 2, 7, 0, 0, 0), (4, 0, 0, 0, 0, 0, 0), (5, 4, 0, 0, 0, 2, 2), (6, 23, 3, 7, 0, 0, 0), (9, 4, 0, 0, 0, 1, 1), (10, 24, 0, 8, 0, 0, 0), (13, 4, 0, 0, 0, 0, 0), (14, 39, 0, 0, 0, 0, 0)]
def tx_t94 : tw_T := [(0, 0, 1, 0, 0, 0, 0), (1, 36, 93, 0, 195, 89, 0), (4, 22, 0, 19, 0, 0, 0), (7, 2, 0, 0, 0, 0, 0), (8, 27, 8, 3, 35, 68, 0), (11, 27, 0, 6, 136, 103, 0), (14, 22, 0, 19, 0, 0, 0), (17, 2, 0, 0, 0, 0, 0), (18, 27, 8, 4, 39, 69, 0), (21, 27, 0, 6, 136, 103, 0), (24, 22, 0, 19, 0, 0, 0), (27, 2, 0, 0, 0, 0, 0), (28, 27, 8, 3, 35, 68, 0), (31, 27, 0, 7, 90, 74, 0), (34, 22, 0, 19, 0, 0, 0), (37, 2, 0, 0, 0, 0, 0), (38, 27, 8, 4, 39, 69, 0), (41, 27, 0, 7, 90, 74, 0), (44, 22, 1, 21, 0, 0, 0), (47, 4, 0, 0, 0, 0, 0), (48, 39, 0, 0, 0, 0, 0), (49, 2, 0, 0, 0, 0, 0), (50, 27, 8, 3, 35, 68, 0), (53, 0, 1, 0, 0, 0, 0), (54, 35, 6, 0, 198, 82, 0), (57, 2, 0, 0, 0, 0, 0), (58, 27, 8, 4, 39, 69, 0), (61, 0, 1, 0, 0, 0, 0), (62, 35, 6, 0, 198, 82, 0), (65, 23, 0, 40, 0, 0, 0), (68, 2, 0, 0, 0, 0, 0), (69, 27, 8, 3, 35, 68, 0), (72, 27, 0, 3, 143, 72, 0), (75, 27, 5, 6, 147, 110, 0), (78, 2, 0, 0, 0, 0, 0), (79, 27, 8, 4, 39, 69, 0), (82, 27, 0, 3, 143, 72, 0), (85, 27, 5, 6, 147, 110, 0), (88, 12, 0, 0, 0, 0, 0), (89, 22, 0, 42, 0, 0, 0), (92, 4, 0, 0, 0, 0, 0), (93, 39, 0, 0, 0, 0, 0), (94, 2, 0, 0, 0, 0, 0), (95, 27, 8, 3, 35, 68, 0), (98, 0, 1, 0, 0, 0, 0), (99, 35, 6, 0, 198, 82, 0), (102, 22, 0, 50, 0, 0, 0), (105, 2, 0, 0, 0, 0, 0), (106, 27, 8, 3, 35, 68, 0), (109, 24, 0, 52, 0, 0, 0), (112, 2, 0, 0, 0, 0, 0), (113, 27, 8, 4, 39, 69, 0), (116, 9, 2, 0, 0, 0, 0), (117, 2, 2, 0, 0, 0, 0), (118, 0, 1, 0, 0, 0, 0), (119, 35, 19, 0, 201, 90, 0), (122, 22, 0, 59, 0, 0, 0), (125, 4, 0, 0, 0, 0, 0), (126, 39, 0, 0, 0, 0, 0), (127, 2, 0, 0, 0, 0, 0), (128, 2, 2, 0, 0, 0, 0), (129, 35, 65, 8, 93, 40, 0), (132, 9, 3, 0, 0, 0, 0), (133, 2, 2, 0, 0, 0, 0), (134, 25, 0, 0, 0, 0, 0), (135, 27, 0, 11, 204, 112, 0), (138, 4, 0, 0, 0, 1, 1), (139, 0, 1, 0, 0, 0, 0), (140, 18, 0, 0, 0, 0, 0), (141, 4, 0, 0, 0, (-1), (-1)), (142, 17, 0, 0, 0, 0, 0), (143, 15, 0, 0, 0, 0, 0), (144, 28, 0, 11, 204, 112, 0), (147, 2, 3, 0, 0, 0, 0), (148, 25, 0, 0, 0, 0, 0), (149, 27, 0, 11, 204, 112, 0), (152, 4, 0, 0, 0, 1, 1), (153, 0, 1, 0, 0, 0, 0), (154, 18, 0, 0, 0, 0, 0), (155, 16, 0, 0, 0, 0, 0), (156, 28, 0, 11, 204, 112, 0), (159, 2, 2, 0, 0, 0, 0), (160, 27, 0, 1, 72, 73, 0), (163, 0, 1, 0, 0, 0, 0), (164, 35, 45, 4, 207, 91, 0), (167, 2, 3, 0, 0, 0, 0), (168, 27, 0, 2, 210, 105, 0), (171, 0, 1, 0, 0, 0, 0), (172, 35, 45, 4, 207, 91, 0), (175, 4, 0, 0, 0, 1, 1), (176, 39, 0, 0, 0, 0, 0)]
def tx_t95 : tw_T := [(0, 0, 1, 0, 0, 0, 0), (1, 36, 62, 0, 46, 31, 0), (4, 22, 0, 8, 0, 0, 0), (7, 2, 0, 0, 0, 0, 0), (8, 0, 1, 0, 0, 0, 0), (9, 35, 64, 8, 57, 34, 0), (12, 27, 0, 6, 136, 103, 0), (15, 22, 1, 10, 0, 0, 0), (18, 4, 0, 0, 0, 0, 0), (19, 39, 0, 0, 0, 0, 0), (20, 2, 0, 0, 0, 0, 0), (21, 0, 1, 0, 0, 0, 0), (22, 35, 64, 8, 57, 34, 0), (25, 4, 0, 0, 0, 1, 1), (26, 28, 0, 9, 213, 101, 0), (29, 4, 0, 0, 0, 1, 1), (30, 39, 0, 0, 0, 0, 0)]
def tx_t96 : tw_T := [(0, 0, 0, 0, 0, 0, 0), (1, 22, 2, 7, 0, 0, 0), (4, 0, 0, 0, 0, 0, 0), (5, 4, 0, 0, 0, 5, 5), (6, 23, 3, 7, 0, 0, 0), (9, 4, 0, 0, 0, 1, 1), (10, 24, 0, 8, 0, 0, 0), (13, 4, 0, 0, 0, 0, 0), (14, 39, 0, 0, 0, 0, 0)]
def tx_t97 : tw_T := [(0, 0, 1, 0, 0, 0, 0), (1, 36, 96, 0, 216, 92, 0), (4, 22, 0, 9, 0, 0, 0), (7, 2, 0, 0, 0, 0, 0), (8, 27, 8, 0, 10, 65, 0), (11, 27, 3, 0, 219, 80, 0), (14, 0, 1, 0, 0, 0, 0), (15, 32, 0, 0, 0, 0, 0), (16, 22, 1, 11, 0, 0, 0), (19, 4, 0, 0, 0, 0, 0), (20, 39, 0, 0, 0, 0, 0), (21, 2, 0, 0, 0, 0, 0), (22, 27, 8, 0, 10, 65, 0), (25, 0, 1, 0, 0, 0, 0), (26, 35, 38, 3, 222, 93, 0), (29, 4, 0, 0, 0, 1, 1), (30, 39, 0, 0, 0, 0, 0)]
def tx_t98 : tw_T := [(0, 0, 1, 0, 0, 0, 0), (1, 36, 96, 0, 216, 92, 0), (4, 22, 0, 9, 0, 0, 0), (7, 2, 0, 0, 0, 0, 0), (8, 27, 8, 0, 10, 65, 0), (11, 27, 3, 0, 219, 80, 0), (14, 0, 1, 0, 0, 0, 0), (15, 32, 0, 0, 0, 0, 0), (16, 22, 0, 11, 0, 0, 0), (19, 4, 0, 0, 0, 0, 0), (20, 39, 0, 0, 0, 0, 0), (21, 2, 0, 0, 0, 0, 0), (22, 27, 8, 0, 10, 65, 0), (25, 0, 1, 0, 0, 0, 0), (26, 35, 39, 3, 225, 94, 0), (29, 4, 0, 0, 0, 1, 1), (30, 39, 0, 0, 0, 0, 0)]
def tx_t99 : tw_T := [(0, 0, 1, 0, 0, 0, 0), (1, 36, 96, 0, 216, 92, 0), (4, 22, 0, 9, 0, 0, 0), (7, 2, 0, 0, 0, 0, 0), (8, 27, 8, 0, 10, 65, 0), (11, 27, 3, 0, 219, 80, 0), (14, 0, 1, 0, 0, 0, 0), (15, 32, 0, 0, 0, 0, 0), (16, 22, 1, 11, 0, 0, 0), (19, 4, 0, 0, 0, (-1), (-1)), (20, 38, 0, 0, 0, 0, 0), (21, 2, 0, 0, 0, 0, 0), (22, 27, 8, 0, 10, 65, 0), (25, 0, 1, 0, 0, 0, 0), (26, 35, 40, 3, 228, 95, 0), (29, 7, 2, 0, 0, 0, 0), (30, 0, 2, 0, 0, 0, 0), (31, 4, 0, 0, 0, (-1), (-1)), (32, 23, 0, 25, 0, 0, 0), (35, 2, 0, 0, 0, 0, 0), (36, 27, 8, 0, 10, 65, 0), (39, 0, 1, 0, 0, 0, 0), (40, 0, 2, 0, 0, 0, 0), (41, 35, 29, 3, 231, 96, 0), (44, 22, 0, 27, 0, 0, 0), (47, 4, 0, 0, 0, (-1), (-1)), (48, 38, 0, 0, 0, 0, 0), (49, 2, 0, 0, 0, 0, 0), (50, 27, 8, 0, 10, 65, 0), (53, 0, 1, 0, 0, 0, 0), (54, 0, 2, 0, 0, 0, 0), (55, 2, 0, 0, 0, 0, 0), (56, 27, 8, 0, 10, 65, 0), (59, 0, 1, 0, 0, 0, 0), (60, 0, 2, 0, 0, 0, 0), (61, 35, 32, 3, 235, 54, 0), (64, 35, 34, 3, 238, 49, 0), (67, 0, 2, 0, 0, 0, 0), (68, 38, 0, 0, 0, 0, 0)]
def tx_t100 : tw_T := [(0, 2, 0, 0, 0, 0, 0), (1, 27, 8, 2, 26, 67, 0), (4, 0, 1, 0, 0, 0, 0), (5, 35, 51, 6, 241, 97, 0), (8, 22, 1, 7, 0, 0, 0), (11, 4, 0, 0, 0, (-1), (-1)), (12, 38, 0, 0, 0, 0, 0), (13, 2, 0, 0, 0, 0, 0), (14, 27, 8, 2, 26, 67, 0), (17, 27, 6, 0, 242, 113, 0), (20, 0, 1, 0, 0, 0, 0), (21, 31, 0, 0, 0, 0, 0), (22, 7, 2, 0, 0, 0, 0), (23, 2, 0, 0, 0, 0, 0), (24, 27, 8, 0, 10, 65, 0), (27, 27, 3, 0, 219, 80, 0), (30, 0, 2, 0, 0, 0, 0), (31, 32, 0, 0, 0, 0, 0), (32, 22, 0, 32, 0, 0, 0), (35, 2, 0, 0, 0, 0, 0), (36, 27, 8, 0, 10, 65, 0), (39, 27, 3, 1, 244, 82, 0), (42, 0, 2, 0, 0, 0, 0), (43, 31, 0, 0, 0, 0, 0), (44, 2, 0, 0, 0, 0, 0), (45, 27, 8, 2, 26, 67, 0), (48, 27, 6, 3, 247, 114, 0), (51, 0, 1, 0, 0, 0, 0), (52, 31, 0, 0, 0, 0, 0), (53, 23, 1, 32, 0, 0, 0), (56, 4, 0, 0, 0, 1, 1), (57, 24, 0, 33, 0, 0, 0), (60, 4, 0, 0, 0, 0, 0), (61, 7, 3, 0, 0, 0, 0), (62, 0, 3, 0, 0, 0, 0), (63, 22, 0, 50, 0, 0, 0), (66, 2, 0, 0, 0, 0, 0), (67, 27, 8, 0, 10, 65, 0), (70, 0, 2, 0, 0, 0, 0), (71, 2, 0, 0, 0, 0, 0), (72, 27, 8, 2, 26, 67, 0), (75, 27, 6, 1, 248, 115, 0), (78, 0, 1, 0, 0, 0, 0), (79, 31, 0, 0, 0, 0, 0), (80, 2, 0, 0, 0, 0, 0), (81, 27, 8, 2, 26, 67, 0), (84, 27, 6, 2, 251, 116, 0), (87, 0, 1, 0, 0, 0, 0), (88, 31, 0, 0, 0, 0, 0), (89, 35, 34, 3, 238, 49, 0), (92, 2, 0, 0, 0, 0, 0), (93, 27, 8, 2, 26, 67, 0), (96, 0, 1, 0, 0, 0, 0), (97, 35, 52, 6, 252, 98, 0), (100, 0, 3, 0, 0, 0, 0), (101, 22, 0, 58, 0, 0, 0), (104, 4, 0, 0, 0, 1, 1), (105, 24, 0, 59, 0, 0, 0), (108, 4, 0, 0, 0, 0, 0), (109, 38, 0, 0, 0, 0, 0)]
def tx_t101 : tw_T := [(0, 2, 0, 0, 0, 0, 0), (1, 27, 8, 2, 26, 67, 0), (4, 27, 6, 4, 253, 117, 0), (7, 38, 0, 0, 0, 0, 0)]
def tx_t102 : tw_T := [(0, 0, 0, 0, 0, 0, 0), (1, 22, 2, 7, 0, 0, 0), (4, 0, 0, 0, 0, 0, 0), (5, 5, 0, 0, 0, 8, 8), (7, 23, 3, 7, 0, 0, 0), (10, 4, 0, 0, 0, 1, 1), (11, 24, 0, 8, 0, 0, 0), (14, 4, 0, 0, 0, 0, 0), (15, 39, 0, 0, 0, 0, 0)]
def tx_t103 : tw_T := [(0, 0, 1, 0, 0, 0, 0), (1, 36, 102, 0, 254, 99, 0), (4, 22, 0, 8, 0, 0, 0), (7, 2, 0, 0, 0, 0, 0), (8, 27, 8, 0, 10, 65, 0), (11, 0, 1, 0, 0, 0, 0), (12, 35, 36, 3, 257, 53, 0), (15, 22, 0, 10, 0, 0, 0), (18, 4, 0, 0, 0, (-1), (-1)), (19, 38, 0, 0, 0, 0, 0), (20, 0, 1, 0, 0, 0, 0), (21, 36, 26, 0, 260, 15, 0), (24, 7, 2, 0, 0, 0, 0), (25, 2, 0, 0, 0, 0, 0), (26, 27, 8, 0, 10, 65, 0), (29, 0, 2, 0, 0, 0, 0), (30, 0, 1, 0, 0, 0, 0), (31, 35, 31, 3, 263, 100, 0), (34, 2, 0, 0, 0, 0, 0), (35, 27, 8, 0, 10, 65, 0), (38, 0, 2, 0, 0, 0, 0), (39, 0, 1, 0, 0, 0, 0), (40, 35, 32, 3, 235, 54, 0), (43, 23, 1, 26, 0, 0, 0), (46, 4, 0, 0, 0, 1, 1), (47, 24, 0, 27, 0, 0, 0), (50, 4, 0, 0, 0, 0, 0), (51, 38, 0, 0, 0, 0, 0)]
def tx_t104 : tw_T := [(0, 0, 1, 0, 0, 0, 0), (1, 36, 96, 0, 216, 92, 0), (4, 22, 0, 15, 0, 0, 0), (7, 2, 0, 0, 0, 0, 0), (8, 27, 8, 0, 10, 65, 0), (11, 27, 3, 0, 219, 80, 0), (14, 0, 1, 0, 0, 0, 0), (15, 32, 0, 0, 0, 0, 0), (16, 22, 0, 15, 0, 0, 0), (19, 2, 0, 0, 0, 0, 0), (20, 27, 8, 0, 10, 65, 0), (23, 27, 3, 1, 244, 82, 0), (26, 0, 1, 0, 0, 0, 0), (27, 31, 0, 0, 0, 0, 0), (28, 24, 0, 16, 0, 0, 0), (31, 4, 0, 0, 0, (-1), (-1)), (32, 38, 0, 0, 0, 0, 0)]
def tx_t105 : tw_T := [(0, 0, 1, 0, 0, 0, 0), (1, 36, 62, 0, 46, 31, 0), (4, 22, 1, 5, 0, 0, 0), (7, 4, 0, 0, 0, (-1), (-1)), (8, 38, 0, 0, 0, 0, 0), (9, 2, 0, 0, 0, 0, 0), (10, 0, 1, 0, 0, 0, 0), (11, 35, 64, 8, 57, 34, 0), (14, 9, 3, 0, 0, 0, 0), (15, 0, 2, 0, 0, 0, 0), (16, 46, 1, 0, 0, 0, 0), (88, 2, 3, 0, 0, 0, 0), (89, 27, 0, 1, 72, 73, 0), (92, 35, 15, 4, 269, 72, 0), (95, 38, 0, 0, 0, 0, 0), (96, 2, 3, 0, 0, 0, 0), (97, 27, 0, 2, 210, 105, 0), (100, 35, 46, 4, 272, 101, 0), (103, 38, 0, 0, 0, 0, 0), (104, 2, 3, 0, 0, 0, 0), (105, 27, 0, 3, 143, 72, 0), (108, 27, 5, 6, 147, 110, 0), (111, 38, 0, 0, 0, 0, 0), (112, 2, 3, 0, 0, 0, 0), (113, 27, 0, 15, 275, 100, 0), (116, 38, 0, 0, 0, 0, 0), (117, 2, 3, 0, 0, 0, 0), (118, 27, 0, 10, 101, 77, 0), (121, 38, 0, 0, 0, 0, 0), (122, 2, 3, 0, 0, 0, 0), (123, 27, 0, 6, 136, 103, 0), (126, 22, 0, 34, 0, 0, 0), (129, 4, 0, 0, 0, 1, 1), (130, 24, 0, 35, 0, 0, 0), (133, 4, 0, 0, 0, 0, 0), (134, 38, 0, 0, 0, 0, 0), (135, 2, 3, 0, 0, 0, 0), (136, 27, 0, 7, 90, 74, 0), (139, 22, 0, 41, 0, 0, 0), (142, 4, 0, 0, 0, 1, 1), (143, 24, 0, 42, 0, 0, 0), (146, 4, 0, 0, 0, 0, 0), (147, 38, 0, 0, 0, 0, 0), (148, 2, 3, 0, 0, 0, 0), (149, 27, 0, 8, 178, 102, 0), (152, 22, 0, 48, 0, 0, 0), (155, 4, 0, 0, 0, 1, 1), (156, 24, 0, 49, 0, 0, 0), (159, 4, 0, 0, 0, 0, 0), (160, 38, 0, 0, 0, 0, 0), (161, 2, 3, 0, 0, 0, 0), (162, 27, 0, 9, 213, 101, 0), (165, 22, 0, 55, 0, 0, 0), (168, 4, 0, 0, 0, 1, 1), (169, 24, 0, 56, 0, 0, 0), (172, 4, 0, 0, 0, 0, 0), (173, 38, 0, 0, 0, 0, 0), (174, 2, 3, 0, 0, 0, 0), (175, 27, 0, 4, 278, 91, 0), (178, 27, 1, 3, 282, 93, 0), (181, 38, 0, 0, 0, 0, 0), (182, 2, 3, 0, 0, 0, 0), (183, 27, 0, 11, 204, 112, 0), (186, 38, 0, 0, 0, 0, 0), (187, 2, 3, 0, 0, 0, 0), (188, 27, 0, 12, 287, 99, 0), (191, 38, 0, 0, 0, 0, 0), (192, 2, 3, 0, 0, 0, 0), (193, 27, 0, 13, 290, 109, 0), (196, 38, 0, 0, 0, 0, 0), (197, 2, 3, 0, 0, 0, 0), (198, 27, 0, 14, 293, 88, 0), (201, 38, 0, 0, 0, 0, 0), (202, 4, 0, 0, 0, (-1), (-1)), (203, 38, 0, 0, 0, 0, 0)]
def tx_t106 : tw_T := [(0, 2, 0, 0, 0, 0, 0), (1, 27, 8, 1, 19, 66, 0), (4, 0, 1, 0, 0, 0, 0), (5, 35, 58, 7, 126, 102, 0), (8, 22, 1, 9, 0, 0, 0), (11, 99, 0, 0, 129, 0, 0), (14, 25, 0, 0, 0, 0, 0), (15, 99, 0, 0, 131, 0, 0), (18, 99, 0, 0, 0, 0, 0), (19, 2, 0, 0, 0, 0, 0), (20, 27, 8, 1, 19, 66, 0), (23, 27, 7, 0, 132, 118, 0), (26, 0, 1, 0, 0, 0, 0), (27, 31, 0, 0, 0, 0, 0), (28, 38, 0, 0, 0, 0, 0)]
def tx_t107 : tw_T := [(0, 2, 0, 0, 0, 0, 0), (1, 27, 8, 1, 19, 66, 0), (4, 0, 1, 0, 0, 0, 0), (5, 35, 58, 7, 126, 102, 0), (8, 22, 1, 9, 0, 0, 0), (11, 99, 0, 0, 129, 0, 0), (14, 25, 0, 0, 0, 0, 0), (15, 99, 0, 0, 131, 0, 0), (18, 99, 0, 0, 0, 0, 0), (19, 2, 0, 0, 0, 0, 0), (20, 27, 8, 1, 19, 66, 0), (23, 27, 7, 1, 135, 119, 0), (26, 0, 1, 0, 0, 0, 0), (27, 31, 0, 0, 0, 0, 0), (28, 38, 0, 0, 0, 0, 0)]
def tx_t108 : tw_T := [(0, 0, 1, 0, 0, 0, 0), (1, 36, 96, 0, 216, 92, 0), (4, 22, 0, 12, 0, 0, 0), (7, 0, 2, 0, 0, 0, 0), (8, 36, 102, 0, 254, 99, 0), (11, 22, 0, 12, 0, 0, 0), (14, 2, 0, 0, 0, 0, 0), (15, 27, 8, 0, 10, 65, 0), (18, 0, 1, 0, 0, 0, 0), (19, 0, 2, 0, 0, 0, 0), (20, 35, 28, 3, 266, 103, 0), (23, 22, 0, 16, 0, 0, 0), (26, 99, 0, 0, 129, 0, 0), (29, 25, 0, 0, 0, 0, 0), (30, 99, 0, 0, 131, 0, 0), (33, 99, 0, 0, 0, 0, 0), (34, 2, 0, 0, 0, 0, 0), (35, 27, 8, 0, 10, 65, 0), (38, 0, 1, 0, 0, 0, 0), (39, 0, 2, 0, 0, 0, 0), (40, 35, 31, 3, 263, 100, 0), (43, 38, 0, 0, 0, 0, 0)]
def tx_t109 : tw_T := [(0, 2, 0, 0, 0, 0, 0), (1, 44, 0, 0, 1, 9, 0), (4, 2, 0, 0, 0, 0, 0), (5, 4, 0, 0, 0, 0, 0), (6, 28, 9, 0, 7, 120, 0), (9, 2, 0, 0, 0, 0, 0), (10, 4, 0, 0, 0, 5, 5), (11, 43, 101, 0, 0, 0, 0), (13, 30, 9, 1, 13, 121, 0), (16, 2, 0, 0, 0, 0, 0), (17, 4, 0, 0, 0, 5, 5), (18, 43, 100, 0, 0, 0, 0), (20, 30, 9, 2, 17, 122, 0), (23, 2, 0, 0, 0, 0, 0), (24, 5, 0, 0, 0, 40, 40), (26, 43, 100, 0, 0, 0, 0), (28, 30, 9, 3, 21, 123, 0), (31, 2, 0, 0, 0, 0, 0), (32, 5, 0, 0, 0, 40, 40), (34, 43, 101, 0, 0, 0, 0), (36, 30, 9, 4, 24, 124, 0), (39, 2, 0, 0, 0, 0, 0), (40, 4, 0, 0, 0, 2, 2), (41, 43, 101, 0, 0, 0, 0), (43, 30, 9, 5, 27, 125, 0), (46, 2, 0, 0, 0, 0, 0), (47, 4, 0, 0, 0, 2, 2), (48, 43, 100, 0, 0, 0, 0), (50, 30, 9, 6, 30, 126, 0), (53, 2, 0, 0, 0, 0, 0), (54, 4, 0, 0, 0, 2, 2), (55, 43, 101, 0, 0, 0, 0), (57, 30, 9, 7, 33, 127, 0), (60, 2, 0, 0, 0, 0, 0), (61, 4, 0, 0, 0, 4, 4), (62, 43, 101, 0, 0, 0, 0), (64, 30, 9, 8, 36, 128, 0), (67, 2, 0, 0, 0, 0, 0), (68, 5, 0, 0, 0, 64, 64), (70, 43, 101, 0, 0, 0, 0), (72, 30, 9, 9, 39, 129, 0), (75, 2, 0, 0, 0, 0, 0), (76, 5, 0, 0, 0, 64, 64), (78, 43, 100, 0, 0, 0, 0), (80, 30, 9, 10, 42, 130, 0), (83, 2, 0, 0, 0, 0, 0), (84, 5, 0, 0, 0, 64, 64), (86, 43, 100, 0, 0, 0, 0), (88, 30, 9, 11, 45, 131, 0), (91, 2, 0, 0, 0, 0, 0), (92, 5, 0, 0, 0, 64, 64), (94, 43, 101, 0, 0, 0, 0), (96, 30, 9, 12, 48, 132, 0), (99, 2, 0, 0, 0, 0, 0), (100, 5, 0, 0, 0, 64, 64), (102, 43, 101, 0, 0, 0, 0), (104, 30, 9, 13, 51, 133, 0), (107, 2, 0, 0, 0, 0, 0), (108, 5, 0, 0, 0, 64, 64), (110, 43, 100, 0, 0, 0, 0), (112, 30, 9, 14, 54, 134, 0), (115, 2, 0, 0, 0, 0, 0), (116, 5, 0, 0, 0, 64, 64), (118, 43, 100, 0, 0, 0, 0), (120, 30, 9, 15, 57, 135, 0), (123, 2, 0, 0, 0, 0, 0), (124, 5, 0, 0, 0, 16, 16), (126, 43, 101, 0, 0, 0, 0), (128, 30, 9, 16, 60, 136, 0), (131, 2, 0, 0, 0, 0, 0), (132, 5, 0, 0, 0, 16, 16), (134, 43, 101, 0, 0, 0, 0), (136, 30, 9, 17, 63, 137, 0), (139, 2, 0, 0, 0, 0, 0), (140, 5, 0, 0, 0, 16, 16), (142, 43, 101, 0, 0, 0, 0), (144, 30, 9, 18, 66, 138, 0), (147, 2, 0, 0, 0, 0, 0), (148, 4, 0, 0, 0, 2, 2), (149, 43, 100, 0, 0, 0, 0), (151, 30, 9, 19, 69, 139, 0), (154, 2, 0, 0, 0, 0, 0), (155, 4, 0, 0, 0, 2, 2), (156, 43, 100, 0, 0, 0, 0), (158, 30, 9, 20, 72, 140, 0), (161, 2, 0, 0, 0, 0, 0), (162, 4, 0, 0, 0, 2, 2), (163, 43, 100, 0, 0, 0, 0), (165, 30, 9, 21, 75, 141, 0), (168, 2, 0, 0, 0, 0, 0), (169, 4, 0, 0, 0, 2, 2), (170, 43, 100, 0, 0, 0, 0), (172, 30, 9, 22, 78, 142, 0), (175, 2, 0, 0, 0, 0, 0), (176, 4, 0, 0, 0, 2, 2), (177, 43, 101, 0, 0, 0, 0), (179, 30, 9, 23, 81, 143, 0), (182, 2, 0, 0, 0, 0, 0), (183, 4, 0, 0, 0, 2, 2), (184, 43, 100, 0, 0, 0, 0), (186, 30, 9, 24, 84, 144, 0), (189, 2, 0, 0, 0, 0, 0), (190, 4, 0, 0, 0, 2, 2), (191, 43, 100, 0, 0, 0, 0), (193, 30, 9, 25, 87, 145, 0), (196, 2, 0, 0, 0, 0, 0), (197, 4, 0, 0, 0, 2, 2), (198, 43, 100, 0, 0, 0, 0), (200, 30, 9, 26, 90, 146, 0), (203, 2, 0, 0, 0, 0, 0), (204, 4, 0, 0, 0, 2, 2), (205, 43, 100, 0, 0, 0, 0), (207, 30, 9, 27, 93, 147, 0), (210, 2, 0, 0, 0, 0, 0), (211, 5, 0, 0, 0, 8, 8), (213, 43, 101, 0, 0, 0, 0), (215, 30, 9, 28, 96, 148, 0), (218, 2, 0, 0, 0, 0, 0), (219, 5, 0, 0, 0, 8, 8), (221, 43, 100, 0, 0, 0, 0), (223, 30, 9, 29, 99, 149, 0), (226, 2, 0, 0, 0, 0, 0), (227, 5, 0, 0, 0, 8, 8), (229, 43, 100, 0, 0, 0, 0), (231, 30, 9, 30, 102, 150, 0), (234, 2, 0, 0, 0, 0, 0), (235, 4, 0, 0, 0, 2, 2), (236, 43, 100, 0, 0, 0, 0), (238, 30, 9, 31, 105, 151, 0), (241, 2, 0, 0, 0, 0, 0), (242, 4, 0, 0, 0, 2, 2), (243, 43, 101, 0, 0, 0, 0), (245, 30, 9, 32, 108, 152, 0), (248, 2, 0, 0, 0, 0, 0), (249, 4, 0, 0, 0, 2, 2), (250, 43, 101, 0, 0, 0, 0), (252, 30, 9, 33, 111, 153, 0), (255, 2, 0, 0, 0, 0, 0), (256, 4, 0, 0, 0, 2, 2), (257, 43, 100, 0, 0, 0, 0), (259, 30, 9, 34, 114, 154, 0), (262, 2, 0, 0, 0, 0, 0), (263, 4, 0, 0, 0, 2, 2), (264, 43, 100, 0, 0, 0, 0), (266, 30, 9, 35, 117, 155, 0), (269, 2, 0, 0, 0, 0, 0), (270, 6, 0, 0, 0, 400, 400), (273, 43, 100, 0, 0, 0, 0), (275, 30, 9, 36, 120, 156, 0), (278, 2, 0, 0, 0, 0, 0), (279, 4, 0, 0, 0, 2, 2), (280, 43, 100, 0, 0, 0, 0), (282, 30, 9, 37, 123, 157, 0), (285, 2, 0, 0, 0, 0, 0), (286, 4, 0, 0, 0, 0, 0), (287, 28, 9, 38, 126, 158, 0), (290, 2, 0, 0, 0, 0, 0), (291, 4, 0, 0, 0, 0, 0), (292, 28, 9, 39, 130, 159, 0), (295, 2, 0, 0, 0, 0, 0), (296, 6, 0, 0, 0, 200, 200), (299, 43, 100, 0, 0, 0, 0), (301, 30, 9, 40, 133, 160, 0), (304, 2, 0, 0, 0, 0, 0), (305, 6, 0, 0, 0, 200, 200), (308, 43, 100, 0, 0, 0, 0), (310, 30, 9, 41, 136, 161, 0), (313, 2, 0, 0, 0, 0, 0), (314, 6, 0, 0, 0, 200, 200), (317, 43, 100, 0, 0, 0, 0), (319, 30, 9, 42, 139, 162, 0), (322, 2, 0, 0, 0, 0, 0), (323, 6, 0, 0, 0, 200, 200), (326, 43, 100, 0, 0, 0, 0), (328, 30, 9, 43, 142, 163, 0), (331, 2, 0, 0, 0, 0, 0), (332, 6, 0, 0, 0, 200, 200), (335, 43, 100, 0, 0, 0, 0), (337, 30, 9, 44, 145, 164, 0), (340, 2, 0, 0, 0, 0, 0), (341, 4, 0, 0, 0, 0, 0), (342, 28, 9, 45, 148, 165, 0), (345, 2, 0, 0, 0, 0, 0), (346, 5, 0, 0, 0, 20, 20), (348, 43, 100, 0, 0, 0, 0), (350, 30, 9, 46, 151, 166, 0), (353, 2, 0, 0, 0, 0, 0), (354, 5, 0, 0, 0, 20, 20), (356, 43, 100, 0, 0, 0, 0), (358, 30, 9, 47, 154, 167, 0), (361, 2, 0, 0, 0, 0, 0), (362, 5, 0, 0, 0, 20, 20), (364, 43, 100, 0, 0, 0, 0), (366, 30, 9, 48, 157, 168, 0), (369, 2, 0, 0, 0, 0, 0), (370, 5, 0, 0, 0, 20, 20), (372, 43, 100, 0, 0, 0, 0), (374, 30, 9, 49, 160, 169, 0), (377, 4, 0, 0, 0, 0, 0), (378, 7, 1, 0, 0, 0, 0), (379, 0, 1, 0, 0, 0, 0), (380, 4, 0, 0, 0, 5, 5), (381, 23, 3, 215, 0, 0, 0), (384, 2, 0, 0, 0, 0, 0), (385, 27, 9, 1, 13, 121, 0), (388, 0, 1, 0, 0, 0, 0), (389, 4, 0, 0, 0, 1, 1), (390, 34, 0, 0, 0, 0, 0), (391, 2, 0, 0, 0, 0, 0), (392, 27, 9, 2, 17, 122, 0), (395, 0, 1, 0, 0, 0, 0), (396, 4, 0, 0, 0, 1, 1), (397, 33, 0, 0, 0, 0, 0), (398, 11, 1, 0, 0, 1, 1), (401, 24, 0, 200, 0, 0, 0), (404, 4, 0, 0, 0, 0, 0), (405, 7, 1, 0, 0, 0, 0), (406, 0, 1, 0, 0, 0, 0), (407, 4, 0, 0, 0, 2, 2), (408, 23, 3, 254, 0, 0, 0), (411, 2, 0, 0, 0, 0, 0), (412, 27, 9, 5, 27, 125, 0), (415, 0, 1, 0, 0, 0, 0), (416, 4, 0, 0, 0, 1, 1), (417, 34, 0, 0, 0, 0, 0), (418, 2, 0, 0, 0, 0, 0), (419, 27, 9, 6, 30, 126, 0), (422, 0, 1, 0, 0, 0, 0), (423, 4, 0, 0, 0, 1, 1), (424, 33, 0, 0, 0, 0, 0), (425, 2, 0, 0, 0, 0, 0), (426, 27, 9, 7, 33, 127, 0), (429, 0, 1, 0, 0, 0, 0), (430, 4, 0, 0, 0, 1, 1), (431, 34, 0, 0, 0, 0, 0), (432, 2, 0, 0, 0, 0, 0), (433, 27, 9, 8, 36, 128, 0), (436, 4, 0, 0, 0, 3, 3), (437, 0, 1, 0, 0, 0, 0), (438, 14, 0, 0, 0, 0, 0), (439, 4, 0, 0, 0, 1, 1), (440, 34, 0, 0, 0, 0, 0), (441, 2, 0, 0, 0, 0, 0), (442, 27, 9, 19, 69, 139, 0), (445, 0, 1, 0, 0, 0, 0), (446, 4, 0, 0, 0, (-1), (-1)), (447, 33, 0, 0, 0, 0, 0), (448, 2, 0, 0, 0, 0, 0), (449, 27, 9, 26, 90, 146, 0), (452, 0, 1, 0, 0, 0, 0), (453, 4, 0, 0, 0, (-1), (-1)), (454, 33, 0, 0, 0, 0, 0), (455, 11, 1, 0, 0, 1, 1), (458, 24, 0, 217, 0, 0, 0), (461, 40, 0, 0, 0, 0, 0)]
def tx_t110 : tw_T := [(0, 2, 0, 0, 0, 0, 0), (1, 27, 9, 0, 7, 120, 0), (4, 38, 0, 0, 0, 0, 0)]
def tx_t111 : tw_T := [(0, 0, 0, 0, 0, 0, 0), (1, 0, 1, 0, 0, 0, 0), (2, 23, 2, 8, 0, 0, 0), (5, 0, 0, 0, 0, 0, 0), (6, 0, 2, 0, 0, 0, 0), (7, 23, 4, 8, 0, 0, 0), (10, 4, 0, 0, 0, 1, 1), (11, 24, 0, 9, 0, 0, 0), (14, 4, 0, 0, 0, 0, 0), (15, 39, 0, 0, 0, 0, 0)]
def tx_t112 : tw_T := [(0, 2, 0, 0, 0, 0, 0), (1, 27, 9, 40, 133, 160, 0), (4, 2, 0, 0, 0, 0, 0), (5, 27, 9, 39, 130, 159, 0), (8, 4, 0, 0, 0, 2, 2), (9, 33, 0, 0, 0, 0, 0), (10, 2, 0, 0, 0, 0, 0), (11, 27, 9, 41, 136, 161, 0), (14, 2, 0, 0, 0, 0, 0), (15, 27, 9, 39, 130, 159, 0), (18, 0, 3, 0, 0, 0, 0), (19, 33, 0, 0, 0, 0, 0), (20, 2, 0, 0, 0, 0, 0), (21, 27, 9, 42, 139, 162, 0), (24, 2, 0, 0, 0, 0, 0), (25, 27, 9, 39, 130, 159, 0), (28, 0, 1, 0, 0, 0, 0), (29, 33, 0, 0, 0, 0, 0), (30, 2, 0, 0, 0, 0, 0), (31, 27, 9, 43, 142, 163, 0), (34, 2, 0, 0, 0, 0, 0), (35, 27, 9, 39, 130, 159, 0), (38, 0, 2, 0, 0, 0, 0), (39, 33, 0, 0, 0, 0, 0), (40, 2, 0, 0, 0, 0, 0), (41, 27, 9, 44, 145, 164, 0), (44, 2, 0, 0, 0, 0, 0), (45, 27, 9, 39, 130, 159, 0), (48, 4, 0, 0, 0, 0, 0), (49, 33, 0, 0, 0, 0, 0), (50, 2, 0, 0, 0, 0, 0), (51, 25, 0, 0, 0, 0, 0), (52, 27, 9, 39, 130, 159, 0), (55, 4, 0, 0, 0, 1, 1), (56, 12, 0, 0, 0, 0, 0), (57, 28, 9, 39, 130, 159, 0), (60, 2, 0, 0, 0, 0, 0), (61, 27, 9, 39, 130, 159, 0), (64, 4, 0, 0, 0, 1, 1), (65, 13, 0, 0, 0, 0, 0), (66, 38, 0, 0, 0, 0, 0)]
def tx_t113 : tw_T := [(0, 5, 0, 0, 0, 32, 32), (2, 0, 1, 0, 0, 0, 0), (3, 14, 0, 0, 0, 0, 0), (4, 0, 2, 0, 0, 0, 0), (5, 12, 0, 0, 0, 0, 0), (6, 8, 5, 0, 0, 0, 0), (8, 2, 0, 0, 0, 0, 0), (9, 27, 9, 9, 39, 129, 0), (12, 1, 5, 0, 0, 0, 0), (14, 4, 0, 0, 0, 1, 1), (15, 34, 0, 0, 0, 0, 0), (16, 2, 0, 0, 0, 0, 0), (17, 27, 9, 10, 42, 130, 0), (20, 1, 5, 0, 0, 0, 0), (22, 0, 3, 0, 0, 0, 0), (23, 33, 0, 0, 0, 0, 0), (24, 2, 0, 0, 0, 0, 0), (25, 27, 9, 12, 48, 132, 0), (28, 1, 5, 0, 0, 0, 0), (30, 1, 4, 0, 0, 0, 0), (32, 34, 0, 0, 0, 0, 0), (33, 2, 0, 0, 0, 0, 0), (34, 27, 9, 11, 45, 131, 0), (37, 1, 5, 0, 0, 0, 0), (39, 4, 0, 0, 0, 0, 0), (40, 33, 0, 0, 0, 0, 0), (41, 1, 4, 0, 0, 0, 0), (43, 22, 0, 44, 0, 0, 0), (46, 2, 0, 0, 0, 0, 0), (47, 27, 9, 35, 117, 155, 0), (50, 0, 1, 0, 0, 0, 0), (51, 26, 0, 0, 0, 0, 0), (52, 31, 0, 0, 0, 0, 0), (53, 4, 0, 0, 0, 1, 1), (54, 12, 0, 0, 0, 0, 0), (55, 33, 0, 0, 0, 0, 0), (56, 2, 0, 0, 0, 0, 0), (57, 27, 9, 11, 45, 131, 0), (60, 1, 5, 0, 0, 0, 0), (62, 2, 0, 0, 0, 0, 0), (63, 27, 9, 35, 117, 155, 0), (66, 0, 1, 0, 0, 0, 0), (67, 31, 0, 0, 0, 0, 0), (68, 33, 0, 0, 0, 0, 0), (69, 40, 0, 0, 0, 0, 0)]
def tx_t114 : tw_T := [(0, 4, 0, 0, 0, 1, 1), (1, 0, 1, 0, 0, 0, 0), (2, 13, 0, 0, 0, 0, 0), (3, 8, 7, 0, 0, 0, 0), (5, 2, 0, 0, 0, 0, 0), (6, 27, 9, 38, 126, 158, 0), (9, 22, 1, 13, 0, 0, 0), (12, 2, 0, 0, 0, 0, 0), (13, 27, 9, 37, 123, 157, 0), (16, 1, 7, 0, 0, 0, 0), (18, 31, 0, 0, 0, 0, 0), (19, 5, 0, 0, 0, 40, 40), (21, 23, 1, 14, 0, 0, 0), (24, 40, 0, 0, 0, 0, 0), (25, 6, 0, 0, 0, 200, 200), (28, 1, 7, 0, 0, 0, 0), (30, 14, 0, 0, 0, 0, 0), (31, 4, 0, 0, 0, 5, 5), (32, 2, 0, 0, 0, 0, 0), (33, 27, 9, 37, 123, 157, 0), (36, 1, 7, 0, 0, 0, 0), (38, 31, 0, 0, 0, 0, 0), (39, 14, 0, 0, 0, 0, 0), (40, 12, 0, 0, 0, 0, 0), (41, 8, 8, 0, 0, 0, 0), (43, 2, 0, 0, 0, 0, 0), (44, 27, 9, 36, 120, 156, 0), (47, 1, 8, 0, 0, 0, 0), (49, 0, 2, 0, 0, 0, 0), (50, 33, 0, 0, 0, 0, 0), (51, 2, 0, 0, 0, 0, 0), (52, 27, 9, 36, 120, 156, 0), (55, 1, 8, 0, 0, 0, 0), (57, 4, 0, 0, 0, 1, 1), (58, 12, 0, 0, 0, 0, 0), (59, 0, 3, 0, 0, 0, 0), (60, 33, 0, 0, 0, 0, 0), (61, 2, 0, 0, 0, 0, 0), (62, 27, 9, 36, 120, 156, 0), (65, 1, 8, 0, 0, 0, 0), (67, 4, 0, 0, 0, 2, 2), (68, 12, 0, 0, 0, 0, 0), (69, 1, 4, 0, 0, 0, 0), (71, 33, 0, 0, 0, 0, 0), (72, 2, 0, 0, 0, 0, 0), (73, 27, 9, 36, 120, 156, 0), (76, 1, 8, 0, 0, 0, 0), (78, 4, 0, 0, 0, 3, 3), (79, 12, 0, 0, 0, 0, 0), (80, 1, 5, 0, 0, 0, 0), (82, 33, 0, 0, 0, 0, 0), (83, 2, 0, 0, 0, 0, 0), (84, 27, 9, 36, 120, 156, 0), (87, 1, 8, 0, 0, 0, 0), (89, 4, 0, 0, 0, 4, 4), (90, 12, 0, 0, 0, 0, 0), (91, 1, 6, 0, 0, 0, 0), (93, 33, 0, 0, 0, 0, 0), (94, 2, 0, 0, 0, 0, 0), (95, 27, 9, 37, 123, 157, 0), (98, 1, 7, 0, 0, 0, 0), (100, 26, 0, 0, 0, 0, 0), (101, 31, 0, 0, 0, 0, 0), (102, 4, 0, 0, 0, 1, 1), (103, 12, 0, 0, 0, 0, 0), (104, 33, 0, 0, 0, 0, 0), (105, 40, 0, 0, 0, 0, 0)]
def tx_t115 : tw_T := [(0, 2, 0, 0, 0, 0, 0), (1, 4, 0, 0, 0, 0, 0), (2, 28, 9, 0, 7, 120, 0), (5, 0, 1, 0, 0, 0, 0), (6, 4, 0, 0, 0, 0, 0), (7, 4, 0, 0, 0, 1, 1), (8, 36, 111, 0, 181, 104, 0), (11, 22, 0, 17, 0, 0, 0), (14, 0, 2, 0, 0, 0, 0), (15, 4, 0, 0, 0, 0, 0), (16, 5, 0, 0, 0, 31, 31), (18, 36, 111, 0, 181, 104, 0), (21, 22, 0, 17, 0, 0, 0), (24, 2, 0, 0, 0, 0, 0), (25, 27, 9, 39, 130, 159, 0), (28, 6, 0, 0, 0, 200, 200), (31, 23, 1, 19, 0, 0, 0), (34, 4, 0, 0, 0, (-1), (-1)), (35, 38, 0, 0, 0, 0, 0), (36, 2, 0, 0, 0, 0, 0), (37, 0, 1, 0, 0, 0, 0), (38, 0, 2, 0, 0, 0, 0), (39, 0, 3, 0, 0, 0, 0), (40, 35, 112, 9, 185, 105, 0), (43, 8, 4, 0, 0, 0, 0), (45, 2, 0, 0, 0, 0, 0), (46, 27, 9, 5, 27, 125, 0), (49, 0, 1, 0, 0, 0, 0), (50, 32, 0, 0, 0, 0, 0), (51, 22, 0, 41, 0, 0, 0), (54, 2, 0, 0, 0, 0, 0), (55, 27, 9, 8, 36, 128, 0), (58, 4, 0, 0, 0, 2, 2), (59, 0, 1, 0, 0, 0, 0), (60, 14, 0, 0, 0, 0, 0), (61, 0, 2, 0, 0, 0, 0), (62, 5, 0, 0, 0, 16, 16), (64, 20, 0, 0, 0, 0, 0), (65, 12, 0, 0, 0, 0, 0), (66, 32, 0, 0, 0, 0, 0), (67, 22, 1, 43, 0, 0, 0), (70, 1, 4, 0, 0, 0, 0), (72, 38, 0, 0, 0, 0, 0), (73, 2, 0, 0, 0, 0, 0), (74, 0, 1, 0, 0, 0, 0), (75, 0, 2, 0, 0, 0, 0), (76, 0, 3, 0, 0, 0, 0), (77, 4, 0, 0, 0, 1, 1), (78, 35, 113, 9, 189, 106, 0), (81, 2, 0, 0, 0, 0, 0), (82, 27, 9, 40, 133, 160, 0), (85, 1, 4, 0, 0, 0, 0), (87, 4, 0, 0, 0, 0, 0), (88, 33, 0, 0, 0, 0, 0), (89, 2, 0, 0, 0, 0, 0), (90, 27, 9, 44, 145, 164, 0), (93, 1, 4, 0, 0, 0, 0), (95, 2, 0, 0, 0, 0, 0), (96, 27, 9, 35, 117, 155, 0), (99, 0, 1, 0, 0, 0, 0), (100, 31, 0, 0, 0, 0, 0), (101, 33, 0, 0, 0, 0, 0), (102, 2, 0, 0, 0, 0, 0), (103, 27, 9, 7, 33, 127, 0), (106, 0, 1, 0, 0, 0, 0), (107, 32, 0, 0, 0, 0, 0), (108, 22, 0, 78, 0, 0, 0), (111, 2, 0, 0, 0, 0, 0), (112, 0, 1, 0, 0, 0, 0), (113, 4, 0, 0, 0, 0, 0), (114, 0, 2, 0, 0, 0, 0), (115, 0, 3, 0, 0, 0, 0), (116, 2, 0, 0, 0, 0, 0), (117, 27, 9, 35, 117, 155, 0), (120, 0, 1, 0, 0, 0, 0), (121, 31, 0, 0, 0, 0, 0), (122, 1, 4, 0, 0, 0, 0), (124, 35, 114, 9, 193, 107, 0), (127, 1, 4, 0, 0, 0, 0), (129, 38, 0, 0, 0, 0, 0)]
def tx_t116 : tw_T := [(0, 2, 0, 0, 0, 0, 0), (1, 27, 9, 19, 69, 139, 0), (4, 0, 1, 0, 0, 0, 0), (5, 31, 0, 0, 0, 0, 0), (6, 22, 2, 51, 0, 0, 0), (9, 2, 0, 0, 0, 0, 0), (10, 27, 9, 45, 148, 165, 0), (13, 5, 0, 0, 0, 20, 20), (15, 23, 3, 51, 0, 0, 0), (18, 2, 0, 0, 0, 0, 0), (19, 27, 9, 46, 151, 166, 0), (22, 2, 0, 0, 0, 0, 0), (23, 27, 9, 45, 148, 165, 0), (26, 2, 0, 0, 0, 0, 0), (27, 27, 9, 19, 69, 139, 0), (30, 0, 1, 0, 0, 0, 0), (31, 31, 0, 0, 0, 0, 0), (32, 33, 0, 0, 0, 0, 0), (33, 2, 0, 0, 0, 0, 0), (34, 27, 9, 47, 154, 167, 0), (37, 2, 0, 0, 0, 0, 0), (38, 27, 9, 45, 148, 165, 0), (41, 2, 0, 0, 0, 0, 0), (42, 27, 9, 20, 72, 140, 0), (45, 0, 1, 0, 0, 0, 0), (46, 31, 0, 0, 0, 0, 0), (47, 33, 0, 0, 0, 0, 0), (48, 2, 0, 0, 0, 0, 0), (49, 27, 9, 48, 157, 168, 0), (52, 2, 0, 0, 0, 0, 0), (53, 27, 9, 45, 148, 165, 0), (56, 2, 0, 0, 0, 0, 0), (57, 27, 9, 21, 75, 141, 0), (60, 0, 1, 0, 0, 0, 0), (61, 31, 0, 0, 0, 0, 0), (62, 33, 0, 0, 0, 0, 0), (63, 2, 0, 0, 0, 0, 0), (64, 27, 9, 49, 160, 169, 0), (67, 2, 0, 0, 0, 0, 0), (68, 27, 9, 45, 148, 165, 0), (71, 2, 0, 0, 0, 0, 0), (72, 27, 9, 22, 78, 142, 0), (75, 0, 1, 0, 0, 0, 0), (76, 31, 0, 0, 0, 0, 0), (77, 33, 0, 0, 0, 0, 0), (78, 2, 0, 0, 0, 0, 0), (79, 25, 0, 0, 0, 0, 0), (80, 27, 9, 45, 148, 165, 0), (83, 4, 0, 0, 0, 1, 1), (84, 12, 0, 0, 0, 0, 0), (85, 28, 9, 45, 148, 165, 0), (88, 4, 0, 0, 0, 0, 0), (89, 7, 2, 0, 0, 0, 0), (90, 0, 2, 0, 0, 0, 0), (91, 2, 0, 0, 0, 0, 0), (92, 27, 9, 39, 130, 159, 0), (95, 23, 3, 75, 0, 0, 0), (98, 2, 0, 0, 0, 0, 0), (99, 27, 9, 42, 139, 162, 0), (102, 0, 2, 0, 0, 0, 0), (103, 31, 0, 0, 0, 0, 0), (104, 0, 1, 0, 0, 0, 0), (105, 23, 1, 73, 0, 0, 0), (108, 2, 0, 0, 0, 0, 0), (109, 27, 9, 40, 133, 160, 0), (112, 0, 2, 0, 0, 0, 0), (113, 31, 0, 0, 0, 0, 0), (114, 22, 1, 73, 0, 0, 0), (117, 2, 0, 0, 0, 0, 0), (118, 27, 9, 40, 133, 160, 0), (121, 0, 2, 0, 0, 0, 0), (122, 4, 0, 0, 0, 2, 2), (123, 33, 0, 0, 0, 0, 0), (124, 11, 2, 0, 0, 1, 1), (127, 24, 0, 53, 0, 0, 0), (130, 2, 0, 0, 0, 0, 0), (131, 27, 9, 5, 27, 125, 0), (134, 0, 1, 0, 0, 0, 0), (135, 4, 0, 0, 0, 0, 0), (136, 34, 0, 0, 0, 0, 0), (137, 2, 0, 0, 0, 0, 0), (138, 27, 9, 7, 33, 127, 0), (141, 0, 1, 0, 0, 0, 0), (142, 4, 0, 0, 0, 0, 0), (143, 34, 0, 0, 0, 0, 0), (144, 2, 0, 0, 0, 0, 0), (145, 27, 9, 19, 69, 139, 0), (148, 0, 1, 0, 0, 0, 0), (149, 4, 0, 0, 0, (-1), (-1)), (150, 33, 0, 0, 0, 0, 0), (151, 2, 0, 0, 0, 0, 0), (152, 27, 9, 23, 81, 143, 0), (155, 0, 1, 0, 0, 0, 0), (156, 4, 0, 0, 0, 0, 0), (157, 34, 0, 0, 0, 0, 0), (158, 2, 0, 0, 0, 0, 0), (159, 27, 9, 26, 90, 146, 0), (162, 0, 1, 0, 0, 0, 0), (163, 4, 0, 0, 0, (-1), (-1)), (164, 33, 0, 0, 0, 0, 0), (165, 2, 0, 0, 0, 0, 0), (166, 27, 9, 33, 111, 153, 0), (169, 0, 1, 0, 0, 0, 0), (170, 4, 0, 0, 0, 0, 0), (171, 34, 0, 0, 0, 0, 0), (172, 2, 0, 0, 0, 0, 0), (173, 27, 9, 34, 114, 154, 0), (176, 0, 1, 0, 0, 0, 0), (177, 4, 0, 0, 0, 0, 0), (178, 33, 0, 0, 0, 0, 0), (179, 2, 0, 0, 0, 0, 0), (180, 27, 9, 35, 117, 155, 0), (183, 0, 1, 0, 0, 0, 0), (184, 4, 0, 0, 0, 0, 0), (185, 33, 0, 0, 0, 0, 0), (186, 2, 0, 0, 0, 0, 0), (187, 27, 9, 8, 36, 128, 0), (190, 4, 0, 0, 0, 2, 2), (191, 0, 1, 0, 0, 0, 0), (192, 14, 0, 0, 0, 0, 0), (193, 4, 0, 0, 0, 0, 0), (194, 34, 0, 0, 0, 0, 0), (195, 2, 0, 0, 0, 0, 0), (196, 27, 9, 8, 36, 128, 0), (199, 4, 0, 0, 0, 2, 2), (200, 0, 1, 0, 0, 0, 0), (201, 14, 0, 0, 0, 0, 0), (202, 4, 0, 0, 0, 1, 1), (203, 12, 0, 0, 0, 0, 0), (204, 4, 0, 0, 0, 0, 0), (205, 34, 0, 0, 0, 0, 0), (206, 4, 0, 0, 0, 0, 0), (207, 7, 2, 0, 0, 0, 0), (208, 0, 2, 0, 0, 0, 0), (209, 5, 0, 0, 0, 32, 32), (211, 23, 3, 165, 0, 0, 0), (214, 2, 0, 0, 0, 0, 0), (215, 27, 9, 9, 39, 129, 0), (218, 5, 0, 0, 0, 32, 32), (220, 0, 1, 0, 0, 0, 0), (221, 14, 0, 0, 0, 0, 0), (222, 0, 2, 0, 0, 0, 0), (223, 12, 0, 0, 0, 0, 0), (224, 4, 0, 0, 0, 0, 0), (225, 34, 0, 0, 0, 0, 0), (226, 2, 0, 0, 0, 0, 0), (227, 27, 9, 12, 48, 132, 0), (230, 5, 0, 0, 0, 32, 32), (232, 0, 1, 0, 0, 0, 0), (233, 14, 0, 0, 0, 0, 0), (234, 0, 2, 0, 0, 0, 0), (235, 12, 0, 0, 0, 0, 0), (236, 4, 0, 0, 0, 0, 0), (237, 34, 0, 0, 0, 0, 0), (238, 2, 0, 0, 0, 0, 0), (239, 27, 9, 13, 51, 133, 0), (242, 5, 0, 0, 0, 32, 32), (244, 0, 1, 0, 0, 0, 0), (245, 14, 0, 0, 0, 0, 0), (246, 0, 2, 0, 0, 0, 0), (247, 12, 0, 0, 0, 0, 0), (248, 4, 0, 0, 0, 0, 0), (249, 34, 0, 0, 0, 0, 0), (250, 11, 2, 0, 0, 1, 1), (253, 24, 0, 133, 0, 0, 0), (256, 4, 0, 0, 0, 0, 0), (257, 7, 2, 0, 0, 0, 0), (258, 0, 2, 0, 0, 0, 0), (259, 5, 0, 0, 0, 8, 8), (261, 23, 3, 199, 0, 0, 0), (264, 2, 0, 0, 0, 0, 0), (265, 27, 9, 16, 60, 136, 0), (268, 5, 0, 0, 0, 8, 8), (270, 0, 1, 0, 0, 0, 0), (271, 14, 0, 0, 0, 0, 0), (272, 0, 2, 0, 0, 0, 0), (273, 12, 0, 0, 0, 0, 0), (274, 4, 0, 0, 0, 0, 0), (275, 34, 0, 0, 0, 0, 0), (276, 2, 0, 0, 0, 0, 0), (277, 27, 9, 17, 63, 137, 0), (280, 5, 0, 0, 0, 8, 8), (282, 0, 1, 0, 0, 0, 0), (283, 14, 0, 0, 0, 0, 0), (284, 0, 2, 0, 0, 0, 0), (285, 12, 0, 0, 0, 0, 0), (286, 4, 0, 0, 0, 0, 0), (287, 34, 0, 0, 0, 0, 0), (288, 2, 0, 0, 0, 0, 0), (289, 27, 9, 18, 66, 138, 0), (292, 5, 0, 0, 0, 8, 8), (294, 0, 1, 0, 0, 0, 0), (295, 14, 0, 0, 0, 0, 0), (296, 0, 2, 0, 0, 0, 0), (297, 12, 0, 0, 0, 0, 0), (298, 4, 0, 0, 0, 0, 0), (299, 34, 0, 0, 0, 0, 0), (300, 11, 2, 0, 0, 1, 1), (303, 24, 0, 167, 0, 0, 0), (306, 40, 0, 0, 0, 0, 0)]
def tx_t117 : tw_T := [(0, 4, 0, 0, 0, 4, 4), (1, 0, 0, 0, 0, 0, 0), (2, 4, 0, 0, 0, 5, 5), (3, 21, 0, 0, 0, 0, 0), (4, 13, 0, 0, 0, 0, 0), (5, 38, 0, 0, 0, 0, 0)]
def tx_t118 : tw_T := [(0, 0, 0, 0, 0, 0, 0), (1, 4, 0, 0, 0, 4, 4), (2, 21, 0, 0, 0, 0, 0), (3, 7, 1, 0, 0, 0, 0), (4, 0, 1, 0, 0, 0, 0), (5, 0, 0, 0, 0, 0, 0), (6, 4, 0, 0, 0, 4, 4), (7, 20, 0, 0, 0, 0, 0), (8, 36, 117, 0, 163, 108, 0), (11, 23, 2, 11, 0, 0, 0), (14, 11, 1, 0, 0, 1, 1), (17, 0, 1, 0, 0, 0, 0), (18, 38, 0, 0, 0, 0, 0)]
def tx_t119 : tw_T := [(0, 2, 0, 0, 0, 0, 0), (1, 27, 9, 4, 24, 124, 0), (4, 5, 0, 0, 0, 8, 8), (6, 0, 1, 0, 0, 0, 0), (7, 14, 0, 0, 0, 0, 0), (8, 0, 2, 0, 0, 0, 0), (9, 12, 0, 0, 0, 0, 0), (10, 32, 0, 0, 0, 0, 0), (11, 39, 0, 0, 0, 0, 0)]
def tx_t120 : tw_T := [(0, 4, 0, 0, 0, 0, 0), (1, 7, 3, 0, 0, 0, 0), (2, 0, 3, 0, 0, 0, 0), (3, 4, 0, 0, 0, 5, 5), (4, 23, 3, 17, 0, 0, 0), (7, 0, 3, 0, 0, 0, 0), (8, 0, 1, 0, 0, 0, 0), (9, 23, 0, 15, 0, 0, 0), (12, 2, 0, 0, 0, 0, 0), (13, 0, 3, 0, 0, 0, 0), (14, 0, 2, 0, 0, 0, 0), (15, 35, 119, 9, 167, 109, 0), (18, 22, 0, 15, 0, 0, 0), (21, 4, 0, 0, 0, 0, 0), (22, 39, 0, 0, 0, 0, 0), (23, 11, 3, 0, 0, 1, 1), (26, 24, 0, 2, 0, 0, 0), (29, 4, 0, 0, 0, 1, 1), (30, 39, 0, 0, 0, 0, 0)]
def tx_t121 : tw_T := [(0, 0, 1, 0, 0, 0, 0), (1, 36, 118, 0, 171, 110, 0), (4, 7, 2, 0, 0, 0, 0), (5, 2, 0, 0, 0, 0, 0), (6, 0, 2, 0, 0, 0, 0), (7, 0, 1, 0, 0, 0, 0), (8, 4, 0, 0, 0, 4, 4), (9, 20, 0, 0, 0, 0, 0), (10, 35, 119, 9, 167, 109, 0), (13, 22, 0, 19, 0, 0, 0), (16, 2, 0, 0, 0, 0, 0), (17, 0, 2, 0, 0, 0, 0), (18, 0, 1, 0, 0, 0, 0), (19, 4, 0, 0, 0, 4, 4), (20, 20, 0, 0, 0, 0, 0), (21, 35, 120, 9, 174, 111, 0), (24, 22, 1, 19, 0, 0, 0), (27, 4, 0, 0, 0, 1, 1), (28, 24, 0, 20, 0, 0, 0), (31, 4, 0, 0, 0, 0, 0), (32, 39, 0, 0, 0, 0, 0)]
def tx_t122 : tw_T := [(0, 4, 0, 0, 0, 0, 0), (1, 7, 3, 0, 0, 0, 0), (2, 4, 0, 0, 0, 0, 0), (3, 8, 4, 0, 0, 0, 0), (5, 1, 4, 0, 0, 0, 0), (7, 4, 0, 0, 0, 5, 5), (8, 23, 3, 23, 0, 0, 0), (11, 1, 4, 0, 0, 0, 0), (13, 0, 1, 0, 0, 0, 0), (14, 23, 0, 21, 0, 0, 0), (17, 0, 3, 0, 0, 0, 0), (18, 2, 0, 0, 0, 0, 0), (19, 27, 9, 3, 21, 123, 0), (22, 5, 0, 0, 0, 8, 8), (24, 1, 4, 0, 0, 0, 0), (26, 14, 0, 0, 0, 0, 0), (27, 0, 2, 0, 0, 0, 0), (28, 12, 0, 0, 0, 0, 0), (29, 31, 0, 0, 0, 0, 0), (30, 17, 0, 0, 0, 0, 0), (31, 7, 3, 0, 0, 0, 0), (32, 11, 4, 0, 0, 1, 1), (35, 24, 0, 4, 0, 0, 0), (38, 0, 3, 0, 0, 0, 0), (39, 38, 0, 0, 0, 0, 0)]
def tx_t123 : tw_T := [(0, 0, 1, 0, 0, 0, 0), (1, 36, 118, 0, 171, 110, 0), (4, 7, 2, 0, 0, 0, 0), (5, 2, 0, 0, 0, 0, 0), (6, 0, 2, 0, 0, 0, 0), (7, 0, 1, 0, 0, 0, 0), (8, 4, 0, 0, 0, 4, 4), (9, 20, 0, 0, 0, 0, 0), (10, 35, 119, 9, 167, 109, 0), (13, 22, 0, 17, 0, 0, 0), (16, 2, 0, 0, 0, 0, 0), (17, 0, 2, 0, 0, 0, 0), (18, 0, 1, 0, 0, 0, 0), (19, 4, 0, 0, 0, 4, 4), (20, 20, 0, 0, 0, 0, 0), (21, 35, 122, 9, 177, 112, 0), (24, 38, 0, 0, 0, 0, 0), (25, 2, 0, 0, 0, 0, 0), (26, 27, 9, 3, 21, 123, 0), (29, 5, 0, 0, 0, 8, 8), (31, 0, 2, 0, 0, 0, 0), (32, 14, 0, 0, 0, 0, 0), (33, 0, 1, 0, 0, 0, 0), (34, 4, 0, 0, 0, 4, 4), (35, 20, 0, 0, 0, 0, 0), (36, 12, 0, 0, 0, 0, 0), (37, 31, 0, 0, 0, 0, 0), (38, 38, 0, 0, 0, 0, 0)]
def tx_t124 : tw_T := [(0, 2, 0, 0, 0, 0, 0), (1, 4, 0, 0, 0, 0, 0), (2, 28, 9, 0, 7, 120, 0), (5, 0, 1, 0, 0, 0, 0), (6, 4, 0, 0, 0, 0, 0), (7, 4, 0, 0, 0, 1, 1), (8, 36, 111, 0, 181, 104, 0), (11, 22, 0, 17, 0, 0, 0), (14, 0, 2, 0, 0, 0, 0), (15, 4, 0, 0, 0, 0, 0), (16, 5, 0, 0, 0, 31, 31), (18, 36, 111, 0, 181, 104, 0), (21, 22, 0, 17, 0, 0, 0), (24, 2, 0, 0, 0, 0, 0), (25, 27, 9, 39, 130, 159, 0), (28, 6, 0, 0, 0, 200, 200), (31, 23, 1, 19, 0, 0, 0), (34, 4, 0, 0, 0, (-1), (-1)), (35, 38, 0, 0, 0, 0, 0), (36, 2, 0, 0, 0, 0, 0), (37, 0, 1, 0, 0, 0, 0), (38, 0, 2, 0, 0, 0, 0), (39, 4, 0, 0, 0, 0, 0), (40, 35, 112, 9, 185, 105, 0), (43, 7, 3, 0, 0, 0, 0), (44, 2, 0, 0, 0, 0, 0), (45, 27, 9, 5, 27, 125, 0), (48, 0, 1, 0, 0, 0, 0), (49, 32, 0, 0, 0, 0, 0), (50, 22, 0, 41, 0, 0, 0), (53, 2, 0, 0, 0, 0, 0), (54, 27, 9, 8, 36, 128, 0), (57, 4, 0, 0, 0, 2, 2), (58, 0, 1, 0, 0, 0, 0), (59, 14, 0, 0, 0, 0, 0), (60, 0, 2, 0, 0, 0, 0), (61, 5, 0, 0, 0, 16, 16), (63, 20, 0, 0, 0, 0, 0), (64, 12, 0, 0, 0, 0, 0), (65, 32, 0, 0, 0, 0, 0), (66, 22, 1, 43, 0, 0, 0), (69, 0, 3, 0, 0, 0, 0), (70, 38, 0, 0, 0, 0, 0), (71, 4, 0, 0, 0, 0, 0), (72, 8, 4, 0, 0, 0, 0), (74, 4, 0, 0, 0, 0, 0), (75, 8, 5, 0, 0, 0, 0), (77, 1, 5, 0, 0, 0, 0), (79, 4, 0, 0, 0, 5, 5), (80, 23, 3, 67, 0, 0, 0), (83, 2, 0, 0, 0, 0, 0), (84, 27, 9, 1, 13, 121, 0), (87, 1, 5, 0, 0, 0, 0), (89, 32, 0, 0, 0, 0, 0), (90, 22, 0, 65, 0, 0, 0), (93, 2, 0, 0, 0, 0, 0), (94, 27, 9, 2, 17, 122, 0), (97, 1, 5, 0, 0, 0, 0), (99, 31, 0, 0, 0, 0, 0), (100, 2, 0, 0, 0, 0, 0), (101, 27, 9, 6, 30, 126, 0), (104, 0, 1, 0, 0, 0, 0), (105, 31, 0, 0, 0, 0, 0), (106, 23, 0, 65, 0, 0, 0), (109, 11, 4, 0, 0, 1, 1), (112, 11, 5, 0, 0, 1, 1), (115, 24, 0, 47, 0, 0, 0), (118, 1, 4, 0, 0, 0, 0), (120, 4, 0, 0, 0, 3, 3), (121, 23, 2, 75, 0, 0, 0), (124, 2, 0, 0, 0, 0, 0), (125, 0, 1, 0, 0, 0, 0), (126, 35, 116, 9, 197, 113, 0), (129, 0, 3, 0, 0, 0, 0), (130, 38, 0, 0, 0, 0, 0), (131, 2, 0, 0, 0, 0, 0), (132, 27, 9, 9, 39, 129, 0), (135, 5, 0, 0, 0, 32, 32), (137, 0, 1, 0, 0, 0, 0), (138, 14, 0, 0, 0, 0, 0), (139, 0, 2, 0, 0, 0, 0), (140, 12, 0, 0, 0, 0, 0), (141, 32, 0, 0, 0, 0, 0), (142, 22, 1, 98, 0, 0, 0), (145, 2, 0, 0, 0, 0, 0), (146, 0, 2, 0, 0, 0, 0), (147, 35, 121, 9, 201, 114, 0), (150, 22, 0, 90, 0, 0, 0), (153, 0, 3, 0, 0, 0, 0), (154, 38, 0, 0, 0, 0, 0), (155, 2, 0, 0, 0, 0, 0), (156, 0, 1, 0, 0, 0, 0), (157, 0, 2, 0, 0, 0, 0), (158, 2, 0, 0, 0, 0, 0), (159, 0, 2, 0, 0, 0, 0), (160, 35, 123, 9, 205, 115, 0), (163, 4, 0, 0, 0, 0, 0), (164, 35, 113, 9, 189, 106, 0), (167, 2, 0, 0, 0, 0, 0), (168, 27, 9, 40, 133, 160, 0), (171, 0, 3, 0, 0, 0, 0), (172, 4, 0, 0, 0, 1, 1), (173, 33, 0, 0, 0, 0, 0), (174, 2, 0, 0, 0, 0, 0), (175, 27, 9, 41, 136, 161, 0), (178, 0, 3, 0, 0, 0, 0), (179, 2, 0, 0, 0, 0, 0), (180, 27, 9, 10, 42, 130, 0), (183, 5, 0, 0, 0, 32, 32), (185, 0, 1, 0, 0, 0, 0), (186, 14, 0, 0, 0, 0, 0), (187, 0, 2, 0, 0, 0, 0), (188, 12, 0, 0, 0, 0, 0), (189, 31, 0, 0, 0, 0, 0), (190, 33, 0, 0, 0, 0, 0), (191, 0, 3, 0, 0, 0, 0), (192, 38, 0, 0, 0, 0, 0)]
def tx_t125 : tw_T := [(0, 2, 0, 0, 0, 0, 0), (1, 4, 0, 0, 0, 0, 0), (2, 28, 9, 0, 7, 120, 0), (5, 0, 1, 0, 0, 0, 0), (6, 4, 0, 0, 0, 0, 0), (7, 2, 0, 0, 0, 0, 0), (8, 27, 9, 39, 130, 159, 0), (11, 4, 0, 0, 0, 1, 1), (12, 13, 0, 0, 0, 0, 0), (13, 36, 111, 0, 181, 104, 0), (16, 22, 1, 16, 0, 0, 0), (19, 2, 0, 0, 0, 0, 0), (20, 4, 0, 0, 0, 1, 1), (21, 28, 9, 0, 7, 120, 0), (24, 4, 0, 0, 0, 0, 0), (25, 38, 0, 0, 0, 0, 0), (26, 2, 0, 0, 0, 0, 0), (27, 27, 9, 40, 133, 160, 0), (30, 0, 1, 0, 0, 0, 0), (31, 31, 0, 0, 0, 0, 0), (32, 38, 0, 0, 0, 0, 0)]
def tx_t126 : tw_T := [(0, 2, 0, 0, 0, 0, 0), (1, 4, 0, 0, 0, 0, 0), (2, 28, 9, 0, 7, 120, 0), (5, 0, 1, 0, 0, 0, 0), (6, 4, 0, 0, 0, 0, 0), (7, 2, 0, 0, 0, 0, 0), (8, 27, 9, 39, 130, 159, 0), (11, 4, 0, 0, 0, 1, 1), (12, 13, 0, 0, 0, 0, 0), (13, 36, 111, 0, 181, 104, 0), (16, 22, 1, 16, 0, 0, 0), (19, 2, 0, 0, 0, 0, 0), (20, 4, 0, 0, 0, 1, 1), (21, 28, 9, 0, 7, 120, 0), (24, 4, 0, 0, 0, 0, 0), (25, 38, 0, 0, 0, 0, 0), (26, 2, 0, 0, 0, 0, 0), (27, 27, 9, 41, 136, 161, 0), (30, 0, 1, 0, 0, 0, 0), (31, 31, 0, 0, 0, 0, 0), (32, 38, 0, 0, 0, 0, 0)]
def tx_t127 : tw_T := [(0, 2, 0, 0, 0, 0, 0), (1, 27, 9, 3, 21, 123, 0), (4, 5, 0, 0, 0, 8, 8), (6, 0, 1, 0, 0, 0, 0), (7, 14, 0, 0, 0, 0, 0), (8, 0, 2, 0, 0, 0, 0), (9, 12, 0, 0, 0, 0, 0), (10, 0, 3, 0, 0, 0, 0), (11, 33, 0, 0, 0, 0, 0), (12, 2, 0, 0, 0, 0, 0), (13, 27, 9, 4, 24, 124, 0), (16, 5, 0, 0, 0, 8, 8), (18, 0, 1, 0, 0, 0, 0), (19, 14, 0, 0, 0, 0, 0), (20, 0, 2, 0, 0, 0, 0), (21, 12, 0, 0, 0, 0, 0), (22, 4, 0, 0, 0, 0, 0), (23, 34, 0, 0, 0, 0, 0), (24, 40, 0, 0, 0, 0, 0)]
def tx_t128 : tw_T := [(0, 2, 0, 0, 0, 0, 0), (1, 27, 9, 19, 69, 139, 0), (4, 0, 1, 0, 0, 0, 0), (5, 31, 0, 0, 0, 0, 0), (6, 7, 2, 0, 0, 0, 0), (7, 2, 0, 0, 0, 0, 0), (8, 27, 9, 19, 69, 139, 0), (11, 0, 1, 0, 0, 0, 0), (12, 4, 0, 0, 0, (-1), (-1)), (13, 33, 0, 0, 0, 0, 0), (14, 2, 0, 0, 0, 0, 0), (15, 27, 9, 1, 13, 121, 0), (18, 0, 2, 0, 0, 0, 0), (19, 32, 0, 0, 0, 0, 0), (20, 22, 1, 16, 0, 0, 0), (23, 40, 0, 0, 0, 0, 0), (24, 2, 0, 0, 0, 0, 0), (25, 27, 9, 2, 17, 122, 0), (28, 0, 2, 0, 0, 0, 0), (29, 31, 0, 0, 0, 0, 0), (30, 2, 0, 0, 0, 0, 0), (31, 27, 9, 22, 78, 142, 0), (34, 0, 1, 0, 0, 0, 0), (35, 31, 0, 0, 0, 0, 0), (36, 23, 1, 37, 0, 0, 0), (39, 2, 0, 0, 0, 0, 0), (40, 0, 2, 0, 0, 0, 0), (41, 2, 0, 0, 0, 0, 0), (42, 27, 9, 20, 72, 140, 0), (45, 0, 1, 0, 0, 0, 0), (46, 31, 0, 0, 0, 0, 0), (47, 2, 0, 0, 0, 0, 0), (48, 27, 9, 21, 75, 141, 0), (51, 0, 1, 0, 0, 0, 0), (52, 31, 0, 0, 0, 0, 0), (53, 35, 127, 9, 208, 116, 0), (56, 24, 0, 40, 0, 0, 0), (59, 2, 0, 0, 0, 0, 0), (60, 0, 1, 0, 0, 0, 0), (61, 35, 116, 9, 197, 113, 0), (64, 40, 0, 0, 0, 0, 0)]
def tx_t129 : tw_T := [(0, 2, 0, 0, 0, 0, 0), (1, 27, 9, 24, 84, 144, 0), (4, 0, 1, 0, 0, 0, 0), (5, 31, 0, 0, 0, 0, 0), (6, 4, 0, 0, 0, 5, 5), (7, 23, 3, 23, 0, 0, 0), (10, 2, 0, 0, 0, 0, 0), (11, 27, 9, 1, 13, 121, 0), (14, 2, 0, 0, 0, 0, 0), (15, 27, 9, 24, 84, 144, 0), (18, 0, 1, 0, 0, 0, 0), (19, 31, 0, 0, 0, 0, 0), (20, 32, 0, 0, 0, 0, 0), (21, 22, 1, 23, 0, 0, 0), (24, 2, 0, 0, 0, 0, 0), (25, 27, 9, 24, 84, 144, 0), (28, 0, 1, 0, 0, 0, 0), (29, 26, 0, 0, 0, 0, 0), (30, 31, 0, 0, 0, 0, 0), (31, 4, 0, 0, 0, 1, 1), (32, 12, 0, 0, 0, 0, 0), (33, 33, 0, 0, 0, 0, 0), (34, 24, 0, 0, 0, 0, 0), (37, 2, 0, 0, 0, 0, 0), (38, 27, 9, 24, 84, 144, 0), (41, 0, 1, 0, 0, 0, 0), (42, 31, 0, 0, 0, 0, 0), (43, 4, 0, 0, 0, 5, 5), (44, 23, 3, 57, 0, 0, 0), (47, 2, 0, 0, 0, 0, 0), (48, 27, 9, 2, 17, 122, 0), (51, 2, 0, 0, 0, 0, 0), (52, 27, 9, 24, 84, 144, 0), (55, 0, 1, 0, 0, 0, 0), (56, 31, 0, 0, 0, 0, 0), (57, 2, 0, 0, 0, 0, 0), (58, 27, 9, 6, 30, 126, 0), (61, 0, 1, 0, 0, 0, 0), (62, 31, 0, 0, 0, 0, 0), (63, 33, 0, 0, 0, 0, 0), (64, 2, 0, 0, 0, 0, 0), (65, 27, 9, 24, 84, 144, 0), (68, 0, 1, 0, 0, 0, 0), (69, 26, 0, 0, 0, 0, 0), (70, 31, 0, 0, 0, 0, 0), (71, 4, 0, 0, 0, 1, 1), (72, 12, 0, 0, 0, 0, 0), (73, 33, 0, 0, 0, 0, 0), (74, 2, 0, 0, 0, 0, 0), (75, 27, 9, 25, 87, 145, 0), (78, 0, 1, 0, 0, 0, 0), (79, 26, 0, 0, 0, 0, 0), (80, 31, 0, 0, 0, 0, 0), (81, 4, 0, 0, 0, 1, 1), (82, 12, 0, 0, 0, 0, 0), (83, 33, 0, 0, 0, 0, 0), (84, 40, 0, 0, 0, 0, 0), (85, 2, 0, 0, 0, 0, 0), (86, 27, 9, 23, 81, 143, 0), (89, 0, 1, 0, 0, 0, 0), (90, 4, 0, 0, 0, 0, 0), (91, 34, 0, 0, 0, 0, 0), (92, 2, 0, 0, 0, 0, 0), (93, 27, 9, 25, 87, 145, 0), (96, 0, 1, 0, 0, 0, 0), (97, 31, 0, 0, 0, 0, 0), (98, 4, 0, 0, 0, 4, 4), (99, 23, 3, 72, 0, 0, 0), (102, 2, 0, 0, 0, 0, 0), (103, 0, 1, 0, 0, 0, 0), (104, 35, 116, 9, 197, 113, 0), (107, 40, 0, 0, 0, 0, 0), (108, 2, 0, 0, 0, 0, 0), (109, 27, 9, 8, 36, 128, 0), (112, 4, 0, 0, 0, 2, 2), (113, 0, 1, 0, 0, 0, 0), (114, 14, 0, 0, 0, 0, 0), (115, 4, 0, 0, 0, 1, 1), (116, 34, 0, 0, 0, 0, 0), (117, 2, 0, 0, 0, 0, 0), (118, 27, 9, 8, 36, 128, 0), (121, 4, 0, 0, 0, 2, 2), (122, 0, 1, 0, 0, 0, 0), (123, 14, 0, 0, 0, 0, 0), (124, 4, 0, 0, 0, 1, 1), (125, 12, 0, 0, 0, 0, 0), (126, 4, 0, 0, 0, 1, 1), (127, 34, 0, 0, 0, 0, 0), (128, 4, 0, 0, 0, 0, 0), (129, 7, 2, 0, 0, 0, 0), (130, 0, 2, 0, 0, 0, 0), (131, 5, 0, 0, 0, 32, 32), (133, 23, 3, 127, 0, 0, 0), (136, 2, 0, 0, 0, 0, 0), (137, 27, 9, 13, 51, 133, 0), (140, 5, 0, 0, 0, 32, 32), (142, 0, 1, 0, 0, 0, 0), (143, 14, 0, 0, 0, 0, 0), (144, 0, 2, 0, 0, 0, 0), (145, 12, 0, 0, 0, 0, 0), (146, 32, 0, 0, 0, 0, 0), (147, 22, 1, 103, 0, 0, 0), (150, 24, 0, 125, 0, 0, 0), (153, 2, 0, 0, 0, 0, 0), (154, 0, 1, 0, 0, 0, 0), (155, 0, 2, 0, 0, 0, 0), (156, 2, 0, 0, 0, 0, 0), (157, 27, 9, 14, 54, 134, 0), (160, 5, 0, 0, 0, 32, 32), (162, 0, 1, 0, 0, 0, 0), (163, 14, 0, 0, 0, 0, 0), (164, 0, 2, 0, 0, 0, 0), (165, 12, 0, 0, 0, 0, 0), (166, 31, 0, 0, 0, 0, 0), (167, 4, 0, 0, 0, 1, 1), (168, 35, 113, 9, 189, 106, 0), (171, 2, 0, 0, 0, 0, 0), (172, 27, 9, 13, 51, 133, 0), (175, 5, 0, 0, 0, 32, 32), (177, 0, 1, 0, 0, 0, 0), (178, 14, 0, 0, 0, 0, 0), (179, 0, 2, 0, 0, 0, 0), (180, 12, 0, 0, 0, 0, 0), (181, 4, 0, 0, 0, 0, 0), (182, 34, 0, 0, 0, 0, 0), (183, 11, 2, 0, 0, 1, 1), (186, 24, 0, 90, 0, 0, 0), (189, 4, 0, 0, 0, 0, 0), (190, 7, 2, 0, 0, 0, 0), (191, 0, 2, 0, 0, 0, 0), (192, 5, 0, 0, 0, 8, 8), (194, 23, 3, 171, 0, 0, 0), (197, 2, 0, 0, 0, 0, 0), (198, 27, 9, 17, 63, 137, 0), (201, 5, 0, 0, 0, 8, 8), (203, 0, 1, 0, 0, 0, 0), (204, 14, 0, 0, 0, 0, 0), (205, 0, 2, 0, 0, 0, 0), (206, 12, 0, 0, 0, 0, 0), (207, 32, 0, 0, 0, 0, 0), (208, 22, 1, 142, 0, 0, 0), (211, 24, 0, 169, 0, 0, 0), (214, 2, 0, 0, 0, 0, 0), (215, 27, 9, 16, 60, 136, 0), (218, 5, 0, 0, 0, 8, 8), (220, 0, 1, 0, 0, 0, 0), (221, 14, 0, 0, 0, 0, 0), (222, 0, 2, 0, 0, 0, 0), (223, 12, 0, 0, 0, 0, 0), (224, 4, 0, 0, 0, 1, 1), (225, 34, 0, 0, 0, 0, 0), (226, 2, 0, 0, 0, 0, 0), (227, 27, 9, 18, 66, 138, 0), (230, 5, 0, 0, 0, 8, 8), (232, 0, 1, 0, 0, 0, 0), (233, 14, 0, 0, 0, 0, 0), (234, 0, 2, 0, 0, 0, 0), (235, 12, 0, 0, 0, 0, 0), (236, 4, 0, 0, 0, 1, 1), (237, 34, 0, 0, 0, 0, 0), (238, 2, 0, 0, 0, 0, 0), (239, 27, 9, 17, 63, 137, 0), (242, 5, 0, 0, 0, 8, 8), (244, 0, 1, 0, 0, 0, 0), (245, 14, 0, 0, 0, 0, 0), (246, 0, 2, 0, 0, 0, 0), (247, 12, 0, 0, 0, 0, 0), (248, 4, 0, 0, 0, 0, 0), (249, 34, 0, 0, 0, 0, 0), (250, 11, 2, 0, 0, 1, 1), (253, 24, 0, 129, 0, 0, 0), (256, 40, 0, 0, 0, 0, 0)]
def tx_t130 : tw_T := [(0, 4, 0, 0, 0, 0, 0), (1, 7, 3, 0, 0, 0, 0), (2, 0, 3, 0, 0, 0, 0), (3, 5, 0, 0, 0, 8, 8), (5, 23, 3, 17, 0, 0, 0), (8, 2, 1, 0, 0, 0, 0), (9, 5, 0, 0, 0, 8, 8), (11, 0, 2, 0, 0, 0, 0), (12, 14, 0, 0, 0, 0, 0), (13, 0, 3, 0, 0, 0, 0), (14, 12, 0, 0, 0, 0, 0), (15, 32, 0, 0, 0, 0, 0), (16, 22, 0, 15, 0, 0, 0), (19, 0, 3, 0, 0, 0, 0), (20, 38, 0, 0, 0, 0, 0), (21, 11, 3, 0, 0, 1, 1), (24, 24, 0, 2, 0, 0, 0), (27, 4, 0, 0, 0, (-1), (-1)), (28, 38, 0, 0, 0, 0, 0)]
def tx_t131 : tw_T := [(0, 2, 0, 0, 0, 0, 0), (1, 27, 9, 19, 69, 139, 0), (4, 0, 1, 0, 0, 0, 0), (5, 0, 2, 0, 0, 0, 0), (6, 33, 0, 0, 0, 0, 0), (7, 2, 0, 0, 0, 0, 0), (8, 27, 9, 20, 72, 140, 0), (11, 0, 1, 0, 0, 0, 0), (12, 0, 3, 0, 0, 0, 0), (13, 33, 0, 0, 0, 0, 0), (14, 2, 0, 0, 0, 0, 0), (15, 27, 9, 21, 75, 141, 0), (18, 0, 1, 0, 0, 0, 0), (19, 1, 4, 0, 0, 0, 0), (21, 33, 0, 0, 0, 0, 0), (22, 2, 0, 0, 0, 0, 0), (23, 27, 9, 22, 78, 142, 0), (26, 0, 1, 0, 0, 0, 0), (27, 2, 0, 0, 0, 0, 0), (28, 27, 9, 6, 30, 126, 0), (31, 0, 1, 0, 0, 0, 0), (32, 31, 0, 0, 0, 0, 0), (33, 33, 0, 0, 0, 0, 0), (34, 40, 0, 0, 0, 0, 0)]
def tx_t132 : tw_T := [(0, 2, 0, 0, 0, 0, 0), (1, 2, 0, 0, 0, 0, 0), (2, 27, 9, 18, 66, 138, 0), (5, 0, 1, 0, 0, 0, 0), (6, 35, 130, 9, 212, 117, 0), (9, 7, 2, 0, 0, 0, 0), (10, 2, 0, 0, 0, 0, 0), (11, 27, 9, 18, 66, 138, 0), (14, 5, 0, 0, 0, 8, 8), (16, 0, 1, 0, 0, 0, 0), (17, 14, 0, 0, 0, 0, 0), (18, 0, 2, 0, 0, 0, 0), (19, 12, 0, 0, 0, 0, 0), (20, 4, 0, 0, 0, 0, 0), (21, 34, 0, 0, 0, 0, 0), (22, 0, 2, 0, 0, 0, 0), (23, 36, 117, 0, 163, 108, 0), (26, 7, 3, 0, 0, 0, 0), (27, 2, 0, 0, 0, 0, 0), (28, 0, 3, 0, 0, 0, 0), (29, 0, 2, 0, 0, 0, 0), (30, 35, 119, 9, 167, 109, 0), (33, 22, 1, 37, 0, 0, 0), (36, 2, 0, 0, 0, 0, 0), (37, 0, 3, 0, 0, 0, 0), (38, 0, 2, 0, 0, 0, 0), (39, 35, 120, 9, 174, 111, 0), (42, 22, 0, 37, 0, 0, 0), (45, 2, 0, 0, 0, 0, 0), (46, 0, 1, 0, 0, 0, 0), (47, 0, 3, 0, 0, 0, 0), (48, 0, 2, 0, 0, 0, 0), (49, 2, 0, 0, 0, 0, 0), (50, 0, 3, 0, 0, 0, 0), (51, 0, 2, 0, 0, 0, 0), (52, 35, 122, 9, 177, 112, 0), (55, 35, 131, 9, 216, 118, 0), (58, 40, 0, 0, 0, 0, 0)]
def tx_t133 : tw_T := [(0, 2, 0, 0, 0, 0, 0), (1, 27, 9, 26, 90, 146, 0), (4, 0, 1, 0, 0, 0, 0), (5, 31, 0, 0, 0, 0, 0), (6, 7, 2, 0, 0, 0, 0), (7, 2, 0, 0, 0, 0, 0), (8, 27, 9, 27, 93, 147, 0), (11, 0, 1, 0, 0, 0, 0), (12, 31, 0, 0, 0, 0, 0), (13, 4, 0, 0, 0, 4, 4), (14, 23, 3, 45, 0, 0, 0), (17, 2, 0, 0, 0, 0, 0), (18, 27, 9, 28, 96, 148, 0), (21, 4, 0, 0, 0, 4, 4), (22, 0, 1, 0, 0, 0, 0), (23, 14, 0, 0, 0, 0, 0), (24, 2, 0, 0, 0, 0, 0), (25, 27, 9, 27, 93, 147, 0), (28, 0, 1, 0, 0, 0, 0), (29, 31, 0, 0, 0, 0, 0), (30, 12, 0, 0, 0, 0, 0), (31, 32, 0, 0, 0, 0, 0), (32, 22, 0, 36, 0, 0, 0), (35, 2, 0, 0, 0, 0, 0), (36, 27, 9, 1, 13, 121, 0), (39, 4, 0, 0, 0, 4, 4), (40, 0, 2, 0, 0, 0, 0), (41, 14, 0, 0, 0, 0, 0), (42, 2, 0, 0, 0, 0, 0), (43, 27, 9, 27, 93, 147, 0), (46, 0, 1, 0, 0, 0, 0), (47, 31, 0, 0, 0, 0, 0), (48, 12, 0, 0, 0, 0, 0), (49, 36, 118, 0, 171, 110, 0), (52, 32, 0, 0, 0, 0, 0), (53, 22, 1, 45, 0, 0, 0), (56, 2, 0, 0, 0, 0, 0), (57, 27, 9, 27, 93, 147, 0), (60, 0, 1, 0, 0, 0, 0), (61, 26, 0, 0, 0, 0, 0), (62, 31, 0, 0, 0, 0, 0), (63, 4, 0, 0, 0, 1, 1), (64, 12, 0, 0, 0, 0, 0), (65, 33, 0, 0, 0, 0, 0), (66, 24, 0, 5, 0, 0, 0), (69, 2, 0, 0, 0, 0, 0), (70, 27, 9, 27, 93, 147, 0), (73, 0, 1, 0, 0, 0, 0), (74, 31, 0, 0, 0, 0, 0), (75, 4, 0, 0, 0, 4, 4), (76, 23, 3, 84, 0, 0, 0), (79, 2, 0, 0, 0, 0, 0), (80, 0, 1, 0, 0, 0, 0), (81, 4, 0, 0, 0, 4, 4), (82, 0, 2, 0, 0, 0, 0), (83, 14, 0, 0, 0, 0, 0), (84, 2, 0, 0, 0, 0, 0), (85, 27, 9, 27, 93, 147, 0), (88, 0, 1, 0, 0, 0, 0), (89, 31, 0, 0, 0, 0, 0), (90, 12, 0, 0, 0, 0, 0), (91, 36, 118, 0, 171, 110, 0), (94, 0, 2, 0, 0, 0, 0), (95, 2, 0, 0, 0, 0, 0), (96, 27, 9, 29, 99, 149, 0), (99, 4, 0, 0, 0, 4, 4), (100, 0, 1, 0, 0, 0, 0), (101, 14, 0, 0, 0, 0, 0), (102, 2, 0, 0, 0, 0, 0), (103, 27, 9, 27, 93, 147, 0), (106, 0, 1, 0, 0, 0, 0), (107, 31, 0, 0, 0, 0, 0), (108, 12, 0, 0, 0, 0, 0), (109, 31, 0, 0, 0, 0, 0), (110, 35, 131, 9, 216, 118, 0), (113, 2, 0, 0, 0, 0, 0), (114, 27, 9, 27, 93, 147, 0), (117, 0, 1, 0, 0, 0, 0), (118, 26, 0, 0, 0, 0, 0), (119, 31, 0, 0, 0, 0, 0), (120, 4, 0, 0, 0, 1, 1), (121, 12, 0, 0, 0, 0, 0), (122, 33, 0, 0, 0, 0, 0), (123, 40, 0, 0, 0, 0, 0), (124, 2, 0, 0, 0, 0, 0), (125, 27, 9, 27, 93, 147, 0), (128, 0, 1, 0, 0, 0, 0), (129, 31, 0, 0, 0, 0, 0), (130, 4, 0, 0, 0, 4, 4), (131, 23, 1, 117, 0, 0, 0), (134, 2, 0, 0, 0, 0, 0), (135, 27, 9, 27, 93, 147, 0), (138, 0, 1, 0, 0, 0, 0), (139, 4, 0, 0, 0, 5, 5), (140, 33, 0, 0, 0, 0, 0), (141, 2, 0, 0, 0, 0, 0), (142, 27, 9, 1, 13, 121, 0), (145, 0, 2, 0, 0, 0, 0), (146, 36, 117, 0, 163, 108, 0), (149, 32, 0, 0, 0, 0, 0), (150, 22, 0, 117, 0, 0, 0), (153, 2, 0, 0, 0, 0, 0), (154, 27, 9, 32, 108, 152, 0), (157, 0, 1, 0, 0, 0, 0), (158, 32, 0, 0, 0, 0, 0), (159, 22, 0, 117, 0, 0, 0), (162, 2, 0, 0, 0, 0, 0), (163, 0, 1, 0, 0, 0, 0), (164, 0, 2, 0, 0, 0, 0), (165, 36, 117, 0, 163, 108, 0), (168, 0, 2, 0, 0, 0, 0), (169, 2, 0, 0, 0, 0, 0), (170, 27, 9, 31, 105, 151, 0), (173, 0, 1, 0, 0, 0, 0), (174, 31, 0, 0, 0, 0, 0), (175, 35, 131, 9, 216, 118, 0), (178, 40, 0, 0, 0, 0, 0), (179, 4, 0, 0, 0, 0, 0), (180, 7, 3, 0, 0, 0, 0), (181, 0, 3, 0, 0, 0, 0), (182, 4, 0, 0, 0, 4, 4), (183, 23, 3, 240, 0, 0, 0), (186, 2, 0, 0, 0, 0, 0), (187, 27, 9, 28, 96, 148, 0), (190, 4, 0, 0, 0, 4, 4), (191, 0, 1, 0, 0, 0, 0), (192, 14, 0, 0, 0, 0, 0), (193, 0, 3, 0, 0, 0, 0), (194, 12, 0, 0, 0, 0, 0), (195, 32, 0, 0, 0, 0, 0), (196, 22, 1, 132, 0, 0, 0), (199, 24, 0, 238, 0, 0, 0), (202, 4, 0, 0, 0, 4, 4), (203, 0, 2, 0, 0, 0, 0), (204, 14, 0, 0, 0, 0, 0), (205, 0, 3, 0, 0, 0, 0), (206, 12, 0, 0, 0, 0, 0), (207, 8, 4, 0, 0, 0, 0), (209, 2, 0, 0, 0, 0, 0), (210, 27, 9, 30, 102, 150, 0), (213, 4, 0, 0, 0, 4, 4), (214, 0, 1, 0, 0, 0, 0), (215, 14, 0, 0, 0, 0, 0), (216, 0, 3, 0, 0, 0, 0), (217, 12, 0, 0, 0, 0, 0), (218, 31, 0, 0, 0, 0, 0), (219, 8, 5, 0, 0, 0, 0), (221, 2, 0, 0, 0, 0, 0), (222, 27, 9, 9, 39, 129, 0), (225, 5, 0, 0, 0, 32, 32), (227, 0, 1, 0, 0, 0, 0), (228, 14, 0, 0, 0, 0, 0), (229, 1, 4, 0, 0, 0, 0), (231, 12, 0, 0, 0, 0, 0), (232, 32, 0, 0, 0, 0, 0), (233, 22, 0, 197, 0, 0, 0), (236, 2, 0, 0, 0, 0, 0), (237, 27, 9, 12, 48, 132, 0), (240, 5, 0, 0, 0, 32, 32), (242, 0, 1, 0, 0, 0, 0), (243, 14, 0, 0, 0, 0, 0), (244, 1, 4, 0, 0, 0, 0), (246, 12, 0, 0, 0, 0, 0), (247, 32, 0, 0, 0, 0, 0), (248, 22, 0, 197, 0, 0, 0), (251, 2, 0, 0, 0, 0, 0), (252, 27, 9, 11, 45, 131, 0), (255, 5, 0, 0, 0, 32, 32), (257, 0, 1, 0, 0, 0, 0), (258, 14, 0, 0, 0, 0, 0), (259, 1, 4, 0, 0, 0, 0), (261, 12, 0, 0, 0, 0, 0), (262, 31, 0, 0, 0, 0, 0), (263, 1, 5, 0, 0, 0, 0), (265, 23, 1, 197, 0, 0, 0), (268, 2, 0, 0, 0, 0, 0), (269, 27, 9, 12, 48, 132, 0), (272, 5, 0, 0, 0, 32, 32), (274, 0, 1, 0, 0, 0, 0), (275, 14, 0, 0, 0, 0, 0), (276, 1, 4, 0, 0, 0, 0), (278, 12, 0, 0, 0, 0, 0), (279, 4, 0, 0, 0, 0, 0), (280, 34, 0, 0, 0, 0, 0), (281, 2, 0, 0, 0, 0, 0), (282, 27, 9, 7, 33, 127, 0), (285, 0, 1, 0, 0, 0, 0), (286, 32, 0, 0, 0, 0, 0), (287, 22, 0, 197, 0, 0, 0), (290, 2, 0, 0, 0, 0, 0), (291, 0, 1, 0, 0, 0, 0), (292, 4, 0, 0, 0, 2, 2), (293, 1, 4, 0, 0, 0, 0), (295, 1, 5, 0, 0, 0, 0), (297, 4, 0, 0, 0, 0, 0), (298, 4, 0, 0, 0, 0, 0), (299, 35, 114, 9, 193, 107, 0), (302, 4, 0, 0, 0, 0, 0), (303, 8, 6, 0, 0, 0, 0), (305, 1, 6, 0, 0, 0, 0), (307, 2, 0, 0, 0, 0, 0), (308, 27, 9, 39, 130, 159, 0), (311, 23, 3, 238, 0, 0, 0), (314, 2, 0, 0, 0, 0, 0), (315, 27, 9, 7, 33, 127, 0), (318, 0, 1, 0, 0, 0, 0), (319, 32, 0, 0, 0, 0, 0), (320, 22, 1, 238, 0, 0, 0), (323, 2, 0, 0, 0, 0, 0), (324, 27, 9, 42, 139, 162, 0), (327, 1, 6, 0, 0, 0, 0), (329, 31, 0, 0, 0, 0, 0), (330, 0, 1, 0, 0, 0, 0), (331, 23, 1, 236, 0, 0, 0), (334, 2, 0, 0, 0, 0, 0), (335, 27, 9, 40, 133, 160, 0), (338, 1, 6, 0, 0, 0, 0), (340, 31, 0, 0, 0, 0, 0), (341, 22, 1, 236, 0, 0, 0), (344, 2, 0, 0, 0, 0, 0), (345, 27, 9, 43, 142, 163, 0), (348, 1, 6, 0, 0, 0, 0), (350, 31, 0, 0, 0, 0, 0), (351, 1, 4, 0, 0, 0, 0), (353, 23, 1, 236, 0, 0, 0), (356, 2, 0, 0, 0, 0, 0), (357, 27, 9, 44, 145, 164, 0), (360, 1, 6, 0, 0, 0, 0), (362, 31, 0, 0, 0, 0, 0), (363, 1, 5, 0, 0, 0, 0), (365, 23, 4, 236, 0, 0, 0), (368, 2, 0, 0, 0, 0, 0), (369, 27, 9, 40, 133, 160, 0), (372, 1, 6, 0, 0, 0, 0), (374, 4, 0, 0, 0, 1, 1), (375, 33, 0, 0, 0, 0, 0), (376, 11, 6, 0, 0, 1, 1), (379, 24, 0, 199, 0, 0, 0), (382, 11, 3, 0, 0, 1, 1), (385, 24, 0, 119, 0, 0, 0), (388, 2, 0, 0, 0, 0, 0), (389, 27, 9, 26, 90, 146, 0), (392, 0, 1, 0, 0, 0, 0), (393, 4, 0, 0, 0, (-1), (-1)), (394, 33, 0, 0, 0, 0, 0), (395, 40, 0, 0, 0, 0, 0)]
def tx_t134 : tw_T := [(0, 4, 0, 0, 0, 0, 0), (1, 7, 3, 0, 0, 0, 0), (2, 4, 0, 0, 0, 0, 0), (3, 8, 4, 0, 0, 0, 0), (5, 1, 4, 0, 0, 0, 0), (7, 4, 0, 0, 0, 4, 4), (8, 23, 3, 23, 0, 0, 0), (11, 2, 0, 0, 0, 0, 0), (12, 27, 9, 12, 48, 132, 0), (15, 5, 0, 0, 0, 32, 32), (17, 0, 1, 0, 0, 0, 0), (18, 14, 0, 0, 0, 0, 0), (19, 4, 0, 0, 0, 4, 4), (20, 0, 2, 0, 0, 0, 0), (21, 14, 0, 0, 0, 0, 0), (22, 12, 0, 0, 0, 0, 0), (23, 1, 4, 0, 0, 0, 0), (25, 12, 0, 0, 0, 0, 0), (26, 32, 0, 0, 0, 0, 0), (27, 22, 0, 21, 0, 0, 0), (30, 11, 3, 0, 0, 1, 1), (33, 11, 4, 0, 0, 1, 1), (36, 24, 0, 4, 0, 0, 0), (39, 0, 3, 0, 0, 0, 0), (40, 38, 0, 0, 0, 0, 0)]
def tx_t135 : tw_T := [(0, 4, 0, 0, 0, 0, 0), (1, 7, 2, 0, 0, 0, 0), (2, 4, 0, 0, 0, 0, 0), (3, 7, 3, 0, 0, 0, 0), (4, 0, 3, 0, 0, 0, 0), (5, 5, 0, 0, 0, 8, 8), (7, 23, 3, 16, 0, 0, 0), (10, 0, 2, 0, 0, 0, 0), (11, 2, 0, 0, 0, 0, 0), (12, 0, 1, 0, 0, 0, 0), (13, 0, 3, 0, 0, 0, 0), (14, 35, 134, 9, 220, 119, 0), (17, 12, 0, 0, 0, 0, 0), (18, 7, 2, 0, 0, 0, 0), (19, 11, 3, 0, 0, 1, 1), (22, 24, 0, 4, 0, 0, 0), (25, 0, 2, 0, 0, 0, 0), (26, 38, 0, 0, 0, 0, 0)]
def tx_t136 : tw_T := [(0, 4, 0, 0, 0, 0, 0), (1, 7, 2, 0, 0, 0, 0), (2, 4, 0, 0, 0, 1, 1), (3, 7, 3, 0, 0, 0, 0), (4, 0, 3, 0, 0, 0, 0), (5, 5, 0, 0, 0, 8, 8), (7, 23, 3, 20, 0, 0, 0), (10, 2, 0, 0, 0, 0, 0), (11, 0, 1, 0, 0, 0, 0), (12, 0, 3, 0, 0, 0, 0), (13, 35, 134, 9, 220, 119, 0), (16, 2, 0, 0, 0, 0, 0), (17, 0, 1, 0, 0, 0, 0), (18, 0, 2, 0, 0, 0, 0), (19, 35, 134, 9, 220, 119, 0), (22, 23, 5, 18, 0, 0, 0), (25, 0, 3, 0, 0, 0, 0), (26, 7, 2, 0, 0, 0, 0), (27, 11, 3, 0, 0, 1, 1), (30, 24, 0, 4, 0, 0, 0), (33, 2, 0, 0, 0, 0, 0), (34, 27, 9, 26, 90, 146, 0), (37, 0, 1, 0, 0, 0, 0), (38, 0, 2, 0, 0, 0, 0), (39, 33, 0, 0, 0, 0, 0), (40, 2, 0, 0, 0, 0, 0), (41, 27, 9, 27, 93, 147, 0), (44, 0, 1, 0, 0, 0, 0), (45, 4, 0, 0, 0, 0, 0), (46, 33, 0, 0, 0, 0, 0), (47, 2, 0, 0, 0, 0, 0), (48, 27, 9, 16, 60, 136, 0), (51, 5, 0, 0, 0, 8, 8), (53, 0, 1, 0, 0, 0, 0), (54, 14, 0, 0, 0, 0, 0), (55, 0, 2, 0, 0, 0, 0), (56, 12, 0, 0, 0, 0, 0), (57, 4, 0, 0, 0, 1, 1), (58, 34, 0, 0, 0, 0, 0), (59, 2, 0, 0, 0, 0, 0), (60, 27, 9, 7, 33, 127, 0), (63, 0, 1, 0, 0, 0, 0), (64, 32, 0, 0, 0, 0, 0), (65, 22, 0, 52, 0, 0, 0), (68, 2, 0, 0, 0, 0, 0), (69, 0, 1, 0, 0, 0, 0), (70, 4, 0, 0, 0, 3, 3), (71, 0, 2, 0, 0, 0, 0), (72, 4, 0, 0, 0, 0, 0), (73, 4, 0, 0, 0, 0, 0), (74, 4, 0, 0, 0, 0, 0), (75, 35, 114, 9, 193, 107, 0), (78, 2, 0, 0, 0, 0, 0), (79, 27, 9, 31, 105, 151, 0), (82, 0, 1, 0, 0, 0, 0), (83, 4, 0, 0, 0, 0, 0), (84, 33, 0, 0, 0, 0, 0), (85, 2, 0, 0, 0, 0, 0), (86, 27, 9, 32, 108, 152, 0), (89, 0, 1, 0, 0, 0, 0), (90, 4, 0, 0, 0, 1, 1), (91, 34, 0, 0, 0, 0, 0), (92, 4, 0, 0, 0, 0, 0), (93, 7, 3, 0, 0, 0, 0), (94, 0, 3, 0, 0, 0, 0), (95, 4, 0, 0, 0, 4, 4), (96, 23, 3, 174, 0, 0, 0), (99, 4, 0, 0, 0, 4, 4), (100, 0, 2, 0, 0, 0, 0), (101, 14, 0, 0, 0, 0, 0), (102, 0, 3, 0, 0, 0, 0), (103, 12, 0, 0, 0, 0, 0), (104, 8, 4, 0, 0, 0, 0), (106, 2, 0, 0, 0, 0, 0), (107, 27, 9, 28, 96, 148, 0), (110, 4, 0, 0, 0, 4, 4), (111, 0, 1, 0, 0, 0, 0), (112, 14, 0, 0, 0, 0, 0), (113, 0, 3, 0, 0, 0, 0), (114, 12, 0, 0, 0, 0, 0), (115, 2, 0, 0, 0, 0, 0), (116, 27, 9, 12, 48, 132, 0), (119, 5, 0, 0, 0, 32, 32), (121, 0, 1, 0, 0, 0, 0), (122, 14, 0, 0, 0, 0, 0), (123, 1, 4, 0, 0, 0, 0), (125, 12, 0, 0, 0, 0, 0), (126, 32, 0, 0, 0, 0, 0), (127, 34, 0, 0, 0, 0, 0), (128, 2, 0, 0, 0, 0, 0), (129, 27, 9, 28, 96, 148, 0), (132, 4, 0, 0, 0, 4, 4), (133, 0, 1, 0, 0, 0, 0), (134, 14, 0, 0, 0, 0, 0), (135, 0, 3, 0, 0, 0, 0), (136, 12, 0, 0, 0, 0, 0), (137, 32, 0, 0, 0, 0, 0), (138, 22, 0, 146, 0, 0, 0), (141, 2, 0, 0, 0, 0, 0), (142, 27, 9, 29, 99, 149, 0), (145, 4, 0, 0, 0, 4, 4), (146, 0, 1, 0, 0, 0, 0), (147, 14, 0, 0, 0, 0, 0), (148, 0, 3, 0, 0, 0, 0), (149, 12, 0, 0, 0, 0, 0), (150, 2, 0, 0, 0, 0, 0), (151, 27, 9, 10, 42, 130, 0), (154, 5, 0, 0, 0, 32, 32), (156, 0, 1, 0, 0, 0, 0), (157, 14, 0, 0, 0, 0, 0), (158, 1, 4, 0, 0, 0, 0), (160, 12, 0, 0, 0, 0, 0), (161, 31, 0, 0, 0, 0, 0), (162, 33, 0, 0, 0, 0, 0), (163, 2, 0, 0, 0, 0, 0), (164, 27, 9, 30, 102, 150, 0), (167, 4, 0, 0, 0, 4, 4), (168, 0, 1, 0, 0, 0, 0), (169, 14, 0, 0, 0, 0, 0), (170, 0, 3, 0, 0, 0, 0), (171, 12, 0, 0, 0, 0, 0), (172, 2, 0, 0, 0, 0, 0), (173, 27, 9, 11, 45, 131, 0), (176, 5, 0, 0, 0, 32, 32), (178, 0, 1, 0, 0, 0, 0), (179, 14, 0, 0, 0, 0, 0), (180, 1, 4, 0, 0, 0, 0), (182, 12, 0, 0, 0, 0, 0), (183, 31, 0, 0, 0, 0, 0), (184, 33, 0, 0, 0, 0, 0), (185, 2, 0, 0, 0, 0, 0), (186, 27, 9, 31, 105, 151, 0), (189, 0, 1, 0, 0, 0, 0), (190, 26, 0, 0, 0, 0, 0), (191, 31, 0, 0, 0, 0, 0), (192, 2, 0, 0, 0, 0, 0), (193, 27, 9, 10, 42, 130, 0), (196, 5, 0, 0, 0, 32, 32), (198, 0, 1, 0, 0, 0, 0), (199, 14, 0, 0, 0, 0, 0), (200, 1, 4, 0, 0, 0, 0), (202, 12, 0, 0, 0, 0, 0), (203, 31, 0, 0, 0, 0, 0), (204, 17, 0, 0, 0, 0, 0), (205, 33, 0, 0, 0, 0, 0), (206, 24, 0, 172, 0, 0, 0), (209, 2, 0, 0, 0, 0, 0), (210, 27, 9, 32, 108, 152, 0), (213, 0, 1, 0, 0, 0, 0), (214, 2, 0, 0, 0, 0, 0), (215, 27, 9, 32, 108, 152, 0), (218, 0, 1, 0, 0, 0, 0), (219, 32, 0, 0, 0, 0, 0), (220, 22, 0, 160, 0, 0, 0), (223, 2, 0, 0, 0, 0, 0), (224, 1, 4, 0, 0, 0, 0), (226, 35, 121, 9, 201, 114, 0), (229, 22, 1, 160, 0, 0, 0), (232, 4, 0, 0, 0, 1, 1), (233, 24, 0, 161, 0, 0, 0), (236, 4, 0, 0, 0, 0, 0), (237, 34, 0, 0, 0, 0, 0), (238, 2, 0, 0, 0, 0, 0), (239, 27, 9, 31, 105, 151, 0), (242, 0, 1, 0, 0, 0, 0), (243, 26, 0, 0, 0, 0, 0), (244, 31, 0, 0, 0, 0, 0), (245, 2, 0, 0, 0, 0, 0), (246, 1, 4, 0, 0, 0, 0), (248, 35, 123, 9, 205, 115, 0), (251, 17, 0, 0, 0, 0, 0), (252, 33, 0, 0, 0, 0, 0), (253, 11, 3, 0, 0, 1, 1), (256, 24, 0, 64, 0, 0, 0), (259, 40, 0, 0, 0, 0, 0)]
def tx_t137 : tw_T := [(0, 4, 0, 0, 0, 0, 0), (1, 7, 2, 0, 0, 0, 0), (2, 0, 2, 0, 0, 0, 0), (3, 5, 0, 0, 0, 8, 8), (5, 23, 3, 27, 0, 0, 0), (8, 2, 0, 0, 0, 0, 0), (9, 27, 9, 16, 60, 136, 0), (12, 5, 0, 0, 0, 8, 8), (14, 0, 1, 0, 0, 0, 0), (15, 14, 0, 0, 0, 0, 0), (16, 0, 2, 0, 0, 0, 0), (17, 12, 0, 0, 0, 0, 0), (18, 32, 0, 0, 0, 0, 0), (19, 22, 0, 25, 0, 0, 0), (22, 2, 0, 0, 0, 0, 0), (23, 27, 9, 18, 66, 138, 0), (26, 5, 0, 0, 0, 8, 8), (28, 0, 1, 0, 0, 0, 0), (29, 14, 0, 0, 0, 0, 0), (30, 0, 2, 0, 0, 0, 0), (31, 12, 0, 0, 0, 0, 0), (32, 32, 0, 0, 0, 0, 0), (33, 22, 1, 25, 0, 0, 0), (36, 0, 2, 0, 0, 0, 0), (37, 38, 0, 0, 0, 0, 0), (38, 11, 2, 0, 0, 1, 1), (41, 24, 0, 2, 0, 0, 0), (44, 4, 0, 0, 0, (-1), (-1)), (45, 38, 0, 0, 0, 0, 0)]
def tx_t138 : tw_T := [(0, 2, 0, 0, 0, 0, 0), (1, 4, 0, 0, 0, 0, 0), (2, 28, 9, 0, 7, 120, 0), (5, 0, 1, 0, 0, 0, 0), (6, 7, 2, 0, 0, 0, 0), (7, 0, 2, 0, 0, 0, 0), (8, 4, 0, 0, 0, 0, 0), (9, 4, 0, 0, 0, 1, 1), (10, 36, 111, 0, 181, 104, 0), (13, 22, 1, 12, 0, 0, 0), (16, 4, 0, 0, 0, (-1), (-1)), (17, 38, 0, 0, 0, 0, 0), (18, 2, 0, 0, 0, 0, 0), (19, 27, 9, 5, 27, 125, 0), (22, 0, 2, 0, 0, 0, 0), (23, 32, 0, 0, 0, 0, 0), (24, 22, 1, 19, 0, 0, 0), (27, 4, 0, 0, 0, 0, 0), (28, 38, 0, 0, 0, 0, 0), (29, 2, 0, 0, 0, 0, 0), (30, 27, 9, 19, 69, 139, 0), (33, 0, 2, 0, 0, 0, 0), (34, 31, 0, 0, 0, 0, 0), (35, 22, 2, 29, 0, 0, 0), (38, 2, 0, 0, 0, 0, 0), (39, 0, 2, 0, 0, 0, 0), (40, 35, 128, 9, 223, 120, 0), (43, 4, 0, 0, 0, 1, 1), (44, 38, 0, 0, 0, 0, 0), (45, 2, 0, 0, 0, 0, 0), (46, 27, 9, 23, 81, 143, 0), (49, 0, 2, 0, 0, 0, 0), (50, 32, 0, 0, 0, 0, 0), (51, 22, 0, 39, 0, 0, 0), (54, 2, 0, 0, 0, 0, 0), (55, 0, 2, 0, 0, 0, 0), (56, 35, 129, 9, 226, 121, 0), (59, 4, 0, 0, 0, 2, 2), (60, 38, 0, 0, 0, 0, 0), (61, 2, 0, 0, 0, 0, 0), (62, 2, 0, 0, 0, 0, 0), (63, 27, 9, 18, 66, 138, 0), (66, 0, 2, 0, 0, 0, 0), (67, 35, 130, 9, 212, 117, 0), (70, 22, 2, 50, 0, 0, 0), (73, 2, 0, 0, 0, 0, 0), (74, 0, 2, 0, 0, 0, 0), (75, 35, 132, 9, 229, 122, 0), (78, 4, 0, 0, 0, 3, 3), (79, 38, 0, 0, 0, 0, 0), (80, 2, 0, 0, 0, 0, 0), (81, 27, 9, 26, 90, 146, 0), (84, 0, 2, 0, 0, 0, 0), (85, 31, 0, 0, 0, 0, 0), (86, 22, 2, 60, 0, 0, 0), (89, 2, 0, 0, 0, 0, 0), (90, 0, 2, 0, 0, 0, 0), (91, 35, 133, 9, 232, 123, 0), (94, 4, 0, 0, 0, 4, 4), (95, 38, 0, 0, 0, 0, 0), (96, 2, 0, 0, 0, 0, 0), (97, 27, 9, 33, 111, 153, 0), (100, 0, 2, 0, 0, 0, 0), (101, 32, 0, 0, 0, 0, 0), (102, 22, 1, 70, 0, 0, 0), (105, 2, 0, 0, 0, 0, 0), (106, 27, 9, 7, 33, 127, 0), (109, 0, 2, 0, 0, 0, 0), (110, 32, 0, 0, 0, 0, 0), (111, 22, 1, 79, 0, 0, 0), (114, 2, 0, 0, 0, 0, 0), (115, 0, 2, 0, 0, 0, 0), (116, 35, 135, 9, 235, 124, 0), (119, 22, 5, 79, 0, 0, 0), (122, 2, 0, 0, 0, 0, 0), (123, 0, 2, 0, 0, 0, 0), (124, 35, 136, 9, 238, 125, 0), (127, 4, 0, 0, 0, 5, 5), (128, 38, 0, 0, 0, 0, 0), (129, 2, 0, 0, 0, 0, 0), (130, 0, 2, 0, 0, 0, 0), (131, 35, 137, 9, 241, 126, 0), (134, 7, 3, 0, 0, 0, 0), (135, 0, 3, 0, 0, 0, 0), (136, 22, 2, 109, 0, 0, 0), (139, 2, 0, 0, 0, 0, 0), (140, 27, 9, 16, 60, 136, 0), (143, 5, 0, 0, 0, 8, 8), (145, 0, 2, 0, 0, 0, 0), (146, 14, 0, 0, 0, 0, 0), (147, 0, 3, 0, 0, 0, 0), (148, 12, 0, 0, 0, 0, 0), (149, 4, 0, 0, 0, 0, 0), (150, 34, 0, 0, 0, 0, 0), (151, 2, 0, 0, 0, 0, 0), (152, 27, 9, 7, 33, 127, 0), (155, 0, 2, 0, 0, 0, 0), (156, 32, 0, 0, 0, 0, 0), (157, 22, 0, 107, 0, 0, 0), (160, 2, 0, 0, 0, 0, 0), (161, 0, 2, 0, 0, 0, 0), (162, 4, 0, 0, 0, 4, 4), (163, 0, 3, 0, 0, 0, 0), (164, 4, 0, 0, 0, 0, 0), (165, 4, 0, 0, 0, 0, 0), (166, 4, 0, 0, 0, 0, 0), (167, 35, 114, 9, 193, 107, 0), (170, 5, 0, 0, 0, 6, 6), (172, 38, 0, 0, 0, 0, 0), (173, 2, 0, 0, 0, 0, 0), (174, 27, 9, 33, 111, 153, 0), (177, 0, 2, 0, 0, 0, 0), (178, 32, 0, 0, 0, 0, 0), (179, 22, 0, 121, 0, 0, 0), (182, 2, 0, 0, 0, 0, 0), (183, 27, 9, 33, 111, 153, 0), (186, 0, 2, 0, 0, 0, 0), (187, 4, 0, 0, 0, 0, 0), (188, 34, 0, 0, 0, 0, 0), (189, 5, 0, 0, 0, 7, 7), (191, 38, 0, 0, 0, 0, 0), (192, 2, 0, 0, 0, 0, 0), (193, 27, 9, 7, 33, 127, 0), (196, 0, 2, 0, 0, 0, 0), (197, 32, 0, 0, 0, 0, 0), (198, 22, 0, 155, 0, 0, 0), (201, 2, 0, 0, 0, 0, 0), (202, 0, 2, 0, 0, 0, 0), (203, 4, 0, 0, 0, 5, 5), (204, 4, 0, 0, 0, 0, 0), (205, 4, 0, 0, 0, 0, 0), (206, 4, 0, 0, 0, 0, 0), (207, 4, 0, 0, 0, 0, 0), (208, 35, 114, 9, 193, 107, 0), (211, 2, 0, 0, 0, 0, 0), (212, 27, 9, 34, 114, 154, 0), (215, 0, 2, 0, 0, 0, 0), (216, 26, 0, 0, 0, 0, 0), (217, 31, 0, 0, 0, 0, 0), (218, 4, 0, 0, 0, 1, 1), (219, 12, 0, 0, 0, 0, 0), (220, 33, 0, 0, 0, 0, 0), (221, 2, 0, 0, 0, 0, 0), (222, 27, 9, 34, 114, 154, 0), (225, 0, 2, 0, 0, 0, 0), (226, 31, 0, 0, 0, 0, 0), (227, 4, 0, 0, 0, 4, 4), (228, 23, 1, 153, 0, 0, 0), (231, 2, 0, 0, 0, 0, 0), (232, 27, 9, 7, 33, 127, 0), (235, 0, 2, 0, 0, 0, 0), (236, 4, 0, 0, 0, 0, 0), (237, 34, 0, 0, 0, 0, 0), (238, 5, 0, 0, 0, 8, 8), (240, 38, 0, 0, 0, 0, 0), (241, 5, 0, 0, 0, 9, 9), (243, 38, 0, 0, 0, 0, 0)]
def tx_t139 : tw_T := [(0, 2, 0, 0, 0, 0, 0), (1, 4, 0, 0, 0, 0, 0), (2, 28, 9, 0, 7, 120, 0), (5, 0, 1, 0, 0, 0, 0), (6, 7, 2, 0, 0, 0, 0), (7, 0, 2, 0, 0, 0, 0), (8, 4, 0, 0, 0, 0, 0), (9, 4, 0, 0, 0, 1, 1), (10, 36, 111, 0, 181, 104, 0), (13, 22, 0, 18, 0, 0, 0), (16, 2, 0, 0, 0, 0, 0), (17, 27, 9, 38, 126, 158, 0), (20, 22, 1, 18, 0, 0, 0), (23, 2, 0, 0, 0, 0, 0), (24, 27, 9, 37, 123, 157, 0), (27, 0, 2, 0, 0, 0, 0), (28, 31, 0, 0, 0, 0, 0), (29, 22, 1, 20, 0, 0, 0), (32, 4, 0, 0, 0, (-1), (-1)), (33, 38, 0, 0, 0, 0, 0), (34, 6, 0, 0, 0, 200, 200), (37, 0, 2, 0, 0, 0, 0), (38, 14, 0, 0, 0, 0, 0), (39, 7, 3, 0, 0, 0, 0), (40, 2, 0, 0, 0, 0, 0), (41, 27, 9, 36, 120, 156, 0), (44, 0, 3, 0, 0, 0, 0), (45, 31, 0, 0, 0, 0, 0), (46, 8, 4, 0, 0, 0, 0), (48, 2, 0, 0, 0, 0, 0), (49, 27, 9, 36, 120, 156, 0), (52, 0, 3, 0, 0, 0, 0), (53, 4, 0, 0, 0, 1, 1), (54, 12, 0, 0, 0, 0, 0), (55, 31, 0, 0, 0, 0, 0), (56, 8, 5, 0, 0, 0, 0), (58, 2, 0, 0, 0, 0, 0), (59, 27, 9, 36, 120, 156, 0), (62, 0, 3, 0, 0, 0, 0), (63, 4, 0, 0, 0, 2, 2), (64, 12, 0, 0, 0, 0, 0), (65, 31, 0, 0, 0, 0, 0), (66, 8, 6, 0, 0, 0, 0), (68, 2, 0, 0, 0, 0, 0), (69, 27, 9, 36, 120, 156, 0), (72, 0, 3, 0, 0, 0, 0), (73, 4, 0, 0, 0, 3, 3), (74, 12, 0, 0, 0, 0, 0), (75, 31, 0, 0, 0, 0, 0), (76, 8, 7, 0, 0, 0, 0), (78, 2, 0, 0, 0, 0, 0), (79, 27, 9, 36, 120, 156, 0), (82, 0, 3, 0, 0, 0, 0), (83, 4, 0, 0, 0, 4, 4), (84, 12, 0, 0, 0, 0, 0), (85, 31, 0, 0, 0, 0, 0), (86, 8, 8, 0, 0, 0, 0), (88, 2, 0, 0, 0, 0, 0), (89, 27, 9, 37, 123, 157, 0), (92, 0, 2, 0, 0, 0, 0), (93, 26, 0, 0, 0, 0, 0), (94, 31, 0, 0, 0, 0, 0), (95, 4, 0, 0, 0, 1, 1), (96, 13, 0, 0, 0, 0, 0), (97, 33, 0, 0, 0, 0, 0), (98, 4, 0, 0, 0, 0, 0), (99, 8, 9, 0, 0, 0, 0), (101, 1, 9, 0, 0, 0, 0), (103, 4, 0, 0, 0, 5, 5), (104, 2, 0, 0, 0, 0, 0), (105, 27, 9, 37, 123, 157, 0), (108, 0, 2, 0, 0, 0, 0), (109, 31, 0, 0, 0, 0, 0), (110, 14, 0, 0, 0, 0, 0), (111, 23, 3, 91, 0, 0, 0), (114, 2, 0, 0, 0, 0, 0), (115, 27, 9, 36, 120, 156, 0), (118, 0, 3, 0, 0, 0, 0), (119, 1, 9, 0, 0, 0, 0), (121, 12, 0, 0, 0, 0, 0), (122, 2, 0, 0, 0, 0, 0), (123, 27, 9, 36, 120, 156, 0), (126, 0, 3, 0, 0, 0, 0), (127, 1, 9, 0, 0, 0, 0), (129, 12, 0, 0, 0, 0, 0), (130, 4, 0, 0, 0, 5, 5), (131, 12, 0, 0, 0, 0, 0), (132, 31, 0, 0, 0, 0, 0), (133, 33, 0, 0, 0, 0, 0), (134, 11, 9, 0, 0, 1, 1), (137, 24, 0, 67, 0, 0, 0), (140, 2, 0, 0, 0, 0, 0), (141, 27, 9, 5, 27, 125, 0), (144, 0, 2, 0, 0, 0, 0), (145, 32, 0, 0, 0, 0, 0), (146, 22, 0, 101, 0, 0, 0), (149, 2, 0, 0, 0, 0, 0), (150, 27, 9, 7, 33, 127, 0), (153, 0, 2, 0, 0, 0, 0), (154, 32, 0, 0, 0, 0, 0), (155, 22, 1, 103, 0, 0, 0), (158, 1, 4, 0, 0, 0, 0), (160, 38, 0, 0, 0, 0, 0), (161, 1, 4, 0, 0, 0, 0), (163, 22, 1, 145, 0, 0, 0), (166, 5, 0, 0, 0, 32, 32), (168, 0, 2, 0, 0, 0, 0), (169, 14, 0, 0, 0, 0, 0), (170, 1, 5, 0, 0, 0, 0), (172, 12, 0, 0, 0, 0, 0), (173, 8, 9, 0, 0, 0, 0), (175, 2, 0, 0, 0, 0, 0), (176, 27, 9, 13, 51, 133, 0), (179, 1, 9, 0, 0, 0, 0), (181, 32, 0, 0, 0, 0, 0), (182, 22, 0, 122, 0, 0, 0), (185, 2, 0, 0, 0, 0, 0), (186, 27, 9, 15, 57, 135, 0), (189, 1, 9, 0, 0, 0, 0), (191, 31, 0, 0, 0, 0, 0), (192, 1, 7, 0, 0, 0, 0), (194, 23, 3, 137, 0, 0, 0), (197, 2, 0, 0, 0, 0, 0), (198, 27, 9, 13, 51, 133, 0), (201, 1, 9, 0, 0, 0, 0), (203, 4, 0, 0, 0, 1, 1), (204, 34, 0, 0, 0, 0, 0), (205, 2, 0, 0, 0, 0, 0), (206, 27, 9, 14, 54, 134, 0), (209, 1, 9, 0, 0, 0, 0), (211, 1, 6, 0, 0, 0, 0), (213, 33, 0, 0, 0, 0, 0), (214, 2, 0, 0, 0, 0, 0), (215, 27, 9, 15, 57, 135, 0), (218, 1, 9, 0, 0, 0, 0), (220, 1, 7, 0, 0, 0, 0), (222, 33, 0, 0, 0, 0, 0), (223, 2, 0, 0, 0, 0, 0), (224, 0, 2, 0, 0, 0, 0), (225, 4, 0, 0, 0, 1, 1), (226, 1, 8, 0, 0, 0, 0), (228, 4, 0, 0, 0, 0, 0), (229, 4, 0, 0, 0, 0, 0), (230, 4, 0, 0, 0, 0, 0), (231, 35, 114, 9, 193, 107, 0), (234, 1, 4, 0, 0, 0, 0), (236, 4, 0, 0, 0, 1, 1), (237, 23, 1, 158, 0, 0, 0), (240, 2, 0, 0, 0, 0, 0), (241, 27, 9, 40, 133, 160, 0), (244, 1, 5, 0, 0, 0, 0), (246, 31, 0, 0, 0, 0, 0), (247, 22, 1, 158, 0, 0, 0), (250, 2, 0, 0, 0, 0, 0), (251, 27, 9, 40, 133, 160, 0), (254, 1, 5, 0, 0, 0, 0), (256, 4, 0, 0, 0, 1, 1), (257, 33, 0, 0, 0, 0, 0), (258, 1, 4, 0, 0, 0, 0), (260, 4, 0, 0, 0, 2, 2), (261, 23, 1, 189, 0, 0, 0), (264, 2, 0, 0, 0, 0, 0), (265, 27, 9, 13, 51, 133, 0), (268, 5, 0, 0, 0, 32, 32), (270, 0, 2, 0, 0, 0, 0), (271, 14, 0, 0, 0, 0, 0), (272, 1, 5, 0, 0, 0, 0), (274, 12, 0, 0, 0, 0, 0), (275, 32, 0, 0, 0, 0, 0), (276, 22, 0, 189, 0, 0, 0), (279, 2, 0, 0, 0, 0, 0), (280, 27, 9, 15, 57, 135, 0), (283, 5, 0, 0, 0, 32, 32), (285, 0, 2, 0, 0, 0, 0), (286, 14, 0, 0, 0, 0, 0), (287, 1, 5, 0, 0, 0, 0), (289, 12, 0, 0, 0, 0, 0), (290, 31, 0, 0, 0, 0, 0), (291, 1, 6, 0, 0, 0, 0), (293, 23, 1, 189, 0, 0, 0), (296, 2, 0, 0, 0, 0, 0), (297, 27, 9, 13, 51, 133, 0), (300, 5, 0, 0, 0, 32, 32), (302, 0, 2, 0, 0, 0, 0), (303, 14, 0, 0, 0, 0, 0), (304, 1, 5, 0, 0, 0, 0), (306, 12, 0, 0, 0, 0, 0), (307, 4, 0, 0, 0, 0, 0), (308, 34, 0, 0, 0, 0, 0), (309, 1, 4, 0, 0, 0, 0), (311, 4, 0, 0, 0, 3, 3), (312, 23, 1, 201, 0, 0, 0), (315, 2, 0, 0, 0, 0, 0), (316, 27, 9, 17, 63, 137, 0), (319, 5, 0, 0, 0, 8, 8), (321, 0, 2, 0, 0, 0, 0), (322, 14, 0, 0, 0, 0, 0), (323, 1, 5, 0, 0, 0, 0), (325, 12, 0, 0, 0, 0, 0), (326, 4, 0, 0, 0, 1, 1), (327, 34, 0, 0, 0, 0, 0), (328, 1, 4, 0, 0, 0, 0), (330, 4, 0, 0, 0, 4, 4), (331, 23, 1, 213, 0, 0, 0), (334, 2, 0, 0, 0, 0, 0), (335, 27, 9, 17, 63, 137, 0), (338, 5, 0, 0, 0, 8, 8), (340, 0, 2, 0, 0, 0, 0), (341, 14, 0, 0, 0, 0, 0), (342, 1, 5, 0, 0, 0, 0), (344, 12, 0, 0, 0, 0, 0), (345, 4, 0, 0, 0, 0, 0), (346, 34, 0, 0, 0, 0, 0), (347, 1, 4, 0, 0, 0, 0), (349, 4, 0, 0, 0, 5, 5), (350, 23, 1, 221, 0, 0, 0), (353, 2, 0, 0, 0, 0, 0), (354, 27, 9, 34, 114, 154, 0), (357, 0, 2, 0, 0, 0, 0), (358, 4, 0, 0, 0, 0, 0), (359, 33, 0, 0, 0, 0, 0), (360, 1, 4, 0, 0, 0, 0), (362, 38, 0, 0, 0, 0, 0)]
def tx_t140 : tw_T := [(0, 2, 0, 0, 0, 0, 0), (1, 4, 0, 0, 0, 0, 0), (2, 28, 9, 0, 7, 120, 0), (5, 2, 0, 0, 0, 0, 0), (6, 0, 1, 0, 0, 0, 0), (7, 28, 9, 38, 126, 158, 0), (10, 40, 0, 0, 0, 0, 0)]
def tx_t141 : tw_T := [(0, 2, 0, 0, 0, 0, 0), (1, 4, 0, 0, 0, 0, 0), (2, 28, 9, 0, 7, 120, 0), (5, 0, 1, 0, 0, 0, 0), (6, 4, 0, 0, 0, 0, 0), (7, 4, 0, 0, 0, 1, 1), (8, 36, 111, 0, 181, 104, 0), (11, 22, 0, 13, 0, 0, 0), (14, 2, 0, 0, 0, 0, 0), (15, 27, 9, 5, 27, 125, 0), (18, 0, 1, 0, 0, 0, 0), (19, 32, 0, 0, 0, 0, 0), (20, 22, 1, 15, 0, 0, 0), (23, 4, 0, 0, 0, 0, 0), (24, 39, 0, 0, 0, 0, 0), (25, 2, 0, 0, 0, 0, 0), (26, 0, 1, 0, 0, 0, 0), (27, 35, 116, 9, 197, 113, 0), (30, 4, 0, 0, 0, 1, 1), (31, 39, 0, 0, 0, 0, 0)]
def tx_t142 : tw_T := [(0, 2, 0, 0, 0, 0, 0), (1, 4, 0, 0, 0, 0, 0), (2, 28, 9, 0, 7, 120, 0), (5, 0, 1, 0, 0, 0, 0), (6, 4, 0, 0, 0, 0, 0), (7, 4, 0, 0, 0, 1, 1), (8, 36, 111, 0, 181, 104, 0), (11, 22, 0, 13, 0, 0, 0), (14, 2, 0, 0, 0, 0, 0), (15, 27, 9, 5, 27, 125, 0), (18, 0, 1, 0, 0, 0, 0), (19, 32, 0, 0, 0, 0, 0), (20, 22, 0, 15, 0, 0, 0), (23, 4, 0, 0, 0, 0, 0), (24, 39, 0, 0, 0, 0, 0), (25, 2, 0, 0, 0, 0, 0), (26, 27, 9, 5, 27, 125, 0), (29, 0, 1, 0, 0, 0, 0), (30, 4, 0, 0, 0, 1, 1), (31, 34, 0, 0, 0, 0, 0), (32, 2, 0, 0, 0, 0, 0), (33, 27, 9, 37, 123, 157, 0), (36, 0, 1, 0, 0, 0, 0), (37, 4, 0, 0, 0, 0, 0), (38, 33, 0, 0, 0, 0, 0), (39, 4, 0, 0, 0, 1, 1), (40, 39, 0, 0, 0, 0, 0)]
def tx_t143 : tw_T := [(0, 2, 0, 0, 0, 0, 0), (1, 27, 9, 5, 27, 125, 0), (4, 0, 1, 0, 0, 0, 0), (5, 32, 0, 0, 0, 0, 0), (6, 22, 0, 32, 0, 0, 0), (9, 2, 0, 0, 0, 0, 0), (10, 27, 9, 23, 81, 143, 0), (13, 0, 1, 0, 0, 0, 0), (14, 32, 0, 0, 0, 0, 0), (15, 22, 1, 32, 0, 0, 0), (18, 2, 0, 0, 0, 0, 0), (19, 27, 9, 26, 90, 146, 0), (22, 0, 1, 0, 0, 0, 0), (23, 31, 0, 0, 0, 0, 0), (24, 22, 3, 32, 0, 0, 0), (27, 2, 0, 0, 0, 0, 0), (28, 0, 1, 0, 0, 0, 0), (29, 35, 135, 9, 235, 124, 0), (32, 22, 1, 32, 0, 0, 0), (35, 2, 0, 0, 0, 0, 0), (36, 2, 0, 0, 0, 0, 0), (37, 27, 9, 16, 60, 136, 0), (40, 0, 1, 0, 0, 0, 0), (41, 35, 130, 9, 212, 117, 0), (44, 22, 3, 32, 0, 0, 0), (47, 2, 0, 0, 0, 0, 0), (48, 27, 9, 19, 69, 139, 0), (51, 0, 1, 0, 0, 0, 0), (52, 31, 0, 0, 0, 0, 0), (53, 22, 3, 32, 0, 0, 0), (56, 4, 0, 0, 0, 1, 1), (57, 24, 0, 33, 0, 0, 0), (60, 4, 0, 0, 0, 0, 0), (61, 39, 0, 0, 0, 0, 0)]
def tx_t144 : tw_T := [(0, 4, 0, 0, 0, 0, 0), (1, 7, 2, 0, 0, 0, 0), (2, 0, 2, 0, 0, 0, 0), (3, 4, 0, 0, 0, 5, 5), (4, 23, 3, 20, 0, 0, 0), (7, 2, 0, 0, 0, 0, 0), (8, 27, 9, 1, 13, 121, 0), (11, 0, 2, 0, 0, 0, 0), (12, 32, 0, 0, 0, 0, 0), (13, 22, 0, 18, 0, 0, 0), (16, 2, 0, 0, 0, 0, 0), (17, 27, 9, 2, 17, 122, 0), (20, 0, 2, 0, 0, 0, 0), (21, 31, 0, 0, 0, 0, 0), (22, 0, 1, 0, 0, 0, 0), (23, 23, 0, 18, 0, 0, 0), (26, 4, 0, 0, 0, 0, 0), (27, 39, 0, 0, 0, 0, 0), (28, 11, 2, 0, 0, 1, 1), (31, 24, 0, 2, 0, 0, 0), (34, 4, 0, 0, 0, 1, 1), (35, 39, 0, 0, 0, 0, 0)]
def tx_t145 : tw_T := [(0, 2, 0, 0, 0, 0, 0), (1, 4, 0, 0, 0, 0, 0), (2, 28, 9, 0, 7, 120, 0), (5, 2, 0, 0, 0, 0, 0), (6, 4, 0, 0, 0, 0, 0), (7, 35, 143, 9, 244, 127, 0), (10, 22, 0, 14, 0, 0, 0), (13, 2, 0, 0, 0, 0, 0), (14, 4, 0, 0, 0, 1, 1), (15, 35, 143, 9, 244, 127, 0), (18, 22, 0, 14, 0, 0, 0), (21, 2, 0, 0, 0, 0, 0), (22, 27, 9, 38, 126, 158, 0), (25, 22, 0, 16, 0, 0, 0), (28, 4, 0, 0, 0, 0, 0), (29, 39, 0, 0, 0, 0, 0), (30, 4, 0, 0, 0, 0, 0), (31, 7, 1, 0, 0, 0, 0), (32, 2, 0, 0, 0, 0, 0), (33, 2, 0, 0, 0, 0, 0), (34, 27, 9, 6, 30, 126, 0), (37, 4, 0, 0, 0, 0, 0), (38, 31, 0, 0, 0, 0, 0), (39, 35, 144, 9, 247, 128, 0), (42, 22, 1, 27, 0, 0, 0), (45, 4, 0, 0, 0, 1, 1), (46, 7, 1, 0, 0, 0, 0), (47, 2, 0, 0, 0, 0, 0), (48, 2, 0, 0, 0, 0, 0), (49, 27, 9, 6, 30, 126, 0), (52, 0, 1, 0, 0, 0, 0), (53, 31, 0, 0, 0, 0, 0), (54, 35, 144, 9, 247, 128, 0), (57, 22, 1, 36, 0, 0, 0), (60, 4, 0, 0, 0, 0, 0), (61, 39, 0, 0, 0, 0, 0), (62, 4, 0, 0, 0, 0, 0), (63, 7, 2, 0, 0, 0, 0), (64, 0, 2, 0, 0, 0, 0), (65, 5, 0, 0, 0, 32, 32), (67, 23, 3, 73, 0, 0, 0), (70, 2, 0, 0, 0, 0, 0), (71, 27, 9, 8, 36, 128, 0), (74, 0, 2, 0, 0, 0, 0), (75, 5, 0, 0, 0, 16, 16), (77, 20, 0, 0, 0, 0, 0), (78, 32, 0, 0, 0, 0, 0), (79, 22, 1, 71, 0, 0, 0), (82, 2, 0, 0, 0, 0, 0), (83, 27, 9, 8, 36, 128, 0), (86, 4, 0, 0, 0, 2, 2), (87, 0, 2, 0, 0, 0, 0), (88, 5, 0, 0, 0, 16, 16), (90, 20, 0, 0, 0, 0, 0), (91, 12, 0, 0, 0, 0, 0), (92, 32, 0, 0, 0, 0, 0), (93, 22, 1, 71, 0, 0, 0), (96, 2, 0, 0, 0, 0, 0), (97, 27, 9, 13, 51, 133, 0), (100, 0, 2, 0, 0, 0, 0), (101, 32, 0, 0, 0, 0, 0), (102, 22, 1, 69, 0, 0, 0), (105, 2, 0, 0, 0, 0, 0), (106, 27, 9, 13, 51, 133, 0), (109, 5, 0, 0, 0, 32, 32), (111, 0, 2, 0, 0, 0, 0), (112, 12, 0, 0, 0, 0, 0), (113, 32, 0, 0, 0, 0, 0), (114, 22, 0, 71, 0, 0, 0), (117, 4, 0, 0, 0, 0, 0), (118, 39, 0, 0, 0, 0, 0), (119, 11, 2, 0, 0, 1, 1), (122, 24, 0, 38, 0, 0, 0), (125, 4, 0, 0, 0, 0, 0), (126, 7, 2, 0, 0, 0, 0), (127, 0, 2, 0, 0, 0, 0), (128, 4, 0, 0, 0, 2, 2), (129, 23, 3, 120, 0, 0, 0), (132, 2, 0, 0, 0, 0, 0), (133, 27, 9, 8, 36, 128, 0), (136, 0, 2, 0, 0, 0, 0), (137, 32, 0, 0, 0, 0, 0), (138, 22, 1, 95, 0, 0, 0), (141, 2, 0, 0, 0, 0, 0), (142, 27, 9, 8, 36, 128, 0), (145, 4, 0, 0, 0, 2, 2), (146, 0, 2, 0, 0, 0, 0), (147, 12, 0, 0, 0, 0, 0), (148, 32, 0, 0, 0, 0, 0), (149, 22, 1, 95, 0, 0, 0), (152, 2, 0, 0, 0, 0, 0), (153, 27, 9, 8, 36, 128, 0), (156, 0, 2, 0, 0, 0, 0), (157, 4, 0, 0, 0, 1, 1), (158, 34, 0, 0, 0, 0, 0), (159, 2, 0, 0, 0, 0, 0), (160, 27, 9, 8, 36, 128, 0), (163, 0, 2, 0, 0, 0, 0), (164, 32, 0, 0, 0, 0, 0), (165, 22, 0, 118, 0, 0, 0), (168, 2, 0, 0, 0, 0, 0), (169, 27, 9, 8, 36, 128, 0), (172, 4, 0, 0, 0, 2, 2), (173, 0, 2, 0, 0, 0, 0), (174, 12, 0, 0, 0, 0, 0), (175, 32, 0, 0, 0, 0, 0), (176, 22, 0, 118, 0, 0, 0), (179, 2, 0, 0, 0, 0, 0), (180, 27, 9, 8, 36, 128, 0), (183, 4, 0, 0, 0, 2, 2), (184, 4, 0, 0, 0, 1, 1), (185, 0, 1, 0, 0, 0, 0), (186, 13, 0, 0, 0, 0, 0), (187, 14, 0, 0, 0, 0, 0), (188, 0, 2, 0, 0, 0, 0), (189, 12, 0, 0, 0, 0, 0), (190, 4, 0, 0, 0, 0, 0), (191, 34, 0, 0, 0, 0, 0), (192, 11, 2, 0, 0, 1, 1), (195, 24, 0, 75, 0, 0, 0), (198, 2, 0, 0, 0, 0, 0), (199, 27, 9, 6, 30, 126, 0), (202, 4, 0, 0, 0, 1, 1), (203, 0, 1, 0, 0, 0, 0), (204, 13, 0, 0, 0, 0, 0), (205, 2, 0, 0, 0, 0, 0), (206, 27, 9, 6, 30, 126, 0), (209, 0, 1, 0, 0, 0, 0), (210, 31, 0, 0, 0, 0, 0), (211, 33, 0, 0, 0, 0, 0), (212, 4, 0, 0, 0, 0, 0), (213, 7, 2, 0, 0, 0, 0), (214, 0, 2, 0, 0, 0, 0), (215, 4, 0, 0, 0, 2, 2), (216, 23, 3, 193, 0, 0, 0), (219, 2, 0, 0, 0, 0, 0), (220, 27, 9, 7, 33, 127, 0), (223, 0, 2, 0, 0, 0, 0), (224, 4, 0, 0, 0, 1, 1), (225, 34, 0, 0, 0, 0, 0), (226, 2, 0, 0, 0, 0, 0), (227, 27, 9, 34, 114, 154, 0), (230, 0, 2, 0, 0, 0, 0), (231, 4, 0, 0, 0, 0, 0), (232, 33, 0, 0, 0, 0, 0), (233, 2, 0, 0, 0, 0, 0), (234, 27, 9, 37, 123, 157, 0), (237, 0, 2, 0, 0, 0, 0), (238, 4, 0, 0, 0, 0, 0), (239, 33, 0, 0, 0, 0, 0), (240, 4, 0, 0, 0, 0, 0), (241, 7, 3, 0, 0, 0, 0), (242, 0, 3, 0, 0, 0, 0), (243, 5, 0, 0, 0, 32, 32), (245, 23, 3, 175, 0, 0, 0), (248, 2, 0, 0, 0, 0, 0), (249, 27, 9, 9, 39, 129, 0), (252, 5, 0, 0, 0, 32, 32), (254, 0, 2, 0, 0, 0, 0), (255, 14, 0, 0, 0, 0, 0), (256, 0, 3, 0, 0, 0, 0), (257, 12, 0, 0, 0, 0, 0), (258, 4, 0, 0, 0, 0, 0), (259, 34, 0, 0, 0, 0, 0), (260, 2, 0, 0, 0, 0, 0), (261, 27, 9, 13, 51, 133, 0), (264, 5, 0, 0, 0, 32, 32), (266, 0, 2, 0, 0, 0, 0), (267, 14, 0, 0, 0, 0, 0), (268, 0, 3, 0, 0, 0, 0), (269, 12, 0, 0, 0, 0, 0), (270, 4, 0, 0, 0, 0, 0), (271, 34, 0, 0, 0, 0, 0), (272, 11, 3, 0, 0, 1, 1), (275, 24, 0, 152, 0, 0, 0), (278, 4, 0, 0, 0, 0, 0), (279, 7, 3, 0, 0, 0, 0), (280, 0, 3, 0, 0, 0, 0), (281, 5, 0, 0, 0, 8, 8), (283, 23, 3, 191, 0, 0, 0), (286, 2, 0, 0, 0, 0, 0), (287, 27, 9, 17, 63, 137, 0), (290, 5, 0, 0, 0, 8, 8), (292, 0, 2, 0, 0, 0, 0), (293, 14, 0, 0, 0, 0, 0), (294, 0, 3, 0, 0, 0, 0), (295, 12, 0, 0, 0, 0, 0), (296, 4, 0, 0, 0, 0, 0), (297, 34, 0, 0, 0, 0, 0), (298, 11, 3, 0, 0, 1, 1), (301, 24, 0, 177, 0, 0, 0), (304, 11, 2, 0, 0, 1, 1), (307, 24, 0, 132, 0, 0, 0), (310, 4, 0, 0, 0, 1, 1), (311, 39, 0, 0, 0, 0, 0)]
def tx_t146 : tw_T := [(0, 4, 0, 0, 0, 0, 0), (1, 7, 1, 0, 0, 0, 0), (2, 4, 0, 0, 0, 0, 0), (3, 7, 2, 0, 0, 0, 0), (4, 0, 2, 0, 0, 0, 0), (5, 4, 0, 0, 0, 5, 5), (6, 23, 3, 25, 0, 0, 0), (9, 2, 0, 0, 0, 0, 0), (10, 27, 9, 1, 13, 121, 0), (13, 0, 2, 0, 0, 0, 0), (14, 32, 0, 0, 0, 0, 0), (15, 22, 0, 23, 0, 0, 0), (18, 2, 0, 0, 0, 0, 0), (19, 27, 9, 2, 17, 122, 0), (22, 0, 2, 0, 0, 0, 0), (23, 31, 0, 0, 0, 0, 0), (24, 0, 1, 0, 0, 0, 0), (25, 23, 5, 23, 0, 0, 0), (28, 2, 0, 0, 0, 0, 0), (29, 27, 9, 2, 17, 122, 0), (32, 0, 2, 0, 0, 0, 0), (33, 31, 0, 0, 0, 0, 0), (34, 7, 1, 0, 0, 0, 0), (35, 11, 2, 0, 0, 1, 1), (38, 24, 0, 4, 0, 0, 0), (41, 0, 1, 0, 0, 0, 0), (42, 38, 0, 0, 0, 0, 0)]
def tx_t147 : tw_T := [(0, 2, 0, 0, 0, 0, 0), (1, 4, 0, 0, 0, 0, 0), (2, 28, 9, 0, 7, 120, 0), (5, 0, 1, 0, 0, 0, 0), (6, 7, 2, 0, 0, 0, 0), (7, 0, 2, 0, 0, 0, 0), (8, 4, 0, 0, 0, 0, 0), (9, 4, 0, 0, 0, 1, 1), (10, 36, 111, 0, 181, 104, 0), (13, 22, 0, 20, 0, 0, 0), (16, 2, 0, 0, 0, 0, 0), (17, 27, 9, 5, 27, 125, 0), (20, 0, 2, 0, 0, 0, 0), (21, 32, 0, 0, 0, 0, 0), (22, 22, 0, 20, 0, 0, 0), (25, 2, 0, 0, 0, 0, 0), (26, 27, 9, 23, 81, 143, 0), (29, 0, 2, 0, 0, 0, 0), (30, 32, 0, 0, 0, 0, 0), (31, 22, 0, 22, 0, 0, 0), (34, 4, 0, 0, 0, 0, 0), (35, 39, 0, 0, 0, 0, 0), (36, 2, 0, 0, 0, 0, 0), (37, 27, 9, 7, 33, 127, 0), (40, 0, 2, 0, 0, 0, 0), (41, 4, 0, 0, 0, 0, 0), (42, 34, 0, 0, 0, 0, 0), (43, 2, 0, 0, 0, 0, 0), (44, 35, 146, 9, 250, 129, 0), (47, 7, 3, 0, 0, 0, 0), (48, 2, 0, 0, 0, 0, 0), (49, 27, 9, 6, 30, 126, 0), (52, 0, 2, 0, 0, 0, 0), (53, 31, 0, 0, 0, 0, 0), (54, 0, 3, 0, 0, 0, 0), (55, 23, 5, 41, 0, 0, 0), (58, 2, 0, 0, 0, 0, 0), (59, 27, 9, 6, 30, 126, 0), (62, 0, 2, 0, 0, 0, 0), (63, 31, 0, 0, 0, 0, 0), (64, 7, 3, 0, 0, 0, 0), (65, 2, 0, 0, 0, 0, 0), (66, 27, 9, 6, 30, 126, 0), (69, 0, 2, 0, 0, 0, 0), (70, 0, 3, 0, 0, 0, 0), (71, 4, 0, 0, 0, 1, 1), (72, 12, 0, 0, 0, 0, 0), (73, 33, 0, 0, 0, 0, 0), (74, 2, 0, 0, 0, 0, 0), (75, 27, 9, 23, 81, 143, 0), (78, 0, 2, 0, 0, 0, 0), (79, 4, 0, 0, 0, 1, 1), (80, 34, 0, 0, 0, 0, 0), (81, 2, 0, 0, 0, 0, 0), (82, 27, 9, 24, 84, 144, 0), (85, 0, 2, 0, 0, 0, 0), (86, 4, 0, 0, 0, 0, 0), (87, 33, 0, 0, 0, 0, 0), (88, 2, 0, 0, 0, 0, 0), (89, 27, 9, 25, 87, 145, 0), (92, 0, 2, 0, 0, 0, 0), (93, 4, 0, 0, 0, 0, 0), (94, 33, 0, 0, 0, 0, 0), (95, 4, 0, 0, 0, 1, 1), (96, 39, 0, 0, 0, 0, 0)]
def tx_t148 : tw_T := [(0, 2, 0, 0, 0, 0, 0), (1, 4, 0, 0, 0, 0, 0), (2, 28, 9, 0, 7, 120, 0), (5, 0, 1, 0, 0, 0, 0), (6, 4, 0, 0, 0, 0, 0), (7, 4, 0, 0, 0, 1, 1), (8, 36, 111, 0, 181, 104, 0), (11, 22, 0, 49, 0, 0, 0), (14, 2, 0, 0, 0, 0, 0), (15, 27, 9, 5, 27, 125, 0), (18, 4, 0, 0, 0, 0, 0), (19, 32, 0, 0, 0, 0, 0), (20, 22, 0, 49, 0, 0, 0), (23, 2, 0, 0, 0, 0, 0), (24, 27, 9, 5, 27, 125, 0), (27, 4, 0, 0, 0, 1, 1), (28, 32, 0, 0, 0, 0, 0), (29, 22, 0, 49, 0, 0, 0), (32, 2, 0, 0, 0, 0, 0), (33, 27, 9, 7, 33, 127, 0), (36, 4, 0, 0, 0, 0, 0), (37, 32, 0, 0, 0, 0, 0), (38, 22, 0, 49, 0, 0, 0), (41, 2, 0, 0, 0, 0, 0), (42, 27, 9, 7, 33, 127, 0), (45, 4, 0, 0, 0, 1, 1), (46, 32, 0, 0, 0, 0, 0), (47, 22, 0, 49, 0, 0, 0), (50, 2, 0, 0, 0, 0, 0), (51, 27, 9, 8, 36, 128, 0), (54, 0, 1, 0, 0, 0, 0), (55, 32, 0, 0, 0, 0, 0), (56, 2, 0, 0, 0, 0, 0), (57, 27, 9, 8, 36, 128, 0), (60, 4, 0, 0, 0, 2, 2), (61, 0, 1, 0, 0, 0, 0), (62, 12, 0, 0, 0, 0, 0), (63, 32, 0, 0, 0, 0, 0), (64, 23, 0, 49, 0, 0, 0), (67, 2, 0, 0, 0, 0, 0), (68, 27, 9, 37, 123, 157, 0), (71, 4, 0, 0, 0, 0, 0), (72, 31, 0, 0, 0, 0, 0), (73, 2, 0, 0, 0, 0, 0), (74, 27, 9, 37, 123, 157, 0), (77, 4, 0, 0, 0, 1, 1), (78, 31, 0, 0, 0, 0, 0), (79, 12, 0, 0, 0, 0, 0), (80, 22, 5, 51, 0, 0, 0), (83, 4, 0, 0, 0, 0, 0), (84, 39, 0, 0, 0, 0, 0), (85, 4, 0, 0, 0, 0, 0), (86, 7, 2, 0, 0, 0, 0), (87, 2, 0, 0, 0, 0, 0), (88, 27, 9, 8, 36, 128, 0), (91, 4, 0, 0, 0, 2, 2), (92, 0, 1, 0, 0, 0, 0), (93, 12, 0, 0, 0, 0, 0), (94, 32, 0, 0, 0, 0, 0), (95, 22, 0, 62, 0, 0, 0), (98, 4, 0, 0, 0, 1, 1), (99, 7, 2, 0, 0, 0, 0), (100, 5, 0, 0, 0, 16, 16), (102, 0, 1, 0, 0, 0, 0), (103, 14, 0, 0, 0, 0, 0), (104, 7, 3, 0, 0, 0, 0), (105, 0, 3, 0, 0, 0, 0), (106, 5, 0, 0, 0, 16, 16), (108, 0, 1, 0, 0, 0, 0), (109, 14, 0, 0, 0, 0, 0), (110, 5, 0, 0, 0, 16, 16), (112, 12, 0, 0, 0, 0, 0), (113, 23, 3, 97, 0, 0, 0), (116, 2, 0, 0, 0, 0, 0), (117, 27, 9, 12, 48, 132, 0), (120, 5, 0, 0, 0, 32, 32), (122, 0, 2, 0, 0, 0, 0), (123, 14, 0, 0, 0, 0, 0), (124, 0, 3, 0, 0, 0, 0), (125, 12, 0, 0, 0, 0, 0), (126, 32, 0, 0, 0, 0, 0), (127, 22, 1, 93, 0, 0, 0), (130, 2, 0, 0, 0, 0, 0), (131, 27, 9, 16, 60, 136, 0), (134, 5, 0, 0, 0, 8, 8), (136, 0, 2, 0, 0, 0, 0), (137, 14, 0, 0, 0, 0, 0), (138, 0, 3, 0, 0, 0, 0), (139, 4, 0, 0, 0, 4, 4), (140, 20, 0, 0, 0, 0, 0), (141, 12, 0, 0, 0, 0, 0), (142, 32, 0, 0, 0, 0, 0), (143, 22, 0, 95, 0, 0, 0), (146, 4, 0, 0, 0, 0, 0), (147, 39, 0, 0, 0, 0, 0), (148, 11, 3, 0, 0, 1, 1), (151, 24, 0, 66, 0, 0, 0), (154, 2, 0, 0, 0, 0, 0), (155, 27, 9, 26, 90, 146, 0), (158, 0, 2, 0, 0, 0, 0), (159, 31, 0, 0, 0, 0, 0), (160, 22, 2, 112, 0, 0, 0), (163, 2, 0, 0, 0, 0, 0), (164, 27, 9, 26, 90, 146, 0), (167, 0, 2, 0, 0, 0, 0), (168, 31, 0, 0, 0, 0, 0), (169, 4, 0, 0, 0, 4, 4), (170, 20, 0, 0, 0, 0, 0), (171, 0, 1, 0, 0, 0, 0), (172, 23, 1, 112, 0, 0, 0), (175, 4, 0, 0, 0, 0, 0), (176, 39, 0, 0, 0, 0, 0), (177, 5, 0, 0, 0, 16, 16), (179, 0, 1, 0, 0, 0, 0), (180, 14, 0, 0, 0, 0, 0), (181, 7, 3, 0, 0, 0, 0), (182, 0, 3, 0, 0, 0, 0), (183, 5, 0, 0, 0, 16, 16), (185, 0, 1, 0, 0, 0, 0), (186, 14, 0, 0, 0, 0, 0), (187, 5, 0, 0, 0, 16, 16), (189, 12, 0, 0, 0, 0, 0), (190, 23, 3, 145, 0, 0, 0), (193, 2, 0, 0, 0, 0, 0), (194, 27, 9, 9, 39, 129, 0), (197, 5, 0, 0, 0, 32, 32), (199, 0, 2, 0, 0, 0, 0), (200, 14, 0, 0, 0, 0, 0), (201, 0, 3, 0, 0, 0, 0), (202, 12, 0, 0, 0, 0, 0), (203, 4, 0, 0, 0, 0, 0), (204, 34, 0, 0, 0, 0, 0), (205, 2, 0, 0, 0, 0, 0), (206, 27, 9, 13, 51, 133, 0), (209, 5, 0, 0, 0, 32, 32), (211, 4, 0, 0, 0, 1, 1), (212, 0, 2, 0, 0, 0, 0), (213, 13, 0, 0, 0, 0, 0), (214, 14, 0, 0, 0, 0, 0), (215, 0, 3, 0, 0, 0, 0), (216, 12, 0, 0, 0, 0, 0), (217, 4, 0, 0, 0, 0, 0), (218, 34, 0, 0, 0, 0, 0), (219, 11, 3, 0, 0, 1, 1), (222, 24, 0, 116, 0, 0, 0), (225, 2, 0, 0, 0, 0, 0), (226, 27, 9, 8, 36, 128, 0), (229, 4, 0, 0, 0, 2, 2), (230, 0, 2, 0, 0, 0, 0), (231, 14, 0, 0, 0, 0, 0), (232, 0, 1, 0, 0, 0, 0), (233, 12, 0, 0, 0, 0, 0), (234, 4, 0, 0, 0, 0, 0), (235, 34, 0, 0, 0, 0, 0), (236, 2, 0, 0, 0, 0, 0), (237, 27, 9, 8, 36, 128, 0), (240, 4, 0, 0, 0, 2, 2), (241, 4, 0, 0, 0, 1, 1), (242, 0, 2, 0, 0, 0, 0), (243, 13, 0, 0, 0, 0, 0), (244, 14, 0, 0, 0, 0, 0), (245, 0, 1, 0, 0, 0, 0), (246, 12, 0, 0, 0, 0, 0), (247, 4, 0, 0, 0, 1, 1), (248, 34, 0, 0, 0, 0, 0), (249, 4, 0, 0, 0, 1, 1), (250, 39, 0, 0, 0, 0, 0)]
def tx_t149 : tw_T := [(0, 2, 0, 0, 0, 0, 0), (1, 4, 0, 0, 0, 0, 0), (2, 28, 9, 0, 7, 120, 0), (5, 0, 1, 0, 0, 0, 0), (6, 4, 0, 0, 0, 0, 0), (7, 4, 0, 0, 0, 1, 1), (8, 36, 111, 0, 181, 104, 0), (11, 22, 0, 13, 0, 0, 0), (14, 2, 0, 0, 0, 0, 0), (15, 27, 9, 5, 27, 125, 0), (18, 0, 1, 0, 0, 0, 0), (19, 32, 0, 0, 0, 0, 0), (20, 22, 1, 15, 0, 0, 0), (23, 4, 0, 0, 0, 0, 0), (24, 39, 0, 0, 0, 0, 0), (25, 2, 0, 0, 0, 0, 0), (26, 27, 9, 33, 111, 153, 0), (29, 0, 1, 0, 0, 0, 0), (30, 4, 0, 0, 0, 1, 1), (31, 34, 0, 0, 0, 0, 0), (32, 4, 0, 0, 0, 1, 1), (33, 39, 0, 0, 0, 0, 0)]
def tx_t150 : tw_T := [(0, 2, 0, 0, 0, 0, 0), (1, 4, 0, 0, 0, 0, 0), (2, 28, 9, 0, 7, 120, 0), (5, 0, 1, 0, 0, 0, 0), (6, 4, 0, 0, 0, 0, 0), (7, 4, 0, 0, 0, 4, 4), (8, 36, 111, 0, 181, 104, 0), (11, 22, 0, 13, 0, 0, 0), (14, 2, 0, 0, 0, 0, 0), (15, 27, 9, 1, 13, 121, 0), (18, 0, 1, 0, 0, 0, 0), (19, 32, 0, 0, 0, 0, 0), (20, 22, 1, 15, 0, 0, 0), (23, 4, 0, 0, 0, 0, 0), (24, 39, 0, 0, 0, 0, 0), (25, 2, 0, 0, 0, 0, 0), (26, 27, 9, 1, 13, 121, 0), (29, 0, 1, 0, 0, 0, 0), (30, 4, 0, 0, 0, 0, 0), (31, 34, 0, 0, 0, 0, 0), (32, 4, 0, 0, 0, 0, 0), (33, 7, 2, 0, 0, 0, 0), (34, 0, 2, 0, 0, 0, 0), (35, 5, 0, 0, 0, 8, 8), (37, 23, 3, 36, 0, 0, 0), (40, 2, 0, 0, 0, 0, 0), (41, 27, 9, 4, 24, 124, 0), (44, 5, 0, 0, 0, 8, 8), (46, 0, 1, 0, 0, 0, 0), (47, 14, 0, 0, 0, 0, 0), (48, 0, 2, 0, 0, 0, 0), (49, 12, 0, 0, 0, 0, 0), (50, 4, 0, 0, 0, 1, 1), (51, 34, 0, 0, 0, 0, 0), (52, 11, 2, 0, 0, 1, 1), (55, 24, 0, 22, 0, 0, 0), (58, 4, 0, 0, 0, 1, 1), (59, 39, 0, 0, 0, 0, 0)]
def tx_t151 : tw_T := [(0, 2, 0, 0, 0, 0, 0), (1, 4, 0, 0, 0, 0, 0), (2, 28, 9, 0, 7, 120, 0), (5, 0, 1, 0, 0, 0, 0), (6, 4, 0, 0, 0, 0, 0), (7, 4, 0, 0, 0, 4, 4), (8, 36, 111, 0, 181, 104, 0), (11, 22, 0, 13, 0, 0, 0), (14, 2, 0, 0, 0, 0, 0), (15, 27, 9, 1, 13, 121, 0), (18, 0, 1, 0, 0, 0, 0), (19, 32, 0, 0, 0, 0, 0), (20, 22, 0, 15, 0, 0, 0), (23, 4, 0, 0, 0, 0, 0), (24, 39, 0, 0, 0, 0, 0), (25, 2, 0, 0, 0, 0, 0), (26, 27, 9, 2, 17, 122, 0), (29, 0, 1, 0, 0, 0, 0), (30, 2, 0, 0, 0, 0, 0), (31, 35, 146, 9, 250, 129, 0), (34, 33, 0, 0, 0, 0, 0), (35, 2, 0, 0, 0, 0, 0), (36, 27, 9, 1, 13, 121, 0), (39, 0, 1, 0, 0, 0, 0), (40, 4, 0, 0, 0, 1, 1), (41, 34, 0, 0, 0, 0, 0), (42, 4, 0, 0, 0, 1, 1), (43, 39, 0, 0, 0, 0, 0)]
def tx_t152 : tw_T := [(0, 2, 0, 0, 0, 0, 0), (1, 4, 0, 0, 0, 0, 0), (2, 28, 9, 0, 7, 120, 0), (5, 0, 1, 0, 0, 0, 0), (6, 4, 0, 0, 0, 0, 0), (7, 4, 0, 0, 0, 4, 4), (8, 36, 111, 0, 181, 104, 0), (11, 22, 0, 13, 0, 0, 0), (14, 2, 0, 0, 0, 0, 0), (15, 27, 9, 1, 13, 121, 0), (18, 0, 1, 0, 0, 0, 0), (19, 32, 0, 0, 0, 0, 0), (20, 22, 1, 15, 0, 0, 0), (23, 4, 0, 0, 0, (-1), (-1)), (24, 38, 0, 0, 0, 0, 0), (25, 4, 0, 0, 0, 0, 0), (26, 7, 2, 0, 0, 0, 0), (27, 0, 2, 0, 0, 0, 0), (28, 5, 0, 0, 0, 8, 8), (30, 23, 3, 27, 0, 0, 0), (33, 2, 0, 0, 0, 0, 0), (34, 0, 1, 0, 0, 0, 0), (35, 0, 2, 0, 0, 0, 0), (36, 35, 119, 9, 167, 109, 0), (39, 22, 1, 27, 0, 0, 0), (42, 11, 2, 0, 0, 1, 1), (45, 24, 0, 17, 0, 0, 0), (48, 0, 2, 0, 0, 0, 0), (49, 5, 0, 0, 0, 8, 8), (51, 23, 0, 35, 0, 0, 0), (54, 2, 0, 0, 0, 0, 0), (55, 0, 1, 0, 0, 0, 0), (56, 0, 2, 0, 0, 0, 0), (57, 35, 120, 9, 174, 111, 0), (60, 22, 1, 37, 0, 0, 0), (63, 4, 0, 0, 0, (-1), (-1)), (64, 38, 0, 0, 0, 0, 0), (65, 2, 0, 0, 0, 0, 0), (66, 0, 1, 0, 0, 0, 0), (67, 0, 2, 0, 0, 0, 0), (68, 2, 0, 0, 0, 0, 0), (69, 0, 1, 0, 0, 0, 0), (70, 0, 2, 0, 0, 0, 0), (71, 35, 122, 9, 177, 112, 0), (74, 35, 127, 9, 208, 116, 0), (77, 0, 2, 0, 0, 0, 0), (78, 38, 0, 0, 0, 0, 0)]
def tx_t153 : tw_T := [(0, 2, 0, 0, 0, 0, 0), (1, 4, 0, 0, 0, 0, 0), (2, 28, 9, 0, 7, 120, 0), (5, 0, 1, 0, 0, 0, 0), (6, 4, 0, 0, 0, 0, 0), (7, 2, 0, 0, 0, 0, 0), (8, 27, 9, 45, 148, 165, 0), (11, 4, 0, 0, 0, 1, 1), (12, 13, 0, 0, 0, 0, 0), (13, 36, 111, 0, 181, 104, 0), (16, 22, 1, 13, 0, 0, 0), (19, 4, 0, 0, 0, (-1), (-1)), (20, 38, 0, 0, 0, 0, 0), (21, 2, 0, 0, 0, 0, 0), (22, 27, 9, 46, 151, 166, 0), (25, 0, 1, 0, 0, 0, 0), (26, 31, 0, 0, 0, 0, 0), (27, 7, 2, 0, 0, 0, 0), (28, 4, 0, 0, 0, 0, 0), (29, 7, 3, 0, 0, 0, 0), (30, 2, 0, 0, 0, 0, 0), (31, 27, 9, 1, 13, 121, 0), (34, 0, 2, 0, 0, 0, 0), (35, 32, 0, 0, 0, 0, 0), (36, 22, 0, 47, 0, 0, 0), (39, 2, 0, 0, 0, 0, 0), (40, 27, 9, 2, 17, 122, 0), (43, 0, 2, 0, 0, 0, 0), (44, 31, 0, 0, 0, 0, 0), (45, 2, 0, 0, 0, 0, 0), (46, 27, 9, 49, 160, 169, 0), (49, 0, 1, 0, 0, 0, 0), (50, 31, 0, 0, 0, 0, 0), (51, 23, 1, 47, 0, 0, 0), (54, 2, 0, 0, 0, 0, 0), (55, 0, 2, 0, 0, 0, 0), (56, 2, 0, 0, 0, 0, 0), (57, 27, 9, 47, 154, 167, 0), (60, 0, 1, 0, 0, 0, 0), (61, 31, 0, 0, 0, 0, 0), (62, 2, 0, 0, 0, 0, 0), (63, 27, 9, 48, 157, 168, 0), (66, 0, 1, 0, 0, 0, 0), (67, 31, 0, 0, 0, 0, 0), (68, 35, 127, 9, 208, 116, 0), (71, 4, 0, 0, 0, 1, 1), (72, 7, 3, 0, 0, 0, 0), (73, 2, 0, 0, 0, 0, 0), (74, 25, 0, 0, 0, 0, 0), (75, 27, 9, 45, 148, 165, 0), (78, 4, 0, 0, 0, 1, 1), (79, 13, 0, 0, 0, 0, 0), (80, 28, 9, 45, 148, 165, 0), (83, 0, 1, 0, 0, 0, 0), (84, 8, 4, 0, 0, 0, 0), (86, 1, 4, 0, 0, 0, 0), (88, 2, 0, 0, 0, 0, 0), (89, 27, 9, 45, 148, 165, 0), (92, 23, 3, 101, 0, 0, 0), (95, 2, 0, 0, 0, 0, 0), (96, 27, 9, 46, 151, 166, 0), (99, 1, 4, 0, 0, 0, 0), (101, 2, 0, 0, 0, 0, 0), (102, 27, 9, 46, 151, 166, 0), (105, 1, 4, 0, 0, 0, 0), (107, 4, 0, 0, 0, 1, 1), (108, 12, 0, 0, 0, 0, 0), (109, 31, 0, 0, 0, 0, 0), (110, 33, 0, 0, 0, 0, 0), (111, 2, 0, 0, 0, 0, 0), (112, 27, 9, 47, 154, 167, 0), (115, 1, 4, 0, 0, 0, 0), (117, 2, 0, 0, 0, 0, 0), (118, 27, 9, 47, 154, 167, 0), (121, 1, 4, 0, 0, 0, 0), (123, 4, 0, 0, 0, 1, 1), (124, 12, 0, 0, 0, 0, 0), (125, 31, 0, 0, 0, 0, 0), (126, 33, 0, 0, 0, 0, 0), (127, 2, 0, 0, 0, 0, 0), (128, 27, 9, 48, 157, 168, 0), (131, 1, 4, 0, 0, 0, 0), (133, 2, 0, 0, 0, 0, 0), (134, 27, 9, 48, 157, 168, 0), (137, 1, 4, 0, 0, 0, 0), (139, 4, 0, 0, 0, 1, 1), (140, 12, 0, 0, 0, 0, 0), (141, 31, 0, 0, 0, 0, 0), (142, 33, 0, 0, 0, 0, 0), (143, 2, 0, 0, 0, 0, 0), (144, 27, 9, 49, 160, 169, 0), (147, 1, 4, 0, 0, 0, 0), (149, 2, 0, 0, 0, 0, 0), (150, 27, 9, 49, 160, 169, 0), (153, 1, 4, 0, 0, 0, 0), (155, 4, 0, 0, 0, 1, 1), (156, 12, 0, 0, 0, 0, 0), (157, 31, 0, 0, 0, 0, 0), (158, 33, 0, 0, 0, 0, 0), (159, 11, 4, 0, 0, 1, 1), (162, 24, 0, 55, 0, 0, 0), (165, 0, 3, 0, 0, 0, 0), (166, 38, 0, 0, 0, 0, 0)]
def tx_t154 : tw_T := [(0, 2, 0, 0, 0, 0, 0), (1, 4, 0, 0, 0, 0, 0), (2, 28, 9, 0, 7, 120, 0), (5, 2, 0, 0, 0, 0, 0), (6, 27, 9, 45, 148, 165, 0), (9, 38, 0, 0, 0, 0, 0)]
def tx_t155 : tw_T := [(0, 2, 0, 0, 0, 0, 0), (1, 4, 0, 0, 0, 0, 0), (2, 28, 9, 0, 7, 120, 0), (5, 0, 1, 0, 0, 0, 0), (6, 4, 0, 0, 0, 0, 0), (7, 5, 0, 0, 0, 7, 7), (9, 36, 111, 0, 181, 104, 0), (12, 22, 1, 10, 0, 0, 0), (15, 4, 0, 0, 0, (-1), (-1)), (16, 38, 0, 0, 0, 0, 0), (17, 4, 0, 0, 0, 0, 0), (18, 7, 2, 0, 0, 0, 0), (19, 4, 0, 0, 0, 0, 0), (20, 7, 3, 0, 0, 0, 0), (21, 0, 3, 0, 0, 0, 0), (22, 4, 0, 0, 0, 5, 5), (23, 23, 3, 37, 0, 0, 0), (26, 2, 0, 0, 0, 0, 0), (27, 0, 3, 0, 0, 0, 0), (28, 0, 1, 0, 0, 0, 0), (29, 35, 119, 9, 167, 109, 0), (32, 22, 0, 24, 0, 0, 0), (35, 4, 0, 0, 0, (-1), (-1)), (36, 38, 0, 0, 0, 0, 0), (37, 0, 2, 0, 0, 0, 0), (38, 2, 0, 0, 0, 0, 0), (39, 27, 9, 3, 21, 123, 0), (42, 5, 0, 0, 0, 8, 8), (44, 0, 3, 0, 0, 0, 0), (45, 14, 0, 0, 0, 0, 0), (46, 0, 1, 0, 0, 0, 0), (47, 12, 0, 0, 0, 0, 0), (48, 31, 0, 0, 0, 0, 0), (49, 17, 0, 0, 0, 0, 0), (50, 7, 2, 0, 0, 0, 0), (51, 11, 3, 0, 0, 1, 1), (54, 24, 0, 14, 0, 0, 0), (57, 0, 2, 0, 0, 0, 0), (58, 22, 1, 41, 0, 0, 0), (61, 4, 0, 0, 0, 1, 1), (62, 38, 0, 0, 0, 0, 0), (63, 4, 0, 0, 0, 0, 0), (64, 38, 0, 0, 0, 0, 0)]
def tx_t156 : tw_T := [(0, 2, 0, 0, 0, 0, 0), (1, 4, 0, 0, 0, 0, 0), (2, 28, 9, 0, 7, 120, 0), (5, 0, 1, 0, 0, 0, 0), (6, 4, 0, 0, 0, 0, 0), (7, 4, 0, 0, 0, 4, 4), (8, 36, 111, 0, 181, 104, 0), (11, 22, 0, 18, 0, 0, 0), (14, 0, 2, 0, 0, 0, 0), (15, 4, 0, 0, 0, 0, 0), (16, 5, 0, 0, 0, 7, 7), (18, 36, 111, 0, 181, 104, 0), (21, 22, 0, 18, 0, 0, 0), (24, 2, 0, 0, 0, 0, 0), (25, 0, 1, 0, 0, 0, 0), (26, 0, 2, 0, 0, 0, 0), (27, 35, 119, 9, 167, 109, 0), (30, 22, 0, 23, 0, 0, 0), (33, 2, 0, 0, 0, 0, 0), (34, 4, 0, 0, 0, 1, 1), (35, 28, 9, 0, 7, 120, 0), (38, 4, 0, 0, 0, 0, 0), (39, 38, 0, 0, 0, 0, 0), (40, 2, 0, 0, 0, 0, 0), (41, 27, 9, 3, 21, 123, 0), (44, 5, 0, 0, 0, 8, 8), (46, 0, 1, 0, 0, 0, 0), (47, 14, 0, 0, 0, 0, 0), (48, 0, 2, 0, 0, 0, 0), (49, 12, 0, 0, 0, 0, 0), (50, 31, 0, 0, 0, 0, 0), (51, 38, 0, 0, 0, 0, 0)]
def tx_t157 : tw_T := [(0, 2, 0, 0, 0, 0, 0), (1, 4, 0, 0, 0, 0, 0), (2, 28, 9, 0, 7, 120, 0), (5, 0, 1, 0, 0, 0, 0), (6, 4, 0, 0, 0, 0, 0), (7, 4, 0, 0, 0, 4, 4), (8, 36, 111, 0, 181, 104, 0), (11, 22, 0, 13, 0, 0, 0), (14, 2, 0, 0, 0, 0, 0), (15, 27, 9, 1, 13, 121, 0), (18, 0, 1, 0, 0, 0, 0), (19, 32, 0, 0, 0, 0, 0), (20, 22, 1, 15, 0, 0, 0), (23, 4, 0, 0, 0, (-1), (-1)), (24, 38, 0, 0, 0, 0, 0), (25, 2, 0, 0, 0, 0, 0), (26, 27, 9, 2, 17, 122, 0), (29, 0, 1, 0, 0, 0, 0), (30, 31, 0, 0, 0, 0, 0), (31, 38, 0, 0, 0, 0, 0)]
def tx_t158 : tw_T := [(0, 0, 0, 0, 0, 0, 0), (1, 22, 0, 4, 0, 0, 0), (4, 4, 0, 0, 0, 1, 1), (5, 38, 0, 0, 0, 0, 0), (6, 4, 0, 0, 0, 0, 0), (7, 38, 0, 0, 0, 0, 0)]
def tx_t159 : tw_T := [(0, 4, 0, 0, 0, 0, 0), (1, 7, 3, 0, 0, 0, 0), (2, 4, 0, 0, 0, 0, 0), (3, 8, 4, 0, 0, 0, 0), (5, 1, 4, 0, 0, 0, 0), (7, 5, 0, 0, 0, 8, 8), (9, 23, 3, 23, 0, 0, 0), (12, 2, 1, 0, 0, 0, 0), (13, 5, 0, 0, 0, 8, 8), (15, 0, 2, 0, 0, 0, 0), (16, 14, 0, 0, 0, 0, 0), (17, 1, 4, 0, 0, 0, 0), (19, 12, 0, 0, 0, 0, 0), (20, 32, 0, 0, 0, 0, 0), (21, 22, 0, 21, 0, 0, 0), (24, 0, 3, 0, 0, 0, 0), (25, 4, 0, 0, 0, 1, 1), (26, 1, 4, 0, 0, 0, 0), (28, 18, 0, 0, 0, 0, 0), (29, 16, 0, 0, 0, 0, 0), (30, 7, 3, 0, 0, 0, 0), (31, 11, 4, 0, 0, 1, 1), (34, 24, 0, 4, 0, 0, 0), (37, 0, 3, 0, 0, 0, 0), (38, 38, 0, 0, 0, 0, 0)]
def tx_t160 : tw_T := [(0, 2, 0, 0, 0, 0, 0), (1, 4, 0, 0, 0, 0, 0), (2, 28, 9, 0, 7, 120, 0), (5, 0, 1, 0, 0, 0, 0), (6, 7, 3, 0, 0, 0, 0), (7, 0, 3, 0, 0, 0, 0), (8, 4, 0, 0, 0, 0, 0), (9, 4, 0, 0, 0, 1, 1), (10, 36, 111, 0, 181, 104, 0), (13, 22, 0, 15, 0, 0, 0), (16, 0, 2, 0, 0, 0, 0), (17, 4, 0, 0, 0, 0, 0), (18, 5, 0, 0, 0, 13, 13), (20, 36, 111, 0, 181, 104, 0), (23, 22, 1, 17, 0, 0, 0), (26, 4, 0, 0, 0, (-1), (-1)), (27, 38, 0, 0, 0, 0, 0), (28, 0, 2, 0, 0, 0, 0), (29, 22, 1, 23, 0, 0, 0), (32, 2, 0, 0, 0, 0, 0), (33, 0, 3, 0, 0, 0, 0), (34, 35, 135, 9, 235, 124, 0), (37, 38, 0, 0, 0, 0, 0), (38, 0, 2, 0, 0, 0, 0), (39, 4, 0, 0, 0, 1, 1), (40, 23, 1, 47, 0, 0, 0), (43, 4, 0, 0, 0, 0, 0), (44, 8, 4, 0, 0, 0, 0), (46, 4, 0, 0, 0, 0, 0), (47, 8, 5, 0, 0, 0, 0), (49, 1, 5, 0, 0, 0, 0), (51, 5, 0, 0, 0, 32, 32), (53, 23, 3, 45, 0, 0, 0), (56, 2, 0, 0, 0, 0, 0), (57, 27, 9, 13, 51, 133, 0), (60, 5, 0, 0, 0, 32, 32), (62, 0, 3, 0, 0, 0, 0), (63, 14, 0, 0, 0, 0, 0), (64, 1, 5, 0, 0, 0, 0), (66, 12, 0, 0, 0, 0, 0), (67, 32, 0, 0, 0, 0, 0), (68, 22, 0, 43, 0, 0, 0), (71, 11, 4, 0, 0, 1, 1), (74, 11, 5, 0, 0, 1, 1), (77, 24, 0, 30, 0, 0, 0), (80, 1, 4, 0, 0, 0, 0), (82, 38, 0, 0, 0, 0, 0), (83, 0, 2, 0, 0, 0, 0), (84, 4, 0, 0, 0, 2, 2), (85, 23, 1, 55, 0, 0, 0), (88, 2, 0, 0, 0, 0, 0), (89, 27, 9, 37, 123, 157, 0), (92, 0, 3, 0, 0, 0, 0), (93, 31, 0, 0, 0, 0, 0), (94, 38, 0, 0, 0, 0, 0), (95, 0, 2, 0, 0, 0, 0), (96, 4, 0, 0, 0, 3, 3), (97, 23, 1, 63, 0, 0, 0), (100, 2, 0, 0, 0, 0, 0), (101, 27, 9, 34, 114, 154, 0), (104, 0, 3, 0, 0, 0, 0), (105, 31, 0, 0, 0, 0, 0), (106, 38, 0, 0, 0, 0, 0), (107, 0, 2, 0, 0, 0, 0), (108, 4, 0, 0, 0, 4, 4), (109, 23, 1, 71, 0, 0, 0), (112, 2, 0, 0, 0, 0, 0), (113, 27, 9, 6, 30, 126, 0), (116, 0, 3, 0, 0, 0, 0), (117, 31, 0, 0, 0, 0, 0), (118, 38, 0, 0, 0, 0, 0), (119, 0, 2, 0, 0, 0, 0), (120, 4, 0, 0, 0, 5, 5), (121, 23, 1, 80, 0, 0, 0), (124, 2, 0, 0, 0, 0, 0), (125, 27, 9, 5, 27, 125, 0), (128, 0, 3, 0, 0, 0, 0), (129, 32, 0, 0, 0, 0, 0), (130, 36, 158, 0, 254, 130, 0), (133, 38, 0, 0, 0, 0, 0), (134, 0, 2, 0, 0, 0, 0), (135, 5, 0, 0, 0, 6, 6), (137, 23, 1, 89, 0, 0, 0), (140, 2, 0, 0, 0, 0, 0), (141, 27, 9, 7, 33, 127, 0), (144, 0, 3, 0, 0, 0, 0), (145, 32, 0, 0, 0, 0, 0), (146, 36, 158, 0, 254, 130, 0), (149, 38, 0, 0, 0, 0, 0), (150, 0, 2, 0, 0, 0, 0), (151, 5, 0, 0, 0, 7, 7), (153, 23, 1, 98, 0, 0, 0), (156, 2, 0, 0, 0, 0, 0), (157, 27, 9, 23, 81, 143, 0), (160, 0, 3, 0, 0, 0, 0), (161, 32, 0, 0, 0, 0, 0), (162, 36, 158, 0, 254, 130, 0), (165, 38, 0, 0, 0, 0, 0), (166, 0, 2, 0, 0, 0, 0), (167, 5, 0, 0, 0, 8, 8), (169, 23, 1, 107, 0, 0, 0), (172, 2, 0, 0, 0, 0, 0), (173, 27, 9, 33, 111, 153, 0), (176, 0, 3, 0, 0, 0, 0), (177, 32, 0, 0, 0, 0, 0), (178, 36, 158, 0, 254, 130, 0), (181, 38, 0, 0, 0, 0, 0), (182, 0, 2, 0, 0, 0, 0), (183, 5, 0, 0, 0, 9, 9), (185, 23, 1, 115, 0, 0, 0), (188, 2, 0, 0, 0, 0, 0), (189, 27, 9, 26, 90, 146, 0), (192, 0, 3, 0, 0, 0, 0), (193, 31, 0, 0, 0, 0, 0), (194, 38, 0, 0, 0, 0, 0), (195, 0, 2, 0, 0, 0, 0), (196, 5, 0, 0, 0, 10, 10), (198, 23, 1, 138, 0, 0, 0), (201, 2, 0, 0, 0, 0, 0), (202, 27, 9, 8, 36, 128, 0), (205, 4, 0, 0, 0, 2, 2), (206, 0, 3, 0, 0, 0, 0), (207, 14, 0, 0, 0, 0, 0), (208, 32, 0, 0, 0, 0, 0), (209, 36, 158, 0, 254, 130, 0), (212, 4, 0, 0, 0, 2, 2), (213, 2, 0, 0, 0, 0, 0), (214, 27, 9, 8, 36, 128, 0), (217, 4, 0, 0, 0, 2, 2), (218, 0, 3, 0, 0, 0, 0), (219, 14, 0, 0, 0, 0, 0), (220, 4, 0, 0, 0, 1, 1), (221, 12, 0, 0, 0, 0, 0), (222, 32, 0, 0, 0, 0, 0), (223, 36, 158, 0, 254, 130, 0), (226, 14, 0, 0, 0, 0, 0), (227, 12, 0, 0, 0, 0, 0), (228, 38, 0, 0, 0, 0, 0), (229, 0, 2, 0, 0, 0, 0), (230, 5, 0, 0, 0, 11, 11), (232, 23, 1, 147, 0, 0, 0), (235, 2, 0, 0, 0, 0, 0), (236, 2, 0, 0, 0, 0, 0), (237, 27, 9, 16, 60, 136, 0), (240, 0, 3, 0, 0, 0, 0), (241, 35, 159, 9, 258, 131, 0), (244, 38, 0, 0, 0, 0, 0), (245, 0, 2, 0, 0, 0, 0), (246, 5, 0, 0, 0, 12, 12), (248, 23, 1, 156, 0, 0, 0), (251, 2, 0, 0, 0, 0, 0), (252, 2, 0, 0, 0, 0, 0), (253, 27, 9, 17, 63, 137, 0), (256, 0, 3, 0, 0, 0, 0), (257, 35, 159, 9, 258, 131, 0), (260, 38, 0, 0, 0, 0, 0), (261, 2, 0, 0, 0, 0, 0), (262, 2, 0, 0, 0, 0, 0), (263, 27, 9, 18, 66, 138, 0), (266, 0, 3, 0, 0, 0, 0), (267, 35, 159, 9, 258, 131, 0), (270, 38, 0, 0, 0, 0, 0)]
def tx_tL : tw_T := [(0, 42, 8, 6, 8, 8, 0), (3, 25, 0, 0, 0, 0, 0), (4, 37, 61, 8, 22, 132, 0), (7, 9, 1, 0, 0, 0, 0), (8, 42, 9, 50, 23, 9, 0), (11, 25, 0, 0, 0, 0, 0), (12, 37, 109, 9, 25, 133, 0), (15, 9, 2, 0, 0, 0, 0), (16, 4, 0, 0, 0, 1, 1), (17, 43, 102, 0, 0, 0, 0), (19, 9, 3, 0, 0, 0, 0), (20, 4, 0, 0, 0, 0, 0), (21, 8, 4, 0, 0, 0, 0), (23, 1, 4, 0, 0, 0, 0), (25, 47, 0, 0, 0, 0, 0), (26, 49, 0, 0, 0, 0, 0), (27, 4, 0, 0, 0, 4, 4), (28, 13, 0, 0, 0, 0, 0), (29, 23, 4, 491, 0, 0, 0), (32, 47, 0, 0, 0, 0, 0), (33, 1, 4, 0, 0, 0, 0), (35, 48, 0, 0, 0, 0, 0), (36, 5, 0, 0, 0, 31, 31), (38, 15, 0, 0, 0, 0, 0), (39, 46, 2, 0, 0, 0, 0), (140, 2, 1, 0, 0, 0, 0), (141, 47, 0, 0, 0, 0, 0), (142, 1, 4, 0, 0, 0, 0), (144, 4, 0, 0, 0, 1, 1), (145, 12, 0, 0, 0, 0, 0), (146, 48, 0, 0, 0, 0, 0), (147, 47, 0, 0, 0, 0, 0), (148, 1, 4, 0, 0, 0, 0), (150, 4, 0, 0, 0, 2, 2), (151, 12, 0, 0, 0, 0, 0), (152, 48, 0, 0, 0, 0, 0), (153, 47, 0, 0, 0, 0, 0), (154, 1, 4, 0, 0, 0, 0), (156, 4, 0, 0, 0, 3, 3), (157, 12, 0, 0, 0, 0, 0), (158, 48, 0, 0, 0, 0, 0), (159, 35, 67, 8, 26, 134, 0), (162, 2, 2, 0, 0, 0, 0), (163, 47, 0, 0, 0, 0, 0), (164, 1, 4, 0, 0, 0, 0), (166, 4, 0, 0, 0, 1, 1), (167, 12, 0, 0, 0, 0, 0), (168, 48, 0, 0, 0, 0, 0), (169, 47, 0, 0, 0, 0, 0), (170, 1, 4, 0, 0, 0, 0), (172, 4, 0, 0, 0, 2, 2), (173, 12, 0, 0, 0, 0, 0), (174, 48, 0, 0, 0, 0, 0), (175, 47, 0, 0, 0, 0, 0), (176, 1, 4, 0, 0, 0, 0), (178, 4, 0, 0, 0, 3, 3), (179, 12, 0, 0, 0, 0, 0), (180, 48, 0, 0, 0, 0, 0), (181, 35, 115, 9, 30, 135, 0), (184, 23, 0, 489, 0, 0, 0), (187, 4, 0, 0, 0, 0, 0), (188, 39, 0, 0, 0, 0, 0), (189, 2, 1, 0, 0, 0, 0), (190, 47, 0, 0, 0, 0, 0), (191, 1, 4, 0, 0, 0, 0), (193, 4, 0, 0, 0, 1, 1), (194, 12, 0, 0, 0, 0, 0), (195, 48, 0, 0, 0, 0, 0), (196, 47, 0, 0, 0, 0, 0), (197, 1, 4, 0, 0, 0, 0), (199, 4, 0, 0, 0, 2, 2), (200, 12, 0, 0, 0, 0, 0), (201, 48, 0, 0, 0, 0, 0), (202, 35, 69, 8, 31, 136, 0), (205, 2, 2, 0, 0, 0, 0), (206, 47, 0, 0, 0, 0, 0), (207, 1, 4, 0, 0, 0, 0), (209, 4, 0, 0, 0, 1, 1), (210, 12, 0, 0, 0, 0, 0), (211, 48, 0, 0, 0, 0, 0), (212, 47, 0, 0, 0, 0, 0), (213, 1, 4, 0, 0, 0, 0), (215, 4, 0, 0, 0, 2, 2), (216, 12, 0, 0, 0, 0, 0), (217, 48, 0, 0, 0, 0, 0), (218, 35, 124, 9, 34, 137, 0), (221, 23, 0, 489, 0, 0, 0), (224, 4, 0, 0, 0, 0, 0), (225, 39, 0, 0, 0, 0, 0), (226, 2, 1, 0, 0, 0, 0), (227, 47, 0, 0, 0, 0, 0), (228, 1, 4, 0, 0, 0, 0), (230, 4, 0, 0, 0, 1, 1), (231, 12, 0, 0, 0, 0, 0), (232, 48, 0, 0, 0, 0, 0), (233, 2, 3, 0, 0, 0, 0), (234, 99, 0, 0, 35, 0, 0), (237, 8, 5, 0, 0, 0, 0), (239, 2, 2, 0, 0, 0, 0), (240, 47, 0, 0, 0, 0, 0), (241, 1, 4, 0, 0, 0, 0), (243, 4, 0, 0, 0, 1, 1), (244, 12, 0, 0, 0, 0, 0), (245, 48, 0, 0, 0, 0, 0), (246, 35, 125, 9, 40, 138, 0), (249, 8, 6, 0, 0, 0, 0), (251, 2, 2, 0, 0, 0, 0), (252, 35, 110, 9, 41, 139, 0), (255, 1, 5, 0, 0, 0, 0), (257, 23, 0, 112, 0, 0, 0), (260, 4, 0, 0, 0, 0, 0), (261, 39, 0, 0, 0, 0, 0), (262, 1, 5, 0, 0, 0, 0), (264, 22, 1, 123, 0, 0, 0), (267, 2, 3, 0, 0, 0, 0), (268, 4, 0, 0, 0, 0, 0), (269, 50, 0, 0, 0, 0, 0), (270, 1, 6, 0, 0, 0, 0), (272, 51, 0, 0, 0, 0, 0), (273, 52, 0, 0, 0, 0, 0), (274, 22, 0, 123, 0, 0, 0), (277, 4, 0, 0, 0, 0, 0), (278, 39, 0, 0, 0, 0, 0), (279, 24, 0, 489, 0, 0, 0), (282, 2, 1, 0, 0, 0, 0), (283, 47, 0, 0, 0, 0, 0), (284, 1, 4, 0, 0, 0, 0), (286, 4, 0, 0, 0, 1, 1), (287, 12, 0, 0, 0, 0, 0), (288, 48, 0, 0, 0, 0, 0), (289, 2, 3, 0, 0, 0, 0), (290, 99, 0, 0, 45, 0, 0), (293, 8, 5, 0, 0, 0, 0), (295, 2, 2, 0, 0, 0, 0), (296, 47, 0, 0, 0, 0, 0), (297, 1, 4, 0, 0, 0, 0), (299, 4, 0, 0, 0, 1, 1), (300, 12, 0, 0, 0, 0, 0), (301, 48, 0, 0, 0, 0, 0), (302, 35, 126, 9, 47, 140, 0), (305, 8, 6, 0, 0, 0, 0), (307, 2, 2, 0, 0, 0, 0), (308, 35, 110, 9, 41, 139, 0), (311, 1, 5, 0, 0, 0, 0), (313, 23, 0, 147, 0, 0, 0), (316, 4, 0, 0, 0, 0, 0), (317, 39, 0, 0, 0, 0, 0), (318, 1, 5, 0, 0, 0, 0), (320, 22, 1, 158, 0, 0, 0), (323, 2, 3, 0, 0, 0, 0), (324, 4, 0, 0, 0, 0, 0), (325, 50, 0, 0, 0, 0, 0), (326, 1, 6, 0, 0, 0, 0), (328, 51, 0, 0, 0, 0, 0), (329, 52, 0, 0, 0, 0, 0), (330, 22, 0, 158, 0, 0, 0), (333, 4, 0, 0, 0, 0, 0), (334, 39, 0, 0, 0, 0, 0), (335, 24, 0, 489, 0, 0, 0), (338, 2, 1, 0, 0, 0, 0), (339, 47, 0, 0, 0, 0, 0), (340, 1, 4, 0, 0, 0, 0), (342, 4, 0, 0, 0, 1, 1), (343, 12, 0, 0, 0, 0, 0), (344, 48, 0, 0, 0, 0, 0), (345, 35, 83, 8, 48, 141, 0), (348, 2, 2, 0, 0, 0, 0), (349, 47, 0, 0, 0, 0, 0), (350, 1, 4, 0, 0, 0, 0), (352, 4, 0, 0, 0, 1, 1), (353, 12, 0, 0, 0, 0, 0), (354, 48, 0, 0, 0, 0, 0), (355, 35, 138, 9, 51, 142, 0), (358, 23, 0, 489, 0, 0, 0), (361, 4, 0, 0, 0, 0, 0), (362, 39, 0, 0, 0, 0, 0), (363, 2, 1, 0, 0, 0, 0), (364, 47, 0, 0, 0, 0, 0), (365, 1, 4, 0, 0, 0, 0), (367, 4, 0, 0, 0, 1, 1), (368, 12, 0, 0, 0, 0, 0), (369, 48, 0, 0, 0, 0, 0), (370, 35, 85, 8, 52, 143, 0), (373, 2, 2, 0, 0, 0, 0), (374, 47, 0, 0, 0, 0, 0), (375, 1, 4, 0, 0, 0, 0), (377, 4, 0, 0, 0, 1, 1), (378, 12, 0, 0, 0, 0, 0), (379, 48, 0, 0, 0, 0, 0), (380, 35, 139, 9, 55, 144, 0), (383, 23, 0, 489, 0, 0, 0), (386, 4, 0, 0, 0, 0, 0), (387, 39, 0, 0, 0, 0, 0), (388, 2, 1, 0, 0, 0, 0), (389, 47, 0, 0, 0, 0, 0), (390, 1, 4, 0, 0, 0, 0), (392, 4, 0, 0, 0, 1, 1), (393, 12, 0, 0, 0, 0, 0), (394, 48, 0, 0, 0, 0, 0), (395, 22, 0, 202, 0, 0, 0), (398, 4, 0, 0, 0, 1, 1), (399, 24, 0, 203, 0, 0, 0), (402, 4, 0, 0, 0, 0, 0), (403, 35, 86, 8, 56, 145, 0), (406, 2, 2, 0, 0, 0, 0), (407, 47, 0, 0, 0, 0, 0), (408, 1, 4, 0, 0, 0, 0), (410, 4, 0, 0, 0, 1, 1), (411, 12, 0, 0, 0, 0, 0), (412, 48, 0, 0, 0, 0, 0), (413, 22, 0, 213, 0, 0, 0), (416, 4, 0, 0, 0, 1, 1), (417, 24, 0, 214, 0, 0, 0), (420, 4, 0, 0, 0, 0, 0), (421, 35, 140, 9, 60, 146, 0), (424, 24, 0, 489, 0, 0, 0), (427, 2, 1, 0, 0, 0, 0), (428, 47, 0, 0, 0, 0, 0), (429, 1, 4, 0, 0, 0, 0), (431, 4, 0, 0, 0, 1, 1), (432, 12, 0, 0, 0, 0, 0), (433, 48, 0, 0, 0, 0, 0), (434, 35, 87, 8, 61, 147, 0), (437, 2, 2, 0, 0, 0, 0), (438, 47, 0, 0, 0, 0, 0), (439, 1, 4, 0, 0, 0, 0), (441, 4, 0, 0, 0, 1, 1), (442, 12, 0, 0, 0, 0, 0), (443, 48, 0, 0, 0, 0, 0), (444, 35, 141, 9, 65, 148, 0), (447, 23, 0, 489, 0, 0, 0), (450, 4, 0, 0, 0, 0, 0), (451, 39, 0, 0, 0, 0, 0), (452, 2, 1, 0, 0, 0, 0), (453, 47, 0, 0, 0, 0, 0), (454, 1, 4, 0, 0, 0, 0), (456, 4, 0, 0, 0, 1, 1), (457, 12, 0, 0, 0, 0, 0), (458, 48, 0, 0, 0, 0, 0), (459, 35, 88, 8, 66, 149, 0), (462, 2, 2, 0, 0, 0, 0), (463, 47, 0, 0, 0, 0, 0), (464, 1, 4, 0, 0, 0, 0), (466, 4, 0, 0, 0, 1, 1), (467, 12, 0, 0, 0, 0, 0), (468, 48, 0, 0, 0, 0, 0), (469, 35, 142, 9, 69, 150, 0), (472, 23, 0, 489, 0, 0, 0), (475, 4, 0, 0, 0, 0, 0), (476, 39, 0, 0, 0, 0, 0), (477, 2, 1, 0, 0, 0, 0), (478, 35, 91, 8, 70, 151, 0), (481, 2, 2, 0, 0, 0, 0), (482, 35, 145, 9, 74, 152, 0), (485, 23, 0, 489, 0, 0, 0), (488, 4, 0, 0, 0, 0, 0), (489, 39, 0, 0, 0, 0, 0), (490, 2, 1, 0, 0, 0, 0), (491, 47, 0, 0, 0, 0, 0), (492, 1, 4, 0, 0, 0, 0), (494, 4, 0, 0, 0, 1, 1), (495, 12, 0, 0, 0, 0, 0), (496, 48, 0, 0, 0, 0, 0), (497, 35, 92, 8, 75, 153, 0), (500, 2, 2, 0, 0, 0, 0), (501, 47, 0, 0, 0, 0, 0), (502, 1, 4, 0, 0, 0, 0), (504, 4, 0, 0, 0, 1, 1), (505, 12, 0, 0, 0, 0, 0), (506, 48, 0, 0, 0, 0, 0), (507, 35, 147, 9, 78, 154, 0), (510, 23, 0, 489, 0, 0, 0), (513, 4, 0, 0, 0, 0, 0), (514, 39, 0, 0, 0, 0, 0), (515, 2, 1, 0, 0, 0, 0), (516, 47, 0, 0, 0, 0, 0), (517, 1, 4, 0, 0, 0, 0), (519, 4, 0, 0, 0, 1, 1), (520, 12, 0, 0, 0, 0, 0), (521, 48, 0, 0, 0, 0, 0), (522, 35, 94, 8, 79, 155, 0), (525, 2, 2, 0, 0, 0, 0), (526, 47, 0, 0, 0, 0, 0), (527, 1, 4, 0, 0, 0, 0), (529, 4, 0, 0, 0, 1, 1), (530, 12, 0, 0, 0, 0, 0), (531, 48, 0, 0, 0, 0, 0), (532, 35, 148, 9, 82, 156, 0), (535, 23, 0, 489, 0, 0, 0), (538, 4, 0, 0, 0, 0, 0), (539, 39, 0, 0, 0, 0, 0), (540, 2, 1, 0, 0, 0, 0), (541, 47, 0, 0, 0, 0, 0), (542, 1, 4, 0, 0, 0, 0), (544, 4, 0, 0, 0, 1, 1), (545, 12, 0, 0, 0, 0, 0), (546, 48, 0, 0, 0, 0, 0), (547, 35, 95, 8, 83, 157, 0), (550, 2, 2, 0, 0, 0, 0), (551, 47, 0, 0, 0, 0, 0), (552, 1, 4, 0, 0, 0, 0), (554, 4, 0, 0, 0, 1, 1), (555, 12, 0, 0, 0, 0, 0), (556, 48, 0, 0, 0, 0, 0), (557, 35, 149, 9, 86, 158, 0), (560, 23, 0, 489, 0, 0, 0), (563, 4, 0, 0, 0, 0, 0), (564, 39, 0, 0, 0, 0, 0), (565, 2, 1, 0, 0, 0, 0), (566, 47, 0, 0, 0, 0, 0), (567, 1, 4, 0, 0, 0, 0), (569, 4, 0, 0, 0, 1, 1), (570, 12, 0, 0, 0, 0, 0), (571, 48, 0, 0, 0, 0, 0), (572, 35, 97, 8, 87, 159, 0), (575, 2, 2, 0, 0, 0, 0), (576, 47, 0, 0, 0, 0, 0), (577, 1, 4, 0, 0, 0, 0), (579, 4, 0, 0, 0, 1, 1), (580, 12, 0, 0, 0, 0, 0), (581, 48, 0, 0, 0, 0, 0), (582, 35, 150, 9, 90, 160, 0), (585, 23, 0, 489, 0, 0, 0), (588, 4, 0, 0, 0, 0, 0), (589, 39, 0, 0, 0, 0, 0), (590, 2, 1, 0, 0, 0, 0), (591, 47, 0, 0, 0, 0, 0), (592, 1, 4, 0, 0, 0, 0), (594, 4, 0, 0, 0, 1, 1), (595, 12, 0, 0, 0, 0, 0), (596, 48, 0, 0, 0, 0, 0), (597, 35, 98, 8, 91, 161, 0), (600, 2, 2, 0, 0, 0, 0), (601, 47, 0, 0, 0, 0, 0), (602, 1, 4, 0, 0, 0, 0), (604, 4, 0, 0, 0, 1, 1), (605, 12, 0, 0, 0, 0, 0), (606, 48, 0, 0, 0, 0, 0), (607, 35, 151, 9, 94, 162, 0), (610, 23, 0, 489, 0, 0, 0), (613, 4, 0, 0, 0, 0, 0), (614, 39, 0, 0, 0, 0, 0), (615, 2, 1, 0, 0, 0, 0), (616, 47, 0, 0, 0, 0, 0), (617, 1, 4, 0, 0, 0, 0), (619, 4, 0, 0, 0, 1, 1), (620, 12, 0, 0, 0, 0, 0), (621, 48, 0, 0, 0, 0, 0), (622, 35, 99, 8, 95, 163, 0), (625, 2, 2, 0, 0, 0, 0), (626, 47, 0, 0, 0, 0, 0), (627, 1, 4, 0, 0, 0, 0), (629, 4, 0, 0, 0, 1, 1), (630, 12, 0, 0, 0, 0, 0), (631, 48, 0, 0, 0, 0, 0), (632, 35, 152, 9, 98, 164, 0), (635, 23, 0, 489, 0, 0, 0), (638, 4, 0, 0, 0, 0, 0), (639, 39, 0, 0, 0, 0, 0), (640, 2, 1, 0, 0, 0, 0), (641, 47, 0, 0, 0, 0, 0), (642, 1, 4, 0, 0, 0, 0), (644, 4, 0, 0, 0, 1, 1), (645, 12, 0, 0, 0, 0, 0), (646, 48, 0, 0, 0, 0, 0), (647, 35, 100, 8, 99, 165, 0), (650, 2, 2, 0, 0, 0, 0), (651, 47, 0, 0, 0, 0, 0), (652, 1, 4, 0, 0, 0, 0), (654, 4, 0, 0, 0, 1, 1), (655, 12, 0, 0, 0, 0, 0), (656, 48, 0, 0, 0, 0, 0), (657, 35, 153, 9, 102, 166, 0), (660, 23, 0, 489, 0, 0, 0), (663, 4, 0, 0, 0, 0, 0), (664, 39, 0, 0, 0, 0, 0), (665, 2, 1, 0, 0, 0, 0), (666, 35, 101, 8, 103, 167, 0), (669, 2, 2, 0, 0, 0, 0), (670, 35, 154, 9, 106, 168, 0), (673, 23, 0, 489, 0, 0, 0), (676, 4, 0, 0, 0, 0, 0), (677, 39, 0, 0, 0, 0, 0), (678, 2, 1, 0, 0, 0, 0), (679, 47, 0, 0, 0, 0, 0), (680, 1, 4, 0, 0, 0, 0), (682, 4, 0, 0, 0, 1, 1), (683, 12, 0, 0, 0, 0, 0), (684, 48, 0, 0, 0, 0, 0), (685, 35, 103, 8, 107, 169, 0), (688, 2, 2, 0, 0, 0, 0), (689, 47, 0, 0, 0, 0, 0), (690, 1, 4, 0, 0, 0, 0), (692, 4, 0, 0, 0, 1, 1), (693, 12, 0, 0, 0, 0, 0), (694, 48, 0, 0, 0, 0, 0), (695, 35, 155, 9, 110, 170, 0), (698, 23, 0, 489, 0, 0, 0), (701, 4, 0, 0, 0, 0, 0), (702, 39, 0, 0, 0, 0, 0), (703, 2, 1, 0, 0, 0, 0), (704, 47, 0, 0, 0, 0, 0), (705, 1, 4, 0, 0, 0, 0), (707, 4, 0, 0, 0, 1, 1), (708, 12, 0, 0, 0, 0, 0), (709, 48, 0, 0, 0, 0, 0), (710, 47, 0, 0, 0, 0, 0), (711, 1, 4, 0, 0, 0, 0), (713, 4, 0, 0, 0, 2, 2), (714, 12, 0, 0, 0, 0, 0), (715, 48, 0, 0, 0, 0, 0), (716, 2, 3, 0, 0, 0, 0), (717, 99, 0, 0, 111, 0, 0), (720, 8, 5, 0, 0, 0, 0), (722, 2, 2, 0, 0, 0, 0), (723, 47, 0, 0, 0, 0, 0), (724, 1, 4, 0, 0, 0, 0), (726, 4, 0, 0, 0, 1, 1), (727, 12, 0, 0, 0, 0, 0), (728, 48, 0, 0, 0, 0, 0), (729, 47, 0, 0, 0, 0, 0), (730, 1, 4, 0, 0, 0, 0), (732, 4, 0, 0, 0, 2, 2), (733, 12, 0, 0, 0, 0, 0), (734, 48, 0, 0, 0, 0, 0), (735, 35, 156, 9, 114, 171, 0), (738, 8, 6, 0, 0, 0, 0), (740, 2, 2, 0, 0, 0, 0), (741, 35, 110, 9, 41, 139, 0), (744, 1, 5, 0, 0, 0, 0), (746, 23, 0, 433, 0, 0, 0), (749, 4, 0, 0, 0, 0, 0), (750, 39, 0, 0, 0, 0, 0), (751, 1, 5, 0, 0, 0, 0), (753, 22, 1, 444, 0, 0, 0), (756, 2, 3, 0, 0, 0, 0), (757, 4, 0, 0, 0, 0, 0), (758, 50, 0, 0, 0, 0, 0), (759, 1, 6, 0, 0, 0, 0), (761, 51, 0, 0, 0, 0, 0), (762, 52, 0, 0, 0, 0, 0), (763, 22, 0, 444, 0, 0, 0), (766, 4, 0, 0, 0, 0, 0), (767, 39, 0, 0, 0, 0, 0), (768, 24, 0, 489, 0, 0, 0), (771, 2, 1, 0, 0, 0, 0), (772, 47, 0, 0, 0, 0, 0), (773, 1, 4, 0, 0, 0, 0), (775, 4, 0, 0, 0, 1, 1), (776, 12, 0, 0, 0, 0, 0), (777, 48, 0, 0, 0, 0, 0), (778, 35, 104, 8, 115, 172, 0), (781, 2, 2, 0, 0, 0, 0), (782, 47, 0, 0, 0, 0, 0), (783, 1, 4, 0, 0, 0, 0), (785, 4, 0, 0, 0, 1, 1), (786, 12, 0, 0, 0, 0, 0), (787, 48, 0, 0, 0, 0, 0), (788, 35, 157, 9, 118, 173, 0), (791, 23, 0, 489, 0, 0, 0), (794, 4, 0, 0, 0, 0, 0), (795, 39, 0, 0, 0, 0, 0), (796, 2, 1, 0, 0, 0, 0), (797, 47, 0, 0, 0, 0, 0), (798, 1, 4, 0, 0, 0, 0), (800, 4, 0, 0, 0, 1, 1), (801, 12, 0, 0, 0, 0, 0), (802, 48, 0, 0, 0, 0, 0), (803, 47, 0, 0, 0, 0, 0), (804, 1, 4, 0, 0, 0, 0), (806, 4, 0, 0, 0, 2, 2), (807, 12, 0, 0, 0, 0, 0), (808, 48, 0, 0, 0, 0, 0), (809, 35, 105, 8, 119, 174, 0), (812, 2, 2, 0, 0, 0, 0), (813, 47, 0, 0, 0, 0, 0), (814, 1, 4, 0, 0, 0, 0), (816, 4, 0, 0, 0, 1, 1), (817, 12, 0, 0, 0, 0, 0), (818, 48, 0, 0, 0, 0, 0), (819, 47, 0, 0, 0, 0, 0), (820, 1, 4, 0, 0, 0, 0), (822, 4, 0, 0, 0, 2, 2), (823, 12, 0, 0, 0, 0, 0), (824, 48, 0, 0, 0, 0, 0), (825, 35, 160, 9, 122, 175, 0), (828, 23, 0, 489, 0, 0, 0), (831, 4, 0, 0, 0, 0, 0), (832, 39, 0, 0, 0, 0, 0), (833, 11, 4, 0, 0, 4, 4), (836, 24, 0, 13, 0, 0, 0), (839, 4, 0, 0, 0, 1, 1), (840, 39, 0, 0, 0, 0, 0)]
def tx_sw : tw_SW := [(0, [10, 36, 44, 53, 62], 73), (0, [11, 15, 19, 23, 26, 29, 36, 43, 50, 57, 61, 64, 67, 70], 73), (0, [25, 62, 89, 124, 159, 176, 193, 216, 233, 250, 257, 274, 291, 308, 325, 342, 359, 376, 383, 400, 445, 462], 489)]
def tx_lk : tw_LK := ([(4, 9, 4, 0, 1), (4, 15, 4, 1, 1), (4, 18, 4, 2, 1), (4, 22, 4, 3, 1), (5, 9, 5, 0, 1), (5, 15, 5, 1, 1), (5, 18, 5, 2, 1), (5, 21, 5, 3, 1), (5, 24, 5, 4, 1), (5, 27, 5, 5, 0), (5, 31, 5, 6, 0), (1, 9, 1, 0, 1), (1, 15, 1, 1, 1), (1, 19, 1, 2, 1), (1, 22, 1, 3, 0), (1, 26, 1, 4, 0), (1, 29, 1, 5, 0), (1, 33, 1, 6, 0), (2, 7, 2, 0, 0), (2, 13, 2, 1, 0), (2, 17, 2, 2, 0), (2, 20, 2, 3, 0), (2, 23, 2, 4, 0), (0, 12, 0, 1, 1), (0, 18, 0, 2, 1), (0, 24, 0, 3, 1), (0, 31, 0, 4, 1), (0, 38, 0, 5, 1), (0, 42, 0, 6, 0), (0, 46, 0, 7, 0), (0, 49, 0, 8, 0), (0, 52, 0, 9, 0), (0, 55, 0, 10, 0), (0, 59, 0, 12, 0), (0, 62, 0, 13, 0), (0, 65, 0, 14, 0), (0, 68, 0, 15, 0), (0, 71, 0, 16, 0), (0, 74, 0, 17, 0), (0, 77, 0, 18, 0), (0, 80, 0, 0, 1), (0, 83, 0, 11, 0), (0, 94, 1, 3, 0), (0, 101, 2, 0, 0), (0, 114, 4, 0, 1), (0, 118, 4, 2, 1), (3, 9, 3, 0, 1), (3, 15, 3, 1, 1), (3, 19, 3, 2, 1), (3, 22, 3, 3, 1), (6, 9, 6, 0, 1), (6, 15, 6, 1, 1), (6, 18, 6, 2, 1), (6, 21, 6, 3, 1), (6, 24, 6, 4, 0), (6, 28, 2, 1, 0), (6, 33, 2, 2, 0), (6, 36, 2, 3, 0), (6, 39, 2, 4, 0), (7, 9, 7, 0, 1), (7, 15, 7, 1, 1), (7, 18, 7, 2, 1), (7, 21, 7, 3, 1), (7, 24, 7, 4, 1), (7, 27, 7, 5, 0), (8, 10, 8, 0, 1), (8, 19, 8, 1, 1), (8, 26, 8, 2, 1), (8, 35, 8, 3, 1), (8, 39, 8, 4, 1), (8, 42, 8, 5, 0), (8, 82, 0, 0, 1), (8, 143, 0, 3, 1), (8, 72, 0, 1, 1), (8, 90, 0, 7, 0), (8, 321, 0, 5, 1), (8, 325, 2, 0, 0), (8, 101, 0, 10, 0), (8, 112, 4, 0, 1), (8, 122, 4, 2, 1), (8, 219, 3, 0, 1), (8, 368, 2, 1, 0), (8, 244, 3, 1, 1), (8, 371, 2, 4, 0), (8, 372, 2, 2, 0), (8, 373, 2, 3, 0), (8, 189, 0, 17, 0), (8, 192, 0, 18, 0), (8, 293, 0, 14, 0), (8, 397, 4, 3, 1), (8, 394, 4, 1, 1), (8, 278, 0, 4, 1), (8, 411, 1, 0, 1), (8, 282, 1, 3, 0), (8, 423, 1, 2, 1), (8, 405, 1, 4, 0), (8, 404, 1, 1, 1), (8, 414, 1, 6, 0), (8, 401, 1, 5, 0), (8, 287, 0, 12, 0), (8, 275, 0, 15, 0), (8, 213, 0, 9, 0), (8, 178, 0, 8, 0), (8, 136, 0, 6, 0), (8, 302, 5, 1, 1), (8, 210, 0, 2, 1), (8, 305, 5, 2, 1), (8, 306, 5, 3, 1), (8, 312, 5, 4, 1), (8, 290, 0, 13, 0), (8, 147, 5, 6, 0), (8, 155, 5, 0, 1), (8, 204, 0, 11, 0), (8, 242, 6, 0, 1), (8, 247, 6, 3, 1), (8, 248, 6, 1, 1), (8, 251, 6, 2, 1), (8, 253, 6, 4, 0), (8, 132, 7, 0, 1), (8, 135, 7, 1, 1), (9, 7, 9, 0, 0), (9, 13, 9, 1, 1), (9, 17, 9, 2, 1), (9, 21, 9, 3, 1), (9, 24, 9, 4, 1), (9, 27, 9, 5, 1), (9, 30, 9, 6, 1), (9, 33, 9, 7, 1), (9, 36, 9, 8, 1), (9, 39, 9, 9, 1), (9, 42, 9, 10, 1), (9, 45, 9, 11, 1), (9, 48, 9, 12, 1), (9, 51, 9, 13, 1), (9, 54, 9, 14, 1), (9, 57, 9, 15, 1), (9, 60, 9, 16, 1), (9, 63, 9, 17, 1), (9, 66, 9, 18, 1), (9, 69, 9, 19, 1), (9, 72, 9, 20, 1), (9, 75, 9, 21, 1), (9, 78, 9, 22, 1), (9, 81, 9, 23, 1), (9, 84, 9, 24, 1), (9, 87, 9, 25, 1), (9, 90, 9, 26, 1), (9, 93, 9, 27, 1), (9, 96, 9, 28, 1), (9, 99, 9, 29, 1), (9, 102, 9, 30, 1), (9, 105, 9, 31, 1), (9, 108, 9, 32, 1), (9, 111, 9, 33, 1), (9, 114, 9, 34, 1), (9, 117, 9, 35, 1), (9, 120, 9, 36, 1), (9, 123, 9, 37, 1), (9, 126, 9, 38, 0), (9, 130, 9, 39, 0), (9, 133, 9, 40, 1), (9, 136, 9, 41, 1), (9, 139, 9, 42, 1), (9, 142, 9, 43, 1), (9, 145, 9, 44, 1), (9, 148, 9, 45, 0), (9, 151, 9, 46, 1), (9, 154, 9, 47, 1), (9, 157, 9, 48, 1), (9, 160, 9, 49, 1)], [(0, 11, 0), (0, 23, 1), (0, 30, 2), (0, 37, 3), (0, 86, 5), (0, 90, 6), (4, 29, 9), (0, 104, 10), (0, 122, 8), (0, 125, 12), (0, 129, 9), (4, 33, 14), (0, 97, 15), (0, 107, 17), (0, 110, 14), (8, 260, 26), (3, 35, 28), (3, 45, 27), (3, 39, 29), (3, 42, 31), (3, 48, 32), (3, 25, 37), (4, 25, 12), (7, 31, 55), (7, 35, 58), (7, 39, 59), (8, 9, 24), (8, 18, 53), (8, 25, 49), (8, 32, 4), (8, 299, 47), (8, 46, 62), (8, 50, 63), (8, 53, 54), (8, 57, 64), (8, 61, 7), (8, 64, 55), (8, 68, 8), (8, 76, 12), (8, 86, 56), (8, 93, 65), (8, 97, 66), (8, 330, 50), (8, 333, 57), (8, 336, 11), (8, 104, 25), (8, 108, 68), (8, 116, 30), (8, 119, 33), (8, 238, 34), (8, 376, 35), (8, 379, 13), (8, 296, 5), (8, 257, 36), (8, 235, 32), (8, 382, 23), (8, 361, 74), (8, 427, 60), (8, 424, 75), (8, 408, 27), (8, 417, 20), (8, 420, 76), (8, 398, 22), (8, 386, 41), (8, 389, 21), (8, 391, 78), (8, 345, 72), (8, 365, 80), (8, 339, 70), (8, 342, 71), (8, 348, 73), (8, 352, 77), (8, 269, 15), (8, 355, 79), (8, 358, 81), (8, 139, 82), (8, 309, 42), (8, 314, 59), (8, 317, 43), (8, 152, 48), (8, 158, 84), (8, 162, 17), (8, 198, 6), (8, 430, 44), (8, 165, 16), (8, 168, 89), (8, 171, 90), (8, 175, 18), (8, 181, 37), (8, 195, 93), (8, 201, 19), (8, 207, 45), (8, 216, 96), (8, 222, 38), (8, 225, 39), (8, 228, 40), (8, 231, 29), (8, 241, 51), (8, 252, 52), (8, 254, 102), (8, 263, 31), (8, 272, 46), (8, 126, 58), (8, 266, 28), (9, 181, 111), (9, 185, 112), (9, 189, 113), (9, 193, 114), (9, 163, 117), (9, 167, 119), (9, 171, 118), (9, 174, 120), (9, 177, 122), (9, 197, 116), (9, 201, 121), (9, 205, 123), (9, 208, 127), (9, 212, 130), (9, 216, 131), (9, 220, 134), (9, 223, 128), (9, 226, 129), (9, 229, 132), (9, 232, 133), (9, 235, 135), (9, 238, 136), (9, 241, 137), (9, 244, 143), (9, 247, 144), (9, 250, 146), (9, 254, 158), (9, 258, 159), (10, 22, 61), (10, 25, 109), (10, 26, 67), (10, 30, 115), (10, 31, 69), (10, 34, 124), (10, 40, 125), (10, 41, 110), (10, 47, 126), (10, 48, 83), (10, 51, 138), (10, 52, 85), (10, 55, 139), (10, 56, 86), (10, 60, 140), (10, 61, 87), (10, 65, 141), (10, 66, 88), (10, 69, 142), (10, 70, 91), (10, 74, 145), (10, 75, 92), (10, 78, 147), (10, 79, 94), (10, 82, 148), (10, 83, 95), (10, 86, 149), (10, 87, 97), (10, 90, 150), (10, 91, 98), (10, 94, 151), (10, 95, 99), (10, 98, 152), (10, 99, 100), (10, 102, 153), (10, 103, 101), (10, 106, 154), (10, 107, 103), (10, 110, 155), (10, 114, 156), (10, 115, 104), (10, 118, 157), (10, 119, 105), (10, 122, 160)], [(0, 9, 4, 4), (0, 21, 5, 7), (0, 28, 1, 7), (0, 35, 2, 5), (8, 7, 3, 4), (8, 16, 7, 6), (8, 23, 6, 5), (8, 30, 0, 19), (10, 8, 8, 6), (10, 23, 9, 50)], [(4, 3), (5, 3), (1, 3), (2, 1), (0, 3), (3, 3), (6, 3), (7, 3), (8, 1), (9, 1)], [(3, 29), (8, 184)])
def tx_m0 : tw_MR := (4, "TwinArray$Entries", ⟨"TwinArray$Entries", "<init>", "()V"⟩, prog_6_method_1_code, 1, (Option.none : Option Jvm.ClassFile.FieldType), (2, 4, 0, 1, 12), tx_t0)
def tx_m1 : tw_MR := (5, "TwinArray$Inbox", ⟨"TwinArray$Inbox", "<init>", "()V"⟩, prog_7_method_1_code, 1, (Option.none : Option Jvm.ClassFile.FieldType), (2, 5, 0, 1, 12), tx_t1)
def tx_m2 : tw_MR := (1, "TwinArray$Destage", ⟨"TwinArray$Destage", "<init>", "()V"⟩, prog_3_method_1_code, 1, (Option.none : Option Jvm.ClassFile.FieldType), (2, 1, 0, 1, 12), tx_t2)
def tx_m3 : tw_MR := (2, "TwinArray$DiskWrite", ⟨"TwinArray$DiskWrite", "<init>", "()V"⟩, prog_4_method_1_code, 1, (Option.none : Option Jvm.ClassFile.FieldType), (2, 2, 0, 1, 12), tx_t3)
def tx_m4 : tw_MR := (0, "TwinArray$Controller", ⟨"TwinArray$Controller", "<init>", "(I)V"⟩, prog_2_method_1_code, 2, (Option.none : Option Jvm.ClassFile.FieldType), (2, 0, 1, 2, 32), tx_t4)
def tx_m5 : tw_MR := (8, "TwinArray", ⟨"TwinArray", "isIn", "(II)Z"⟩, prog_1_method_31_code, 2, (Option.some Jvm.ClassFile.FieldType.boolean), (0, 0, 2, 0, 0), tx_t5)
def tx_m6 : tw_MR := (0, "TwinArray$Controller", ⟨"TwinArray$Controller", "owns", "(I)Z"⟩, prog_2_method_2_code, 2, (Option.some Jvm.ClassFile.FieldType.boolean), (1, 0, 1, 1, 21), tx_t6)
def tx_m7 : tw_MR := (0, "TwinArray$Controller", ⟨"TwinArray$Controller", "serves", "(I)Z"⟩, prog_2_method_3_code, 2, (Option.some Jvm.ClassFile.FieldType.boolean), (1, 0, 1, 2, 42), tx_t7)
def tx_m8 : tw_MR := (0, "TwinArray$Controller", ⟨"TwinArray$Controller", "newVersion", "()I"⟩, prog_2_method_4_code, 1, (Option.some Jvm.ClassFile.FieldType.int), (1, 0, 0, 0, 0), tx_t8)
def tx_m9 : tw_MR := (4, "TwinArray$Entries", ⟨"TwinArray$Entries", "drop", "(I)V"⟩, prog_6_method_4_code, 2, (Option.none : Option Jvm.ClassFile.FieldType), (1, 4, 1, 0, 0), tx_t9)
def tx_m10 : tw_MR := (4, "TwinArray$Entries", ⟨"TwinArray$Entries", "dropAll", "()V"⟩, prog_6_method_7_code, 2, (Option.none : Option Jvm.ClassFile.FieldType), (1, 4, 0, 1, 21), tx_t10)
def tx_m11 : tw_MR := (0, "TwinArray$Controller", ⟨"TwinArray$Controller", "forgetAllButKey", "()V"⟩, prog_2_method_9_code, 1, (Option.none : Option Jvm.ClassFile.FieldType), (1, 0, 0, 2, 42), tx_t11)
def tx_m12 : tw_MR := (4, "TwinArray$Entries", ⟨"TwinArray$Entries", "put", "(IIIZ)V"⟩, prog_6_method_2_code, 5, (Option.none : Option Jvm.ClassFile.FieldType), (1, 4, 4, 0, 0), tx_t12)
def tx_m13 : tw_MR := (0, "TwinArray$Controller", ⟨"TwinArray$Controller", "finishTakingOver", "()V"⟩, prog_2_method_8_code, 2, (Option.none : Option Jvm.ClassFile.FieldType), (1, 0, 0, 1, 24), tx_t13)
def tx_m14 : tw_MR := (4, "TwinArray$Entries", ⟨"TwinArray$Entries", "countDirtyOfStripe", "(I)I"⟩, prog_6_method_11_code, 4, (Option.some Jvm.ClassFile.FieldType.int), (1, 4, 1, 0, 0), tx_t14)
def tx_m15 : tw_MR := (4, "TwinArray$Entries", ⟨"TwinArray$Entries", "countDirty", "()I"⟩, prog_6_method_10_code, 3, (Option.some Jvm.ClassFile.FieldType.int), (1, 4, 0, 1, 23), tx_t15)
def tx_m16 : tw_MR := (0, "TwinArray$Controller", ⟨"TwinArray$Controller", "isReadyToPair", "()Z"⟩, prog_2_method_5_code, 1, (Option.some Jvm.ClassFile.FieldType.boolean), (1, 0, 0, 2, 45), tx_t16)
def tx_m17 : tw_MR := (5, "TwinArray$Inbox", ⟨"TwinArray$Inbox", "empty", "()V"⟩, prog_7_method_4_code, 1, (Option.none : Option Jvm.ClassFile.FieldType), (1, 5, 0, 0, 0), tx_t17)
def tx_m18 : tw_MR := (0, "TwinArray$Controller", ⟨"TwinArray$Controller", "beginPaired", "(I)V"⟩, prog_2_method_6_code, 2, (Option.none : Option Jvm.ClassFile.FieldType), (1, 0, 1, 2, 42), tx_t18)
def tx_m19 : tw_MR := (0, "TwinArray$Controller", ⟨"TwinArray$Controller", "isBusyIn", "(I)Z"⟩, prog_2_method_7_code, 4, (Option.some Jvm.ClassFile.FieldType.boolean), (1, 0, 1, 1, 23), tx_t19)
def tx_m20 : tw_MR := (1, "TwinArray$Destage", ⟨"TwinArray$Destage", "xorOfData", "()I"⟩, prog_3_method_4_code, 3, (Option.some Jvm.ClassFile.FieldType.int), (1, 1, 0, 0, 0), tx_t20)
def tx_m21 : tw_MR := (1, "TwinArray$Destage", ⟨"TwinArray$Destage", "begin", "(I)V"⟩, prog_3_method_2_code, 3, (Option.none : Option Jvm.ClassFile.FieldType), (1, 1, 1, 0, 0), tx_t21)
def tx_m22 : tw_MR := (1, "TwinArray$Destage", ⟨"TwinArray$Destage", "takeDirty", "(III)V"⟩, prog_3_method_3_code, 4, (Option.none : Option Jvm.ClassFile.FieldType), (1, 1, 3, 0, 0), tx_t22)
def tx_m23 : tw_MR := (2, "TwinArray$DiskWrite", ⟨"TwinArray$DiskWrite", "begin", "(IIII)V"⟩, prog_4_method_2_code, 5, (Option.none : Option Jvm.ClassFile.FieldType), (1, 2, 4, 0, 0), tx_t23)
def tx_m24 : tw_MR := (3, "TwinArray$Disks", ⟨"TwinArray$Disks", "<init>", "()V"⟩, prog_5_method_1_code, 2, (Option.none : Option Jvm.ClassFile.FieldType), (2, 3, 0, 1, 12), tx_t24)
def tx_m25 : tw_MR := (3, "TwinArray$Disks", ⟨"TwinArray$Disks", "withOtherKeyThan", "(I)I"⟩, prog_5_method_8_code, 4, (Option.some Jvm.ClassFile.FieldType.int), (1, 3, 1, 0, 0), tx_t25)
def tx_m26 : tw_MR := (8, "TwinArray", ⟨"TwinArray", "parityDisk", "(I)I"⟩, prog_1_method_29_code, 1, (Option.some Jvm.ClassFile.FieldType.int), (0, 0, 1, 0, 0), tx_t26)
def tx_m27 : tw_MR := (8, "TwinArray", ⟨"TwinArray", "dataDisk", "(II)I"⟩, prog_1_method_30_code, 2, (Option.some Jvm.ClassFile.FieldType.int), (0, 0, 2, 1, 20), tx_t27)
def tx_m28 : tw_MR := (3, "TwinArray$Disks", ⟨"TwinArray$Disks", "isMissing", "(II)Z"⟩, prog_5_method_2_code, 3, (Option.some Jvm.ClassFile.FieldType.boolean), (1, 3, 2, 0, 0), tx_t28)
def tx_m29 : tw_MR := (3, "TwinArray$Disks", ⟨"TwinArray$Disks", "isOtherMissing", "(II)Z"⟩, prog_5_method_11_code, 4, (Option.some Jvm.ClassFile.FieldType.boolean), (1, 3, 2, 1, 22), tx_t29)
def tx_m30 : tw_MR := (3, "TwinArray$Disks", ⟨"TwinArray$Disks", "isDataLost", "(I)Z"⟩, prog_5_method_14_code, 4, (Option.some Jvm.ClassFile.FieldType.boolean), (1, 3, 1, 2, 45), tx_t30)
def tx_m31 : tw_MR := (3, "TwinArray$Disks", ⟨"TwinArray$Disks", "blockOn", "(II)I"⟩, prog_5_method_3_code, 3, (Option.some Jvm.ClassFile.FieldType.int), (1, 3, 2, 0, 0), tx_t31)
def tx_m32 : tw_MR := (3, "TwinArray$Disks", ⟨"TwinArray$Disks", "xorOfOthers", "(II)I"⟩, prog_5_method_13_code, 5, (Option.some Jvm.ClassFile.FieldType.int), (1, 3, 2, 1, 22), tx_t32)
def tx_m33 : tw_MR := (3, "TwinArray$Disks", ⟨"TwinArray$Disks", "dataOf", "(I)I"⟩, prog_5_method_15_code, 4, (Option.some Jvm.ClassFile.FieldType.int), (1, 3, 1, 2, 46), tx_t33)
def tx_m34 : tw_MR := (3, "TwinArray$Disks", ⟨"TwinArray$Disks", "put", "(III)V"⟩, prog_5_method_4_code, 4, (Option.none : Option Jvm.ClassFile.FieldType), (1, 3, 3, 0, 0), tx_t34)
def tx_m35 : tw_MR := (3, "TwinArray$Disks", ⟨"TwinArray$Disks", "firstThereFrom", "(I)I"⟩, prog_5_method_9_code, 3, (Option.some Jvm.ClassFile.FieldType.int), (1, 3, 1, 0, 0), tx_t35)
def tx_m36 : tw_MR := (3, "TwinArray$Disks", ⟨"TwinArray$Disks", "isAnyMissing", "(I)Z"⟩, prog_5_method_12_code, 2, (Option.some Jvm.ClassFile.FieldType.boolean), (1, 3, 1, 2, 45), tx_t36)
def tx_m37 : tw_MR := (3, "TwinArray$Disks", ⟨"TwinArray$Disks", "greatestKey", "()I"⟩, prog_5_method_7_code, 3, (Option.some Jvm.ClassFile.FieldType.int), (1, 3, 0, 1, 14), tx_t37)
def tx_m38 : tw_MR := (3, "TwinArray$Disks", ⟨"TwinArray$Disks", "remove", "(I)V"⟩, prog_5_method_5_code, 3, (Option.none : Option Jvm.ClassFile.FieldType), (1, 3, 1, 0, 0), tx_t38)
def tx_m39 : tw_MR := (3, "TwinArray$Disks", ⟨"TwinArray$Disks", "insert", "(I)V"⟩, prog_5_method_6_code, 2, (Option.none : Option Jvm.ClassFile.FieldType), (1, 3, 1, 2, 36), tx_t39)
def tx_m40 : tw_MR := (3, "TwinArray$Disks", ⟨"TwinArray$Disks", "lowestMissing", "(I)I"⟩, prog_5_method_10_code, 3, (Option.some Jvm.ClassFile.FieldType.int), (1, 3, 1, 1, 22), tx_t40)
def tx_m41 : tw_MR := (4, "TwinArray$Entries", ⟨"TwinArray$Entries", "dirtiestStripe", "()I"⟩, prog_6_method_12_code, 3, (Option.some Jvm.ClassFile.FieldType.int), (1, 4, 0, 1, 23), tx_t41)
def tx_m42 : tw_MR := (4, "TwinArray$Entries", ⟨"TwinArray$Entries", "putIfNewer", "(III)V"⟩, prog_6_method_3_code, 4, (Option.none : Option Jvm.ClassFile.FieldType), (1, 4, 3, 1, 24), tx_t42)
def tx_m43 : tw_MR := (4, "TwinArray$Entries", ⟨"TwinArray$Entries", "dropVersion", "(II)V"⟩, prog_6_method_5_code, 3, (Option.none : Option Jvm.ClassFile.FieldType), (1, 4, 2, 1, 21), tx_t43)
def tx_m44 : tw_MR := (4, "TwinArray$Entries", ⟨"TwinArray$Entries", "holdsOfVolume", "(I)Z"⟩, prog_6_method_8_code, 3, (Option.some Jvm.ClassFile.FieldType.boolean), (1, 4, 1, 0, 0), tx_t44)
def tx_m45 : tw_MR := (4, "TwinArray$Entries", ⟨"TwinArray$Entries", "dropVolume", "(I)V"⟩, prog_6_method_6_code, 3, (Option.none : Option Jvm.ClassFile.FieldType), (1, 4, 1, 1, 21), tx_t45)
def tx_m46 : tw_MR := (4, "TwinArray$Entries", ⟨"TwinArray$Entries", "countHeld", "()I"⟩, prog_6_method_9_code, 3, (Option.some Jvm.ClassFile.FieldType.int), (1, 4, 0, 0, 0), tx_t46)
def tx_m47 : tw_MR := (5, "TwinArray$Inbox", ⟨"TwinArray$Inbox", "add", "(IIIII)V"⟩, prog_7_method_2_code, 7, (Option.none : Option Jvm.ClassFile.FieldType), (1, 5, 5, 0, 0), tx_t47)
def tx_m48 : tw_MR := (5, "TwinArray$Inbox", ⟨"TwinArray$Inbox", "takeFirst", "()I"⟩, prog_7_method_3_code, 2, (Option.some Jvm.ClassFile.FieldType.int), (1, 5, 0, 0, 0), tx_t48)
def tx_m49 : tw_MR := (6, "TwinArray$LateWrites", ⟨"TwinArray$LateWrites", "<init>", "()V"⟩, prog_8_method_1_code, 1, (Option.none : Option Jvm.ClassFile.FieldType), (2, 6, 0, 1, 12), tx_t49)
def tx_m50 : tw_MR := (6, "TwinArray$LateWrites", ⟨"TwinArray$LateWrites", "add", "(LTwinArray$DiskWrite;)V"⟩, prog_8_method_3_code, 2, (Option.none : Option Jvm.ClassFile.FieldType), (1, 6, 1, 0, 0), tx_t50)
def tx_m51 : tw_MR := (6, "TwinArray$LateWrites", ⟨"TwinArray$LateWrites", "has", "(I)Z"⟩, prog_8_method_2_code, 2, (Option.some Jvm.ClassFile.FieldType.boolean), (1, 6, 1, 0, 0), tx_t51)
def tx_m52 : tw_MR := (6, "TwinArray$LateWrites", ⟨"TwinArray$LateWrites", "remove", "(I)V"⟩, prog_8_method_4_code, 3, (Option.none : Option Jvm.ClassFile.FieldType), (1, 6, 1, 0, 0), tx_t52)
def tx_m53 : tw_MR := (7, "TwinArray$Tickets", ⟨"TwinArray$Tickets", "<init>", "()V"⟩, prog_9_method_1_code, 1, (Option.none : Option Jvm.ClassFile.FieldType), (2, 7, 0, 1, 12), tx_t53)
def tx_m54 : tw_MR := (7, "TwinArray$Tickets", ⟨"TwinArray$Tickets", "areFull", "()Z"⟩, prog_9_method_2_code, 1, (Option.some Jvm.ClassFile.FieldType.boolean), (1, 7, 0, 0, 0), tx_t54)
def tx_m55 : tw_MR := (7, "TwinArray$Tickets", ⟨"TwinArray$Tickets", "add", "(II)I"⟩, prog_9_method_4_code, 3, (Option.some Jvm.ClassFile.FieldType.int), (1, 7, 2, 0, 0), tx_t55)
def tx_m56 : tw_MR := (7, "TwinArray$Tickets", ⟨"TwinArray$Tickets", "addOpenWrite", "(IIII)I"⟩, prog_9_method_5_code, 6, (Option.some Jvm.ClassFile.FieldType.int), (1, 7, 4, 1, 22), tx_t56)
def tx_m57 : tw_MR := (7, "TwinArray$Tickets", ⟨"TwinArray$Tickets", "refuseOpen", "(I)V"⟩, prog_9_method_8_code, 3, (Option.none : Option Jvm.ClassFile.FieldType), (1, 7, 1, 0, 0), tx_t57)
def tx_m58 : tw_MR := (7, "TwinArray$Tickets", ⟨"TwinArray$Tickets", "has", "(I)Z"⟩, prog_9_method_3_code, 2, (Option.some Jvm.ClassFile.FieldType.boolean), (1, 7, 1, 0, 0), tx_t58)
def tx_m59 : tw_MR := (7, "TwinArray$Tickets", ⟨"TwinArray$Tickets", "finish", "(I)V"⟩, prog_9_method_6_code, 2, (Option.none : Option Jvm.ClassFile.FieldType), (1, 7, 1, 1, 21), tx_t59)
def tx_m60 : tw_MR := (7, "TwinArray$Tickets", ⟨"TwinArray$Tickets", "finishWrites", "(III)V"⟩, prog_9_method_7_code, 5, (Option.none : Option Jvm.ClassFile.FieldType), (1, 7, 3, 2, 42), tx_t60)
def tx_m61 : tw_MR := (8, "TwinArray", ⟨"TwinArray", "<init>", "()V"⟩, prog_1_method_1_code, 1, (Option.none : Option Jvm.ClassFile.FieldType), (2, 8, 0, 3, 53), tx_t61)
def tx_m62 : tw_MR := (8, "TwinArray", ⟨"TwinArray", "isController", "(I)Z"⟩, prog_1_method_24_code, 1, (Option.some Jvm.ClassFile.FieldType.boolean), (0, 0, 1, 0, 0), tx_t62)
def tx_m63 : tw_MR := (8, "TwinArray", ⟨"TwinArray", "isBlock", "(I)Z"⟩, prog_1_method_25_code, 1, (Option.some Jvm.ClassFile.FieldType.boolean), (0, 0, 1, 0, 0), tx_t63)
def tx_m64 : tw_MR := (8, "TwinArray", ⟨"TwinArray", "numbered", "(I)LTwinArray$Controller;"⟩, prog_1_method_33_code, 2, (Option.some (Jvm.ClassFile.FieldType.object "TwinArray$Controller")), (1, 8, 1, 0, 0), tx_t64)
def tx_m65 : tw_MR := (8, "TwinArray", ⟨"TwinArray", "partnerOf", "(LTwinArray$Controller;)LTwinArray$Controller;"⟩, prog_1_method_34_code, 2, (Option.some (Jvm.ClassFile.FieldType.object "TwinArray$Controller")), (1, 8, 1, 0, 0), tx_t65)
def tx_m66 : tw_MR := (8, "TwinArray", ⟨"TwinArray", "send", "(LTwinArray$Controller;IIIII)V"⟩, prog_1_method_35_code, 7, (Option.none : Option Jvm.ClassFile.FieldType), (1, 8, 6, 1, 26), tx_t66)
def tx_m67 : tw_MR := (8, "TwinArray", ⟨"TwinArray", "write", "(III)I"⟩, prog_1_method_2_code, 7, (Option.some Jvm.ClassFile.FieldType.int), (1, 8, 3, 3, 63), tx_t67)
def tx_m68 : tw_MR := (8, "TwinArray", ⟨"TwinArray", "goDown", "(LTwinArray$Controller;)V"⟩, prog_1_method_38_code, 2, (Option.none : Option Jvm.ClassFile.FieldType), (1, 8, 1, 3, 62), tx_t68)
def tx_m69 : tw_MR := (8, "TwinArray", ⟨"TwinArray", "read", "(II)I"⟩, prog_1_method_3_code, 4, (Option.some Jvm.ClassFile.FieldType.int), (1, 8, 2, 4, 83), tx_t69)
def tx_m70 : tw_MR := (8, "TwinArray", ⟨"TwinArray", "land", "(LTwinArray$Controller;)V"⟩, prog_1_method_42_code, 3, (Option.none : Option Jvm.ClassFile.FieldType), (1, 8, 1, 4, 83), tx_t70)
def tx_m71 : tw_MR := (8, "TwinArray", ⟨"TwinArray", "goOnTakingOver", "(LTwinArray$Controller;)V"⟩, prog_1_method_43_code, 3, (Option.none : Option Jvm.ClassFile.FieldType), (1, 8, 1, 4, 83), tx_t71)
def tx_m72 : tw_MR := (8, "TwinArray", ⟨"TwinArray", "lowestStripeIn", "(I)I"⟩, prog_1_method_32_code, 2, (Option.some Jvm.ClassFile.FieldType.int), (0, 0, 1, 1, 21), tx_t72)
def tx_m73 : tw_MR := (8, "TwinArray", ⟨"TwinArray", "repair", "(LTwinArray$Controller;I)V"⟩, prog_1_method_44_code, 4, (Option.none : Option Jvm.ClassFile.FieldType), (1, 8, 2, 3, 66), tx_t73)
def tx_m74 : tw_MR := (8, "TwinArray", ⟨"TwinArray", "sendIfPaired", "(LTwinArray$Controller;III)V"⟩, prog_1_method_36_code, 5, (Option.none : Option Jvm.ClassFile.FieldType), (1, 8, 4, 2, 52), tx_t74)
def tx_m75 : tw_MR := (8, "TwinArray", ⟨"TwinArray", "releaseTaken", "(LTwinArray$Controller;II)V"⟩, prog_1_method_49_code, 4, (Option.none : Option Jvm.ClassFile.FieldType), (1, 8, 3, 3, 76), tx_t75)
def tx_m76 : tw_MR := (8, "TwinArray", ⟨"TwinArray", "finishDestaging", "(LTwinArray$Controller;)V"⟩, prog_1_method_48_code, 4, (Option.none : Option Jvm.ClassFile.FieldType), (1, 8, 1, 4, 99), tx_t76)
def tx_m77 : tw_MR := (8, "TwinArray", ⟨"TwinArray", "goOnDestaging", "(LTwinArray$Controller;)V"⟩, prog_1_method_47_code, 5, (Option.none : Option Jvm.ClassFile.FieldType), (1, 8, 1, 5, 122), tx_t77)
def tx_m78 : tw_MR := (8, "TwinArray", ⟨"TwinArray", "takeData", "(LTwinArray$Controller;II)V"⟩, prog_1_method_46_code, 4, (Option.none : Option Jvm.ClassFile.FieldType), (1, 8, 3, 3, 69), tx_t78)
def tx_m79 : tw_MR := (8, "TwinArray", ⟨"TwinArray", "beginDestaging", "(LTwinArray$Controller;)V"⟩, prog_1_method_45_code, 4, (Option.none : Option Jvm.ClassFile.FieldType), (1, 8, 1, 4, 92), tx_t79)
def tx_m80 : tw_MR := (8, "TwinArray", ⟨"TwinArray", "beat", "(LTwinArray$Controller;)V"⟩, prog_1_method_41_code, 2, (Option.none : Option Jvm.ClassFile.FieldType), (1, 8, 1, 3, 76), tx_t80)
def tx_m81 : tw_MR := (8, "TwinArray", ⟨"TwinArray", "doFirstWithoutWrites", "(LTwinArray$Controller;)I"⟩, prog_1_method_40_code, 3, (Option.some Jvm.ClassFile.FieldType.int), (1, 8, 1, 4, 97), tx_t81)
def tx_m82 : tw_MR := (8, "TwinArray", ⟨"TwinArray", "doFirstThatCanBeDone", "(LTwinArray$Controller;)I"⟩, prog_1_method_39_code, 2, (Option.some Jvm.ClassFile.FieldType.int), (1, 8, 1, 6, 146), tx_t82)
def tx_m83 : tw_MR := (8, "TwinArray", ⟨"TwinArray", "step", "(I)I"⟩, prog_1_method_6_code, 3, (Option.some Jvm.ClassFile.FieldType.int), (1, 8, 1, 7, 167), tx_t83)
def tx_m84 : tw_MR := (8, "TwinArray", ⟨"TwinArray", "notice", "(LTwinArray$Controller;II)V"⟩, prog_1_method_37_code, 6, (Option.none : Option Jvm.ClassFile.FieldType), (1, 8, 3, 2, 52), tx_t84)
def tx_m85 : tw_MR := (8, "TwinArray", ⟨"TwinArray", "arrive", "(I)I"⟩, prog_1_method_7_code, 5, (Option.some Jvm.ClassFile.FieldType.int), (1, 8, 1, 3, 77), tx_t85)
def tx_m86 : tw_MR := (8, "TwinArray", ⟨"TwinArray", "cut", "(Z)V"⟩, prog_1_method_8_code, 2, (Option.none : Option Jvm.ClassFile.FieldType), (1, 8, 1, 0, 0), tx_t86)
def tx_m87 : tw_MR := (8, "TwinArray", ⟨"TwinArray", "crash", "(I)Z"⟩, prog_1_method_9_code, 2, (Option.some Jvm.ClassFile.FieldType.boolean), (1, 8, 1, 4, 83), tx_t87)
def tx_m88 : tw_MR := (8, "TwinArray", ⟨"TwinArray", "restart", "(I)Z"⟩, prog_1_method_10_code, 3, (Option.some Jvm.ClassFile.FieldType.boolean), (1, 8, 1, 1, 21), tx_t88)
def tx_m89 : tw_MR := (8, "TwinArray", ⟨"TwinArray", "isAnyToBeTakenOverFirst", "()Z"⟩, prog_1_method_50_code, 3, (Option.some Jvm.ClassFile.FieldType.boolean), (1, 8, 0, 2, 42), tx_t89)
def tx_m90 : tw_MR := (8, "TwinArray", ⟨"TwinArray", "shareOutVolumes", "(Z)V"⟩, prog_1_method_51_code, 4, (Option.none : Option Jvm.ClassFile.FieldType), (1, 8, 1, 0, 0), tx_t90)
def tx_m91 : tw_MR := (8, "TwinArray", ⟨"TwinArray", "pair", "()Z"⟩, prog_1_method_11_code, 3, (Option.some Jvm.ClassFile.FieldType.boolean), (1, 8, 0, 3, 65), tx_t91)
def tx_m92 : tw_MR := (8, "TwinArray", ⟨"TwinArray", "takeOver", "(I)Z"⟩, prog_1_method_12_code, 3, (Option.some Jvm.ClassFile.FieldType.boolean), (1, 8, 1, 2, 36), tx_t92)
def tx_m93 : tw_MR := (8, "TwinArray", ⟨"TwinArray", "isVolume", "(I)Z"⟩, prog_1_method_26_code, 1, (Option.some Jvm.ClassFile.FieldType.boolean), (0, 0, 1, 0, 0), tx_t93)
def tx_m94 : tw_MR := (8, "TwinArray", ⟨"TwinArray", "moveOwner", "(I)Z"⟩, prog_1_method_13_code, 4, (Option.some Jvm.ClassFile.FieldType.boolean), (1, 8, 1, 2, 46), tx_t94)
def tx_m95 : tw_MR := (8, "TwinArray", ⟨"TwinArray", "flush", "(I)Z"⟩, prog_1_method_14_code, 2, (Option.some Jvm.ClassFile.FieldType.boolean), (1, 8, 1, 1, 21), tx_t95)
def tx_m96 : tw_MR := (8, "TwinArray", ⟨"TwinArray", "isDisk", "(I)Z"⟩, prog_1_method_27_code, 1, (Option.some Jvm.ClassFile.FieldType.boolean), (0, 0, 1, 0, 0), tx_t96)
def tx_m97 : tw_MR := (8, "TwinArray", ⟨"TwinArray", "lose", "(I)Z"⟩, prog_1_method_15_code, 2, (Option.some Jvm.ClassFile.FieldType.boolean), (1, 8, 1, 1, 22), tx_t97)
def tx_m98 : tw_MR := (8, "TwinArray", ⟨"TwinArray", "replace", "(I)Z"⟩, prog_1_method_16_code, 2, (Option.some Jvm.ClassFile.FieldType.boolean), (1, 8, 1, 3, 57), tx_t98)
def tx_m99 : tw_MR := (8, "TwinArray", ⟨"TwinArray", "rebuild", "(I)I"⟩, prog_1_method_17_code, 3, (Option.some Jvm.ClassFile.FieldType.int), (1, 8, 1, 2, 46), tx_t99)
def tx_m100 : tw_MR := (8, "TwinArray", ⟨"TwinArray", "late", "(I)I"⟩, prog_1_method_18_code, 4, (Option.some Jvm.ClassFile.FieldType.int), (1, 8, 1, 1, 23), tx_t100)
def tx_m101 : tw_MR := (8, "TwinArray", ⟨"TwinArray", "lates", "()I"⟩, prog_1_method_19_code, 1, (Option.some Jvm.ClassFile.FieldType.int), (1, 8, 0, 0, 0), tx_t101)
def tx_m102 : tw_MR := (8, "TwinArray", ⟨"TwinArray", "isStripe", "(I)Z"⟩, prog_1_method_28_code, 1, (Option.some Jvm.ClassFile.FieldType.boolean), (0, 0, 1, 0, 0), tx_t102)
def tx_m103 : tw_MR := (8, "TwinArray", ⟨"TwinArray", "parityGood", "(I)I"⟩, prog_1_method_20_code, 3, (Option.some Jvm.ClassFile.FieldType.int), (1, 8, 1, 3, 66), tx_t103)
def tx_m104 : tw_MR := (8, "TwinArray", ⟨"TwinArray", "keyOf", "(I)I"⟩, prog_1_method_22_code, 2, (Option.some Jvm.ClassFile.FieldType.int), (1, 8, 1, 1, 20), tx_t104)
def tx_m105 : tw_MR := (8, "TwinArray", ⟨"TwinArray", "state", "(II)I"⟩, prog_1_method_23_code, 4, (Option.some Jvm.ClassFile.FieldType.int), (1, 8, 2, 2, 45), tx_t105)
def tx_m106 : tw_MR := (8, "TwinArray", ⟨"TwinArray", "ticket", "(I)I"⟩, prog_1_method_4_code, 2, (Option.some Jvm.ClassFile.FieldType.int), (1, 8, 1, 1, 21), tx_t106)
def tx_m107 : tw_MR := (8, "TwinArray", ⟨"TwinArray", "value", "(I)I"⟩, prog_1_method_5_code, 2, (Option.some Jvm.ClassFile.FieldType.int), (1, 8, 1, 1, 21), tx_t107)
def tx_m108 : tw_MR := (8, "TwinArray", ⟨"TwinArray", "onDisk", "(II)I"⟩, prog_1_method_21_code, 3, (Option.some Jvm.ClassFile.FieldType.int), (1, 8, 2, 1, 22), tx_t108)
def tx_m109 : tw_MR := (9, "TwinArrayModel", ⟨"TwinArrayModel", "<init>", "()V"⟩, prog_11_method_1_code, 2, (Option.none : Option Jvm.ClassFile.FieldType), (2, 9, 0, 1, 12), tx_t109)
def tx_m110 : tw_MR := (9, "TwinArrayModel", ⟨"TwinArrayModel", "thrown", "()I"⟩, prog_11_method_2_code, 1, (Option.some Jvm.ClassFile.FieldType.int), (1, 9, 0, 0, 0), tx_t110)
def tx_m111 : tw_MR := (9, "TwinArrayModel", ⟨"TwinArrayModel", "in", "(III)Z"⟩, prog_11_method_3_code, 3, (Option.some Jvm.ClassFile.FieldType.boolean), (0, 0, 3, 0, 0), tx_t111)
def tx_m112 : tw_MR := (9, "TwinArrayModel", ⟨"TwinArrayModel", "newTicket", "(III)I"⟩, prog_11_method_16_code, 4, (Option.some Jvm.ClassFile.FieldType.int), (1, 9, 3, 0, 0), tx_t112)
def tx_m113 : tw_MR := (9, "TwinArrayModel", ⟨"TwinArrayModel", "keep", "(IIIZ)V"⟩, prog_11_method_15_code, 6, (Option.none : Option Jvm.ClassFile.FieldType), (1, 9, 4, 0, 0), tx_t113)
def tx_m114 : tw_MR := (9, "TwinArrayModel", ⟨"TwinArrayModel", "send", "(IIIIII)V"⟩, prog_11_method_13_code, 9, (Option.none : Option Jvm.ClassFile.FieldType), (1, 9, 6, 0, 0), tx_t114)
def tx_m115 : tw_MR := (9, "TwinArrayModel", ⟨"TwinArrayModel", "write", "(III)I"⟩, prog_11_method_17_code, 5, (Option.some Jvm.ClassFile.FieldType.int), (1, 9, 3, 1, 28), tx_t115)
def tx_m116 : tw_MR := (9, "TwinArrayModel", ⟨"TwinArrayModel", "goesDown", "(I)V"⟩, prog_11_method_14_code, 3, (Option.none : Option Jvm.ClassFile.FieldType), (1, 9, 1, 0, 0), tx_t116)
def tx_m117 : tw_MR := (9, "TwinArrayModel", ⟨"TwinArrayModel", "parityDisk", "(I)I"⟩, prog_11_method_4_code, 1, (Option.some Jvm.ClassFile.FieldType.int), (0, 0, 1, 0, 0), tx_t117)
def tx_m118 : tw_MR := (9, "TwinArrayModel", ⟨"TwinArrayModel", "dataDisk", "(I)I"⟩, prog_11_method_5_code, 2, (Option.some Jvm.ClassFile.FieldType.int), (0, 0, 1, 1, 20), tx_t118)
def tx_m119 : tw_MR := (9, "TwinArrayModel", ⟨"TwinArrayModel", "isMissing", "(II)Z"⟩, prog_11_method_6_code, 3, (Option.some Jvm.ClassFile.FieldType.boolean), (1, 9, 2, 0, 0), tx_t119)
def tx_m120 : tw_MR := (9, "TwinArrayModel", ⟨"TwinArrayModel", "othersThere", "(II)Z"⟩, prog_11_method_8_code, 4, (Option.some Jvm.ClassFile.FieldType.boolean), (1, 9, 2, 1, 22), tx_t120)
def tx_m121 : tw_MR := (9, "TwinArrayModel", ⟨"TwinArrayModel", "isLost", "(I)Z"⟩, prog_11_method_9_code, 3, (Option.some Jvm.ClassFile.FieldType.boolean), (1, 9, 1, 2, 45), tx_t121)
def tx_m122 : tw_MR := (9, "TwinArrayModel", ⟨"TwinArrayModel", "others", "(II)I"⟩, prog_11_method_7_code, 5, (Option.some Jvm.ClassFile.FieldType.int), (1, 9, 2, 0, 0), tx_t122)
def tx_m123 : tw_MR := (9, "TwinArrayModel", ⟨"TwinArrayModel", "what", "(I)I"⟩, prog_11_method_10_code, 3, (Option.some Jvm.ClassFile.FieldType.int), (1, 9, 1, 2, 41), tx_t123)
def tx_m124 : tw_MR := (9, "TwinArrayModel", ⟨"TwinArrayModel", "read", "(II)I"⟩, prog_11_method_18_code, 6, (Option.some Jvm.ClassFile.FieldType.int), (1, 9, 2, 3, 67), tx_t124)
def tx_m125 : tw_MR := (9, "TwinArrayModel", ⟨"TwinArrayModel", "ticket", "(I)I"⟩, prog_11_method_19_code, 2, (Option.some Jvm.ClassFile.FieldType.int), (1, 9, 1, 1, 22), tx_t125)
def tx_m126 : tw_MR := (9, "TwinArrayModel", ⟨"TwinArrayModel", "value", "(I)I"⟩, prog_11_method_20_code, 2, (Option.some Jvm.ClassFile.FieldType.int), (1, 9, 1, 1, 22), tx_t126)
def tx_m127 : tw_MR := (9, "TwinArrayModel", ⟨"TwinArrayModel", "lands", "(III)V"⟩, prog_11_method_11_code, 4, (Option.none : Option Jvm.ClassFile.FieldType), (1, 9, 3, 0, 0), tx_t127)
def tx_m128 : tw_MR := (9, "TwinArrayModel", ⟨"TwinArrayModel", "stepLands", "(I)V"⟩, prog_11_method_22_code, 3, (Option.none : Option Jvm.ClassFile.FieldType), (1, 9, 1, 1, 23), tx_t128)
def tx_m129 : tw_MR := (9, "TwinArrayModel", ⟨"TwinArrayModel", "stepTakes", "(I)V"⟩, prog_11_method_23_code, 3, (Option.none : Option Jvm.ClassFile.FieldType), (1, 9, 1, 1, 25), tx_t129)
def tx_m130 : tw_MR := (9, "TwinArrayModel", ⟨"TwinArrayModel", "lowest", "([ZI)I"⟩, prog_11_method_24_code, 4, (Option.some Jvm.ClassFile.FieldType.int), (1, 9, 2, 0, 0), tx_t130)
def tx_m131 : tw_MR := (9, "TwinArrayModel", ⟨"TwinArrayModel", "begins", "(IIII)V"⟩, prog_11_method_21_code, 5, (Option.none : Option Jvm.ClassFile.FieldType), (1, 9, 4, 0, 0), tx_t131)
def tx_m132 : tw_MR := (9, "TwinArrayModel", ⟨"TwinArrayModel", "stepRepairs", "(I)V"⟩, prog_11_method_25_code, 4, (Option.none : Option Jvm.ClassFile.FieldType), (1, 9, 1, 2, 45), tx_t132)
def tx_m133 : tw_MR := (9, "TwinArrayModel", ⟨"TwinArrayModel", "stepDestages", "(I)V"⟩, prog_11_method_26_code, 7, (Option.none : Option Jvm.ClassFile.FieldType), (1, 9, 1, 2, 41), tx_t133)
def tx_m134 : tw_MR := (9, "TwinArrayModel", ⟨"TwinArrayModel", "dirtyIn", "(II)I"⟩, prog_11_method_27_code, 5, (Option.some Jvm.ClassFile.FieldType.int), (1, 9, 2, 0, 0), tx_t134)
def tx_m135 : tw_MR := (9, "TwinArrayModel", ⟨"TwinArrayModel", "dirtyAll", "(I)I"⟩, prog_11_method_28_code, 4, (Option.some Jvm.ClassFile.FieldType.int), (1, 9, 1, 1, 24), tx_t135)
def tx_m136 : tw_MR := (9, "TwinArrayModel", ⟨"TwinArrayModel", "stepTakesStripe", "(I)V"⟩, prog_11_method_29_code, 5, (Option.none : Option Jvm.ClassFile.FieldType), (1, 9, 1, 3, 67), tx_t136)
def tx_m137 : tw_MR := (9, "TwinArrayModel", ⟨"TwinArrayModel", "lowestNote", "(I)I"⟩, prog_11_method_30_code, 3, (Option.some Jvm.ClassFile.FieldType.int), (1, 9, 1, 0, 0), tx_t137)
def tx_m138 : tw_MR := (9, "TwinArrayModel", ⟨"TwinArrayModel", "step", "(I)I"⟩, prog_11_method_31_code, 4, (Option.some Jvm.ClassFile.FieldType.int), (1, 9, 1, 4, 91), tx_t138)
def tx_m139 : tw_MR := (9, "TwinArrayModel", ⟨"TwinArrayModel", "arrive", "(I)I"⟩, prog_11_method_32_code, 10, (Option.some Jvm.ClassFile.FieldType.int), (1, 9, 1, 1, 28), tx_t139)
def tx_m140 : tw_MR := (9, "TwinArrayModel", ⟨"TwinArrayModel", "cut", "(Z)V"⟩, prog_11_method_33_code, 2, (Option.none : Option Jvm.ClassFile.FieldType), (1, 9, 1, 0, 0), tx_t140)
def tx_m141 : tw_MR := (9, "TwinArrayModel", ⟨"TwinArrayModel", "crash", "(I)Z"⟩, prog_11_method_34_code, 2, (Option.some Jvm.ClassFile.FieldType.boolean), (1, 9, 1, 1, 22), tx_t141)
def tx_m142 : tw_MR := (9, "TwinArrayModel", ⟨"TwinArrayModel", "restart", "(I)Z"⟩, prog_11_method_35_code, 2, (Option.some Jvm.ClassFile.FieldType.boolean), (1, 9, 1, 1, 22), tx_t142)
def tx_m143 : tw_MR := (9, "TwinArrayModel", ⟨"TwinArrayModel", "quiet", "(I)Z"⟩, prog_11_method_36_code, 2, (Option.some Jvm.ClassFile.FieldType.boolean), (1, 9, 1, 2, 47), tx_t143)
def tx_m144 : tw_MR := (9, "TwinArrayModel", ⟨"TwinArrayModel", "ofAll", "(I)Z"⟩, prog_11_method_37_code, 3, (Option.some Jvm.ClassFile.FieldType.boolean), (1, 9, 1, 0, 0), tx_t144)
def tx_m145 : tw_MR := (9, "TwinArrayModel", ⟨"TwinArrayModel", "pair", "()Z"⟩, prog_11_method_38_code, 4, (Option.some Jvm.ClassFile.FieldType.boolean), (1, 9, 0, 3, 68), tx_t145)
def tx_m146 : tw_MR := (9, "TwinArrayModel", ⟨"TwinArrayModel", "greatest", "()I"⟩, prog_11_method_12_code, 3, (Option.some Jvm.ClassFile.FieldType.int), (1, 9, 0, 0, 0), tx_t146)
def tx_m147 : tw_MR := (9, "TwinArrayModel", ⟨"TwinArrayModel", "takeOver", "(I)Z"⟩, prog_11_method_39_code, 4, (Option.some Jvm.ClassFile.FieldType.boolean), (1, 9, 1, 1, 22), tx_t147)
def tx_m148 : tw_MR := (9, "TwinArrayModel", ⟨"TwinArrayModel", "moveOwner", "(I)Z"⟩, prog_11_method_40_code, 4, (Option.some Jvm.ClassFile.FieldType.boolean), (1, 9, 1, 1, 22), tx_t148)
def tx_m149 : tw_MR := (9, "TwinArrayModel", ⟨"TwinArrayModel", "flush", "(I)Z"⟩, prog_11_method_41_code, 2, (Option.some Jvm.ClassFile.FieldType.boolean), (1, 9, 1, 1, 22), tx_t149)
def tx_m150 : tw_MR := (9, "TwinArrayModel", ⟨"TwinArrayModel", "lose", "(I)Z"⟩, prog_11_method_42_code, 3, (Option.some Jvm.ClassFile.FieldType.boolean), (1, 9, 1, 1, 22), tx_t150)
def tx_m151 : tw_MR := (9, "TwinArrayModel", ⟨"TwinArrayModel", "replace", "(I)Z"⟩, prog_11_method_43_code, 2, (Option.some Jvm.ClassFile.FieldType.boolean), (1, 9, 1, 1, 22), tx_t151)
def tx_m152 : tw_MR := (9, "TwinArrayModel", ⟨"TwinArrayModel", "rebuild", "(I)I"⟩, prog_11_method_44_code, 3, (Option.some Jvm.ClassFile.FieldType.int), (1, 9, 1, 2, 45), tx_t152)
def tx_m153 : tw_MR := (9, "TwinArrayModel", ⟨"TwinArrayModel", "late", "(I)I"⟩, prog_11_method_45_code, 5, (Option.some Jvm.ClassFile.FieldType.int), (1, 9, 1, 1, 23), tx_t153)
def tx_m154 : tw_MR := (9, "TwinArrayModel", ⟨"TwinArrayModel", "lates", "()I"⟩, prog_11_method_46_code, 1, (Option.some Jvm.ClassFile.FieldType.int), (1, 9, 0, 0, 0), tx_t154)
def tx_m155 : tw_MR := (9, "TwinArrayModel", ⟨"TwinArrayModel", "parityGood", "(I)I"⟩, prog_11_method_47_code, 4, (Option.some Jvm.ClassFile.FieldType.int), (1, 9, 1, 1, 22), tx_t155)
def tx_m156 : tw_MR := (9, "TwinArrayModel", ⟨"TwinArrayModel", "onDisk", "(II)I"⟩, prog_11_method_48_code, 3, (Option.some Jvm.ClassFile.FieldType.int), (1, 9, 2, 1, 22), tx_t156)
def tx_m157 : tw_MR := (9, "TwinArrayModel", ⟨"TwinArrayModel", "keyOf", "(I)I"⟩, prog_11_method_49_code, 2, (Option.some Jvm.ClassFile.FieldType.int), (1, 9, 1, 1, 22), tx_t157)
def tx_m158 : tw_MR := (9, "TwinArrayModel", ⟨"TwinArrayModel", "one", "(Z)I"⟩, prog_11_method_50_code, 1, (Option.some Jvm.ClassFile.FieldType.int), (0, 0, 1, 0, 0), tx_t158)
def tx_m159 : tw_MR := (9, "TwinArrayModel", ⟨"TwinArrayModel", "bits", "([ZI)I"⟩, prog_11_method_51_code, 5, (Option.some Jvm.ClassFile.FieldType.int), (1, 9, 2, 0, 0), tx_t159)
def tx_m160 : tw_MR := (9, "TwinArrayModel", ⟨"TwinArrayModel", "state", "(II)I"⟩, prog_11_method_52_code, 6, (Option.some Jvm.ClassFile.FieldType.int), (1, 9, 2, 2, 47), tx_t160)
def tx_mt : List tw_MR := [tx_m0, tx_m1, tx_m2, tx_m3, tx_m4, tx_m5, tx_m6, tx_m7, tx_m8, tx_m9, tx_m10, tx_m11, tx_m12, tx_m13, tx_m14, tx_m15, tx_m16, tx_m17, tx_m18, tx_m19, tx_m20, tx_m21, tx_m22, tx_m23, tx_m24, tx_m25, tx_m26, tx_m27, tx_m28, tx_m29, tx_m30, tx_m31, tx_m32, tx_m33, tx_m34, tx_m35, tx_m36, tx_m37, tx_m38, tx_m39, tx_m40, tx_m41, tx_m42, tx_m43, tx_m44, tx_m45, tx_m46, tx_m47, tx_m48, tx_m49, tx_m50, tx_m51, tx_m52, tx_m53, tx_m54, tx_m55, tx_m56, tx_m57, tx_m58, tx_m59, tx_m60, tx_m61, tx_m62, tx_m63, tx_m64, tx_m65, tx_m66, tx_m67, tx_m68, tx_m69, tx_m70, tx_m71, tx_m72, tx_m73, tx_m74, tx_m75, tx_m76, tx_m77, tx_m78, tx_m79, tx_m80, tx_m81, tx_m82, tx_m83, tx_m84, tx_m85, tx_m86, tx_m87, tx_m88, tx_m89, tx_m90, tx_m91, tx_m92, tx_m93, tx_m94, tx_m95, tx_m96, tx_m97, tx_m98, tx_m99, tx_m100, tx_m101, tx_m102, tx_m103, tx_m104, tx_m105, tx_m106, tx_m107, tx_m108, tx_m109, tx_m110, tx_m111, tx_m112, tx_m113, tx_m114, tx_m115, tx_m116, tx_m117, tx_m118, tx_m119, tx_m120, tx_m121, tx_m122, tx_m123, tx_m124, tx_m125, tx_m126, tx_m127, tx_m128, tx_m129, tx_m130, tx_m131, tx_m132, tx_m133, tx_m134, tx_m135, tx_m136, tx_m137, tx_m138, tx_m139, tx_m140, tx_m141, tx_m142, tx_m143, tx_m144, tx_m145, tx_m146, tx_m147, tx_m148, tx_m149, tx_m150, tx_m151, tx_m152, tx_m153, tx_m154, tx_m155, tx_m156, tx_m157, tx_m158, tx_m159, tx_m160]
def tx_mL : tw_MR := (10, "TwinArrayLaw", x, code, 7, ret, (0, 0, 1, 8, 189), tx_tL)
end
section
/-! The rules once more, in the forms that proofs use: fields and arrays by their kinds, numbers as nI of a natural number, branches by plain conditions. -/
section ZR
variable {mt : List tw_MR} {sw : tw_SW} {ft : Nat → Nat → Nat} {fl : Bool} {xs : Option (Nat × (Nat → Int32))} {Sp : tw_SP} {Lf : tw_L} {P : tw_S → Option tw_A → Prop} {t : tw_T} {X : tw_X} {ix pc a b c : Nat} {n : Int} {v : Int32} {ls : List (Option tw_A)} {st : List tw_A} {L : tw_L} {f : tw_S}
theorem zg_ref (h : tw_Cl mt sw ft fl xs Sp Lf P t X) {q nn q2 : Nat} {rs : List (Option Nat)} (hi : t[ix]? = some (pc, 27, a, b, c, n, v)) (hL : L[q]? = some (a, nn, rs)) (hb : b < nn) (ht : ft a b = 2) (hr : rs.getD b none = some q2) (k : X (ix + 1) ls (tw_R q2 :: st) L f) : X ix ls (tw_R q :: st) L f := by
  refine zi_getf h hi hL hb ?_
  rw [ht, hr]
  exact k
theorem zg_int (h : tw_Cl mt sw ft fl xs Sp Lf P t X) {q nn : Nat} {rs : List (Option Nat)} (hi : t[ix]? = some (pc, 27, a, b, c, n, v)) (hL : L[q]? = some (a, nn, rs)) (hb : b < nn) (ht : ft a b = 0) (k : X (ix + 1) ls (tw_I (f q b) :: st) L f) : X ix ls (tw_R q :: st) L f := by
  refine zi_getf h hi hL hb ?_
  rw [ht]
  exact k
theorem zg_nat (h : tw_Cl mt sw ft fl xs Sp Lf P t X) (m : Nat) {q nn : Nat} {rs : List (Option Nat)} (hi : t[ix]? = some (pc, 27, a, b, c, n, v)) (hL : L[q]? = some (a, nn, rs)) (hb : b < nn) (ht : ft a b = 0) (hv : f q b = nI m) (k : X (ix + 1) ls (tw_I (nI m) :: st) L f) : X ix ls (tw_R q :: st) L f := by
  refine zg_int h hi hL hb ht ?_
  rw [hv]
  exact k
theorem zg_boo (h : tw_Cl mt sw ft fl xs Sp Lf P t X) {q nn : Nat} {rs : List (Option Nat)} (hi : t[ix]? = some (pc, 27, a, b, c, n, v)) (hL : L[q]? = some (a, nn, rs)) (hb : b < nn) (ht : ft a b = 1) (k : X (ix + 1) ls (tw_I (tw_nz (f q b)) :: st) L f) : X ix ls (tw_R q :: st) L f := by
  refine zi_getf h hi hL hb ?_
  rw [ht]
  exact k
theorem zp_int (h : tw_Cl mt sw ft fl xs Sp Lf P t X) {x : Int32} {q nn : Nat} {rs : List (Option Nat)} (hi : t[ix]? = some (pc, 28, a, b, c, n, v)) (hL : L[q]? = some (a, nn, rs)) (hb : b < nn) (ht : ft a b = 0) (k : X (ix + 1) ls st L (tw_up f q b x)) : X ix ls (tw_I x :: tw_R q :: st) L f := zi_putf h hi hL hb (Or.inl ht) k
theorem zp_boo (h : tw_Cl mt sw ft fl xs Sp Lf P t X) {x : Int32} {q nn : Nat} {rs : List (Option Nat)} (hi : t[ix]? = some (pc, 28, a, b, c, n, v)) (hL : L[q]? = some (a, nn, rs)) (hb : b < nn) (ht : ft a b = 1) (hx : x = 0 ∨ x = 1) (k : X (ix + 1) ls st L (tw_up f q b x)) : X ix ls (tw_I x :: tw_R q :: st) L f := zi_putf h hi hL hb (Or.inr ⟨ht, hx⟩) k
theorem za_i (h : tw_Cl mt sw ft fl xs Sp Lf P t X) {x : Int32} {q nn i : Nat} {rs : List (Option Nat)} (hi : t[ix]? = some (pc, 31, a, b, c, n, v)) (hL : L[q]? = some (100, nn, rs)) (hx : x = nI i) (hlt : i < nn) (hn : nn < 4096) (k : X (ix + 1) ls (tw_I (f q i) :: st) L f) : X ix ls (tw_I x :: tw_R q :: st) L f := by
  subst hx
  refine zi_iaload h hi hL (vp_in_nI hlt (by omega)) ?_
  rw [nI_clamp (by omega)]
  exact k
theorem za_n (h : tw_Cl mt sw ft fl xs Sp Lf P t X) (m : Nat) {x : Int32} {q nn i : Nat} {rs : List (Option Nat)} (hi : t[ix]? = some (pc, 31, a, b, c, n, v)) (hL : L[q]? = some (100, nn, rs)) (hx : x = nI i) (hlt : i < nn) (hn : nn < 4096) (hv : f q i = nI m) (k : X (ix + 1) ls (tw_I (nI m) :: st) L f) : X ix ls (tw_I x :: tw_R q :: st) L f := by
  refine za_i h hi hL hx hlt hn ?_
  rw [hv]
  exact k
theorem za_z (h : tw_Cl mt sw ft fl xs Sp Lf P t X) {x : Int32} {q nn i : Nat} {rs : List (Option Nat)} (hi : t[ix]? = some (pc, 32, a, b, c, n, v)) (hL : L[q]? = some (101, nn, rs)) (hx : x = nI i) (hlt : i < nn) (hn : nn < 4096) (k : X (ix + 1) ls (tw_I (tw_nz (f q i)) :: st) L f) : X ix ls (tw_I x :: tw_R q :: st) L f := by
  subst hx
  refine zi_baload h hi hL (vp_in_nI hlt (by omega)) ?_
  rw [nI_clamp (by omega)]
  exact k
theorem zs_i (h : tw_Cl mt sw ft fl xs Sp Lf P t X) {x y : Int32} {q nn i : Nat} {rs : List (Option Nat)} (hi : t[ix]? = some (pc, 33, a, b, c, n, v)) (hL : L[q]? = some (100, nn, rs)) (hx : x = nI i) (hlt : i < nn) (hn : nn < 4096) (k : X (ix + 1) ls st L (tw_up f q i y)) : X ix ls (tw_I y :: tw_I x :: tw_R q :: st) L f := by
  subst hx
  refine zi_iastore h hi hL (vp_in_nI hlt (by omega)) ?_
  rw [nI_clamp (by omega)]
  exact k
theorem zs_z (h : tw_Cl mt sw ft fl xs Sp Lf P t X) {x y : Int32} {q nn i : Nat} {rs : List (Option Nat)} (hi : t[ix]? = some (pc, 34, a, b, c, n, v)) (hL : L[q]? = some (101, nn, rs)) (hx : x = nI i) (hlt : i < nn) (hn : nn < 4096) (hy : y = 0 ∨ y = 1) (k : X (ix + 1) ls st L (tw_up f q i y)) : X ix ls (tw_I y :: tw_I x :: tw_R q :: st) L f := by
  subst hx
  refine zi_bastore h hi hL (vp_in_nI hlt (by omega)) hy ?_
  rw [nI_clamp (by omega)]
  exact k
theorem zn_iconst (h : tw_Cl mt sw ft fl xs Sp Lf P t X) (m : Nat) (hi : t[ix]? = some (pc, 4, a, b, c, n, v)) (hv : v = nI m) (k : X (ix + 1) ls (tw_I (nI m) :: st) L f) : X ix ls st L f := by
  refine zi_iconst h hi ?_
  rw [hv]
  exact k
theorem zn_bipush (h : tw_Cl mt sw ft fl xs Sp Lf P t X) (m : Nat) (hi : t[ix]? = some (pc, 5, a, b, c, n, v)) (hv : v = nI m) (k : X (ix + 1) ls (tw_I (nI m) :: st) L f) : X ix ls st L f := by
  refine zi_bipush h hi ?_
  rw [hv]
  exact k
theorem zn_sipush (h : tw_Cl mt sw ft fl xs Sp Lf P t X) (m : Nat) (hi : t[ix]? = some (pc, 6, a, b, c, n, v)) (hv : v = nI m) (k : X (ix + 1) ls (tw_I (nI m) :: st) L f) : X ix ls st L f := by
  refine zi_sipush h hi ?_
  rw [hv]
  exact k
theorem zn_iadd (h : tw_Cl mt sw ft fl xs Sp Lf P t X) {x y : Nat} (hi : t[ix]? = some (pc, 12, a, b, c, n, v)) (k : X (ix + 1) ls (tw_I (nI (x + y)) :: st) L f) : X ix ls (tw_I (nI y) :: tw_I (nI x) :: st) L f := by
  refine zi_iadd h hi ?_
  rw [nI_add]
  exact k
theorem zn_isub (h : tw_Cl mt sw ft fl xs Sp Lf P t X) {x y : Nat} (hi : t[ix]? = some (pc, 13, a, b, c, n, v)) (hxy : y ≤ x) (k : X (ix + 1) ls (tw_I (nI (x - y)) :: st) L f) : X ix ls (tw_I (nI y) :: tw_I (nI x) :: st) L f := by
  refine zi_isub h hi ?_
  rw [pk_sub hxy]
  exact k
theorem zn_imul (h : tw_Cl mt sw ft fl xs Sp Lf P t X) {x y : Nat} (hi : t[ix]? = some (pc, 14, a, b, c, n, v)) (k : X (ix + 1) ls (tw_I (nI (x * y)) :: st) L f) : X ix ls (tw_I (nI y) :: tw_I (nI x) :: st) L f := by
  refine zi_imul h hi ?_
  rw [pk_mul]
  exact k
theorem zn_idiv (h : tw_Cl mt sw ft fl xs Sp Lf P t X) {x y : Nat} (hi : t[ix]? = some (pc, 20, a, b, c, n, v)) (hx : x < 2 ^ 31) (hy : 0 < y) (hy2 : y < 2 ^ 31) (k : X (ix + 1) ls (tw_I (nI (x / y)) :: st) L f) : X ix ls (tw_I (nI y) :: tw_I (nI x) :: st) L f := by
  refine zi_idiv h hi (nI_ne0 hy hy2) ?_
  rw [pk_div hx hy hy2]
  exact k
theorem zn_irem (h : tw_Cl mt sw ft fl xs Sp Lf P t X) {x y : Nat} (hi : t[ix]? = some (pc, 21, a, b, c, n, v)) (hx : x < 2 ^ 31) (hy : 0 < y) (hy2 : y < 2 ^ 31) (k : X (ix + 1) ls (tw_I (nI (x % y)) :: st) L f) : X ix ls (tw_I (nI y) :: tw_I (nI x) :: st) L f := by
  refine zi_irem h hi (nI_ne0 hy hy2) ?_
  rw [pk_rem hx hy hy2]
  exact k
theorem zn_iinc (h : tw_Cl mt sw ft fl xs Sp Lf P t X) (y : Nat) {x : Nat} (hi : t[ix]? = some (pc, 11, a, b, c, n, v)) (hv : v = nI y) (hl : ls[a]? = some (some (tw_I (nI x)))) (k : X (ix + 1) (ls.set a (some (tw_I (nI (x + y))))) st L f) : X ix ls st L f := by
  subst hv
  refine zi_iinc h hi hl ?_
  rw [nI_add]
  exact k
theorem zc_ifeq (h : tw_Cl mt sw ft fl xs Sp Lf P t X) {x : Int32} (hi : t[ix]? = some (pc, 22, 0, b, c, n, v)) (kt : x = 0 → X b ls st L f) (kf : ¬ x = 0 → X (ix + 1) ls st L f) : X ix ls (tw_I x :: st) L f := zi_if h hi kt kf
theorem zc_ifne (h : tw_Cl mt sw ft fl xs Sp Lf P t X) {x : Int32} (hi : t[ix]? = some (pc, 22, 1, b, c, n, v)) (kt : ¬ x = 0 → X b ls st L f) (kf : x = 0 → X (ix + 1) ls st L f) : X ix ls (tw_I x :: st) L f := zi_if h hi kt (fun g => kf (Classical.byContradiction (fun u => g u)))
theorem zc_iflt (h : tw_Cl mt sw ft fl xs Sp Lf P t X) {x : Int32} (hi : t[ix]? = some (pc, 22, 2, b, c, n, v)) (kt : x < 0 → X b ls st L f) (kf : ¬ x < 0 → X (ix + 1) ls st L f) : X ix ls (tw_I x :: st) L f := zi_if h hi kt kf
theorem zc_ifge (h : tw_Cl mt sw ft fl xs Sp Lf P t X) {x : Int32} (hi : t[ix]? = some (pc, 22, 3, b, c, n, v)) (kt : 0 ≤ x → X b ls st L f) (kf : ¬ 0 ≤ x → X (ix + 1) ls st L f) : X ix ls (tw_I x :: st) L f := zi_if h hi kt kf
theorem zc_ifgt (h : tw_Cl mt sw ft fl xs Sp Lf P t X) {x : Int32} (hi : t[ix]? = some (pc, 22, 4, b, c, n, v)) (kt : 0 < x → X b ls st L f) (kf : ¬ 0 < x → X (ix + 1) ls st L f) : X ix ls (tw_I x :: st) L f := zi_if h hi kt kf
theorem zc_ifle (h : tw_Cl mt sw ft fl xs Sp Lf P t X) {x : Int32} (hi : t[ix]? = some (pc, 22, 5, b, c, n, v)) (kt : x ≤ 0 → X b ls st L f) (kf : ¬ x ≤ 0 → X (ix + 1) ls st L f) : X ix ls (tw_I x :: st) L f := zi_if h hi kt kf
theorem tw_nz0 {x : Int32} : tw_nz x = 0 ↔ x = 0 := by
  unfold tw_nz
  by_cases h : x = 0
  · simp [h]
  · simp [h]
theorem zb_ifeq (h : tw_Cl mt sw ft fl xs Sp Lf P t X) {x : Int32} (hi : t[ix]? = some (pc, 22, 0, b, c, n, v)) (kt : x = 0 → X b ls st L f) (kf : ¬ x = 0 → X (ix + 1) ls st L f) : X ix ls (tw_I (tw_nz x) :: st) L f := zc_ifeq h hi (fun g => kt (tw_nz0.mp g)) (fun g => kf (fun u => g (tw_nz0.mpr u)))
theorem zb_ifne (h : tw_Cl mt sw ft fl xs Sp Lf P t X) {x : Int32} (hi : t[ix]? = some (pc, 22, 1, b, c, n, v)) (kt : ¬ x = 0 → X b ls st L f) (kf : x = 0 → X (ix + 1) ls st L f) : X ix ls (tw_I (tw_nz x) :: st) L f := zc_ifne h hi (fun g => kt (fun u => g (tw_nz0.mpr u))) (fun g => kf (tw_nz0.mp g))
theorem zc_icmpeq (h : tw_Cl mt sw ft fl xs Sp Lf P t X) {x y : Int32} (hi : t[ix]? = some (pc, 23, 0, b, c, n, v)) (kt : x = y → X b ls st L f) (kf : ¬ x = y → X (ix + 1) ls st L f) : X ix ls (tw_I y :: tw_I x :: st) L f := zi_icmp h hi kt kf
theorem zc_icmpne (h : tw_Cl mt sw ft fl xs Sp Lf P t X) {x y : Int32} (hi : t[ix]? = some (pc, 23, 1, b, c, n, v)) (kt : ¬ x = y → X b ls st L f) (kf : x = y → X (ix + 1) ls st L f) : X ix ls (tw_I y :: tw_I x :: st) L f := zi_icmp h hi kt (fun g => kf (Classical.byContradiction (fun u => g u)))
theorem zc_icmplt (h : tw_Cl mt sw ft fl xs Sp Lf P t X) {x y : Int32} (hi : t[ix]? = some (pc, 23, 2, b, c, n, v)) (kt : x < y → X b ls st L f) (kf : ¬ x < y → X (ix + 1) ls st L f) : X ix ls (tw_I y :: tw_I x :: st) L f := zi_icmp h hi kt kf
theorem zc_icmpge (h : tw_Cl mt sw ft fl xs Sp Lf P t X) {x y : Int32} (hi : t[ix]? = some (pc, 23, 3, b, c, n, v)) (kt : y ≤ x → X b ls st L f) (kf : ¬ y ≤ x → X (ix + 1) ls st L f) : X ix ls (tw_I y :: tw_I x :: st) L f := zi_icmp h hi kt kf
theorem zc_icmpgt (h : tw_Cl mt sw ft fl xs Sp Lf P t X) {x y : Int32} (hi : t[ix]? = some (pc, 23, 4, b, c, n, v)) (kt : y < x → X b ls st L f) (kf : ¬ y < x → X (ix + 1) ls st L f) : X ix ls (tw_I y :: tw_I x :: st) L f := zi_icmp h hi kt kf
theorem zc_icmple (h : tw_Cl mt sw ft fl xs Sp Lf P t X) {x y : Int32} (hi : t[ix]? = some (pc, 23, 5, b, c, n, v)) (kt : x ≤ y → X b ls st L f) (kf : ¬ x ≤ y → X (ix + 1) ls st L f) : X ix ls (tw_I y :: tw_I x :: st) L f := zi_icmp h hi kt kf
theorem zn_icmpeq (h : tw_Cl mt sw ft fl xs Sp Lf P t X) {x y : Nat} (hi : t[ix]? = some (pc, 23, 0, b, c, n, v)) (hx : x < 2 ^ 31) (hy : y < 2 ^ 31) (kt : x = y → X b ls st L f) (kf : x ≠ y → X (ix + 1) ls st L f) : X ix ls (tw_I (nI y) :: tw_I (nI x) :: st) L f := zc_icmpeq h hi (fun g => kt ((nI_eq hx hy).mp g)) (fun g => kf (fun u => g ((nI_eq hx hy).mpr u)))
theorem zn_icmpne (h : tw_Cl mt sw ft fl xs Sp Lf P t X) {x y : Nat} (hi : t[ix]? = some (pc, 23, 1, b, c, n, v)) (hx : x < 2 ^ 31) (hy : y < 2 ^ 31) (kt : x ≠ y → X b ls st L f) (kf : x = y → X (ix + 1) ls st L f) : X ix ls (tw_I (nI y) :: tw_I (nI x) :: st) L f := zc_icmpne h hi (fun g => kt (fun u => g ((nI_eq hx hy).mpr u))) (fun g => kf ((nI_eq hx hy).mp g))
theorem zn_icmplt (h : tw_Cl mt sw ft fl xs Sp Lf P t X) {x y : Nat} (hi : t[ix]? = some (pc, 23, 2, b, c, n, v)) (hx : x < 2 ^ 31) (hy : y < 2 ^ 31) (kt : x < y → X b ls st L f) (kf : y ≤ x → X (ix + 1) ls st L f) : X ix ls (tw_I (nI y) :: tw_I (nI x) :: st) L f := zc_icmplt h hi (fun g => kt ((nI_ltI hx hy).mp g)) (fun g => kf (Nat.le_of_not_lt (fun u => g ((nI_ltI hx hy).mpr u))))
theorem zn_icmpge (h : tw_Cl mt sw ft fl xs Sp Lf P t X) {x y : Nat} (hi : t[ix]? = some (pc, 23, 3, b, c, n, v)) (hx : x < 2 ^ 31) (hy : y < 2 ^ 31) (kt : y ≤ x → X b ls st L f) (kf : x < y → X (ix + 1) ls st L f) : X ix ls (tw_I (nI y) :: tw_I (nI x) :: st) L f := zc_icmpge h hi (fun g => kt ((nI_leI hy hx).mp g)) (fun g => kf (Nat.lt_of_not_le (fun u => g ((nI_leI hy hx).mpr u))))
theorem zn_icmpgt (h : tw_Cl mt sw ft fl xs Sp Lf P t X) {x y : Nat} (hi : t[ix]? = some (pc, 23, 4, b, c, n, v)) (hx : x < 2 ^ 31) (hy : y < 2 ^ 31) (kt : y < x → X b ls st L f) (kf : x ≤ y → X (ix + 1) ls st L f) : X ix ls (tw_I (nI y) :: tw_I (nI x) :: st) L f := zc_icmpgt h hi (fun g => kt ((nI_ltI hy hx).mp g)) (fun g => kf (Nat.le_of_not_lt (fun u => g ((nI_ltI hy hx).mpr u))))
theorem zn_icmple (h : tw_Cl mt sw ft fl xs Sp Lf P t X) {x y : Nat} (hi : t[ix]? = some (pc, 23, 5, b, c, n, v)) (hx : x < 2 ^ 31) (hy : y < 2 ^ 31) (kt : x ≤ y → X b ls st L f) (kf : y < x → X (ix + 1) ls st L f) : X ix ls (tw_I (nI y) :: tw_I (nI x) :: st) L f := zc_icmple h hi (fun g => kt ((nI_leI hx hy).mp g)) (fun g => kf (Nat.lt_of_not_le (fun u => g ((nI_leI hx hy).mpr u))))
theorem zk_V (h : tw_Cl mt sw ft fl xs Sp Lf P t X) (As : List tw_A) {stk : List tw_A} {q nn : Nat} {rs : List (Option Nat)} (hi : t[ix]? = some (pc, 35, a, b, c, n, v)) (hL : Lf[q]? = some (b, nn, rs)) (hn : As.length = tw_na mt a) (hst : stk = As.reverse ++ tw_R q :: st) (hs : (st.map tw_ct).sum ≤ 8) (k0 : Sp a (tw_R q :: As) Lf f Lf (fun f2 r => X (ix + 1) ls (r.toList ++ st) Lf f2)) : X ix ls stk Lf f := by
  subst hst
  exact zi_callV h hi hL hn hs (Nat.le_refl _) (Nat.le_refl _) (Nat.le_refl _) (Nat.le_refl _) k0
theorem zk_S (h : tw_Cl mt sw ft fl xs Sp Lf P t X) (As : List tw_A) {stk : List tw_A} (hi : t[ix]? = some (pc, 36, a, b, c, n, v)) (hn : As.length = tw_na mt a) (hst : stk = As.reverse ++ st) (hs : (st.map tw_ct).sum ≤ 8) (k0 : Sp a As Lf f Lf (fun f2 r => X (ix + 1) ls (r.toList ++ st) Lf f2)) : X ix ls stk Lf f := by
  subst hst
  exact zi_callS h hi hn hs (Nat.le_refl _) (Nat.le_refl _) (Nat.le_refl _) (Nat.le_refl _) k0
end ZR
end
section
/-! The layout behind the constructors, and a short name for a method's spec over it. -/
def tx_L0 : tw_L := [(8, 6, [some 1, some 6, some 12, some 17, some 39, none]), (3, 4, [some 2, some 3, some 4, some 5]), (101, 5, []), (100, 5, []), (100, 40, []), (101, 40, []), (7, 6, [some 7, some 8, some 9, some 10, some 11, none]), (100, 200, []), (100, 200, []), (100, 200, []), (100, 200, []), (100, 200, []), (6, 5, [some 13, some 14, some 15, some 16, none]), (100, 20, []), (100, 20, []), (100, 20, []), (100, 20, []), (0, 19, [none, some 18, some 23, some 28, some 34, some 38, none, none, none, none, none, none, none, none, none, none, none, none, none]), (4, 4, [some 19, some 20, some 21, some 22]), (101, 32, []), (101, 32, []), (100, 32, []), (100, 32, []), (4, 4, [some 24, some 25, some 26, some 27]), (101, 32, []), (101, 32, []), (100, 32, []), (100, 32, []), (5, 7, [some 29, some 30, some 31, some 32, some 33, none, none]), (100, 40, []), (100, 40, []), (100, 40, []), (100, 40, []), (100, 40, []), (1, 7, [some 35, some 36, some 37, none, none, none, none]), (101, 4, []), (100, 4, []), (100, 4, []), (2, 5, [none, none, none, none, none]), (0, 19, [none, some 40, some 45, some 50, some 56, some 60, none, none, none, none, none, none, none, none, none, none, none, none, none]), (4, 4, [some 41, some 42, some 43, some 44]), (101, 32, []), (101, 32, []), (100, 32, []), (100, 32, []), (4, 4, [some 46, some 47, some 48, some 49]), (101, 32, []), (101, 32, []), (100, 32, []), (100, 32, []), (5, 7, [some 51, some 52, some 53, some 54, some 55, none, none]), (100, 40, []), (100, 40, []), (100, 40, []), (100, 40, []), (100, 40, []), (1, 7, [some 57, some 58, some 59, none, none, none, none]), (101, 4, []), (100, 4, []), (100, 4, []), (2, 5, [none, none, none, none, none]), (9, 50, [none, some 62, some 63, some 64, some 65, some 66, some 67, some 68, some 69, some 70, some 71, some 72, some 73, some 74, some 75, some 76, some 77, some 78, some 79, some 80, some 81, some 82, some 83, some 84, some 85, some 86, some 87, some 88, some 89, some 90, some 91, some 92, some 93, some 94, some 95, some 96, some 97, some 98, none, none, some 99, some 100, some 101, some 102, some 103, none, some 104, some 105, some 106, some 107]), (101, 5, []), (100, 5, []), (100, 40, []), (101, 40, []), (101, 2, []), (100, 2, []), (101, 2, []), (101, 4, []), (101, 64, []), (100, 64, []), (100, 64, []), (101, 64, []), (101, 64, []), (100, 64, []), (100, 64, []), (101, 16, []), (101, 16, []), (101, 16, []), (100, 2, []), (100, 2, []), (100, 2, []), (100, 2, []), (101, 2, []), (100, 2, []), (100, 2, []), (100, 2, []), (100, 2, []), (101, 8, []), (100, 8, []), (100, 8, []), (100, 2, []), (101, 2, []), (101, 2, []), (100, 2, []), (100, 2, []), (100, 400, []), (100, 2, []), (100, 200, []), (100, 200, []), (100, 200, []), (100, 200, []), (100, 200, []), (100, 20, []), (100, 20, []), (100, 20, []), (100, 20, []), (102, 1, [])]
abbrev tS (fl : Bool) (d k : Nat) (As : List tw_A) (f : tw_S) (P : tw_S → Option tw_A → Prop) : Prop := tw_Sp tx_mt tx_sw tx_ft fl d k As tx_L0 f tx_L0 P
/-- another spelling of the same memory -/
theorem tw_mem {X : tw_X} {ix : Nat} {ls : List (Option tw_A)} {st : List tw_A} {L : tw_L} {f g : tw_S} (e : ∀ q i, f q i = g q i) (h : X ix ls st L g) : X ix ls st L f := by
  have e2 : f = g := funext fun q => funext fun i => e q i
  rw [e2]
  exact h
theorem tw_n0 : nI 0 = 0 := rfl
theorem tw_n1 : nI 1 = 1 := rfl
theorem tw_n2 : nI 2 = 2 := rfl
theorem tx_ctl {q : Nat} (h : q = 17 ∨ q = 39) : tx_L0[q]? = some (0, 19, [none, some (q + 1), some (q + 6), some (q + 11), some (q + 17), some (q + 21), none, none, none, none, none, none, none, none, none, none, none, none, none]) := by rcases h with rfl | rfl <;> rfl
def tx_isE (q : Nat) : Prop := q = 18 ∨ q = 23 ∨ q = 40 ∨ q = 45
theorem tx_ent {q : Nat} (h : tx_isE q) : tx_L0[q]? = some (4, 4, [some (q + 1), some (q + 2), some (q + 3), some (q + 4)]) ∧ tx_L0[q + 1]? = some (101, 32, []) ∧ tx_L0[q + 2]? = some (101, 32, []) ∧ tx_L0[q + 3]? = some (100, 32, []) ∧ tx_L0[q + 4]? = some (100, 32, []) := by rcases h with rfl | rfl | rfl | rfl <;> exact ⟨rfl, rfl, rfl, rfl, rfl⟩
theorem tx_inb {q : Nat} (h : q = 28 ∨ q = 50) : tx_L0[q]? = some (5, 7, [some (q + 1), some (q + 2), some (q + 3), some (q + 4), some (q + 5), none, none]) ∧ tx_L0[q + 1]? = some (100, 40, []) ∧ tx_L0[q + 2]? = some (100, 40, []) ∧ tx_L0[q + 3]? = some (100, 40, []) ∧ tx_L0[q + 4]? = some (100, 40, []) ∧ tx_L0[q + 5]? = some (100, 40, []) := by rcases h with rfl | rfl <;> exact ⟨rfl, rfl, rfl, rfl, rfl, rfl⟩
theorem tx_des {q : Nat} (h : q = 34 ∨ q = 56) : tx_L0[q]? = some (1, 7, [some (q + 1), some (q + 2), some (q + 3), none, none, none, none]) ∧ tx_L0[q + 1]? = some (101, 4, []) ∧ tx_L0[q + 2]? = some (100, 4, []) ∧ tx_L0[q + 3]? = some (100, 4, []) := by rcases h with rfl | rfl <;> exact ⟨rfl, rfl, rfl, rfl⟩
theorem tx_dwr {q : Nat} (h : q = 38 ∨ q = 60) : tx_L0[q]? = some (2, 5, [none, none, none, none, none]) := by rcases h with rfl | rfl <;> rfl
/-- from i on, n places: the first place where g is not 0, else the place behind them -/
def p_ft (g : Nat → Int32) : Nat → Nat → Nat
  | 0, i => i
  | n + 1, i => if g i = 0 then p_ft g n (i + 1) else i
theorem p_ft_le (g : Nat → Int32) : ∀ n i, i ≤ p_ft g n i ∧ p_ft g n i ≤ i + n
  | 0, i => ⟨Nat.le_refl _, Nat.le_refl _⟩
  | n + 1, i => by
    have h := p_ft_le g n (i + 1)
    unfold p_ft
    split
    · omega
    · omega
/-- the greatest key of the first n disks that are there -/
def p_great (th ks : Nat → Int32) : Nat → Int32
  | 0 => 0
  | n + 1 => if th n = 0 then p_great th ks n else if p_great th ks n < ks n then ks n else p_great th ks n
/-- how many of the first n disks that are there have another key -/
def p_other (th ks : Nat → Int32) (key : Int32) : Nat → Nat
  | 0 => 0
  | n + 1 => p_other th ks key n + (if ¬ th n = 0 ∧ ¬ ks n = key then 1 else 0)
/-- is a block of the stripe missing on another of the first n disks? -/
def p_om (mi : Nat → Int32) (i s n : Nat) : Prop := ∃ o, o < n ∧ o ≠ i ∧ ¬ mi (o * 8 + s) = 0
theorem p_om_succ {mi : Nat → Int32} {i s n : Nat} (h : ¬ p_om mi i s n) (h2 : n = i ∨ mi (n * 8 + s) = 0) : ¬ p_om mi i s (n + 1) := by
  rintro ⟨o, h3, h4, h5⟩
  by_cases ho : o < n
  · exact h ⟨o, ho, h4, h5⟩
  · obtain rfl : o = n := by omega
    rcases h2 with h2 | h2
    · exact h4 h2
    · exact h5 h2
/-- the blocks of the stripe on the other of the first n disks, joined by xor -/
def p_xor (bl : Nat → Int32) (i s : Nat) : Nat → Int32
  | 0 => 0
  | n + 1 => if n = i then p_xor bl i s n else p_xor bl i s n ^^^ bl (n * 8 + s)
def p_pd (s : Nat) : Nat := 4 - s % 5
def p_dd (s k : Nat) : Nat := if k < p_pd s then k else k + 1
theorem p_dd_lt {s k : Nat} (h : k < 4) : p_dd s k < 5 := by
  unfold p_dd
  split <;> omega
/-- how many of the first n places are not 0 -/
def p_cnt (g : Nat → Int32) : Nat → Nat
  | 0 => 0
  | n + 1 => p_cnt g n + (if g n = 0 then 0 else 1)
theorem p_cnt_le (g : Nat → Int32) : ∀ n, p_cnt g n ≤ n
  | 0 => Nat.le_refl _
  | n + 1 => by
    have h := p_cnt_le g n
    unfold p_cnt
    split <;> omega
def p_cd (g : Nat → Int32) : Nat → Nat
  | 0 => 0
  | n + 1 => p_cd g n + p_cnt (fun j => g (n * 4 + j)) 4
theorem p_cd_le (g : Nat → Int32) : ∀ n, p_cd g n ≤ 4 * n
  | 0 => Nat.le_refl _
  | n + 1 => by
    have h := p_cd_le g n
    have h2 := p_cnt_le (fun j => g (n * 4 + j)) 4
    unfold p_cd
    omega
/-- the stripe of the first n + 1 that has the most places that are not 0, the lowest of them -/
def p_ds (g : Nat → Int32) : Nat → Nat
  | 0 => 0
  | n + 1 => if p_cnt (fun j => g (p_ds g n * 4 + j)) 4 < p_cnt (fun j => g ((n + 1) * 4 + j)) 4 then n + 1 else p_ds g n
theorem p_ds_le (g : Nat → Int32) : ∀ n, p_ds g n ≤ n
  | 0 => Nat.le_refl _
  | n + 1 => by
    have h := p_ds_le g n
    unfold p_ds
    split <;> omega
def p_x4 (g : Nat → Int32) : Nat → Int32
  | 0 => 0
  | n + 1 => p_x4 g n ^^^ g n
theorem tw_memP {P : tw_S → Option tw_A → Prop} {r : Option tw_A} {f g : tw_S} (e : ∀ q i, f q i = g q i) (h : P g r) : P f r := by
  have e2 : f = g := funext fun q => funext fun i => e q i
  rw [e2]
  exact h
theorem tx_c1 {q : Nat} (h : q = 17 ∨ q = 39) : tx_isE (q + 1) := by rcases h with rfl | rfl <;> simp [tx_isE]
theorem tx_c6 {q : Nat} (h : q = 17 ∨ q = 39) : tx_isE (q + 6) := by rcases h with rfl | rfl <;> simp [tx_isE]
theorem tx_c11 {q : Nat} (h : q = 17 ∨ q = 39) : q + 11 = 28 ∨ q + 11 = 50 := by omega
theorem tx_c17 {q : Nat} (h : q = 17 ∨ q = 39) : q + 17 = 34 ∨ q + 17 = 56 := by omega
theorem tx_c21 {q : Nat} (h : q = 17 ∨ q = 39) : q + 21 = 38 ∨ q + 21 = 60 := by omega
/-- is the bit n of x set? -/
def p_bit (x : Int32) (n : Nat) : Prop := x >>> (nI n &&& 31) &&& 1 = 1
theorem nI_zero {n : Nat} (h : n < 2 ^ 31) : nI n = 0 ↔ n = 0 := nI_eq (b := 0) h (by omega)
theorem tw_cgf {f : tw_S} {a b a2 b2 : Nat} (h1 : a = a2) (h2 : b = b2) : f a b = f a2 b2 := by rw [h1, h2]
/-- all entries dropped -/
def p_drop (f : tw_S) (q : Nat) : tw_S := fun c j => if (c = q + 1 ∨ c = q + 2) ∧ j < 32 then 0 else f c j
def p_forget (f : tw_S) (q : Nat) : tw_S := tw_up (tw_up (p_drop (p_drop (tw_up (tw_up (tw_up (tw_up (tw_up (tw_up (tw_up (tw_up (tw_up (tw_up f q 6 0) q 7 0) q 8 0) q 9 0) q 11 0) q 12 0) q 13 0) q 14 0) q 15 0) q 16 0) (q + 1)) (q + 6)) (q + 17) 3 (-1)) (q + 21) 0 0
def p_begin (f : tw_S) (q : Nat) (x : Int32) : tw_S := tw_up (tw_up (tw_up (p_drop (p_drop (tw_up (tw_up f q 7 1) q 10 x) (q + 1)) (q + 6)) (q + 11) 6 0) q 13 0) q 15 0
def p_sl (f : tw_S) (q : Nat) : Nat := ((f (q + 11) 5).toNatClampNeg + (f (q + 11) 6).toNatClampNeg) % 40
/-- a message to the controller at q: kind, place, value, version, ticket -/
def p_send (f : tw_S) (q : Nat) (k p v w t : Int32) : tw_S := if f 0 5 = 0 ∧ (f (q + 11) 6).toNatClampNeg < 40 then tw_up (tw_up (tw_up (tw_up (tw_up (tw_up f (q + 12) (p_sl f q) k) (q + 13) (p_sl f q) p) (q + 14) (p_sl f q) v) (q + 15) (p_sl f q) w) (q + 16) (p_sl f q) t) (q + 11) 6 (f (q + 11) 6 + 1) else f
/-- the inbox's numbers are in their ranges -/
def p_box (f : tw_S) (q : Nat) : Prop := ∃ a m : Nat, f (q + 11) 5 = nI a ∧ a < 40 ∧ f (q + 11) 6 = nI m ∧ m ≤ 40
def p_sip (f : tw_S) (q : Nat) (k p w : Int32) : tw_S := if f q 7 = 0 then f else p_send f (56 - q) k p 0 w (-1)
def p_late (f : tw_S) (q : Nat) : tw_S := if f q 0 = 0 ∨ ¬ (f 12 4).toNatClampNeg < 20 then f else tw_up (tw_up (tw_up (tw_up (tw_up f 13 (f 12 4).toNatClampNeg (f q 1)) 14 (f 12 4).toNatClampNeg (f q 2)) 15 (f 12 4).toNatClampNeg (f q 3)) 16 (f 12 4).toNatClampNeg (f q 4)) 12 4 (f 12 4 + 1)
def p_ref (f : tw_S) (x : Int32) : tw_S := fun c j => if c = 7 ∧ j < (f 6 5).toNatClampNeg ∧ f 7 j = 0 ∧ f 9 j = x then 2 else f c j
def p_down (f : tw_S) (q : Nat) : tw_S := p_forget (p_ref (p_late f (q + 21)) (f q 0)) q
def p_fin (f : tw_S) (x y w : Int32) : tw_S := fun c j => if c = 7 ∧ j < (f 6 5).toNatClampNeg ∧ f 9 j = x ∧ f 10 j = y ∧ ¬ w < f 11 j ∧ f 7 j = 0 then 1 else f c j
theorem tw_off {f : tw_S} {q i c j : Nat} {x : Int32} (h : ¬ (c = q ∧ j = i)) : tw_up f q i x c j = f c j := if_neg h
theorem p_down_eq {f g : tw_S} {q tm : Nat} (hg : p_late f (q + 21) = g) (h6 : g 6 5 = nI tm) (ht : tm ≤ 200) (h0 : g q 0 = f q 0) : p_down f q = p_forget (fun c j => if c = 7 ∧ j < tm ∧ g 7 j = 0 ∧ g 9 j = g q 0 then 2 else g c j) q := by
  unfold p_down p_ref
  rw [hg, h6, nI_clamp (by omega), h0]
/-- fewer ends are closed under the rules too -/
theorem tw_Cl_mono {mt : List tw_MR} {sw : tw_SW} {ft : Nat → Nat → Nat} {fl : Bool} {xs : Option (Nat × (Nat → Int32))} {Sp : tw_SP} {Lf : tw_L} {P P2 : tw_S → Option tw_A → Prop} {t : tw_T} {X : tw_X} (h : tw_Cl mt sw ft fl xs Sp Lf P2 t X) (hP : ∀ g r, P g r → P2 g r) : tw_Cl mt sw ft fl xs Sp Lf P t X :=
  ⟨h.1, h.2.1, h.2.2.1, h.2.2.2.1, h.2.2.2.2.1, h.2.2.2.2.2.1, h.2.2.2.2.2.2.1, h.2.2.2.2.2.2.2.1, h.2.2.2.2.2.2.2.2.1, h.2.2.2.2.2.2.2.2.2.1, h.2.2.2.2.2.2.2.2.2.2.1, h.2.2.2.2.2.2.2.2.2.2.2.1, h.2.2.2.2.2.2.2.2.2.2.2.2.1, h.2.2.2.2.2.2.2.2.2.2.2.2.2.1, h.2.2.2.2.2.2.2.2.2.2.2.2.2.2.1, h.2.2.2.2.2.2.2.2.2.2.2.2.2.2.2.1, h.2.2.2.2.2.2.2.2.2.2.2.2.2.2.2.2.1, h.2.2.2.2.2.2.2.2.2.2.2.2.2.2.2.2.2.1, h.2.2.2.2.2.2.2.2.2.2.2.2.2.2.2.2.2.2.1, h.2.2.2.2.2.2.2.2.2.2.2.2.2.2.2.2.2.2.2.1, h.2.2.2.2.2.2.2.2.2.2.2.2.2.2.2.2.2.2.2.2.1, h.2.2.2.2.2.2.2.2.2.2.2.2.2.2.2.2.2.2.2.2.2.1, h.2.2.2.2.2.2.2.2.2.2.2.2.2.2.2.2.2.2.2.2.2.2.1, h.2.2.2.2.2.2.2.2.2.2.2.2.2.2.2.2.2.2.2.2.2.2.2.1, h.2.2.2.2.2.2.2.2.2.2.2.2.2.2.2.2.2.2.2.2.2.2.2.2.1, h.2.2.2.2.2.2.2.2.2.2.2.2.2.2.2.2.2.2.2.2.2.2.2.2.2.1, h.2.2.2.2.2.2.2.2.2.2.2.2.2.2.2.2.2.2.2.2.2.2.2.2.2.2.1, h.2.2.2.2.2.2.2.2.2.2.2.2.2.2.2.2.2.2.2.2.2.2.2.2.2.2.2.1, h.2.2.2.2.2.2.2.2.2.2.2.2.2.2.2.2.2.2.2.2.2.2.2.2.2.2.2.2.1, h.2.2.2.2.2.2.2.2.2.2.2.2.2.2.2.2.2.2.2.2.2.2.2.2.2.2.2.2.2.1, h.2.2.2.2.2.2.2.2.2.2.2.2.2.2.2.2.2.2.2.2.2.2.2.2.2.2.2.2.2.2.1, h.2.2.2.2.2.2.2.2.2.2.2.2.2.2.2.2.2.2.2.2.2.2.2.2.2.2.2.2.2.2.2.1, h.2.2.2.2.2.2.2.2.2.2.2.2.2.2.2.2.2.2.2.2.2.2.2.2.2.2.2.2.2.2.2.2.1, h.2.2.2.2.2.2.2.2.2.2.2.2.2.2.2.2.2.2.2.2.2.2.2.2.2.2.2.2.2.2.2.2.2.1, h.2.2.2.2.2.2.2.2.2.2.2.2.2.2.2.2.2.2.2.2.2.2.2.2.2.2.2.2.2.2.2.2.2.2.1, h.2.2.2.2.2.2.2.2.2.2.2.2.2.2.2.2.2.2.2.2.2.2.2.2.2.2.2.2.2.2.2.2.2.2.2.1, h.2.2.2.2.2.2.2.2.2.2.2.2.2.2.2.2.2.2.2.2.2.2.2.2.2.2.2.2.2.2.2.2.2.2.2.2.1, h.2.2.2.2.2.2.2.2.2.2.2.2.2.2.2.2.2.2.2.2.2.2.2.2.2.2.2.2.2.2.2.2.2.2.2.2.2.1, fun ix pc a b c n v ls f x hi k => h.2.2.2.2.2.2.2.2.2.2.2.2.2.2.2.2.2.2.2.2.2.2.2.2.2.2.2.2.2.2.2.2.2.2.2.2.2.2.1 ix pc a b c n v ls f x hi (hP _ _ k), fun ix pc a b c n v ls f x hi h0 k => h.2.2.2.2.2.2.2.2.2.2.2.2.2.2.2.2.2.2.2.2.2.2.2.2.2.2.2.2.2.2.2.2.2.2.2.2.2.2.2.1 ix pc a b c n v ls f x hi h0 (hP _ _ k), fun ix pc a b c n v ls f hi k => h.2.2.2.2.2.2.2.2.2.2.2.2.2.2.2.2.2.2.2.2.2.2.2.2.2.2.2.2.2.2.2.2.2.2.2.2.2.2.2.2.1 ix pc a b c n v ls f hi (hP _ _ k), fun ix pc a b c n v ls f q hi k => h.2.2.2.2.2.2.2.2.2.2.2.2.2.2.2.2.2.2.2.2.2.2.2.2.2.2.2.2.2.2.2.2.2.2.2.2.2.2.2.2.2.1 ix pc a b c n v ls f q hi (hP _ _ k), h.2.2.2.2.2.2.2.2.2.2.2.2.2.2.2.2.2.2.2.2.2.2.2.2.2.2.2.2.2.2.2.2.2.2.2.2.2.2.2.2.2.2.1, h.2.2.2.2.2.2.2.2.2.2.2.2.2.2.2.2.2.2.2.2.2.2.2.2.2.2.2.2.2.2.2.2.2.2.2.2.2.2.2.2.2.2.2.1, h.2.2.2.2.2.2.2.2.2.2.2.2.2.2.2.2.2.2.2.2.2.2.2.2.2.2.2.2.2.2.2.2.2.2.2.2.2.2.2.2.2.2.2.2.1, h.2.2.2.2.2.2.2.2.2.2.2.2.2.2.2.2.2.2.2.2.2.2.2.2.2.2.2.2.2.2.2.2.2.2.2.2.2.2.2.2.2.2.2.2.2.1, h.2.2.2.2.2.2.2.2.2.2.2.2.2.2.2.2.2.2.2.2.2.2.2.2.2.2.2.2.2.2.2.2.2.2.2.2.2.2.2.2.2.2.2.2.2.2.1, h.2.2.2.2.2.2.2.2.2.2.2.2.2.2.2.2.2.2.2.2.2.2.2.2.2.2.2.2.2.2.2.2.2.2.2.2.2.2.2.2.2.2.2.2.2.2.2.1, h.2.2.2.2.2.2.2.2.2.2.2.2.2.2.2.2.2.2.2.2.2.2.2.2.2.2.2.2.2.2.2.2.2.2.2.2.2.2.2.2.2.2.2.2.2.2.2.2.1, h.2.2.2.2.2.2.2.2.2.2.2.2.2.2.2.2.2.2.2.2.2.2.2.2.2.2.2.2.2.2.2.2.2.2.2.2.2.2.2.2.2.2.2.2.2.2.2.2.2.1, h.2.2.2.2.2.2.2.2.2.2.2.2.2.2.2.2.2.2.2.2.2.2.2.2.2.2.2.2.2.2.2.2.2.2.2.2.2.2.2.2.2.2.2.2.2.2.2.2.2.2.1, h.2.2.2.2.2.2.2.2.2.2.2.2.2.2.2.2.2.2.2.2.2.2.2.2.2.2.2.2.2.2.2.2.2.2.2.2.2.2.2.2.2.2.2.2.2.2.2.2.2.2.2.1, h.2.2.2.2.2.2.2.2.2.2.2.2.2.2.2.2.2.2.2.2.2.2.2.2.2.2.2.2.2.2.2.2.2.2.2.2.2.2.2.2.2.2.2.2.2.2.2.2.2.2.2.2⟩
theorem tw_Sp_mono {mt : List tw_MR} {sw : tw_SW} {ft : Nat → Nat → Nat} {fl : Bool} {k : Nat} {As : List tw_A} {L L2 : tw_L} {f : tw_S} {P P2 : tw_S → Option tw_A → Prop} : ∀ {d : Nat}, tw_Sp mt sw ft fl d k As L f L2 P → (∀ g r, P g r → P2 g r) → tw_Sp mt sw ft fl d k As L f L2 P2
  | 0, h, _ => h
  | d + 1, ⟨r, h1, h2, h3, h4⟩, hP => ⟨r, h1, h2, h3, fun X hX => h4 X (tw_Cl_mono hX hP)⟩
end
section
/-! The disks: cell 1; there 2, keys 3, blocks 4, missing 5. -/
set_option maxRecDepth 4000 in
theorem s_isController {fl : Bool} {d : Nat} {f : tw_S} {P : tw_S → Option tw_A → Prop} {x : Int32} (h1 : x = 0 ∨ x = 1 → P f (some (tw_I 1))) (h2 : ¬ (x = 0 ∨ x = 1) → P f (some (tw_I 0))) : tS fl (d + 1) 62 [tw_I x] f P := by
  refine tw_Sp_of rfl rfl (Nat.le_of_ble_eq_true rfl) (fun X h => ?_)
  refine zi_iload_n h rfl rfl ?_
  first | refine zb_ifeq h rfl (fun hc => ?_) (fun hc => ?_) | refine zc_ifeq h rfl (fun hc => ?_) (fun hc => ?_)
  · refine zn_iconst h 1 rfl rfl ?_
    refine zi_goto h rfl ?_
    refine zi_zret h rfl (by first | exact Or.inl rfl | exact Or.inr rfl | exact tw_nz_01 _ | assumption) ?_
    exact h1 (Or.inl hc)
  · have hc0 := hc
    refine zi_iload_n h rfl rfl ?_
    refine zn_iconst h 1 rfl rfl ?_
    first | refine zn_icmpne h rfl (by omega) (by omega) (fun hc => ?_) (fun hc => ?_) | refine zc_icmpne h rfl (fun hc => ?_) (fun hc => ?_)
    · refine zn_iconst h 0 rfl rfl ?_
      refine zi_zret h rfl (by first | exact Or.inl rfl | exact Or.inr rfl | exact tw_nz_01 _ | assumption) ?_
      exact h2 (fun g => g.elim hc0 hc)
    · refine zn_iconst h 1 rfl rfl ?_
      refine zi_goto h rfl ?_
      refine zi_zret h rfl (by first | exact Or.inl rfl | exact Or.inr rfl | exact tw_nz_01 _ | assumption) ?_
      exact h1 (Or.inr hc)
theorem s_put {fl : Bool} {d : Nat} {f : tw_S} {P : tw_S → Option tw_A → Prop} {i s : Nat} {v : Int32} (hi : i < 5) (hs : s < 8) (hP : P (tw_up (tw_up f 4 (i * 8 + s) v) 5 (i * 8 + s) 0) none) : tS fl (d + 1) 34 [tw_R 1, tw_I (nI i), tw_I (nI s), tw_I v] f P := by
  refine tw_Sp_of rfl rfl (Nat.le_of_ble_eq_true rfl) (fun X h => ?_)
  refine zi_aload_n h rfl rfl ?_
  refine zg_ref h rfl (by first | rfl | assumption) (by decide) rfl rfl ?_
  refine zi_iload_n h rfl rfl ?_
  refine zn_bipush h 8 rfl rfl ?_
  first | refine zn_imul h rfl ?_ | refine zi_imul h rfl ?_
  refine zi_iload_n h rfl rfl ?_
  first | refine zn_iadd h rfl ?_ | refine zi_iadd h rfl ?_
  refine zi_iload_n h rfl rfl ?_
  refine zs_i h rfl (by first | rfl | assumption) rfl (by omega) (by decide) ?_
  refine zi_aload_n h rfl rfl ?_
  show X 10 _ _ _ _
  refine zg_ref h rfl (by first | rfl | assumption) (by decide) rfl rfl ?_
  refine zi_iload_n h rfl rfl ?_
  refine zn_bipush h 8 rfl rfl ?_
  first | refine zn_imul h rfl ?_ | refine zi_imul h rfl ?_
  refine zi_iload_n h rfl rfl ?_
  first | refine zn_iadd h rfl ?_ | refine zi_iadd h rfl ?_
  refine zn_iconst h 0 rfl rfl ?_
  refine zs_z h rfl (by first | rfl | assumption) rfl (by omega) (by decide) (by first | exact Or.inl rfl | exact Or.inr rfl | assumption) ?_
  refine zi_vret h rfl ?_
  exact hP
theorem s_isMissing {fl : Bool} {d : Nat} {f : tw_S} {P : tw_S → Option tw_A → Prop} {i s : Nat} (hi : i < 5) (hs : s < 8) (hP : P f (some (tw_I (tw_nz (f 5 (i * 8 + s)))))) : tS fl (d + 1) 28 [tw_R 1, tw_I (nI i), tw_I (nI s)] f P := by
  refine tw_Sp_of rfl rfl (Nat.le_of_ble_eq_true rfl) (fun X h => ?_)
  refine zi_aload_n h rfl rfl ?_
  refine zg_ref h rfl (by first | rfl | assumption) (by decide) rfl rfl ?_
  refine zi_iload_n h rfl rfl ?_
  refine zn_bipush h 8 rfl rfl ?_
  first | refine zn_imul h rfl ?_ | refine zi_imul h rfl ?_
  refine zi_iload_n h rfl rfl ?_
  first | refine zn_iadd h rfl ?_ | refine zi_iadd h rfl ?_
  refine za_z h rfl (by first | rfl | assumption) rfl (by omega) (by decide) ?_
  refine zi_zret h rfl (by first | exact Or.inl rfl | exact Or.inr rfl | exact tw_nz_01 _ | assumption) ?_
  exact hP
theorem s_blockOn {fl : Bool} {d : Nat} {f : tw_S} {P : tw_S → Option tw_A → Prop} {i s : Nat} (hi : i < 5) (hs : s < 8) (hP : P f (some (tw_I (f 4 (i * 8 + s))))) : tS fl (d + 1) 31 [tw_R 1, tw_I (nI i), tw_I (nI s)] f P := by
  refine tw_Sp_of rfl rfl (Nat.le_of_ble_eq_true rfl) (fun X h => ?_)
  refine zi_aload_n h rfl rfl ?_
  refine zg_ref h rfl (by first | rfl | assumption) (by decide) rfl rfl ?_
  refine zi_iload_n h rfl rfl ?_
  refine zn_bipush h 8 rfl rfl ?_
  first | refine zn_imul h rfl ?_ | refine zi_imul h rfl ?_
  refine zi_iload_n h rfl rfl ?_
  first | refine zn_iadd h rfl ?_ | refine zi_iadd h rfl ?_
  refine za_i h rfl (by first | rfl | assumption) rfl (by omega) (by decide) ?_
  refine zi_iret h rfl ?_
  exact hP
theorem s_remove {fl : Bool} {d : Nat} {f : tw_S} {P : tw_S → Option tw_A → Prop} {i : Nat} (hi : i < 5) (hP : P (fun q j => if q = 2 ∧ j = i then 0 else if q = 5 ∧ i * 8 ≤ j ∧ j < i * 8 + 8 then 1 else f q j) none) : tS fl (d + 1) 38 [tw_R 1, tw_I (nI i)] f P := by
  refine tw_Sp_of rfl rfl (Nat.le_of_ble_eq_true rfl) (fun X h => ?_)
  have loop : ∀ n s : Nat, s + n = 8 → X 7 [some (tw_R 1), some (tw_I (nI i)), some (tw_I (nI s))] [] tx_L0 (fun q j => if q = 2 ∧ j = i then 0 else if q = 5 ∧ i * 8 ≤ j ∧ j < i * 8 + s then 1 else f q j) := by
    intro n
    induction n with
    | zero =>
      intro s hs
      obtain rfl : s = 8 := by omega
      refine zi_iload_n h rfl rfl ?_
      refine zn_bipush h 8 rfl rfl ?_
      first | refine zn_icmpge h rfl (by omega) (by omega) (fun hc => ?_) (fun hc => ?_) | refine zc_icmpge h rfl (fun hc => ?_) (fun hc => ?_)
      · refine zi_vret h rfl ?_
        exact hP
      · omega
    | succ n ih =>
      intro s hs
      have ih := ih (s + 1) (by omega)
      refine zi_iload_n h rfl rfl ?_
      refine zn_bipush h 8 rfl rfl ?_
      first | refine zn_icmpge h rfl (by omega) (by omega) (fun hc => ?_) (fun hc => ?_) | refine zc_icmpge h rfl (fun hc => ?_) (fun hc => ?_)
      · omega
      · refine zi_aload_n h rfl rfl ?_
        refine zg_ref h rfl (by first | rfl | assumption) (by decide) rfl rfl ?_
        refine zi_iload_n h rfl rfl ?_
        refine zn_bipush h 8 rfl rfl ?_
        first | refine zn_imul h rfl ?_ | refine zi_imul h rfl ?_
        refine zi_iload_n h rfl rfl ?_
        first | refine zn_iadd h rfl ?_ | refine zi_iadd h rfl ?_
        refine zn_iconst h 1 rfl rfl ?_
        refine zs_z h rfl (by first | rfl | assumption) rfl (by omega) (by decide) (by first | exact Or.inl rfl | exact Or.inr rfl | assumption) ?_
        first | refine zn_iinc h 1 rfl rfl rfl ?_ | refine zi_iinc h rfl rfl ?_
        show X 20 _ _ _ _
        refine zi_goto h rfl ?_
        refine tw_mem (fun q j => ?_) (ih)
        try simp only [tw_up, tw_n0, tw_n1, tw_n2, false_and, and_false, true_and, and_true, false_or, or_false, if_true, if_false]
        (repeat' split) <;> first | rfl | omega | exact tw_cgf (by omega) (by omega)
  refine zi_aload_n h rfl rfl ?_
  refine zg_ref h rfl (by first | rfl | assumption) (by decide) rfl rfl ?_
  refine zi_iload_n h rfl rfl ?_
  refine zn_iconst h 0 rfl rfl ?_
  refine zs_z h rfl (by first | rfl | assumption) rfl (by omega) (by decide) (by first | exact Or.inl rfl | exact Or.inr rfl | assumption) ?_
  refine zn_iconst h 0 rfl rfl ?_
  refine zi_istore_n h rfl (Nat.le_of_ble_eq_true rfl) ?_
  refine tw_mem (fun q j => ?_) (loop 8 0 (by omega))
  try simp only [tw_up, tw_n0, tw_n1, tw_n2, false_and, and_false, true_and, and_true, false_or, or_false, if_true, if_false]
  (repeat' split) <;> first | rfl | omega | exact tw_cgf (by omega) (by omega)
end
section
/-! The disks: the rest. -/
theorem s_withOther {fl : Bool} {d : Nat} {f : tw_S} {P : tw_S → Option tw_A → Prop} {key : Int32} (hP : P f (some (tw_I (nI (p_other (f 2) (f 3) key 5))))) : tS fl (d + 1) 25 [tw_R 1, tw_I key] f P := by
  refine tw_Sp_of rfl rfl (Nat.le_of_ble_eq_true rfl) (fun X h => ?_)
  have loop : ∀ n i : Nat, i + n = 5 → X 4 [some (tw_R 1), some (tw_I key), some (tw_I (nI (p_other (f 2) (f 3) key i))), some (tw_I (nI i))] [] tx_L0 f := by
    intro n
    induction n with
    | zero =>
      intro i hi
      obtain rfl : i = 5 := by omega
      refine zi_iload_n h rfl rfl ?_
      refine zn_iconst h 5 rfl rfl ?_
      first | refine zn_icmpge h rfl (by omega) (by omega) (fun hc => ?_) (fun hc => ?_) | refine zc_icmpge h rfl (fun hc => ?_) (fun hc => ?_)
      · refine zi_iload_n h rfl rfl ?_
        refine zi_iret h rfl ?_
        exact hP
      · omega
    | succ n ih =>
      intro i hi
      have ih := ih (i + 1) (by omega)
      refine zi_iload_n h rfl rfl ?_
      refine zn_iconst h 5 rfl rfl ?_
      first | refine zn_icmpge h rfl (by omega) (by omega) (fun hc => ?_) (fun hc => ?_) | refine zc_icmpge h rfl (fun hc => ?_) (fun hc => ?_)
      · omega
      · refine zi_aload_n h rfl rfl ?_
        refine zg_ref h rfl (by first | rfl | assumption) (by decide) rfl rfl ?_
        refine zi_iload_n h rfl rfl ?_
        refine za_z h rfl (by first | rfl | assumption) rfl (by omega) (by decide) ?_
        first | refine zb_ifeq h rfl (fun hc => ?_) (fun hc => ?_) | refine zc_ifeq h rfl (fun hc => ?_) (fun hc => ?_)
        · rw [show p_other (f 2) (f 3) key (i + 1) = p_other (f 2) (f 3) key i by simp [p_other, hc]] at ih
          first | refine zn_iinc h 1 rfl rfl rfl ?_ | refine zi_iinc h rfl rfl ?_
          refine zi_goto h rfl ?_
          exact ih
        · have hc0 := hc
          refine zi_aload_n h rfl rfl ?_
          refine zg_ref h rfl (by first | rfl | assumption) (by decide) rfl rfl ?_
          refine zi_iload_n h rfl rfl ?_
          refine za_i h rfl (by first | rfl | assumption) rfl (by omega) (by decide) ?_
          refine zi_iload_n h rfl rfl ?_
          first | refine zn_icmpeq h rfl (by omega) (by omega) (fun hc => ?_) (fun hc => ?_) | refine zc_icmpeq h rfl (fun hc => ?_) (fun hc => ?_)
          · rw [show p_other (f 2) (f 3) key (i + 1) = p_other (f 2) (f 3) key i by simp [p_other, hc]] at ih
            first | refine zn_iinc h 1 rfl rfl rfl ?_ | refine zi_iinc h rfl rfl ?_
            refine zi_goto h rfl ?_
            exact ih
          · rw [show p_other (f 2) (f 3) key (i + 1) = p_other (f 2) (f 3) key i + 1 by simp [p_other, hc0, hc]] at ih
            first | refine zn_iinc h 1 rfl rfl rfl ?_ | refine zi_iinc h rfl rfl ?_
            first | refine zn_iinc h 1 rfl rfl rfl ?_ | refine zi_iinc h rfl rfl ?_
            refine zi_goto h rfl ?_
            exact ih
  refine zn_iconst h 0 rfl rfl ?_
  refine zi_istore_n h rfl (Nat.le_of_ble_eq_true rfl) ?_
  refine zn_iconst h 0 rfl rfl ?_
  refine zi_istore_n h rfl (Nat.le_of_ble_eq_true rfl) ?_
  exact loop 5 0 (by omega)
theorem s_greatestKey {fl : Bool} {d : Nat} {f : tw_S} {P : tw_S → Option tw_A → Prop} (hP : P f (some (tw_I (p_great (f 2) (f 3) 5)))) : tS fl (d + 1) 37 [tw_R 1] f P := by
  refine tw_Sp_of rfl rfl (Nat.le_of_ble_eq_true rfl) (fun X h => ?_)
  have loop : ∀ n i : Nat, i + n = 5 → X 4 [some (tw_R 1), some (tw_I (p_great (f 2) (f 3) i)), some (tw_I (nI i))] [] tx_L0 f := by
    intro n
    induction n with
    | zero =>
      intro i hi
      obtain rfl : i = 5 := by omega
      refine zi_iload_n h rfl rfl ?_
      refine zn_iconst h 5 rfl rfl ?_
      first | refine zn_icmpge h rfl (by omega) (by omega) (fun hc => ?_) (fun hc => ?_) | refine zc_icmpge h rfl (fun hc => ?_) (fun hc => ?_)
      · refine zi_iload_n h rfl rfl ?_
        refine zi_iret h rfl ?_
        exact hP
      · omega
    | succ n ih =>
      intro i hi
      have ih := ih (i + 1) (by omega)
      refine zi_iload_n h rfl rfl ?_
      refine zn_iconst h 5 rfl rfl ?_
      first | refine zn_icmpge h rfl (by omega) (by omega) (fun hc => ?_) (fun hc => ?_) | refine zc_icmpge h rfl (fun hc => ?_) (fun hc => ?_)
      · omega
      · refine zi_aload_n h rfl rfl ?_
        refine zg_ref h rfl (by first | rfl | assumption) (by decide) rfl rfl ?_
        refine zi_iload_n h rfl rfl ?_
        refine za_z h rfl (by first | rfl | assumption) rfl (by omega) (by decide) ?_
        first | refine zb_ifeq h rfl (fun hc => ?_) (fun hc => ?_) | refine zc_ifeq h rfl (fun hc => ?_) (fun hc => ?_)
        · rw [show p_great (f 2) (f 3) (i + 1) = p_great (f 2) (f 3) i by simp [p_great, hc]] at ih
          first | refine zn_iinc h 1 rfl rfl rfl ?_ | refine zi_iinc h rfl rfl ?_
          refine zi_goto h rfl ?_
          exact ih
        · rw [show p_great (f 2) (f 3) (i + 1) = (if p_great (f 2) (f 3) i < f 3 i then f 3 i else p_great (f 2) (f 3) i) by simp [p_great, hc]] at ih
          refine zi_iload_n h rfl rfl ?_
          refine zi_aload_n h rfl rfl ?_
          refine zg_ref h rfl (by first | rfl | assumption) (by decide) rfl rfl ?_
          refine zi_iload_n h rfl rfl ?_
          refine za_i h rfl (by first | rfl | assumption) rfl (by omega) (by decide) ?_
          refine zi_max h rfl (Nat.le_of_ble_eq_true rfl) (Nat.le_refl _) (Nat.le_refl _) ?_
          refine zi_istore_n h rfl (Nat.le_of_ble_eq_true rfl) ?_
          first | refine zn_iinc h 1 rfl rfl rfl ?_ | refine zi_iinc h rfl rfl ?_
          refine zi_goto h rfl ?_
          exact ih
  refine zn_iconst h 0 rfl rfl ?_
  refine zi_istore_n h rfl (Nat.le_of_ble_eq_true rfl) ?_
  refine zn_iconst h 0 rfl rfl ?_
  refine zi_istore_n h rfl (Nat.le_of_ble_eq_true rfl) ?_
  exact loop 5 0 (by omega)
theorem s_insert {fl : Bool} {d : Nat} {f : tw_S} {P : tw_S → Option tw_A → Prop} {i : Nat} (hi : i < 5) (hP : P (tw_up (tw_up f 3 i (p_great (f 2) (f 3) 5)) 2 i 1) none) : tS fl (d + 2) 39 [tw_R 1, tw_I (nI i)] f P := by
  refine tw_Sp_of rfl rfl (Nat.le_of_ble_eq_true rfl) (fun X h => ?_)
  refine zi_aload_n h rfl rfl ?_
  refine zg_ref h rfl (by first | rfl | assumption) (by decide) rfl rfl ?_
  refine zi_iload_n h rfl rfl ?_
  refine zi_aload_n h rfl rfl ?_
  refine zk_V h [] rfl (by first | rfl | assumption) rfl rfl (Nat.le_of_ble_eq_true rfl) (s_greatestKey ?_)
  refine zs_i h rfl (by first | rfl | assumption) rfl (by omega) (by decide) ?_
  refine zi_aload_n h rfl rfl ?_
  refine zg_ref h rfl (by first | rfl | assumption) (by decide) rfl rfl ?_
  refine zi_iload_n h rfl rfl ?_
  refine zn_iconst h 1 rfl rfl ?_
  refine zs_z h rfl (by first | rfl | assumption) rfl (by omega) (by decide) (by first | exact Or.inl rfl | exact Or.inr rfl | assumption) ?_
  refine zi_vret h rfl ?_
  exact hP
theorem s_firstThereFrom {fl : Bool} {d : Nat} {f : tw_S} {P : tw_S → Option tw_A → Prop} {i n : Nat} (hi : i + n = 5) (h1 : p_ft (f 2) n i < 5 → P f (some (tw_I (nI (p_ft (f 2) n i))))) (h2 : ¬ p_ft (f 2) n i < 5 → P f (some (tw_I (-1)))) : tS fl (d + 1) 35 [tw_R 1, tw_I (nI i)] f P := by
  refine tw_Sp_of rfl rfl (Nat.le_of_ble_eq_true rfl) (fun X h => ?_)
  have loop : ∀ m j : Nat, j + m = 5 → p_ft (f 2) m j = p_ft (f 2) n i → X 2 [some (tw_R 1), some (tw_I (nI i)), some (tw_I (nI j))] [] tx_L0 f := by
    intro m
    induction m with
    | zero =>
      intro j hj he
      obtain rfl : j = 5 := by omega
      have he : 5 = p_ft (f 2) n i := he
      refine zi_iload_n h rfl rfl ?_
      refine zn_iconst h 5 rfl rfl ?_
      first | refine zn_icmpge h rfl (by omega) (by omega) (fun hc => ?_) (fun hc => ?_) | refine zc_icmpge h rfl (fun hc => ?_) (fun hc => ?_)
      · refine zi_iconst h rfl ?_
        refine zi_iret h rfl ?_
        exact h2 (by omega)
      · omega
    | succ m ih =>
      intro j hj he
      refine zi_iload_n h rfl rfl ?_
      refine zn_iconst h 5 rfl rfl ?_
      first | refine zn_icmpge h rfl (by omega) (by omega) (fun hc => ?_) (fun hc => ?_) | refine zc_icmpge h rfl (fun hc => ?_) (fun hc => ?_)
      · omega
      · refine zi_aload_n h rfl rfl ?_
        refine zg_ref h rfl (by first | rfl | assumption) (by decide) rfl rfl ?_
        refine zi_iload_n h rfl rfl ?_
        refine za_z h rfl (by first | rfl | assumption) rfl (by omega) (by decide) ?_
        first | refine zb_ifeq h rfl (fun hc => ?_) (fun hc => ?_) | refine zc_ifeq h rfl (fun hc => ?_) (fun hc => ?_)
        · have ih := ih (j + 1) (by omega) (by rw [← he]; simp [p_ft, hc])
          first | refine zn_iinc h 1 rfl rfl rfl ?_ | refine zi_iinc h rfl rfl ?_
          refine zi_goto h rfl ?_
          exact ih
        · have he : j = p_ft (f 2) n i := by rw [← he]; simp [p_ft, hc]
          refine zi_iload_n h rfl rfl ?_
          refine zi_iret h rfl ?_
          have h1 := h1 (by omega)
          rw [← he] at h1
          exact h1
  refine zi_iload_n h rfl rfl ?_
  refine zi_istore_n h rfl (Nat.le_of_ble_eq_true rfl) ?_
  exact loop n i hi rfl
theorem s_lowestMissing {fl : Bool} {d : Nat} {f : tw_S} {P : tw_S → Option tw_A → Prop} {i : Nat} (hi : i < 5) (h1 : p_ft (fun s => f 5 (i * 8 + s)) 8 0 < 8 → P f (some (tw_I (nI (p_ft (fun s => f 5 (i * 8 + s)) 8 0))))) (h2 : ¬ p_ft (fun s => f 5 (i * 8 + s)) 8 0 < 8 → P f (some (tw_I (-1)))) : tS fl (d + 2) 40 [tw_R 1, tw_I (nI i)] f P := by
  refine tw_Sp_of rfl rfl (Nat.le_of_ble_eq_true rfl) (fun X h => ?_)
  have loop : ∀ m j : Nat, j + m = 8 → p_ft (fun s => f 5 (i * 8 + s)) m j = p_ft (fun s => f 5 (i * 8 + s)) 8 0 → X 2 [some (tw_R 1), some (tw_I (nI i)), some (tw_I (nI j))] [] tx_L0 f := by
    intro m
    induction m with
    | zero =>
      intro j hj he
      obtain rfl : j = 8 := by omega
      have he : 8 = p_ft (fun s => f 5 (i * 8 + s)) 8 0 := he
      refine zi_iload_n h rfl rfl ?_
      refine zn_bipush h 8 rfl rfl ?_
      first | refine zn_icmpge h rfl (by omega) (by omega) (fun hc => ?_) (fun hc => ?_) | refine zc_icmpge h rfl (fun hc => ?_) (fun hc => ?_)
      · refine zi_iconst h rfl ?_
        refine zi_iret h rfl ?_
        exact h2 (by omega)
      · omega
    | succ m ih =>
      intro j hj he
      refine zi_iload_n h rfl rfl ?_
      refine zn_bipush h 8 rfl rfl ?_
      first | refine zn_icmpge h rfl (by omega) (by omega) (fun hc => ?_) (fun hc => ?_) | refine zc_icmpge h rfl (fun hc => ?_) (fun hc => ?_)
      · omega
      · refine zi_aload_n h rfl rfl ?_
        refine zi_iload_n h rfl rfl ?_
        refine zi_iload_n h rfl rfl ?_
        refine zk_V h [_, _] rfl (by first | rfl | assumption) rfl rfl (Nat.le_of_ble_eq_true rfl) (s_isMissing (by omega) (by omega) ?_)
        first | refine zb_ifeq h rfl (fun hc => ?_) (fun hc => ?_) | refine zc_ifeq h rfl (fun hc => ?_) (fun hc => ?_)
        · have ih := ih (j + 1) (by omega) (by rw [← he]; simp [p_ft, hc])
          first | refine zn_iinc h 1 rfl rfl rfl ?_ | refine zi_iinc h rfl rfl ?_
          refine zi_goto h rfl ?_
          exact ih
        · have he : j = p_ft (fun s => f 5 (i * 8 + s)) 8 0 := by rw [← he]; simp [p_ft, hc]
          refine zi_iload_n h rfl rfl ?_
          refine zi_iret h rfl ?_
          have h1 := h1 (by omega)
          rw [← he] at h1
          exact h1
  refine zn_iconst h 0 rfl rfl ?_
  refine zi_istore_n h rfl (Nat.le_of_ble_eq_true rfl) ?_
  exact loop 8 0 (by omega) rfl
theorem s_isOtherMissing {fl : Bool} {d : Nat} {f : tw_S} {P : tw_S → Option tw_A → Prop} {i s : Nat} (hi : i < 5) (hs : s < 8) (h1 : p_om (f 5) i s 5 → P f (some (tw_I 1))) (h2 : ¬ p_om (f 5) i s 5 → P f (some (tw_I 0))) : tS fl (d + 2) 29 [tw_R 1, tw_I (nI i), tw_I (nI s)] f P := by
  refine tw_Sp_of rfl rfl (Nat.le_of_ble_eq_true rfl) (fun X h => ?_)
  have loop : ∀ m j : Nat, j + m = 5 → ¬ p_om (f 5) i s j → X 2 [some (tw_R 1), some (tw_I (nI i)), some (tw_I (nI s)), some (tw_I (nI j))] [] tx_L0 f := by
    intro m
    induction m with
    | zero =>
      intro j hj he
      obtain rfl : j = 5 := by omega
      refine zi_iload_n h rfl rfl ?_
      refine zn_iconst h 5 rfl rfl ?_
      first | refine zn_icmpge h rfl (by omega) (by omega) (fun hc => ?_) (fun hc => ?_) | refine zc_icmpge h rfl (fun hc => ?_) (fun hc => ?_)
      · refine zn_iconst h 0 rfl rfl ?_
        refine zi_zret h rfl (by first | exact Or.inl rfl | exact Or.inr rfl | exact tw_nz_01 _ | assumption) ?_
        exact h2 he
      · omega
    | succ m ih =>
      intro j hj he
      refine zi_iload_n h rfl rfl ?_
      refine zn_iconst h 5 rfl rfl ?_
      first | refine zn_icmpge h rfl (by omega) (by omega) (fun hc => ?_) (fun hc => ?_) | refine zc_icmpge h rfl (fun hc => ?_) (fun hc => ?_)
      · omega
      · refine zi_iload_n h rfl rfl ?_
        refine zi_iload_n h rfl rfl ?_
        first | refine zn_icmpeq h rfl (by omega) (by omega) (fun hc => ?_) (fun hc => ?_) | refine zc_icmpeq h rfl (fun hc => ?_) (fun hc => ?_)
        · have ih := ih (j + 1) (by omega) (p_om_succ he (Or.inl hc))
          first | refine zn_iinc h 1 rfl rfl rfl ?_ | refine zi_iinc h rfl rfl ?_
          refine zi_goto h rfl ?_
          exact ih
        · have hc0 := hc
          refine zi_aload_n h rfl rfl ?_
          refine zi_iload_n h rfl rfl ?_
          refine zi_iload_n h rfl rfl ?_
          refine zk_V h [_, _] rfl (by first | rfl | assumption) rfl rfl (Nat.le_of_ble_eq_true rfl) (s_isMissing (by omega) (by omega) ?_)
          first | refine zb_ifeq h rfl (fun hc => ?_) (fun hc => ?_) | refine zc_ifeq h rfl (fun hc => ?_) (fun hc => ?_)
          · have ih := ih (j + 1) (by omega) (p_om_succ he (Or.inr hc))
            first | refine zn_iinc h 1 rfl rfl rfl ?_ | refine zi_iinc h rfl rfl ?_
            refine zi_goto h rfl ?_
            exact ih
          · refine zn_iconst h 1 rfl rfl ?_
            refine zi_zret h rfl (by first | exact Or.inl rfl | exact Or.inr rfl | exact tw_nz_01 _ | assumption) ?_
            exact h1 ⟨j, by omega, hc0, hc⟩
  refine zn_iconst h 0 rfl rfl ?_
  refine zi_istore_n h rfl (Nat.le_of_ble_eq_true rfl) ?_
  exact loop 5 0 (by omega) (fun ⟨o, ho, _⟩ => by omega)
theorem s_isAnyMissing {fl : Bool} {d : Nat} {f : tw_S} {P : tw_S → Option tw_A → Prop} {s : Nat} (hs : s < 8) (h1 : p_om (f 5) 5 s 5 → P f (some (tw_I 1))) (h2 : ¬ p_om (f 5) 5 s 5 → P f (some (tw_I 0))) : tS fl (d + 3) 36 [tw_R 1, tw_I (nI s)] f P := by
  refine tw_Sp_of rfl rfl (Nat.le_of_ble_eq_true rfl) (fun X h => ?_)
  refine zi_aload_n h rfl rfl ?_
  refine zn_iconst h 0 rfl rfl ?_
  refine zi_iload_n h rfl rfl ?_
  refine zk_V h [_, _] rfl (by first | rfl | assumption) rfl rfl (Nat.le_of_ble_eq_true rfl) (s_isMissing (by omega) (by omega) ?_)
  first | refine zb_ifne h rfl (fun hc => ?_) (fun hc => ?_) | refine zc_ifne h rfl (fun hc => ?_) (fun hc => ?_)
  · refine zn_iconst h 1 rfl rfl ?_
    refine zi_goto h rfl ?_
    refine zi_zret h rfl (by first | exact Or.inl rfl | exact Or.inr rfl | exact tw_nz_01 _ | assumption) ?_
    exact h1 ⟨0, by omega, by omega, hc⟩
  · have hc0 := hc
    refine zi_aload_n h rfl rfl ?_
    refine zn_iconst h 0 rfl rfl ?_
    refine zi_iload_n h rfl rfl ?_
    refine zk_V h [_, _] rfl (by first | rfl | assumption) rfl rfl (Nat.le_of_ble_eq_true rfl) (s_isOtherMissing (by omega) (by omega) (fun hm => ?_) (fun hm => ?_))
    · first | refine zb_ifeq h rfl (fun hc => ?_) (fun hc => ?_) | refine zc_ifeq h rfl (fun hc => ?_) (fun hc => ?_)
      · exact absurd hc (by decide)
      · refine zn_iconst h 1 rfl rfl ?_
        refine zi_goto h rfl ?_
        refine zi_zret h rfl (by first | exact Or.inl rfl | exact Or.inr rfl | exact tw_nz_01 _ | assumption) ?_
        obtain ⟨o, g1, g2, g3⟩ := hm
        exact h1 ⟨o, g1, by omega, g3⟩
    · first | refine zb_ifeq h rfl (fun hc => ?_) (fun hc => ?_) | refine zc_ifeq h rfl (fun hc => ?_) (fun hc => ?_)
      · refine zn_iconst h 0 rfl rfl ?_
        refine zi_zret h rfl (by first | exact Or.inl rfl | exact Or.inr rfl | exact tw_nz_01 _ | assumption) ?_
        refine h2 (fun ⟨o, g1, g2, g3⟩ => ?_)
        by_cases ho : o = 0
        · subst ho
          exact g3 hc0
        · exact hm ⟨o, g1, ho, g3⟩
      · exact absurd rfl hc
theorem s_xorOfOthers {fl : Bool} {d : Nat} {f : tw_S} {P : tw_S → Option tw_A → Prop} {i s : Nat} (hi : i < 5) (hs : s < 8) (hP : P f (some (tw_I (p_xor (f 4) i s 5)))) : tS fl (d + 2) 32 [tw_R 1, tw_I (nI i), tw_I (nI s)] f P := by
  refine tw_Sp_of rfl rfl (Nat.le_of_ble_eq_true rfl) (fun X h => ?_)
  have loop : ∀ m j : Nat, j + m = 5 → X 4 [some (tw_R 1), some (tw_I (nI i)), some (tw_I (nI s)), some (tw_I (p_xor (f 4) i s j)), some (tw_I (nI j))] [] tx_L0 f := by
    intro m
    induction m with
    | zero =>
      intro j hj
      obtain rfl : j = 5 := by omega
      refine zi_iload h rfl rfl ?_
      refine zn_iconst h 5 rfl rfl ?_
      first | refine zn_icmpge h rfl (by omega) (by omega) (fun hc => ?_) (fun hc => ?_) | refine zc_icmpge h rfl (fun hc => ?_) (fun hc => ?_)
      · refine zi_iload_n h rfl rfl ?_
        refine zi_iret h rfl ?_
        exact hP
      · omega
    | succ m ih =>
      intro j hj
      have ih := ih (j + 1) (by omega)
      refine zi_iload h rfl rfl ?_
      refine zn_iconst h 5 rfl rfl ?_
      first | refine zn_icmpge h rfl (by omega) (by omega) (fun hc => ?_) (fun hc => ?_) | refine zc_icmpge h rfl (fun hc => ?_) (fun hc => ?_)
      · omega
      · refine zi_iload h rfl rfl ?_
        refine zi_iload_n h rfl rfl ?_
        first | refine zn_icmpeq h rfl (by omega) (by omega) (fun hc => ?_) (fun hc => ?_) | refine zc_icmpeq h rfl (fun hc => ?_) (fun hc => ?_)
        · rw [show p_xor (f 4) i s (j + 1) = p_xor (f 4) i s j by simp [p_xor, hc]] at ih
          first | refine zn_iinc h 1 rfl rfl rfl ?_ | refine zi_iinc h rfl rfl ?_
          refine zi_goto h rfl ?_
          exact ih
        · rw [show p_xor (f 4) i s (j + 1) = p_xor (f 4) i s j ^^^ f 4 (j * 8 + s) by simp [p_xor, hc]] at ih
          refine zi_iload_n h rfl rfl ?_
          refine zi_aload_n h rfl rfl ?_
          refine zi_iload h rfl rfl ?_
          refine zi_iload_n h rfl rfl ?_
          refine zk_V h [_, _] rfl (by first | rfl | assumption) rfl rfl (Nat.le_of_ble_eq_true rfl) (s_blockOn (by omega) (by omega) ?_)
          refine zi_ixor h rfl ?_
          refine zi_istore_n h rfl (Nat.le_of_ble_eq_true rfl) ?_
          first | refine zn_iinc h 1 rfl rfl rfl ?_ | refine zi_iinc h rfl rfl ?_
          refine zi_goto h rfl ?_
          exact ih
  refine zn_iconst h 0 rfl rfl ?_
  refine zi_istore_n h rfl (Nat.le_of_ble_eq_true rfl) ?_
  refine zn_iconst h 0 rfl rfl ?_
  refine zi_istore h rfl (Nat.le_of_ble_eq_true rfl) ?_
  exact loop 5 0 (by omega)
theorem s_parityDisk {fl : Bool} {d : Nat} {f : tw_S} {P : tw_S → Option tw_A → Prop} {s : Nat} (hs : s < 8) (hP : P f (some (tw_I (nI (p_pd s))))) : tS fl (d + 1) 26 [tw_I (nI s)] f P := by
  refine tw_Sp_of rfl rfl (Nat.le_of_ble_eq_true rfl) (fun X h => ?_)
  refine zn_iconst h 4 rfl rfl ?_
  refine zi_iload_n h rfl rfl ?_
  refine zn_iconst h 5 rfl rfl ?_
  refine zn_irem h rfl (by omega) (by omega) (by omega) ?_
  first | refine zn_isub h rfl (by omega) ?_ | refine zi_isub h rfl ?_
  refine zi_iret h rfl ?_
  exact hP
theorem s_dataDisk {fl : Bool} {d : Nat} {f : tw_S} {P : tw_S → Option tw_A → Prop} {s k : Nat} (hs : s < 8) (hk : k < 4) (hP : P f (some (tw_I (nI (p_dd s k))))) : tS fl (d + 2) 27 [tw_I (nI s), tw_I (nI k)] f P := by
  refine tw_Sp_of rfl rfl (Nat.le_of_ble_eq_true rfl) (fun X h => ?_)
  refine zi_iload_n h rfl rfl ?_
  refine zi_iload_n h rfl rfl ?_
  refine zk_S h [_] rfl rfl rfl (Nat.le_of_ble_eq_true rfl) (s_parityDisk hs ?_)
  have hp : p_pd s < 5 := by unfold p_pd; omega
  first | refine zn_icmpge h rfl (by omega) (by omega) (fun hc => ?_) (fun hc => ?_) | refine zc_icmpge h rfl (fun hc => ?_) (fun hc => ?_)
  · refine zi_iload_n h rfl rfl ?_
    refine zn_iconst h 1 rfl rfl ?_
    first | refine zn_iadd h rfl ?_ | refine zi_iadd h rfl ?_
    refine zi_iret h rfl ?_
    rw [show p_dd s k = k + 1 from if_neg (by omega)] at hP
    exact hP
  · refine zi_iload_n h rfl rfl ?_
    refine zi_goto h rfl ?_
    refine zi_iret h rfl ?_
    rw [show p_dd s k = k from if_pos hc] at hP
    exact hP
def p_lost (mi : Nat → Int32) (bk : Nat) : Prop := ¬ mi (p_dd (bk / 4) (bk % 4) * 8 + bk / 4) = 0 ∧ p_om mi (p_dd (bk / 4) (bk % 4)) (bk / 4) 5
def p_what (mi bl : Nat → Int32) (bk : Nat) : Int32 := if mi (p_dd (bk / 4) (bk % 4) * 8 + bk / 4) = 0 then bl (p_dd (bk / 4) (bk % 4) * 8 + bk / 4) else p_xor bl (p_dd (bk / 4) (bk % 4)) (bk / 4) 5
theorem s_isDataLost {fl : Bool} {d : Nat} {f : tw_S} {P : tw_S → Option tw_A → Prop} {bk : Nat} (hb : bk < 32) (h1 : p_lost (f 5) bk → P f (some (tw_I 1))) (h2 : ¬ p_lost (f 5) bk → P f (some (tw_I 0))) : tS fl (d + 3) 30 [tw_R 1, tw_I (nI bk)] f P := by
  refine tw_Sp_of rfl rfl (Nat.le_of_ble_eq_true rfl) (fun X h => ?_)
  have hdd := p_dd_lt (s := bk / 4) (k := bk % 4) (by omega)
  refine zi_iload_n h rfl rfl ?_
  refine zn_iconst h 4 rfl rfl ?_
  refine zn_idiv h rfl (by omega) (by omega) (by omega) ?_
  refine zi_istore_n h rfl (Nat.le_of_ble_eq_true rfl) ?_
  refine zi_iload_n h rfl rfl ?_
  refine zi_iload_n h rfl rfl ?_
  refine zn_iconst h 4 rfl rfl ?_
  refine zn_irem h rfl (by omega) (by omega) (by omega) ?_
  refine zk_S h [_, _] rfl rfl rfl (Nat.le_of_ble_eq_true rfl) (s_dataDisk (by omega) (by omega) ?_)
  refine zi_istore_n h rfl (Nat.le_of_ble_eq_true rfl) ?_
  refine zi_aload_n h rfl rfl ?_
  refine zi_iload_n h rfl rfl ?_
  refine zi_iload_n h rfl rfl ?_
  refine zk_V h [_, _] rfl (by first | rfl | assumption) rfl rfl (Nat.le_of_ble_eq_true rfl) (s_isMissing hdd (by omega) ?_)
  first | refine zb_ifeq h rfl (fun hc => ?_) (fun hc => ?_) | refine zc_ifeq h rfl (fun hc => ?_) (fun hc => ?_)
  · refine zn_iconst h 0 rfl rfl ?_
    refine zi_zret h rfl (by first | exact Or.inl rfl | exact Or.inr rfl | exact tw_nz_01 _ | assumption) ?_
    exact h2 (fun g => g.1 hc)
  · have hc0 := hc
    refine zi_aload_n h rfl rfl ?_
    refine zi_iload_n h rfl rfl ?_
    refine zi_iload_n h rfl rfl ?_
    refine zk_V h [_, _] rfl (by first | rfl | assumption) rfl rfl (Nat.le_of_ble_eq_true rfl) (s_isOtherMissing hdd (by omega) (fun hm => ?_) (fun hm => ?_))
    · first | refine zb_ifeq h rfl (fun hc => ?_) (fun hc => ?_) | refine zc_ifeq h rfl (fun hc => ?_) (fun hc => ?_)
      · exact absurd hc (by decide)
      · refine zn_iconst h 1 rfl rfl ?_
        refine zi_goto h rfl ?_
        refine zi_zret h rfl (by first | exact Or.inl rfl | exact Or.inr rfl | exact tw_nz_01 _ | assumption) ?_
        exact h1 ⟨hc0, hm⟩
    · first | refine zb_ifeq h rfl (fun hc => ?_) (fun hc => ?_) | refine zc_ifeq h rfl (fun hc => ?_) (fun hc => ?_)
      · refine zn_iconst h 0 rfl rfl ?_
        refine zi_zret h rfl (by first | exact Or.inl rfl | exact Or.inr rfl | exact tw_nz_01 _ | assumption) ?_
        exact h2 (fun g => hm g.2)
      · exact absurd rfl hc
theorem s_dataOf {fl : Bool} {d : Nat} {f : tw_S} {P : tw_S → Option tw_A → Prop} {bk : Nat} (hb : bk < 32) (hP : P f (some (tw_I (p_what (f 5) (f 4) bk)))) : tS fl (d + 3) 33 [tw_R 1, tw_I (nI bk)] f P := by
  refine tw_Sp_of rfl rfl (Nat.le_of_ble_eq_true rfl) (fun X h => ?_)
  have hdd := p_dd_lt (s := bk / 4) (k := bk % 4) (by omega)
  refine zi_iload_n h rfl rfl ?_
  refine zn_iconst h 4 rfl rfl ?_
  refine zn_idiv h rfl (by omega) (by omega) (by omega) ?_
  refine zi_istore_n h rfl (Nat.le_of_ble_eq_true rfl) ?_
  refine zi_iload_n h rfl rfl ?_
  refine zi_iload_n h rfl rfl ?_
  refine zn_iconst h 4 rfl rfl ?_
  refine zn_irem h rfl (by omega) (by omega) (by omega) ?_
  refine zk_S h [_, _] rfl rfl rfl (Nat.le_of_ble_eq_true rfl) (s_dataDisk (by omega) (by omega) ?_)
  refine zi_istore_n h rfl (Nat.le_of_ble_eq_true rfl) ?_
  refine zi_aload_n h rfl rfl ?_
  refine zi_iload_n h rfl rfl ?_
  refine zi_iload_n h rfl rfl ?_
  refine zk_V h [_, _] rfl (by first | rfl | assumption) rfl rfl (Nat.le_of_ble_eq_true rfl) (s_isMissing hdd (by omega) ?_)
  first | refine zb_ifeq h rfl (fun hc => ?_) (fun hc => ?_) | refine zc_ifeq h rfl (fun hc => ?_) (fun hc => ?_)
  · refine zi_aload_n h rfl rfl ?_
    refine zi_iload_n h rfl rfl ?_
    refine zi_iload_n h rfl rfl ?_
    refine zk_V h [_, _] rfl (by first | rfl | assumption) rfl rfl (Nat.le_of_ble_eq_true rfl) (s_blockOn hdd (by omega) ?_)
    refine zi_iret h rfl ?_
    rw [show p_what (f 5) (f 4) bk = _ from if_pos hc] at hP
    exact hP
  · refine zi_aload_n h rfl rfl ?_
    refine zi_iload_n h rfl rfl ?_
    refine zi_iload_n h rfl rfl ?_
    refine zk_V h [_, _] rfl (by first | rfl | assumption) rfl rfl (Nat.le_of_ble_eq_true rfl) (s_xorOfOthers hdd (by omega) ?_)
    refine zi_goto h rfl ?_
    refine zi_iret h rfl ?_
    rw [show p_what (f 5) (f 4) bk = _ from if_neg hc] at hP
    exact hP
end
section
/-! Entries (a cache, a mirror), an inbox, a destage, a disk write. -/
set_option maxRecDepth 20000 in
theorem s_drop {fl : Bool} {d : Nat} {f : tw_S} {P : tw_S → Option tw_A → Prop} {q i : Nat} (he : tx_isE q) (hi : i < 32) (hP : P (tw_up (tw_up f (q + 1) i 0) (q + 2) i 0) none) : tS fl (d + 1) 9 [tw_R q, tw_I (nI i)] f P := by
  obtain ⟨l0, l1, l2, l3, l4⟩ := tx_ent he
  refine tw_Sp_of rfl rfl (Nat.le_of_ble_eq_true rfl) (fun X h => ?_)
  refine zi_aload_n h rfl rfl ?_
  refine zg_ref h rfl (by first | rfl | assumption) (by decide) rfl rfl ?_
  refine zi_iload_n h rfl rfl ?_
  refine zn_iconst h 0 rfl rfl ?_
  refine zs_z h rfl (by first | rfl | assumption) rfl (by omega) (by decide) (by first | exact Or.inl rfl | exact Or.inr rfl | assumption) ?_
  refine zi_aload_n h rfl rfl ?_
  refine zg_ref h rfl (by first | rfl | assumption) (by decide) rfl rfl ?_
  refine zi_iload_n h rfl rfl ?_
  refine zn_iconst h 0 rfl rfl ?_
  refine zs_z h rfl (by first | rfl | assumption) rfl (by omega) (by decide) (by first | exact Or.inl rfl | exact Or.inr rfl | assumption) ?_
  show X 10 _ _ _ _
  refine zi_vret h rfl ?_
  exact hP
set_option maxRecDepth 20000 in
theorem s_dropAll {fl : Bool} {d : Nat} {f : tw_S} {P : tw_S → Option tw_A → Prop} {q : Nat} (he : tx_isE q) (hP : P (p_drop f q) none) : tS fl (d + 2) 10 [tw_R q] f P := by
  obtain ⟨l0, l1, l2, l3, l4⟩ := tx_ent he
  refine tw_Sp_of rfl rfl (Nat.le_of_ble_eq_true rfl) (fun X h => ?_)
  have loop : ∀ n i : Nat, i + n = 32 → X 2 [some (tw_R q), some (tw_I (nI i))] [] tx_L0 (fun c j => if (c = q + 1 ∨ c = q + 2) ∧ j < i then 0 else f c j) := by
    intro n
    induction n with
    | zero =>
      intro i hi
      obtain rfl : i = 32 := by omega
      refine zi_iload_n h rfl rfl ?_
      refine zn_bipush h 32 rfl rfl ?_
      first | refine zn_icmpge h rfl (by omega) (by omega) (fun hc => ?_) (fun hc => ?_) | refine zc_icmpge h rfl (fun hc => ?_) (fun hc => ?_)
      · refine zi_vret h rfl ?_
        exact hP
      · omega
    | succ n ih =>
      intro i hi
      have ih := ih (i + 1) (by omega)
      refine zi_iload_n h rfl rfl ?_
      refine zn_bipush h 32 rfl rfl ?_
      first | refine zn_icmpge h rfl (by omega) (by omega) (fun hc => ?_) (fun hc => ?_) | refine zc_icmpge h rfl (fun hc => ?_) (fun hc => ?_)
      · omega
      · refine zi_aload_n h rfl rfl ?_
        refine zi_iload_n h rfl rfl ?_
        refine zk_V h [_] rfl (by first | rfl | assumption) rfl rfl (Nat.le_of_ble_eq_true rfl) (s_drop he (by omega) ?_)
        first | refine zn_iinc h 1 rfl rfl rfl ?_ | refine zi_iinc h rfl rfl ?_
        refine zi_goto h rfl ?_
        refine tw_mem (fun q j => ?_) (ih)
        try simp only [tw_up, tw_n0, tw_n1, tw_n2, false_and, and_false, true_and, and_true, false_or, or_false, if_true, if_false]
        (repeat' split) <;> first | rfl | omega | exact tw_cgf (by omega) (by omega)
  refine zn_iconst h 0 rfl rfl ?_
  refine zi_istore_n h rfl (Nat.le_of_ble_eq_true rfl) ?_
  refine tw_mem (fun q j => ?_) (loop 32 0 (by omega))
  try simp only [tw_up, tw_n0, tw_n1, tw_n2, false_and, and_false, true_and, and_true, false_or, or_false, if_true, if_false]
  (repeat' split) <;> first | rfl | omega | exact tw_cgf (by omega) (by omega)
set_option maxRecDepth 20000 in
theorem s_eput {fl : Bool} {d : Nat} {f : tw_S} {P : tw_S → Option tw_A → Prop} {q i : Nat} {v w x : Int32} (he : tx_isE q) (hi : i < 32) (hx : x = 0 ∨ x = 1) (hP : P (tw_up (tw_up (tw_up (tw_up f (q + 1) i 1) (q + 2) i x) (q + 3) i v) (q + 4) i w) none) : tS fl (d + 1) 12 [tw_R q, tw_I (nI i), tw_I v, tw_I w, tw_I x] f P := by
  obtain ⟨l0, l1, l2, l3, l4⟩ := tx_ent he
  refine tw_Sp_of rfl rfl (Nat.le_of_ble_eq_true rfl) (fun X h => ?_)
  refine zi_aload_n h rfl rfl ?_
  refine zg_ref h rfl (by first | rfl | assumption) (by decide) rfl rfl ?_
  refine zi_iload_n h rfl rfl ?_
  refine zn_iconst h 1 rfl rfl ?_
  refine zs_z h rfl (by first | rfl | assumption) rfl (by omega) (by decide) (by first | exact Or.inl rfl | exact Or.inr rfl | assumption) ?_
  refine zi_aload_n h rfl rfl ?_
  refine zg_ref h rfl (by first | rfl | assumption) (by decide) rfl rfl ?_
  refine zi_iload_n h rfl rfl ?_
  refine zi_iload h rfl rfl ?_
  refine zs_z h rfl (by first | rfl | assumption) rfl (by omega) (by decide) (by first | exact Or.inl rfl | exact Or.inr rfl | assumption) ?_
  show X 10 _ _ _ _
  refine zi_aload_n h rfl rfl ?_
  refine zg_ref h rfl (by first | rfl | assumption) (by decide) rfl rfl ?_
  refine zi_iload_n h rfl rfl ?_
  refine zi_iload_n h rfl rfl ?_
  refine zs_i h rfl (by first | rfl | assumption) rfl (by omega) (by decide) ?_
  refine zi_aload_n h rfl rfl ?_
  refine zg_ref h rfl (by first | rfl | assumption) (by decide) rfl rfl ?_
  refine zi_iload_n h rfl rfl ?_
  refine zi_iload_n h rfl rfl ?_
  refine zs_i h rfl (by first | rfl | assumption) rfl (by omega) (by decide) ?_
  show X 20 _ _ _ _
  refine zi_vret h rfl ?_
  exact hP
set_option maxRecDepth 20000 in
theorem s_putIfNewer {fl : Bool} {d : Nat} {f : tw_S} {P : tw_S → Option tw_A → Prop} {q i : Nat} {v w : Int32} (he : tx_isE q) (hi : i < 32) (h1 : (f (q + 1) i = 0 ∨ ¬ w ≤ f (q + 4) i) → P (tw_up (tw_up (tw_up (tw_up f (q + 1) i 1) (q + 2) i 0) (q + 3) i v) (q + 4) i w) none) (h2 : ¬ (f (q + 1) i = 0 ∨ ¬ w ≤ f (q + 4) i) → P f none) : tS fl (d + 2) 42 [tw_R q, tw_I (nI i), tw_I v, tw_I w] f P := by
  obtain ⟨l0, l1, l2, l3, l4⟩ := tx_ent he
  refine tw_Sp_of rfl rfl (Nat.le_of_ble_eq_true rfl) (fun X h => ?_)
  refine zi_aload_n h rfl rfl ?_
  refine zg_ref h rfl (by first | rfl | assumption) (by decide) rfl rfl ?_
  refine zi_iload_n h rfl rfl ?_
  refine za_z h rfl (by first | rfl | assumption) rfl (by omega) (by decide) ?_
  first | refine zb_ifeq h rfl (fun hc => ?_) (fun hc => ?_) | refine zc_ifeq h rfl (fun hc => ?_) (fun hc => ?_)
  · refine zi_aload_n h rfl rfl ?_
    refine zi_iload_n h rfl rfl ?_
    refine zi_iload_n h rfl rfl ?_
    refine zi_iload_n h rfl rfl ?_
    refine zn_iconst h 0 rfl rfl ?_
    refine zk_V h [_, _, _, _] rfl (by first | rfl | assumption) rfl rfl (Nat.le_of_ble_eq_true rfl) (s_eput he hi (Or.inl rfl) ?_)
    refine zi_vret h rfl ?_
    exact h1 (Or.inl hc)
  · have hc0 := hc
    refine zi_aload_n h rfl rfl ?_
    refine zg_ref h rfl (by first | rfl | assumption) (by decide) rfl rfl ?_
    refine zi_iload_n h rfl rfl ?_
    refine za_i h rfl (by first | rfl | assumption) rfl (by omega) (by decide) ?_
    refine zi_iload_n h rfl rfl ?_
    first | refine zn_icmpge h rfl (by omega) (by omega) (fun hc => ?_) (fun hc => ?_) | refine zc_icmpge h rfl (fun hc => ?_) (fun hc => ?_)
    · refine zi_vret h rfl ?_
      exact h2 (fun g => g.elim hc0 (fun u => u hc))
    · refine zi_aload_n h rfl rfl ?_
      refine zi_iload_n h rfl rfl ?_
      refine zi_iload_n h rfl rfl ?_
      refine zi_iload_n h rfl rfl ?_
      refine zn_iconst h 0 rfl rfl ?_
      refine zk_V h [_, _, _, _] rfl (by first | rfl | assumption) rfl rfl (Nat.le_of_ble_eq_true rfl) (s_eput he hi (Or.inl rfl) ?_)
      refine zi_vret h rfl ?_
      exact h1 (Or.inr hc)
set_option maxRecDepth 20000 in
theorem s_dropVersion {fl : Bool} {d : Nat} {f : tw_S} {P : tw_S → Option tw_A → Prop} {q i : Nat} {w : Int32} (he : tx_isE q) (hi : i < 32) (h1 : (¬ f (q + 1) i = 0 ∧ f (q + 4) i = w) → P (tw_up (tw_up f (q + 1) i 0) (q + 2) i 0) none) (h2 : ¬ (¬ f (q + 1) i = 0 ∧ f (q + 4) i = w) → P f none) : tS fl (d + 2) 43 [tw_R q, tw_I (nI i), tw_I w] f P := by
  obtain ⟨l0, l1, l2, l3, l4⟩ := tx_ent he
  refine tw_Sp_of rfl rfl (Nat.le_of_ble_eq_true rfl) (fun X h => ?_)
  refine zi_aload_n h rfl rfl ?_
  refine zg_ref h rfl (by first | rfl | assumption) (by decide) rfl rfl ?_
  refine zi_iload_n h rfl rfl ?_
  refine za_z h rfl (by first | rfl | assumption) rfl (by omega) (by decide) ?_
  first | refine zb_ifeq h rfl (fun hc => ?_) (fun hc => ?_) | refine zc_ifeq h rfl (fun hc => ?_) (fun hc => ?_)
  · refine zi_vret h rfl ?_
    exact h2 (fun g => g.1 hc)
  · have hc0 := hc
    refine zi_aload_n h rfl rfl ?_
    refine zg_ref h rfl (by first | rfl | assumption) (by decide) rfl rfl ?_
    refine zi_iload_n h rfl rfl ?_
    refine za_i h rfl (by first | rfl | assumption) rfl (by omega) (by decide) ?_
    refine zi_iload_n h rfl rfl ?_
    first | refine zn_icmpne h rfl (by omega) (by omega) (fun hc => ?_) (fun hc => ?_) | refine zc_icmpne h rfl (fun hc => ?_) (fun hc => ?_)
    · refine zi_vret h rfl ?_
      exact h2 (fun g => hc g.2)
    · refine zi_aload_n h rfl rfl ?_
      refine zi_iload_n h rfl rfl ?_
      refine zk_V h [_] rfl (by first | rfl | assumption) rfl rfl (Nat.le_of_ble_eq_true rfl) (s_drop he hi ?_)
      refine zi_vret h rfl ?_
      exact h1 ⟨hc0, hc⟩
set_option maxRecDepth 20000 in
theorem s_holdsOfVolume {fl : Bool} {d : Nat} {f : tw_S} {P : tw_S → Option tw_A → Prop} {q u : Nat} (he : tx_isE q) (hu : u < 2) (h1 : (∃ j, j < 16 ∧ ¬ f (q + 1) (u * 16 + j) = 0) → P f (some (tw_I 1))) (h2 : ¬ (∃ j, j < 16 ∧ ¬ f (q + 1) (u * 16 + j) = 0) → P f (some (tw_I 0))) : tS fl (d + 1) 44 [tw_R q, tw_I (nI u)] f P := by
  obtain ⟨l0, l1, l2, l3, l4⟩ := tx_ent he
  refine tw_Sp_of rfl rfl (Nat.le_of_ble_eq_true rfl) (fun X h => ?_)
  have loop : ∀ n i : Nat, i + n = 16 → (∀ j, j < i → f (q + 1) (u * 16 + j) = 0) → X 2 [some (tw_R q), some (tw_I (nI u)), some (tw_I (nI i))] [] tx_L0 f := by
    intro n
    induction n with
    | zero =>
      intro i hi hz
      obtain rfl : i = 16 := by omega
      refine zi_iload_n h rfl rfl ?_
      refine zn_bipush h 16 rfl rfl ?_
      first | refine zn_icmpge h rfl (by omega) (by omega) (fun hc => ?_) (fun hc => ?_) | refine zc_icmpge h rfl (fun hc => ?_) (fun hc => ?_)
      · refine zn_iconst h 0 rfl rfl ?_
        refine zi_zret h rfl (by first | exact Or.inl rfl | exact Or.inr rfl | exact tw_nz_01 _ | assumption) ?_
        exact h2 (fun ⟨j, g1, g2⟩ => g2 (hz j g1))
      · omega
    | succ n ih =>
      intro i hi hz
      refine zi_iload_n h rfl rfl ?_
      refine zn_bipush h 16 rfl rfl ?_
      first | refine zn_icmpge h rfl (by omega) (by omega) (fun hc => ?_) (fun hc => ?_) | refine zc_icmpge h rfl (fun hc => ?_) (fun hc => ?_)
      · omega
      · refine zi_aload_n h rfl rfl ?_
        refine zg_ref h rfl (by first | rfl | assumption) (by decide) rfl rfl ?_
        refine zi_iload_n h rfl rfl ?_
        refine zn_bipush h 16 rfl rfl ?_
        first | refine zn_imul h rfl ?_ | refine zi_imul h rfl ?_
        refine zi_iload_n h rfl rfl ?_
        first | refine zn_iadd h rfl ?_ | refine zi_iadd h rfl ?_
        refine za_z h rfl (by first | rfl | assumption) rfl (by omega) (by decide) ?_
        first | refine zb_ifeq h rfl (fun hc => ?_) (fun hc => ?_) | refine zc_ifeq h rfl (fun hc => ?_) (fun hc => ?_)
        · have ih := ih (i + 1) (by omega) (fun j hj => by
            by_cases hji : j = i
            · rw [hji]; exact hc
            · exact hz j (by omega))
          first | refine zn_iinc h 1 rfl rfl rfl ?_ | refine zi_iinc h rfl rfl ?_
          refine zi_goto h rfl ?_
          exact ih
        · refine zn_iconst h 1 rfl rfl ?_
          refine zi_zret h rfl (by first | exact Or.inl rfl | exact Or.inr rfl | exact tw_nz_01 _ | assumption) ?_
          exact h1 ⟨i, by omega, hc⟩
  refine zn_iconst h 0 rfl rfl ?_
  refine zi_istore_n h rfl (Nat.le_of_ble_eq_true rfl) ?_
  exact loop 16 0 (by omega) (fun j hj => by omega)
set_option maxRecDepth 20000 in
theorem s_dropVolume {fl : Bool} {d : Nat} {f : tw_S} {P : tw_S → Option tw_A → Prop} {q u : Nat} (he : tx_isE q) (hu : u < 2) (hP : P (fun c j => if (c = q + 1 ∨ c = q + 2) ∧ u * 16 ≤ j ∧ j < u * 16 + 16 then 0 else f c j) none) : tS fl (d + 2) 45 [tw_R q, tw_I (nI u)] f P := by
  obtain ⟨l0, l1, l2, l3, l4⟩ := tx_ent he
  refine tw_Sp_of rfl rfl (Nat.le_of_ble_eq_true rfl) (fun X h => ?_)
  have loop : ∀ n i : Nat, i + n = 16 → X 2 [some (tw_R q), some (tw_I (nI u)), some (tw_I (nI i))] [] tx_L0 (fun c j => if (c = q + 1 ∨ c = q + 2) ∧ u * 16 ≤ j ∧ j < u * 16 + i then 0 else f c j) := by
    intro n
    induction n with
    | zero =>
      intro i hi
      obtain rfl : i = 16 := by omega
      refine zi_iload_n h rfl rfl ?_
      refine zn_bipush h 16 rfl rfl ?_
      first | refine zn_icmpge h rfl (by omega) (by omega) (fun hc => ?_) (fun hc => ?_) | refine zc_icmpge h rfl (fun hc => ?_) (fun hc => ?_)
      · refine zi_vret h rfl ?_
        exact hP
      · omega
    | succ n ih =>
      intro i hi
      have ih := ih (i + 1) (by omega)
      refine zi_iload_n h rfl rfl ?_
      refine zn_bipush h 16 rfl rfl ?_
      first | refine zn_icmpge h rfl (by omega) (by omega) (fun hc => ?_) (fun hc => ?_) | refine zc_icmpge h rfl (fun hc => ?_) (fun hc => ?_)
      · omega
      · refine zi_aload_n h rfl rfl ?_
        refine zi_iload_n h rfl rfl ?_
        refine zn_bipush h 16 rfl rfl ?_
        first | refine zn_imul h rfl ?_ | refine zi_imul h rfl ?_
        refine zi_iload_n h rfl rfl ?_
        first | refine zn_iadd h rfl ?_ | refine zi_iadd h rfl ?_
        refine zk_V h [_] rfl (by first | rfl | assumption) rfl rfl (Nat.le_of_ble_eq_true rfl) (s_drop he (by omega) ?_)
        first | refine zn_iinc h 1 rfl rfl rfl ?_ | refine zi_iinc h rfl rfl ?_
        refine zi_goto h rfl ?_
        refine tw_mem (fun q j => ?_) (ih)
        try simp only [tw_up, tw_n0, tw_n1, tw_n2, false_and, and_false, true_and, and_true, false_or, or_false, if_true, if_false]
        (repeat' split) <;> first | rfl | omega | exact tw_cgf (by omega) (by omega)
  refine zn_iconst h 0 rfl rfl ?_
  refine zi_istore_n h rfl (Nat.le_of_ble_eq_true rfl) ?_
  refine tw_mem (fun q j => ?_) (loop 16 0 (by omega))
  try simp only [tw_up, tw_n0, tw_n1, tw_n2, false_and, and_false, true_and, and_true, false_or, or_false, if_true, if_false]
  (repeat' split) <;> first | rfl | omega | exact tw_cgf (by omega) (by omega)
set_option maxRecDepth 20000 in
theorem s_countHeld {fl : Bool} {d : Nat} {f : tw_S} {P : tw_S → Option tw_A → Prop} {q : Nat} (he : tx_isE q) (hP : P f (some (tw_I (nI (p_cnt (f (q + 1)) 32))))) : tS fl (d + 1) 46 [tw_R q] f P := by
  obtain ⟨l0, l1, l2, l3, l4⟩ := tx_ent he
  refine tw_Sp_of rfl rfl (Nat.le_of_ble_eq_true rfl) (fun X h => ?_)
  have loop : ∀ n i : Nat, i + n = 32 → X 4 [some (tw_R q), some (tw_I (nI (p_cnt (f (q + 1)) i))), some (tw_I (nI i))] [] tx_L0 f := by
    intro n
    induction n with
    | zero =>
      intro i hi
      obtain rfl : i = 32 := by omega
      refine zi_iload_n h rfl rfl ?_
      refine zn_bipush h 32 rfl rfl ?_
      first | refine zn_icmpge h rfl (by omega) (by omega) (fun hc => ?_) (fun hc => ?_) | refine zc_icmpge h rfl (fun hc => ?_) (fun hc => ?_)
      · refine zi_iload_n h rfl rfl ?_
        refine zi_iret h rfl ?_
        exact hP
      · omega
    | succ n ih =>
      intro i hi
      have ih := ih (i + 1) (by omega)
      refine zi_iload_n h rfl rfl ?_
      refine zn_bipush h 32 rfl rfl ?_
      first | refine zn_icmpge h rfl (by omega) (by omega) (fun hc => ?_) (fun hc => ?_) | refine zc_icmpge h rfl (fun hc => ?_) (fun hc => ?_)
      · omega
      · refine zi_iload_n h rfl rfl ?_
        refine zi_aload_n h rfl rfl ?_
        refine zg_ref h rfl (by first | rfl | assumption) (by decide) rfl rfl ?_
        refine zi_iload_n h rfl rfl ?_
        refine za_z h rfl (by first | rfl | assumption) rfl (by omega) (by decide) ?_
        first | refine zb_ifeq h rfl (fun hc => ?_) (fun hc => ?_) | refine zc_ifeq h rfl (fun hc => ?_) (fun hc => ?_)
        · rw [show p_cnt (f (q + 1)) (i + 1) = p_cnt (f (q + 1)) i + 0 by simp [p_cnt, hc]] at ih
          refine zn_iconst h 0 rfl rfl ?_
          first | refine zn_iadd h rfl ?_ | refine zi_iadd h rfl ?_
          refine zi_istore_n h rfl (Nat.le_of_ble_eq_true rfl) ?_
          first | refine zn_iinc h 1 rfl rfl rfl ?_ | refine zi_iinc h rfl rfl ?_
          refine zi_goto h rfl ?_
          exact ih
        · rw [show p_cnt (f (q + 1)) (i + 1) = p_cnt (f (q + 1)) i + 1 by simp [p_cnt, hc]] at ih
          refine zn_iconst h 1 rfl rfl ?_
          refine zi_goto h rfl ?_
          first | refine zn_iadd h rfl ?_ | refine zi_iadd h rfl ?_
          refine zi_istore_n h rfl (Nat.le_of_ble_eq_true rfl) ?_
          first | refine zn_iinc h 1 rfl rfl rfl ?_ | refine zi_iinc h rfl rfl ?_
          refine zi_goto h rfl ?_
          exact ih
  refine zn_iconst h 0 rfl rfl ?_
  refine zi_istore_n h rfl (Nat.le_of_ble_eq_true rfl) ?_
  refine zn_iconst h 0 rfl rfl ?_
  refine zi_istore_n h rfl (Nat.le_of_ble_eq_true rfl) ?_
  exact loop 32 0 (by omega)
set_option maxRecDepth 20000 in
theorem s_countDirtyOfStripe {fl : Bool} {d : Nat} {f : tw_S} {P : tw_S → Option tw_A → Prop} {q s : Nat} (he : tx_isE q) (hs : s < 8) (hP : P f (some (tw_I (nI (p_cnt (fun j => f (q + 2) (s * 4 + j)) 4))))) : tS fl (d + 1) 14 [tw_R q, tw_I (nI s)] f P := by
  obtain ⟨l0, l1, l2, l3, l4⟩ := tx_ent he
  refine tw_Sp_of rfl rfl (Nat.le_of_ble_eq_true rfl) (fun X h => ?_)
  have loop : ∀ n i : Nat, i + n = 4 → X 4 [some (tw_R q), some (tw_I (nI s)), some (tw_I (nI (p_cnt (fun j => f (q + 2) (s * 4 + j)) i))), some (tw_I (nI i))] [] tx_L0 f := by
    intro n
    induction n with
    | zero =>
      intro i hi
      obtain rfl : i = 4 := by omega
      refine zi_iload_n h rfl rfl ?_
      refine zn_iconst h 4 rfl rfl ?_
      first | refine zn_icmpge h rfl (by omega) (by omega) (fun hc => ?_) (fun hc => ?_) | refine zc_icmpge h rfl (fun hc => ?_) (fun hc => ?_)
      · refine zi_iload_n h rfl rfl ?_
        refine zi_iret h rfl ?_
        exact hP
      · omega
    | succ n ih =>
      intro i hi
      have ih := ih (i + 1) (by omega)
      refine zi_iload_n h rfl rfl ?_
      refine zn_iconst h 4 rfl rfl ?_
      first | refine zn_icmpge h rfl (by omega) (by omega) (fun hc => ?_) (fun hc => ?_) | refine zc_icmpge h rfl (fun hc => ?_) (fun hc => ?_)
      · omega
      · refine zi_iload_n h rfl rfl ?_
        refine zi_aload_n h rfl rfl ?_
        refine zg_ref h rfl (by first | rfl | assumption) (by decide) rfl rfl ?_
        refine zi_iload_n h rfl rfl ?_
        refine zn_iconst h 4 rfl rfl ?_
        first | refine zn_imul h rfl ?_ | refine zi_imul h rfl ?_
        refine zi_iload_n h rfl rfl ?_
        first | refine zn_iadd h rfl ?_ | refine zi_iadd h rfl ?_
        refine za_z h rfl (by first | rfl | assumption) rfl (by omega) (by decide) ?_
        first | refine zb_ifeq h rfl (fun hc => ?_) (fun hc => ?_) | refine zc_ifeq h rfl (fun hc => ?_) (fun hc => ?_)
        · rw [show p_cnt (fun j => f (q + 2) (s * 4 + j)) (i + 1) = p_cnt (fun j => f (q + 2) (s * 4 + j)) i + 0 by simp [p_cnt, hc]] at ih
          refine zn_iconst h 0 rfl rfl ?_
          first | refine zn_iadd h rfl ?_ | refine zi_iadd h rfl ?_
          refine zi_istore_n h rfl (Nat.le_of_ble_eq_true rfl) ?_
          first | refine zn_iinc h 1 rfl rfl rfl ?_ | refine zi_iinc h rfl rfl ?_
          refine zi_goto h rfl ?_
          exact ih
        · rw [show p_cnt (fun j => f (q + 2) (s * 4 + j)) (i + 1) = p_cnt (fun j => f (q + 2) (s * 4 + j)) i + 1 by simp [p_cnt, hc]] at ih
          refine zn_iconst h 1 rfl rfl ?_
          refine zi_goto h rfl ?_
          first | refine zn_iadd h rfl ?_ | refine zi_iadd h rfl ?_
          refine zi_istore_n h rfl (Nat.le_of_ble_eq_true rfl) ?_
          first | refine zn_iinc h 1 rfl rfl rfl ?_ | refine zi_iinc h rfl rfl ?_
          refine zi_goto h rfl ?_
          exact ih
  refine zn_iconst h 0 rfl rfl ?_
  refine zi_istore_n h rfl (Nat.le_of_ble_eq_true rfl) ?_
  refine zn_iconst h 0 rfl rfl ?_
  refine zi_istore_n h rfl (Nat.le_of_ble_eq_true rfl) ?_
  exact loop 4 0 (by omega)
set_option maxRecDepth 20000 in
theorem s_countDirty {fl : Bool} {d : Nat} {f : tw_S} {P : tw_S → Option tw_A → Prop} {q : Nat} (he : tx_isE q) (hP : P f (some (tw_I (nI (p_cd (f (q + 2)) 8))))) : tS fl (d + 2) 15 [tw_R q] f P := by
  obtain ⟨l0, l1, l2, l3, l4⟩ := tx_ent he
  refine tw_Sp_of rfl rfl (Nat.le_of_ble_eq_true rfl) (fun X h => ?_)
  have loop : ∀ n i : Nat, i + n = 8 → X 4 [some (tw_R q), some (tw_I (nI (p_cd (f (q + 2)) i))), some (tw_I (nI i))] [] tx_L0 f := by
    intro n
    induction n with
    | zero =>
      intro i hi
      obtain rfl : i = 8 := by omega
      refine zi_iload_n h rfl rfl ?_
      refine zn_bipush h 8 rfl rfl ?_
      first | refine zn_icmpge h rfl (by omega) (by omega) (fun hc => ?_) (fun hc => ?_) | refine zc_icmpge h rfl (fun hc => ?_) (fun hc => ?_)
      · refine zi_iload_n h rfl rfl ?_
        refine zi_iret h rfl ?_
        exact hP
      · omega
    | succ n ih =>
      intro i hi
      have ih := ih (i + 1) (by omega)
      refine zi_iload_n h rfl rfl ?_
      refine zn_bipush h 8 rfl rfl ?_
      first | refine zn_icmpge h rfl (by omega) (by omega) (fun hc => ?_) (fun hc => ?_) | refine zc_icmpge h rfl (fun hc => ?_) (fun hc => ?_)
      · omega
      · refine zi_iload_n h rfl rfl ?_
        refine zi_aload_n h rfl rfl ?_
        refine zi_iload_n h rfl rfl ?_
        refine zk_V h [_] rfl (by first | rfl | assumption) rfl rfl (Nat.le_of_ble_eq_true rfl) (s_countDirtyOfStripe he (by omega) ?_)
        first | refine zn_iadd h rfl ?_ | refine zi_iadd h rfl ?_
        refine zi_istore_n h rfl (Nat.le_of_ble_eq_true rfl) ?_
        first | refine zn_iinc h 1 rfl rfl rfl ?_ | refine zi_iinc h rfl rfl ?_
        refine zi_goto h rfl ?_
        exact ih
  refine zn_iconst h 0 rfl rfl ?_
  refine zi_istore_n h rfl (Nat.le_of_ble_eq_true rfl) ?_
  refine zn_iconst h 0 rfl rfl ?_
  refine zi_istore_n h rfl (Nat.le_of_ble_eq_true rfl) ?_
  exact loop 8 0 (by omega)
set_option maxRecDepth 20000 in
theorem s_dirtiestStripe {fl : Bool} {d : Nat} {f : tw_S} {P : tw_S → Option tw_A → Prop} {q : Nat} (he : tx_isE q) (hP : P f (some (tw_I (nI (p_ds (f (q + 2)) 7))))) : tS fl (d + 2) 41 [tw_R q] f P := by
  obtain ⟨l0, l1, l2, l3, l4⟩ := tx_ent he
  refine tw_Sp_of rfl rfl (Nat.le_of_ble_eq_true rfl) (fun X h => ?_)
  have loop : ∀ n i : Nat, i + n = 7 → X 4 [some (tw_R q), some (tw_I (nI (p_ds (f (q + 2)) i))), some (tw_I (nI (i + 1)))] [] tx_L0 f := by
    intro n
    induction n with
    | zero =>
      intro i hi
      obtain rfl : i = 7 := by omega
      refine zi_iload_n h rfl rfl ?_
      refine zn_bipush h 8 rfl rfl ?_
      first | refine zn_icmpge h rfl (by omega) (by omega) (fun hc => ?_) (fun hc => ?_) | refine zc_icmpge h rfl (fun hc => ?_) (fun hc => ?_)
      · refine zi_iload_n h rfl rfl ?_
        refine zi_iret h rfl ?_
        exact hP
      · omega
    | succ n ih =>
      intro i hi
      have ih := ih (i + 1) (by omega)
      have hb := p_ds_le (f (q + 2)) i
      have hb1 := p_cnt_le (fun j => f (q + 2) (p_ds (f (q + 2)) i * 4 + j)) 4
      have hb2 := p_cnt_le (fun j => f (q + 2) ((i + 1) * 4 + j)) 4
      refine zi_iload_n h rfl rfl ?_
      refine zn_bipush h 8 rfl rfl ?_
      first | refine zn_icmpge h rfl (by omega) (by omega) (fun hc => ?_) (fun hc => ?_) | refine zc_icmpge h rfl (fun hc => ?_) (fun hc => ?_)
      · omega
      · refine zi_aload_n h rfl rfl ?_
        refine zi_iload_n h rfl rfl ?_
        refine zk_V h [_] rfl (by first | rfl | assumption) rfl rfl (Nat.le_of_ble_eq_true rfl) (s_countDirtyOfStripe he (by omega) ?_)
        refine zi_aload_n h rfl rfl ?_
        refine zi_iload_n h rfl rfl ?_
        refine zk_V h [_] rfl (by first | rfl | assumption) rfl rfl (Nat.le_of_ble_eq_true rfl) (s_countDirtyOfStripe he (by omega) ?_)
        first | refine zn_icmple h rfl (by omega) (by omega) (fun hc => ?_) (fun hc => ?_) | refine zc_icmple h rfl (fun hc => ?_) (fun hc => ?_)
        · rw [show p_ds (f (q + 2)) (i + 1) = p_ds (f (q + 2)) i from if_neg (by omega)] at ih
          first | refine zn_iinc h 1 rfl rfl rfl ?_ | refine zi_iinc h rfl rfl ?_
          refine zi_goto h rfl ?_
          exact ih
        · rw [show p_ds (f (q + 2)) (i + 1) = i + 1 from if_pos (by omega)] at ih
          refine zi_iload_n h rfl rfl ?_
          refine zi_istore_n h rfl (Nat.le_of_ble_eq_true rfl) ?_
          first | refine zn_iinc h 1 rfl rfl rfl ?_ | refine zi_iinc h rfl rfl ?_
          refine zi_goto h rfl ?_
          exact ih
  refine zn_iconst h 0 rfl rfl ?_
  refine zi_istore_n h rfl (Nat.le_of_ble_eq_true rfl) ?_
  refine zn_iconst h 1 rfl rfl ?_
  refine zi_istore_n h rfl (Nat.le_of_ble_eq_true rfl) ?_
  exact loop 7 0 (by omega)
set_option maxRecDepth 20000 in
theorem s_iadd_box {fl : Bool} {d : Nat} {f : tw_S} {P : tw_S → Option tw_A → Prop} {q a m : Nat} {k p v w t : Int32} (hq : q = 28 ∨ q = 50) (ha : f q 5 = nI a) (ha2 : a < 40) (hm : f q 6 = nI m) (hm2 : m ≤ 40) (h1 : m < 40 → P (tw_up (tw_up (tw_up (tw_up (tw_up (tw_up f (q + 1) ((a + m) % 40) k) (q + 2) ((a + m) % 40) p) (q + 3) ((a + m) % 40) v) (q + 4) ((a + m) % 40) w) (q + 5) ((a + m) % 40) t) q 6 (nI (m + 1))) none) (h2 : m = 40 → P f none) : tS fl (d + 1) 47 [tw_R q, tw_I k, tw_I p, tw_I v, tw_I w, tw_I t] f P := by
  obtain ⟨l0, l1, l2, l3, l4, l5⟩ := tx_inb hq
  refine tw_Sp_of rfl rfl (Nat.le_of_ble_eq_true rfl) (fun X h => ?_)
  refine zi_aload_n h rfl rfl ?_
  refine zg_nat h m rfl (by first | rfl | assumption) (by decide) rfl hm ?_
  refine zn_bipush h 40 rfl rfl ?_
  first | refine zn_icmpge h rfl (by omega) (by omega) (fun hc => ?_) (fun hc => ?_) | refine zc_icmpge h rfl (fun hc => ?_) (fun hc => ?_)
  · refine zi_vret h rfl ?_
    exact h2 (by omega)
  · refine zi_aload_n h rfl rfl ?_
    refine zg_nat h a rfl (by first | rfl | assumption) (by decide) rfl ha ?_
    refine zi_aload_n h rfl rfl ?_
    refine zg_nat h m rfl (by first | rfl | assumption) (by decide) rfl hm ?_
    first | refine zn_iadd h rfl ?_ | refine zi_iadd h rfl ?_
    refine zn_bipush h 40 rfl rfl ?_
    refine zn_irem h rfl (by omega) (by omega) (by omega) ?_
    refine zi_istore h rfl (Nat.le_of_ble_eq_true rfl) ?_
    refine zi_aload_n h rfl rfl ?_
    refine zg_ref h rfl (by first | rfl | assumption) (by decide) rfl rfl ?_
    refine zi_iload h rfl rfl ?_
    refine zi_iload_n h rfl rfl ?_
    refine zs_i h rfl (by first | rfl | assumption) rfl (by omega) (by decide) ?_
    refine zi_aload_n h rfl rfl ?_
    show X 18 _ _ _ _
    refine zg_ref h rfl (by first | rfl | assumption) (by decide) rfl rfl ?_
    refine zi_iload h rfl rfl ?_
    refine zi_iload_n h rfl rfl ?_
    refine zs_i h rfl (by first | rfl | assumption) rfl (by omega) (by decide) ?_
    refine zi_aload_n h rfl rfl ?_
    refine zg_ref h rfl (by first | rfl | assumption) (by decide) rfl rfl ?_
    refine zi_iload h rfl rfl ?_
    refine zi_iload_n h rfl rfl ?_
    refine zs_i h rfl (by first | rfl | assumption) rfl (by omega) (by decide) ?_
    refine zi_aload_n h rfl rfl ?_
    show X 28 _ _ _ _
    refine zg_ref h rfl (by first | rfl | assumption) (by decide) rfl rfl ?_
    refine zi_iload h rfl rfl ?_
    refine zi_iload h rfl rfl ?_
    refine zs_i h rfl (by first | rfl | assumption) rfl (by omega) (by decide) ?_
    refine zi_aload_n h rfl rfl ?_
    refine zg_ref h rfl (by first | rfl | assumption) (by decide) rfl rfl ?_
    refine zi_iload h rfl rfl ?_
    refine zi_iload h rfl rfl ?_
    refine zs_i h rfl (by first | rfl | assumption) rfl (by omega) (by decide) ?_
    refine zi_aload_n h rfl rfl ?_
    show X 38 _ _ _ _
    refine zi_dup h rfl rfl ?_
    refine zg_nat h m rfl (by first | rfl | assumption) (by decide) rfl (by simp [tw_up, hm]) ?_
    refine zn_iconst h 1 rfl rfl ?_
    first | refine zn_iadd h rfl ?_ | refine zi_iadd h rfl ?_
    refine zp_int h rfl (by first | rfl | assumption) (by decide) rfl ?_
    refine zi_vret h rfl ?_
    exact h1 hc
set_option maxRecDepth 20000 in
theorem s_takeFirst {fl : Bool} {d : Nat} {f : tw_S} {P : tw_S → Option tw_A → Prop} {q a m : Nat} (hq : q = 28 ∨ q = 50) (ha : f q 5 = nI a) (ha2 : a < 40) (hm : f q 6 = nI m) (hm2 : m ≤ 40) (hm3 : 1 ≤ m) (hP : P (tw_up (tw_up f q 5 (nI ((a + 1) % 40))) q 6 (nI (m - 1))) (some (tw_I (nI a)))) : tS fl (d + 1) 48 [tw_R q] f P := by
  obtain ⟨l0, l1, l2, l3, l4, l5⟩ := tx_inb hq
  refine tw_Sp_of rfl rfl (Nat.le_of_ble_eq_true rfl) (fun X h => ?_)
  refine zi_aload_n h rfl rfl ?_
  refine zg_nat h a rfl (by first | rfl | assumption) (by decide) rfl ha ?_
  refine zi_istore_n h rfl (Nat.le_of_ble_eq_true rfl) ?_
  refine zi_aload_n h rfl rfl ?_
  refine zi_aload_n h rfl rfl ?_
  refine zg_nat h a rfl (by first | rfl | assumption) (by decide) rfl ha ?_
  refine zn_iconst h 1 rfl rfl ?_
  first | refine zn_iadd h rfl ?_ | refine zi_iadd h rfl ?_
  refine zn_bipush h 40 rfl rfl ?_
  refine zn_irem h rfl (by omega) (by omega) (by omega) ?_
  refine zp_int h rfl (by first | rfl | assumption) (by decide) rfl ?_
  refine zi_aload_n h rfl rfl ?_
  refine zi_dup h rfl rfl ?_
  refine zg_nat h m rfl (by first | rfl | assumption) (by decide) rfl (by simp [tw_up, hm]) ?_
  refine zn_iconst h 1 rfl rfl ?_
  first | refine zn_isub h rfl (by omega) ?_ | refine zi_isub h rfl ?_
  refine zp_int h rfl (by first | rfl | assumption) (by decide) rfl ?_
  refine zi_iload_n h rfl rfl ?_
  refine zi_iret h rfl ?_
  exact hP
set_option maxRecDepth 20000 in
theorem s_empty {fl : Bool} {d : Nat} {f : tw_S} {P : tw_S → Option tw_A → Prop} {q : Nat} (hq : q = 28 ∨ q = 50) (hP : P (tw_up f q 6 0) none) : tS fl (d + 1) 17 [tw_R q] f P := by
  obtain ⟨l0, l1, l2, l3, l4, l5⟩ := tx_inb hq
  refine tw_Sp_of rfl rfl (Nat.le_of_ble_eq_true rfl) (fun X h => ?_)
  refine zi_aload_n h rfl rfl ?_
  refine zn_iconst h 0 rfl rfl ?_
  refine zp_int h rfl (by first | rfl | assumption) (by decide) rfl ?_
  refine zi_vret h rfl ?_
  exact hP
set_option maxRecDepth 20000 in
theorem s_xorOfData {fl : Bool} {d : Nat} {f : tw_S} {P : tw_S → Option tw_A → Prop} {q : Nat} (hq : q = 34 ∨ q = 56) (hP : P f (some (tw_I (p_x4 (f (q + 2)) 4)))) : tS fl (d + 1) 20 [tw_R q] f P := by
  obtain ⟨l0, l1, l2, l3⟩ := tx_des hq
  refine tw_Sp_of rfl rfl (Nat.le_of_ble_eq_true rfl) (fun X h => ?_)
  have loop : ∀ n i : Nat, i + n = 4 → X 4 [some (tw_R q), some (tw_I (p_x4 (f (q + 2)) i)), some (tw_I (nI i))] [] tx_L0 f := by
    intro n
    induction n with
    | zero =>
      intro i hi
      obtain rfl : i = 4 := by omega
      refine zi_iload_n h rfl rfl ?_
      refine zn_iconst h 4 rfl rfl ?_
      first | refine zn_icmpge h rfl (by omega) (by omega) (fun hc => ?_) (fun hc => ?_) | refine zc_icmpge h rfl (fun hc => ?_) (fun hc => ?_)
      · refine zi_iload_n h rfl rfl ?_
        refine zi_iret h rfl ?_
        exact hP
      · omega
    | succ n ih =>
      intro i hi
      have ih := ih (i + 1) (by omega)
      refine zi_iload_n h rfl rfl ?_
      refine zn_iconst h 4 rfl rfl ?_
      first | refine zn_icmpge h rfl (by omega) (by omega) (fun hc => ?_) (fun hc => ?_) | refine zc_icmpge h rfl (fun hc => ?_) (fun hc => ?_)
      · omega
      · refine zi_iload_n h rfl rfl ?_
        refine zi_aload_n h rfl rfl ?_
        refine zg_ref h rfl (by first | rfl | assumption) (by decide) rfl rfl ?_
        refine zi_iload_n h rfl rfl ?_
        refine za_i h rfl (by first | rfl | assumption) rfl (by omega) (by decide) ?_
        refine zi_ixor h rfl ?_
        refine zi_istore_n h rfl (Nat.le_of_ble_eq_true rfl) ?_
        first | refine zn_iinc h 1 rfl rfl rfl ?_ | refine zi_iinc h rfl rfl ?_
        refine zi_goto h rfl ?_
        exact ih
  refine zn_iconst h 0 rfl rfl ?_
  refine zi_istore_n h rfl (Nat.le_of_ble_eq_true rfl) ?_
  refine zn_iconst h 0 rfl rfl ?_
  refine zi_istore_n h rfl (Nat.le_of_ble_eq_true rfl) ?_
  exact loop 4 0 (by omega)
set_option maxRecDepth 20000 in
theorem s_dbegin {fl : Bool} {d : Nat} {f : tw_S} {P : tw_S → Option tw_A → Prop} {q : Nat} {v : Int32} (hq : q = 34 ∨ q = 56) (hP : P (fun c j => if (c = q + 1 ∨ c = q + 2) ∧ j < 4 then 0 else if c = q ∧ j = 3 then v else if c = q ∧ (j = 4 ∨ j = 5 ∨ j = 6) then 0 else f c j) none) : tS fl (d + 1) 21 [tw_R q, tw_I v] f P := by
  obtain ⟨l0, l1, l2, l3⟩ := tx_des hq
  refine tw_Sp_of rfl rfl (Nat.le_of_ble_eq_true rfl) (fun X h => ?_)
  have loop : ∀ n i : Nat, i + n = 4 → X 14 [some (tw_R q), some (tw_I v), some (tw_I (nI i))] [] tx_L0 (fun c j => if (c = q + 1 ∨ c = q + 2) ∧ j < i then 0 else if c = q ∧ j = 3 then v else if c = q ∧ (j = 4 ∨ j = 5 ∨ j = 6) then 0 else f c j) := by
    intro n
    induction n with
    | zero =>
      intro i hi
      obtain rfl : i = 4 := by omega
      refine zi_iload_n h rfl rfl ?_
      refine zn_iconst h 4 rfl rfl ?_
      first | refine zn_icmpge h rfl (by omega) (by omega) (fun hc => ?_) (fun hc => ?_) | refine zc_icmpge h rfl (fun hc => ?_) (fun hc => ?_)
      · refine zi_vret h rfl ?_
        exact hP
      · omega
    | succ n ih =>
      intro i hi
      have ih := ih (i + 1) (by omega)
      refine zi_iload_n h rfl rfl ?_
      refine zn_iconst h 4 rfl rfl ?_
      first | refine zn_icmpge h rfl (by omega) (by omega) (fun hc => ?_) (fun hc => ?_) | refine zc_icmpge h rfl (fun hc => ?_) (fun hc => ?_)
      · omega
      · refine zi_aload_n h rfl rfl ?_
        refine zg_ref h rfl (by first | rfl | assumption) (by decide) rfl rfl ?_
        refine zi_iload_n h rfl rfl ?_
        refine zn_iconst h 0 rfl rfl ?_
        refine zs_z h rfl (by first | rfl | assumption) rfl (by omega) (by decide) (by first | exact Or.inl rfl | exact Or.inr rfl | assumption) ?_
        refine zi_aload_n h rfl rfl ?_
        refine zg_ref h rfl (by first | rfl | assumption) (by decide) rfl rfl ?_
        refine zi_iload_n h rfl rfl ?_
        refine zn_iconst h 0 rfl rfl ?_
        refine zs_i h rfl (by first | rfl | assumption) rfl (by omega) (by decide) ?_
        show X 27 _ _ _ _
        first | refine zn_iinc h 1 rfl rfl rfl ?_ | refine zi_iinc h rfl rfl ?_
        refine zi_goto h rfl ?_
        refine tw_mem (fun q j => ?_) (ih)
        try simp only [tw_up, tw_n0, tw_n1, tw_n2, false_and, and_false, true_and, and_true, false_or, or_false, if_true, if_false]
        (repeat' split) <;> first | rfl | omega | exact tw_cgf (by omega) (by omega)
  refine zi_aload_n h rfl rfl ?_
  refine zi_iload_n h rfl rfl ?_
  refine zp_int h rfl (by first | rfl | assumption) (by decide) rfl ?_
  refine zi_aload_n h rfl rfl ?_
  refine zn_iconst h 0 rfl rfl ?_
  refine zp_int h rfl (by first | rfl | assumption) (by decide) rfl ?_
  refine zi_aload_n h rfl rfl ?_
  refine zn_iconst h 0 rfl rfl ?_
  refine zp_boo h rfl (by first | rfl | assumption) (by decide) rfl (by first | exact Or.inl rfl | exact Or.inr rfl | assumption) ?_
  refine zi_aload_n h rfl rfl ?_
  show X 10 _ _ _ _
  refine zn_iconst h 0 rfl rfl ?_
  refine zp_boo h rfl (by first | rfl | assumption) (by decide) rfl (by first | exact Or.inl rfl | exact Or.inr rfl | assumption) ?_
  refine zn_iconst h 0 rfl rfl ?_
  refine zi_istore_n h rfl (Nat.le_of_ble_eq_true rfl) ?_
  refine tw_mem (fun q j => ?_) (loop 4 0 (by omega))
  try simp only [tw_up, tw_n0, tw_n1, tw_n2, false_and, and_false, true_and, and_true, false_or, or_false, if_true, if_false]
  (repeat' split) <;> first | rfl | omega | exact tw_cgf (by omega) (by omega)
set_option maxRecDepth 20000 in
theorem s_takeDirty {fl : Bool} {d : Nat} {f : tw_S} {P : tw_S → Option tw_A → Prop} {q i : Nat} {v w : Int32} (hq : q = 34 ∨ q = 56) (hi : i < 4) (hP : P (tw_up (tw_up (tw_up f (q + 1) i 1) (q + 2) i v) (q + 3) i w) none) : tS fl (d + 1) 22 [tw_R q, tw_I (nI i), tw_I v, tw_I w] f P := by
  obtain ⟨l0, l1, l2, l3⟩ := tx_des hq
  refine tw_Sp_of rfl rfl (Nat.le_of_ble_eq_true rfl) (fun X h => ?_)
  refine zi_aload_n h rfl rfl ?_
  refine zg_ref h rfl (by first | rfl | assumption) (by decide) rfl rfl ?_
  refine zi_iload_n h rfl rfl ?_
  refine zn_iconst h 1 rfl rfl ?_
  refine zs_z h rfl (by first | rfl | assumption) rfl (by omega) (by decide) (by first | exact Or.inl rfl | exact Or.inr rfl | assumption) ?_
  refine zi_aload_n h rfl rfl ?_
  refine zg_ref h rfl (by first | rfl | assumption) (by decide) rfl rfl ?_
  refine zi_iload_n h rfl rfl ?_
  refine zi_iload_n h rfl rfl ?_
  refine zs_i h rfl (by first | rfl | assumption) rfl (by omega) (by decide) ?_
  show X 10 _ _ _ _
  refine zi_aload_n h rfl rfl ?_
  refine zg_ref h rfl (by first | rfl | assumption) (by decide) rfl rfl ?_
  refine zi_iload_n h rfl rfl ?_
  refine zi_iload_n h rfl rfl ?_
  refine zs_i h rfl (by first | rfl | assumption) rfl (by omega) (by decide) ?_
  refine zi_vret h rfl ?_
  exact hP
set_option maxRecDepth 20000 in
theorem s_wbegin {fl : Bool} {d : Nat} {f : tw_S} {P : tw_S → Option tw_A → Prop} {q : Nat} {a b v k : Int32} (hq : q = 38 ∨ q = 60) (hP : P (tw_up (tw_up (tw_up (tw_up (tw_up f q 0 1) q 1 a) q 2 b) q 3 v) q 4 k) none) : tS fl (d + 1) 23 [tw_R q, tw_I a, tw_I b, tw_I v, tw_I k] f P := by
  have l0 := tx_dwr hq
  refine tw_Sp_of rfl rfl (Nat.le_of_ble_eq_true rfl) (fun X h => ?_)
  refine zi_aload_n h rfl rfl ?_
  refine zn_iconst h 1 rfl rfl ?_
  refine zp_boo h rfl (by first | rfl | assumption) (by decide) rfl (by first | exact Or.inl rfl | exact Or.inr rfl | assumption) ?_
  refine zi_aload_n h rfl rfl ?_
  refine zi_iload_n h rfl rfl ?_
  refine zp_int h rfl (by first | rfl | assumption) (by decide) rfl ?_
  refine zi_aload_n h rfl rfl ?_
  refine zi_iload_n h rfl rfl ?_
  refine zp_int h rfl (by first | rfl | assumption) (by decide) rfl ?_
  refine zi_aload_n h rfl rfl ?_
  show X 10 _ _ _ _
  refine zi_iload_n h rfl rfl ?_
  refine zp_int h rfl (by first | rfl | assumption) (by decide) rfl ?_
  refine zi_aload_n h rfl rfl ?_
  refine zi_iload h rfl rfl ?_
  refine zp_int h rfl (by first | rfl | assumption) (by decide) rfl ?_
  refine zi_vret h rfl ?_
  exact hP
end
section
/-! The late writes (cell 12), the tickets (cell 6), a number in its range. -/
set_option maxRecDepth 20000 in
theorem s_isBlock {fl : Bool} {d : Nat} {f : tw_S} {P : tw_S → Option tw_A → Prop} {x : Int32} (h1 : ∀ j, j < 32 → x = nI j → P f (some (tw_I 1))) (h2 : x < 0 ∨ nI 32 ≤ x → P f (some (tw_I 0))) : tS fl (d + 1) 63 [tw_I x] f P := by
  refine tw_Sp_of rfl rfl (Nat.le_of_ble_eq_true rfl) (fun X h => ?_)
  refine zi_iload_n h rfl rfl ?_
  refine zc_iflt h rfl (fun hc => ?_) (fun hc => ?_)
  · refine zn_iconst h 0 rfl rfl ?_
    refine zi_zret h rfl (by first | exact Or.inl rfl | exact Or.inr rfl | exact tw_nz_01 _ | assumption) ?_
    exact h2 (Or.inl hc)
  · have hc0 := hc
    refine zi_iload_n h rfl rfl ?_
    refine zn_bipush h 32 rfl rfl ?_
    first | refine zn_icmpge h rfl (by omega) (by omega) (fun hc => ?_) (fun hc => ?_) | refine zc_icmpge h rfl (fun hc => ?_) (fun hc => ?_)
    · refine zn_iconst h 0 rfl rfl ?_
      refine zi_zret h rfl (by first | exact Or.inl rfl | exact Or.inr rfl | exact tw_nz_01 _ | assumption) ?_
      exact h2 (Or.inr hc)
    · refine zn_iconst h 1 rfl rfl ?_
      refine zi_goto h rfl ?_
      refine zi_zret h rfl (by first | exact Or.inl rfl | exact Or.inr rfl | exact tw_nz_01 _ | assumption) ?_
      obtain g | g | ⟨j, g1, g2⟩ := pk_ix x (n := 32) (by omega)
      · exact absurd g hc0
      · exact absurd g hc
      · exact h1 j g1 g2
set_option maxRecDepth 20000 in
theorem s_isVolume {fl : Bool} {d : Nat} {f : tw_S} {P : tw_S → Option tw_A → Prop} {x : Int32} (h1 : ∀ j, j < 2 → x = nI j → P f (some (tw_I 1))) (h2 : x < 0 ∨ nI 2 ≤ x → P f (some (tw_I 0))) : tS fl (d + 1) 93 [tw_I x] f P := by
  refine tw_Sp_of rfl rfl (Nat.le_of_ble_eq_true rfl) (fun X h => ?_)
  refine zi_iload_n h rfl rfl ?_
  refine zc_iflt h rfl (fun hc => ?_) (fun hc => ?_)
  · refine zn_iconst h 0 rfl rfl ?_
    refine zi_zret h rfl (by first | exact Or.inl rfl | exact Or.inr rfl | exact tw_nz_01 _ | assumption) ?_
    exact h2 (Or.inl hc)
  · have hc0 := hc
    refine zi_iload_n h rfl rfl ?_
    refine zn_iconst h 2 rfl rfl ?_
    first | refine zn_icmpge h rfl (by omega) (by omega) (fun hc => ?_) (fun hc => ?_) | refine zc_icmpge h rfl (fun hc => ?_) (fun hc => ?_)
    · refine zn_iconst h 0 rfl rfl ?_
      refine zi_zret h rfl (by first | exact Or.inl rfl | exact Or.inr rfl | exact tw_nz_01 _ | assumption) ?_
      exact h2 (Or.inr hc)
    · refine zn_iconst h 1 rfl rfl ?_
      refine zi_goto h rfl ?_
      refine zi_zret h rfl (by first | exact Or.inl rfl | exact Or.inr rfl | exact tw_nz_01 _ | assumption) ?_
      obtain g | g | ⟨j, g1, g2⟩ := pk_ix x (n := 2) (by omega)
      · exact absurd g hc0
      · exact absurd g hc
      · exact h1 j g1 g2
set_option maxRecDepth 20000 in
theorem s_isDisk {fl : Bool} {d : Nat} {f : tw_S} {P : tw_S → Option tw_A → Prop} {x : Int32} (h1 : ∀ j, j < 5 → x = nI j → P f (some (tw_I 1))) (h2 : x < 0 ∨ nI 5 ≤ x → P f (some (tw_I 0))) : tS fl (d + 1) 96 [tw_I x] f P := by
  refine tw_Sp_of rfl rfl (Nat.le_of_ble_eq_true rfl) (fun X h => ?_)
  refine zi_iload_n h rfl rfl ?_
  refine zc_iflt h rfl (fun hc => ?_) (fun hc => ?_)
  · refine zn_iconst h 0 rfl rfl ?_
    refine zi_zret h rfl (by first | exact Or.inl rfl | exact Or.inr rfl | exact tw_nz_01 _ | assumption) ?_
    exact h2 (Or.inl hc)
  · have hc0 := hc
    refine zi_iload_n h rfl rfl ?_
    refine zn_iconst h 5 rfl rfl ?_
    first | refine zn_icmpge h rfl (by omega) (by omega) (fun hc => ?_) (fun hc => ?_) | refine zc_icmpge h rfl (fun hc => ?_) (fun hc => ?_)
    · refine zn_iconst h 0 rfl rfl ?_
      refine zi_zret h rfl (by first | exact Or.inl rfl | exact Or.inr rfl | exact tw_nz_01 _ | assumption) ?_
      exact h2 (Or.inr hc)
    · refine zn_iconst h 1 rfl rfl ?_
      refine zi_goto h rfl ?_
      refine zi_zret h rfl (by first | exact Or.inl rfl | exact Or.inr rfl | exact tw_nz_01 _ | assumption) ?_
      obtain g | g | ⟨j, g1, g2⟩ := pk_ix x (n := 5) (by omega)
      · exact absurd g hc0
      · exact absurd g hc
      · exact h1 j g1 g2
set_option maxRecDepth 20000 in
theorem s_isStripe {fl : Bool} {d : Nat} {f : tw_S} {P : tw_S → Option tw_A → Prop} {x : Int32} (h1 : ∀ j, j < 8 → x = nI j → P f (some (tw_I 1))) (h2 : x < 0 ∨ nI 8 ≤ x → P f (some (tw_I 0))) : tS fl (d + 1) 102 [tw_I x] f P := by
  refine tw_Sp_of rfl rfl (Nat.le_of_ble_eq_true rfl) (fun X h => ?_)
  refine zi_iload_n h rfl rfl ?_
  refine zc_iflt h rfl (fun hc => ?_) (fun hc => ?_)
  · refine zn_iconst h 0 rfl rfl ?_
    refine zi_zret h rfl (by first | exact Or.inl rfl | exact Or.inr rfl | exact tw_nz_01 _ | assumption) ?_
    exact h2 (Or.inl hc)
  · have hc0 := hc
    refine zi_iload_n h rfl rfl ?_
    refine zn_bipush h 8 rfl rfl ?_
    first | refine zn_icmpge h rfl (by omega) (by omega) (fun hc => ?_) (fun hc => ?_) | refine zc_icmpge h rfl (fun hc => ?_) (fun hc => ?_)
    · refine zn_iconst h 0 rfl rfl ?_
      refine zi_zret h rfl (by first | exact Or.inl rfl | exact Or.inr rfl | exact tw_nz_01 _ | assumption) ?_
      exact h2 (Or.inr hc)
    · refine zn_iconst h 1 rfl rfl ?_
      refine zi_goto h rfl ?_
      refine zi_zret h rfl (by first | exact Or.inl rfl | exact Or.inr rfl | exact tw_nz_01 _ | assumption) ?_
      obtain g | g | ⟨j, g1, g2⟩ := pk_ix x (n := 8) (by omega)
      · exact absurd g hc0
      · exact absurd g hc
      · exact h1 j g1 g2
set_option maxRecDepth 20000 in
theorem s_isIn {fl : Bool} {d : Nat} {f : tw_S} {P : tw_S → Option tw_A → Prop} {x : Int32} {n : Nat} (h1 : p_bit x n → P f (some (tw_I 1))) (h2 : ¬ p_bit x n → P f (some (tw_I 0))) : tS fl (d + 1) 5 [tw_I x, tw_I (nI n)] f P := by
  refine tw_Sp_of rfl rfl (Nat.le_of_ble_eq_true rfl) (fun X h => ?_)
  refine zi_iload_n h rfl rfl ?_
  refine zi_iload_n h rfl rfl ?_
  refine zi_ishr h rfl ?_
  refine zn_iconst h 1 rfl rfl ?_
  refine zi_iand h rfl ?_
  refine zn_iconst h 1 rfl rfl ?_
  refine zc_icmpne h rfl (fun hc => ?_) (fun hc => ?_)
  · refine zn_iconst h 0 rfl rfl ?_
    refine zi_zret h rfl (by first | exact Or.inl rfl | exact Or.inr rfl | exact tw_nz_01 _ | assumption) ?_
    exact h2 hc
  · refine zn_iconst h 1 rfl rfl ?_
    refine zi_goto h rfl ?_
    refine zi_zret h rfl (by first | exact Or.inl rfl | exact Or.inr rfl | exact tw_nz_01 _ | assumption) ?_
    exact h1 hc
set_option maxRecDepth 20000 in
theorem s_lowestStripeIn {fl : Bool} {d : Nat} {f : tw_S} {P : tw_S → Option tw_A → Prop} {x : Int32} {g : Nat → Int32} (hg : ∀ s, s < 8 → (g s = 0 ↔ ¬ p_bit x s)) (h1 : p_ft g 8 0 < 8 → P f (some (tw_I (nI (p_ft g 8 0))))) (h2 : ¬ p_ft g 8 0 < 8 → P f (some (tw_I (-1)))) : tS fl (d + 2) 72 [tw_I x] f P := by
  refine tw_Sp_of rfl rfl (Nat.le_of_ble_eq_true rfl) (fun X h => ?_)
  have loop : ∀ m j : Nat, j + m = 8 → p_ft g m j = p_ft g 8 0 → X 2 [some (tw_I x), some (tw_I (nI j))] [] tx_L0 f := by
    intro m
    induction m with
    | zero =>
      intro j hj he
      obtain rfl : j = 8 := by omega
      have he : 8 = p_ft g 8 0 := he
      refine zi_iload_n h rfl rfl ?_
      refine zn_bipush h 8 rfl rfl ?_
      first | refine zn_icmpge h rfl (by omega) (by omega) (fun hc => ?_) (fun hc => ?_) | refine zc_icmpge h rfl (fun hc => ?_) (fun hc => ?_)
      · refine zi_iconst h rfl ?_
        refine zi_iret h rfl ?_
        exact h2 (by omega)
      · omega
    | succ m ih =>
      intro j hj he
      refine zi_iload_n h rfl rfl ?_
      refine zn_bipush h 8 rfl rfl ?_
      first | refine zn_icmpge h rfl (by omega) (by omega) (fun hc => ?_) (fun hc => ?_) | refine zc_icmpge h rfl (fun hc => ?_) (fun hc => ?_)
      · omega
      · refine zi_iload_n h rfl rfl ?_
        refine zi_iload_n h rfl rfl ?_
        refine zk_S h [_, _] rfl rfl rfl (Nat.le_of_ble_eq_true rfl) (s_isIn (fun hb => ?_) (fun hb => ?_))
        · have he : j = p_ft g 8 0 := by
            rw [← he]
            have hz : ¬ g j = 0 := fun z => (hg j (by omega)).mp z hb
            simp [p_ft, hz]
          first | refine zb_ifeq h rfl (fun hc => ?_) (fun hc => ?_) | refine zc_ifeq h rfl (fun hc => ?_) (fun hc => ?_)
          · exact absurd hc (by decide)
          · refine zi_iload_n h rfl rfl ?_
            refine zi_iret h rfl ?_
            have h1 := h1 (by omega)
            rw [← he] at h1
            exact h1
        · have ih := ih (j + 1) (by omega) (by
            rw [← he]
            have hz : g j = 0 := (hg j (by omega)).mpr hb
            simp [p_ft, hz])
          first | refine zb_ifeq h rfl (fun hc => ?_) (fun hc => ?_) | refine zc_ifeq h rfl (fun hc => ?_) (fun hc => ?_)
          · first | refine zn_iinc h 1 rfl rfl rfl ?_ | refine zi_iinc h rfl rfl ?_
            refine zi_goto h rfl ?_
            exact ih
          · exact absurd rfl hc
  refine zn_iconst h 0 rfl rfl ?_
  refine zi_istore_n h rfl (Nat.le_of_ble_eq_true rfl) ?_
  exact loop 8 0 (by omega) rfl
set_option maxRecDepth 20000 in
theorem s_ladd {fl : Bool} {d : Nat} {f : tw_S} {P : tw_S → Option tw_A → Prop} {q m : Nat} (hq : q = 38 ∨ q = 60) (hm : f 12 4 = nI m) (hm2 : m ≤ 20) (h1 : m < 20 → P (tw_up (tw_up (tw_up (tw_up (tw_up f 13 m (f q 1)) 14 m (f q 2)) 15 m (f q 3)) 16 m (f q 4)) 12 4 (nI (m + 1))) none) (h2 : m = 20 → P f none) : tS fl (d + 1) 50 [tw_R 12, tw_R q] f P := by
  have l0 := tx_dwr hq
  refine tw_Sp_of rfl rfl (Nat.le_of_ble_eq_true rfl) (fun X h => ?_)
  refine zi_aload_n h rfl rfl ?_
  refine zg_nat h m rfl (by first | rfl | assumption) (by decide) rfl hm ?_
  refine zn_bipush h 20 rfl rfl ?_
  first | refine zn_icmpge h rfl (by omega) (by omega) (fun hc => ?_) (fun hc => ?_) | refine zc_icmpge h rfl (fun hc => ?_) (fun hc => ?_)
  · refine zi_vret h rfl ?_
    exact h2 (by omega)
  · refine zi_aload_n h rfl rfl ?_
    refine zg_ref h rfl (by first | rfl | assumption) (by decide) rfl rfl ?_
    refine zi_aload_n h rfl rfl ?_
    refine zg_nat h m rfl (by first | rfl | assumption) (by decide) rfl hm ?_
    refine zi_aload_n h rfl rfl ?_
    refine zg_int h rfl (by first | rfl | assumption) (by decide) rfl ?_
    refine zs_i h rfl (by first | rfl | assumption) rfl (by omega) (by decide) ?_
    refine zi_aload_n h rfl rfl ?_
    refine zg_ref h rfl (by first | rfl | assumption) (by decide) rfl rfl ?_
    refine zi_aload_n h rfl rfl ?_
    refine zg_nat h m rfl (by first | rfl | assumption) (by decide) rfl (by simp [tw_up, hm]) ?_
    refine zi_aload_n h rfl rfl ?_
    refine zg_int h rfl (by first | rfl | assumption) (by decide) rfl ?_
    refine zs_i h rfl (by first | rfl | assumption) rfl (by omega) (by decide) ?_
    refine zi_aload_n h rfl rfl ?_
    refine zg_ref h rfl (by first | rfl | assumption) (by decide) rfl rfl ?_
    refine zi_aload_n h rfl rfl ?_
    refine zg_nat h m rfl (by first | rfl | assumption) (by decide) rfl (by simp [tw_up, hm]) ?_
    refine zi_aload_n h rfl rfl ?_
    refine zg_int h rfl (by first | rfl | assumption) (by decide) rfl ?_
    refine zs_i h rfl (by first | rfl | assumption) rfl (by omega) (by decide) ?_
    refine zi_aload_n h rfl rfl ?_
    refine zg_ref h rfl (by first | rfl | assumption) (by decide) rfl rfl ?_
    refine zi_aload_n h rfl rfl ?_
    refine zg_nat h m rfl (by first | rfl | assumption) (by decide) rfl (by simp [tw_up, hm]) ?_
    refine zi_aload_n h rfl rfl ?_
    refine zg_int h rfl (by first | rfl | assumption) (by decide) rfl ?_
    refine zs_i h rfl (by first | rfl | assumption) rfl (by omega) (by decide) ?_
    refine zi_aload_n h rfl rfl ?_
    refine zi_dup h rfl rfl ?_
    refine zg_nat h m rfl (by first | rfl | assumption) (by decide) rfl (by simp [tw_up, hm]) ?_
    refine zn_iconst h 1 rfl rfl ?_
    first | refine zn_iadd h rfl ?_ | refine zi_iadd h rfl ?_
    refine zp_int h rfl (by first | rfl | assumption) (by decide) rfl ?_
    refine zi_vret h rfl ?_
    rcases hq with rfl | rfl
    · refine tw_memP (fun q j => ?_) (h1 hc)
      try simp only [tw_up, tw_n0, tw_n1, tw_n2, false_and, and_false, true_and, and_true, false_or, or_false, if_true, if_false]
      (repeat' split) <;> first | rfl | omega | exact tw_cgf (by omega) (by omega)
    · refine tw_memP (fun q j => ?_) (h1 hc)
      try simp only [tw_up, tw_n0, tw_n1, tw_n2, false_and, and_false, true_and, and_true, false_or, or_false, if_true, if_false]
      (repeat' split) <;> first | rfl | omega | exact tw_cgf (by omega) (by omega)
set_option maxRecDepth 20000 in
theorem s_lhas {fl : Bool} {d : Nat} {f : tw_S} {P : tw_S → Option tw_A → Prop} {m : Nat} {x : Int32} (hm : f 12 4 = nI m) (hm2 : m ≤ 20) (h1 : ∀ j, j < m → x = nI j → P f (some (tw_I 1))) (h2 : x < 0 ∨ nI m ≤ x → P f (some (tw_I 0))) : tS fl (d + 1) 51 [tw_R 12, tw_I x] f P := by
  refine tw_Sp_of rfl rfl (Nat.le_of_ble_eq_true rfl) (fun X h => ?_)
  refine zi_iload_n h rfl rfl ?_
  refine zc_iflt h rfl (fun hc => ?_) (fun hc => ?_)
  · refine zn_iconst h 0 rfl rfl ?_
    refine zi_zret h rfl (by first | exact Or.inl rfl | exact Or.inr rfl | exact tw_nz_01 _ | assumption) ?_
    exact h2 (Or.inl hc)
  · have hc0 := hc
    refine zi_iload_n h rfl rfl ?_
    refine zi_aload_n h rfl rfl ?_
    refine zg_nat h m rfl (by first | rfl | assumption) (by decide) rfl hm ?_
    refine zc_icmpge h rfl (fun hc => ?_) (fun hc => ?_)
    · refine zn_iconst h 0 rfl rfl ?_
      refine zi_zret h rfl (by first | exact Or.inl rfl | exact Or.inr rfl | exact tw_nz_01 _ | assumption) ?_
      exact h2 (Or.inr hc)
    · refine zn_iconst h 1 rfl rfl ?_
      refine zi_goto h rfl ?_
      refine zi_zret h rfl (by first | exact Or.inl rfl | exact Or.inr rfl | exact tw_nz_01 _ | assumption) ?_
      obtain g | g | ⟨j, g1, g2⟩ := pk_ix x (n := m) (by omega)
      · exact absurd g hc0
      · exact absurd g hc
      · exact h1 j g1 g2
set_option maxRecDepth 20000 in
theorem s_lremove {fl : Bool} {d : Nat} {f : tw_S} {P : tw_S → Option tw_A → Prop} {k m : Nat} (hm : f 12 4 = nI m) (hm2 : m ≤ 20) (hk : k < m) (hP : P (fun c j => if 13 ≤ c ∧ c ≤ 16 ∧ k ≤ j ∧ j < m - 1 then f c (j + 1) else if c = 12 ∧ j = 4 then nI (m - 1) else f c j) none) : tS fl (d + 1) 52 [tw_R 12, tw_I (nI k)] f P := by
  refine tw_Sp_of rfl rfl (Nat.le_of_ble_eq_true rfl) (fun X h => ?_)
  have loop : ∀ n i : Nat, i + n = m - 1 → k ≤ i → X 8 [some (tw_R 12), some (tw_I (nI k)), some (tw_I (nI i))] [] tx_L0 (fun c j => if 13 ≤ c ∧ c ≤ 16 ∧ k ≤ j ∧ j < i then f c (j + 1) else if c = 12 ∧ j = 4 then nI (m - 1) else f c j) := by
    intro n
    induction n with
    | zero =>
      intro i hi hki
      obtain rfl : i = m - 1 := by omega
      refine zi_iload_n h rfl rfl ?_
      refine zi_aload_n h rfl rfl ?_
      refine zg_nat h (m-1) rfl (by first | rfl | assumption) (by decide) rfl (by simp) ?_
      first | refine zn_icmpge h rfl (by omega) (by omega) (fun hc => ?_) (fun hc => ?_) | refine zc_icmpge h rfl (fun hc => ?_) (fun hc => ?_)
      · refine zi_vret h rfl ?_
        exact hP
      · omega
    | succ n ih =>
      intro i hi hki
      have ih := ih (i + 1) (by omega) (by omega)
      refine zi_iload_n h rfl rfl ?_
      refine zi_aload_n h rfl rfl ?_
      refine zg_nat h (m-1) rfl (by first | rfl | assumption) (by decide) rfl (by simp) ?_
      first | refine zn_icmpge h rfl (by omega) (by omega) (fun hc => ?_) (fun hc => ?_) | refine zc_icmpge h rfl (fun hc => ?_) (fun hc => ?_)
      · omega
      · refine zi_aload_n h rfl rfl ?_
        refine zg_ref h rfl (by first | rfl | assumption) (by decide) rfl rfl ?_
        refine zi_iload_n h rfl rfl ?_
        refine zi_aload_n h rfl rfl ?_
        refine zg_ref h rfl (by first | rfl | assumption) (by decide) rfl rfl ?_
        refine zi_iload_n h rfl rfl ?_
        refine zn_iconst h 1 rfl rfl ?_
        first | refine zn_iadd h rfl ?_ | refine zi_iadd h rfl ?_
        refine za_i h rfl (by first | rfl | assumption) rfl (by omega) (by decide) ?_
        refine zs_i h rfl (by first | rfl | assumption) rfl (by omega) (by decide) ?_
        show X 22 _ _ _ _
        refine zi_aload_n h rfl rfl ?_
        refine zg_ref h rfl (by first | rfl | assumption) (by decide) rfl rfl ?_
        refine zi_iload_n h rfl rfl ?_
        refine zi_aload_n h rfl rfl ?_
        refine zg_ref h rfl (by first | rfl | assumption) (by decide) rfl rfl ?_
        refine zi_iload_n h rfl rfl ?_
        refine zn_iconst h 1 rfl rfl ?_
        first | refine zn_iadd h rfl ?_ | refine zi_iadd h rfl ?_
        refine za_i h rfl (by first | rfl | assumption) rfl (by omega) (by decide) ?_
        refine zs_i h rfl (by first | rfl | assumption) rfl (by omega) (by decide) ?_
        show X 32 _ _ _ _
        refine zi_aload_n h rfl rfl ?_
        refine zg_ref h rfl (by first | rfl | assumption) (by decide) rfl rfl ?_
        refine zi_iload_n h rfl rfl ?_
        refine zi_aload_n h rfl rfl ?_
        refine zg_ref h rfl (by first | rfl | assumption) (by decide) rfl rfl ?_
        refine zi_iload_n h rfl rfl ?_
        refine zn_iconst h 1 rfl rfl ?_
        first | refine zn_iadd h rfl ?_ | refine zi_iadd h rfl ?_
        refine za_i h rfl (by first | rfl | assumption) rfl (by omega) (by decide) ?_
        refine zs_i h rfl (by first | rfl | assumption) rfl (by omega) (by decide) ?_
        show X 42 _ _ _ _
        refine zi_aload_n h rfl rfl ?_
        refine zg_ref h rfl (by first | rfl | assumption) (by decide) rfl rfl ?_
        refine zi_iload_n h rfl rfl ?_
        refine zi_aload_n h rfl rfl ?_
        refine zg_ref h rfl (by first | rfl | assumption) (by decide) rfl rfl ?_
        refine zi_iload_n h rfl rfl ?_
        refine zn_iconst h 1 rfl rfl ?_
        first | refine zn_iadd h rfl ?_ | refine zi_iadd h rfl ?_
        refine za_i h rfl (by first | rfl | assumption) rfl (by omega) (by decide) ?_
        refine zs_i h rfl (by first | rfl | assumption) rfl (by omega) (by decide) ?_
        show X 52 _ _ _ _
        first | refine zn_iinc h 1 rfl rfl rfl ?_ | refine zi_iinc h rfl rfl ?_
        refine zi_goto h rfl ?_
        refine tw_mem (fun q j => ?_) (ih)
        try simp only [tw_up, tw_n0, tw_n1, tw_n2, false_and, and_false, true_and, and_true, false_or, or_false, if_true, if_false]
        (repeat' split) <;> first | rfl | omega | exact tw_cgf (by omega) (by omega)
  refine zi_aload_n h rfl rfl ?_
  refine zi_dup h rfl rfl ?_
  refine zg_nat h m rfl (by first | rfl | assumption) (by decide) rfl hm ?_
  refine zn_iconst h 1 rfl rfl ?_
  first | refine zn_isub h rfl (by omega) ?_ | refine zi_isub h rfl ?_
  refine zp_int h rfl (by first | rfl | assumption) (by decide) rfl ?_
  refine zi_iload_n h rfl rfl ?_
  refine zi_istore_n h rfl (Nat.le_of_ble_eq_true rfl) ?_
  refine tw_mem (fun q j => ?_) (loop (m - 1 - k) k (by omega) (by omega))
  try simp only [tw_up, tw_n0, tw_n1, tw_n2, false_and, and_false, true_and, and_true, false_or, or_false, if_true, if_false]
  (repeat' split) <;> first | rfl | omega | exact tw_cgf (by omega) (by omega)
set_option maxRecDepth 20000 in
theorem s_areFull {fl : Bool} {d : Nat} {f : tw_S} {P : tw_S → Option tw_A → Prop} {m : Nat} (hm : f 6 5 = nI m) (hm2 : m ≤ 200) (h1 : m = 200 → P f (some (tw_I 1))) (h2 : m < 200 → P f (some (tw_I 0))) : tS fl (d + 1) 54 [tw_R 6] f P := by
  refine tw_Sp_of rfl rfl (Nat.le_of_ble_eq_true rfl) (fun X h => ?_)
  refine zi_aload_n h rfl rfl ?_
  refine zg_nat h m rfl (by first | rfl | assumption) (by decide) rfl hm ?_
  refine zn_sipush h 200 rfl rfl ?_
  first | refine zn_icmplt h rfl (by omega) (by omega) (fun hc => ?_) (fun hc => ?_) | refine zc_icmplt h rfl (fun hc => ?_) (fun hc => ?_)
  · refine zn_iconst h 0 rfl rfl ?_
    refine zi_zret h rfl (by first | exact Or.inl rfl | exact Or.inr rfl | exact tw_nz_01 _ | assumption) ?_
    exact h2 hc
  · refine zn_iconst h 1 rfl rfl ?_
    refine zi_goto h rfl ?_
    refine zi_zret h rfl (by first | exact Or.inl rfl | exact Or.inr rfl | exact tw_nz_01 _ | assumption) ?_
    exact h1 (by omega)
set_option maxRecDepth 20000 in
theorem s_tadd {fl : Bool} {d : Nat} {f : tw_S} {P : tw_S → Option tw_A → Prop} {m : Nat} {s v : Int32} (hm : f 6 5 = nI m) (hm2 : m < 200) (hP : P (tw_up (tw_up (tw_up f 7 m s) 8 m v) 6 5 (nI (m + 1))) (some (tw_I (nI m)))) : tS fl (d + 1) 55 [tw_R 6, tw_I s, tw_I v] f P := by
  refine tw_Sp_of rfl rfl (Nat.le_of_ble_eq_true rfl) (fun X h => ?_)
  refine zi_aload_n h rfl rfl ?_
  refine zg_ref h rfl (by first | rfl | assumption) (by decide) rfl rfl ?_
  refine zi_aload_n h rfl rfl ?_
  refine zg_nat h m rfl (by first | rfl | assumption) (by decide) rfl hm ?_
  refine zi_iload_n h rfl rfl ?_
  refine zs_i h rfl (by first | rfl | assumption) rfl (by omega) (by decide) ?_
  refine zi_aload_n h rfl rfl ?_
  refine zg_ref h rfl (by first | rfl | assumption) (by decide) rfl rfl ?_
  refine zi_aload_n h rfl rfl ?_
  refine zg_nat h m rfl (by first | rfl | assumption) (by decide) rfl (by simp [tw_up, hm]) ?_
  refine zi_iload_n h rfl rfl ?_
  refine zs_i h rfl (by first | rfl | assumption) rfl (by omega) (by decide) ?_
  refine zi_aload_n h rfl rfl ?_
  refine zi_dup h rfl rfl ?_
  refine zg_nat h m rfl (by first | rfl | assumption) (by decide) rfl (by simp [tw_up, hm]) ?_
  refine zn_iconst h 1 rfl rfl ?_
  first | refine zn_iadd h rfl ?_ | refine zi_iadd h rfl ?_
  refine zp_int h rfl (by first | rfl | assumption) (by decide) rfl ?_
  refine zi_aload_n h rfl rfl ?_
  refine zg_nat h (m+1) rfl (by first | rfl | assumption) (by decide) rfl (by simp [tw_up]) ?_
  refine zn_iconst h 1 rfl rfl ?_
  first | refine zn_isub h rfl (by omega) ?_ | refine zi_isub h rfl ?_
  refine zi_iret h rfl ?_
  exact hP
set_option maxRecDepth 20000 in
theorem s_addOpenWrite {fl : Bool} {d : Nat} {f : tw_S} {P : tw_S → Option tw_A → Prop} {m : Nat} {a b c v : Int32} (hm : f 6 5 = nI m) (hm2 : m < 200) (hP : P (tw_up (tw_up (tw_up (tw_up (tw_up (tw_up f 7 m 0) 8 m v) 6 5 (nI (m + 1))) 9 m a) 10 m b) 11 m c) (some (tw_I (nI m)))) : tS fl (d + 2) 56 [tw_R 6, tw_I a, tw_I b, tw_I c, tw_I v] f P := by
  refine tw_Sp_of rfl rfl (Nat.le_of_ble_eq_true rfl) (fun X h => ?_)
  refine zi_aload_n h rfl rfl ?_
  refine zn_iconst h 0 rfl rfl ?_
  refine zi_iload h rfl rfl ?_
  refine zk_V h [_, _] rfl (by first | rfl | assumption) rfl rfl (Nat.le_of_ble_eq_true rfl) (s_tadd hm hm2 ?_)
  refine zi_istore h rfl (Nat.le_of_ble_eq_true rfl) ?_
  refine zi_aload_n h rfl rfl ?_
  refine zg_ref h rfl (by first | rfl | assumption) (by decide) rfl rfl ?_
  refine zi_iload h rfl rfl ?_
  refine zi_iload_n h rfl rfl ?_
  refine zs_i h rfl (by first | rfl | assumption) rfl (by omega) (by decide) ?_
  refine zi_aload_n h rfl rfl ?_
  refine zg_ref h rfl (by first | rfl | assumption) (by decide) rfl rfl ?_
  refine zi_iload h rfl rfl ?_
  refine zi_iload_n h rfl rfl ?_
  show X 14 _ _ _ _
  refine zs_i h rfl (by first | rfl | assumption) rfl (by omega) (by decide) ?_
  refine zi_aload_n h rfl rfl ?_
  refine zg_ref h rfl (by first | rfl | assumption) (by decide) rfl rfl ?_
  refine zi_iload h rfl rfl ?_
  refine zi_iload_n h rfl rfl ?_
  refine zs_i h rfl (by first | rfl | assumption) rfl (by omega) (by decide) ?_
  refine zi_iload h rfl rfl ?_
  refine zi_iret h rfl ?_
  exact hP
set_option maxRecDepth 20000 in
theorem s_refuseOpen {fl : Bool} {d : Nat} {f : tw_S} {P : tw_S → Option tw_A → Prop} {m : Nat} {x : Int32} (hm : f 6 5 = nI m) (hm2 : m ≤ 200) (hP : P (fun c j => if c = 7 ∧ j < m ∧ f 7 j = 0 ∧ f 9 j = x then 2 else f c j) none) : tS fl (d + 1) 57 [tw_R 6, tw_I x] f P := by
  refine tw_Sp_of rfl rfl (Nat.le_of_ble_eq_true rfl) (fun X h => ?_)
  have loop : ∀ n i : Nat, i + n = m → X 2 [some (tw_R 6), some (tw_I x), some (tw_I (nI i))] [] tx_L0 (fun c j => if c = 7 ∧ j < i ∧ f 7 j = 0 ∧ f 9 j = x then 2 else f c j) := by
    intro n
    induction n with
    | zero =>
      intro i hi
      obtain rfl : i = m := by omega
      refine zi_iload_n h rfl rfl ?_
      refine zi_aload_n h rfl rfl ?_
      refine zg_nat h i rfl (by first | rfl | assumption) (by decide) rfl hm ?_
      first | refine zn_icmpge h rfl (by omega) (by omega) (fun hc => ?_) (fun hc => ?_) | refine zc_icmpge h rfl (fun hc => ?_) (fun hc => ?_)
      · refine zi_vret h rfl ?_
        exact hP
      · omega
    | succ n ih =>
      intro i hi
      have ih := ih (i + 1) (by omega)
      refine zi_iload_n h rfl rfl ?_
      refine zi_aload_n h rfl rfl ?_
      refine zg_nat h m rfl (by first | rfl | assumption) (by decide) rfl hm ?_
      first | refine zn_icmpge h rfl (by omega) (by omega) (fun hc => ?_) (fun hc => ?_) | refine zc_icmpge h rfl (fun hc => ?_) (fun hc => ?_)
      · omega
      · refine zi_aload_n h rfl rfl ?_
        refine zg_ref h rfl (by first | rfl | assumption) (by decide) rfl rfl ?_
        refine zi_iload_n h rfl rfl ?_
        refine za_i h rfl (by first | rfl | assumption) rfl (by omega) (by decide) ?_
        refine zc_ifne h rfl (fun hc => ?_) (fun hc => ?_)
        · have h7 : ¬ f 7 i = 0 := by simpa using hc
          first | refine zn_iinc h 1 rfl rfl rfl ?_ | refine zi_iinc h rfl rfl ?_
          refine zi_goto h rfl ?_
          refine tw_mem (fun c j => ?_) ih
          by_cases hj : j = i
          · subst hj
            simp [h7]
          · have e1 : (j < i + 1) = (j < i) := by apply propext; omega
            simp only [e1]
        · have h7 : f 7 i = 0 := by simpa using hc
          refine zi_aload_n h rfl rfl ?_
          refine zg_ref h rfl (by first | rfl | assumption) (by decide) rfl rfl ?_
          refine zi_iload_n h rfl rfl ?_
          refine za_i h rfl (by first | rfl | assumption) rfl (by omega) (by decide) ?_
          refine zi_iload_n h rfl rfl ?_
          refine zc_icmpne h rfl (fun hc => ?_) (fun hc => ?_)
          · have h9 : ¬ f 9 i = x := by simpa using hc
            first | refine zn_iinc h 1 rfl rfl rfl ?_ | refine zi_iinc h rfl rfl ?_
            refine zi_goto h rfl ?_
            refine tw_mem (fun c j => ?_) ih
            by_cases hj : j = i
            · subst hj
              simp [h9]
            · have e1 : (j < i + 1) = (j < i) := by apply propext; omega
              simp only [e1]
          · have h9 : f 9 i = x := by simpa using hc
            refine zi_aload_n h rfl rfl ?_
            refine zg_ref h rfl (by first | rfl | assumption) (by decide) rfl rfl ?_
            refine zi_iload_n h rfl rfl ?_
            refine zn_iconst h 2 rfl rfl ?_
            refine zs_i h rfl (by first | rfl | assumption) rfl (by omega) (by decide) ?_
            first | refine zn_iinc h 1 rfl rfl rfl ?_ | refine zi_iinc h rfl rfl ?_
            refine zi_goto h rfl ?_
            refine tw_mem (fun c j => ?_) ih
            by_cases hj : j = i
            · subst hj
              simp [tw_up, h7, h9, tw_n2]
            · have e1 : (j < i + 1) = (j < i) := by apply propext; omega
              simp [tw_up, e1, hj]
  refine zn_iconst h 0 rfl rfl ?_
  refine zi_istore_n h rfl (Nat.le_of_ble_eq_true rfl) ?_
  refine tw_mem (fun q j => ?_) (loop m 0 (by omega))
  try simp only [tw_up, tw_n0, tw_n1, tw_n2, false_and, and_false, true_and, and_true, false_or, or_false, if_true, if_false]
  (repeat' split) <;> first | rfl | omega | exact tw_cgf (by omega) (by omega)
set_option maxRecDepth 20000 in
theorem s_thas {fl : Bool} {d : Nat} {f : tw_S} {P : tw_S → Option tw_A → Prop} {m : Nat} {x : Int32} (hm : f 6 5 = nI m) (hm2 : m ≤ 200) (h1 : ∀ j, j < m → x = nI j → P f (some (tw_I 1))) (h2 : x < 0 ∨ nI m ≤ x → P f (some (tw_I 0))) : tS fl (d + 1) 58 [tw_R 6, tw_I x] f P := by
  refine tw_Sp_of rfl rfl (Nat.le_of_ble_eq_true rfl) (fun X h => ?_)
  refine zi_iload_n h rfl rfl ?_
  refine zc_iflt h rfl (fun hc => ?_) (fun hc => ?_)
  · refine zn_iconst h 0 rfl rfl ?_
    refine zi_zret h rfl (by first | exact Or.inl rfl | exact Or.inr rfl | exact tw_nz_01 _ | assumption) ?_
    exact h2 (Or.inl hc)
  · have hc0 := hc
    refine zi_iload_n h rfl rfl ?_
    refine zi_aload_n h rfl rfl ?_
    refine zg_nat h m rfl (by first | rfl | assumption) (by decide) rfl hm ?_
    refine zc_icmpge h rfl (fun hc => ?_) (fun hc => ?_)
    · refine zn_iconst h 0 rfl rfl ?_
      refine zi_zret h rfl (by first | exact Or.inl rfl | exact Or.inr rfl | exact tw_nz_01 _ | assumption) ?_
      exact h2 (Or.inr hc)
    · refine zn_iconst h 1 rfl rfl ?_
      refine zi_goto h rfl ?_
      refine zi_zret h rfl (by first | exact Or.inl rfl | exact Or.inr rfl | exact tw_nz_01 _ | assumption) ?_
      obtain g | g | ⟨j, g1, g2⟩ := pk_ix x (n := m) (by omega)
      · exact absurd g hc0
      · exact absurd g hc
      · exact h1 j g1 g2
set_option maxRecDepth 20000 in
theorem s_finish {fl : Bool} {d : Nat} {f : tw_S} {P : tw_S → Option tw_A → Prop} {m : Nat} {x : Int32} (hm : f 6 5 = nI m) (hm2 : m ≤ 200) (h1 : ∀ j, j < m → x = nI j → f 7 j = 0 → P (tw_up f 7 j 1) none) (h2 : (∀ j, j < m → x = nI j → ¬ f 7 j = 0) → P f none) : tS fl (d + 2) 59 [tw_R 6, tw_I x] f P := by
  refine tw_Sp_of rfl rfl (Nat.le_of_ble_eq_true rfl) (fun X h => ?_)
  refine zi_aload_n h rfl rfl ?_
  refine zi_iload_n h rfl rfl ?_
  refine zk_V h [_] rfl (by first | rfl | assumption) rfl rfl (Nat.le_of_ble_eq_true rfl) (s_thas hm hm2 (fun j g1 g2 => ?_) (fun g => ?_))
  · subst g2
    first | refine zb_ifeq h rfl (fun hc => ?_) (fun hc => ?_) | refine zc_ifeq h rfl (fun hc => ?_) (fun hc => ?_)
    · exact absurd hc (by decide)
    · refine zi_aload_n h rfl rfl ?_
      refine zg_ref h rfl (by first | rfl | assumption) (by decide) rfl rfl ?_
      refine zi_iload_n h rfl rfl ?_
      refine za_i h rfl (by first | rfl | assumption) rfl (by omega) (by decide) ?_
      refine zc_ifne h rfl (fun hc => ?_) (fun hc => ?_)
      · refine zi_vret h rfl ?_
        refine h2 (fun i k1 k2 => ?_)
        have := (nI_eq (a := j) (b := i) (by omega) (by omega)).mp k2
        subst this
        exact hc
      · refine zi_aload_n h rfl rfl ?_
        refine zg_ref h rfl (by first | rfl | assumption) (by decide) rfl rfl ?_
        refine zi_iload_n h rfl rfl ?_
        refine zn_iconst h 1 rfl rfl ?_
        refine zs_i h rfl (by first | rfl | assumption) rfl (by omega) (by decide) ?_
        refine zi_vret h rfl ?_
        exact h1 j g1 rfl hc
  · first | refine zb_ifeq h rfl (fun hc => ?_) (fun hc => ?_) | refine zc_ifeq h rfl (fun hc => ?_) (fun hc => ?_)
    · refine zi_vret h rfl ?_
      refine h2 (fun i k1 k2 => ?_)
      subst k2
      rcases g with g | g
      · exact absurd g (nI_pos (by omega))
      · exact absurd ((nI_leI (by omega) (by omega)).mp g) (by omega)
    · exact absurd rfl hc
set_option maxRecDepth 20000 in
theorem s_finishWrites {fl : Bool} {d : Nat} {f : tw_S} {P : tw_S → Option tw_A → Prop} {m : Nat} {x y w : Int32} (hm : f 6 5 = nI m) (hm2 : m ≤ 200) (hP : P (fun c j => if c = 7 ∧ j < m ∧ f 9 j = x ∧ f 10 j = y ∧ ¬ w < f 11 j ∧ f 7 j = 0 then 1 else f c j) none) : tS fl (d + 3) 60 [tw_R 6, tw_I x, tw_I y, tw_I w] f P := by
  refine tw_Sp_of rfl rfl (Nat.le_of_ble_eq_true rfl) (fun X h => ?_)
  have loop : ∀ n i : Nat, i + n = m → X 2 [some (tw_R 6), some (tw_I x), some (tw_I y), some (tw_I w), some (tw_I (nI i))] [] tx_L0 (fun c j => if c = 7 ∧ j < i ∧ f 9 j = x ∧ f 10 j = y ∧ ¬ w < f 11 j ∧ f 7 j = 0 then 1 else f c j) := by
    intro n
    induction n with
    | zero =>
      intro i hi
      obtain rfl : i = m := by omega
      refine zi_iload h rfl rfl ?_
      refine zi_aload_n h rfl rfl ?_
      refine zg_nat h i rfl (by first | rfl | assumption) (by decide) rfl hm ?_
      first | refine zn_icmpge h rfl (by omega) (by omega) (fun hc => ?_) (fun hc => ?_) | refine zc_icmpge h rfl (fun hc => ?_) (fun hc => ?_)
      · refine zi_vret h rfl ?_
        exact hP
      · omega
    | succ n ih =>
      intro i hi
      have ih := ih (i + 1) (by omega)
      have skip : (¬ (f 9 i = x ∧ f 10 i = y ∧ ¬ w < f 11 i ∧ f 7 i = 0)) → X 2 [some (tw_R 6), some (tw_I x), some (tw_I y), some (tw_I w), some (tw_I (nI (i + 1)))] [] tx_L0 (fun c j => if c = 7 ∧ j < i ∧ f 9 j = x ∧ f 10 j = y ∧ ¬ w < f 11 j ∧ f 7 j = 0 then 1 else f c j) := by
        intro hn
        refine tw_mem (fun c j => ?_) ih
        by_cases hj : j = i
        · subst hj
          rw [if_neg (fun g => by omega), if_neg (fun g => hn g.2.2)]
        · have e1 : (j < i + 1) = (j < i) := by apply propext; omega
          simp only [e1]
      refine zi_iload h rfl rfl ?_
      refine zi_aload_n h rfl rfl ?_
      refine zg_nat h m rfl (by first | rfl | assumption) (by decide) rfl hm ?_
      first | refine zn_icmpge h rfl (by omega) (by omega) (fun hc => ?_) (fun hc => ?_) | refine zc_icmpge h rfl (fun hc => ?_) (fun hc => ?_)
      · omega
      · refine zi_aload_n h rfl rfl ?_
        refine zg_ref h rfl (by first | rfl | assumption) (by decide) rfl rfl ?_
        refine zi_iload h rfl rfl ?_
        refine za_i h rfl (by first | rfl | assumption) rfl (by omega) (by decide) ?_
        refine zi_iload_n h rfl rfl ?_
        refine zc_icmpne h rfl (fun hc => ?_) (fun hc => ?_)
        · have h9 : ¬ f 9 i = x := by simpa using hc
          first | refine zn_iinc h 1 rfl rfl rfl ?_ | refine zi_iinc h rfl rfl ?_
          refine zi_goto h rfl ?_
          exact skip (fun g => h9 g.1)
        · have h9 : f 9 i = x := by simpa using hc
          refine zi_aload_n h rfl rfl ?_
          refine zg_ref h rfl (by first | rfl | assumption) (by decide) rfl rfl ?_
          refine zi_iload h rfl rfl ?_
          refine za_i h rfl (by first | rfl | assumption) rfl (by omega) (by decide) ?_
          refine zi_iload_n h rfl rfl ?_
          refine zc_icmpne h rfl (fun hc => ?_) (fun hc => ?_)
          · have h10 : ¬ f 10 i = y := by simpa using hc
            first | refine zn_iinc h 1 rfl rfl rfl ?_ | refine zi_iinc h rfl rfl ?_
            refine zi_goto h rfl ?_
            exact skip (fun g => h10 g.2.1)
          · have h10 : f 10 i = y := by simpa using hc
            refine zi_aload_n h rfl rfl ?_
            refine zg_ref h rfl (by first | rfl | assumption) (by decide) rfl rfl ?_
            refine zi_iload h rfl rfl ?_
            refine za_i h rfl (by first | rfl | assumption) rfl (by omega) (by decide) ?_
            refine zi_iload_n h rfl rfl ?_
            refine zc_icmpgt h rfl (fun hc => ?_) (fun hc => ?_)
            · have h11 : w < f 11 i := by simpa using hc
              first | refine zn_iinc h 1 rfl rfl rfl ?_ | refine zi_iinc h rfl rfl ?_
              refine zi_goto h rfl ?_
              exact skip (fun g => g.2.2.1 h11)
            · have h11 : ¬ w < f 11 i := by simpa using hc
              refine zi_aload_n h rfl rfl ?_
              refine zi_iload h rfl rfl ?_
              refine zk_V h [_] rfl (by first | rfl | assumption) rfl rfl (Nat.le_of_ble_eq_true rfl) (s_finish hm hm2 (fun j g1 g2 g3 => ?_) (fun g => ?_))
              · have := (nI_eq (a := i) (b := j) (by omega) (by omega)).mp g2
                subst this
                have h7 : f 7 i = 0 := by simpa using g3
                first | refine zn_iinc h 1 rfl rfl rfl ?_ | refine zi_iinc h rfl rfl ?_
                refine zi_goto h rfl ?_
                refine tw_mem (fun c j => ?_) ih
                by_cases hj : j = i
                · subst hj
                  simp [tw_up, h7, h9, h10, h11]
                · have e1 : (j < i + 1) = (j < i) := by apply propext; omega
                  simp [tw_up, e1, hj]
              · have h7 : ¬ f 7 i = 0 := by simpa using g i (by omega) rfl
                first | refine zn_iinc h 1 rfl rfl rfl ?_ | refine zi_iinc h rfl rfl ?_
                refine zi_goto h rfl ?_
                exact skip (fun g => h7 g.2.2.2)
  refine zn_iconst h 0 rfl rfl ?_
  refine zi_istore h rfl (Nat.le_of_ble_eq_true rfl) ?_
  refine tw_mem (fun q j => ?_) (loop m 0 (by omega))
  try simp only [tw_up, tw_n0, tw_n1, tw_n2, false_and, and_false, true_and, and_true, false_or, or_false, if_true, if_false]
  (repeat' split) <;> first | rfl | omega | exact tw_cgf (by omega) (by omega)
end
section
/-! A controller: cell q (17 or 39). -/
set_option maxRecDepth 20000 in
theorem s_owns {fl : Bool} {d : Nat} {f : tw_S} {P : tw_S → Option tw_A → Prop} {q u : Nat} (hq : q = 17 ∨ q = 39) (h1 : p_bit (f q 11) u → P f (some (tw_I 1))) (h2 : ¬ p_bit (f q 11) u → P f (some (tw_I 0))) : tS fl (d + 2) 6 [tw_R q, tw_I (nI u)] f P := by
  have lc := tx_ctl hq
  obtain ⟨a0, a1, a2, a3, a4⟩ := tx_ent (tx_c1 hq)
  obtain ⟨m0, m1, m2, m3, m4⟩ := tx_ent (tx_c6 hq)
  obtain ⟨i0, i1, i2, i3, i4, i5⟩ := tx_inb (tx_c11 hq)
  obtain ⟨d0, d1, d2, d3⟩ := tx_des (tx_c17 hq)
  have w0 := tx_dwr (tx_c21 hq)
  refine tw_Sp_of rfl rfl (Nat.le_of_ble_eq_true rfl) (fun X h => ?_)
  refine zi_aload_n h rfl rfl ?_
  refine zg_int h rfl (by first | rfl | assumption) (by decide) rfl ?_
  refine zi_iload_n h rfl rfl ?_
  refine zk_S h [_, _] rfl rfl rfl (Nat.le_of_ble_eq_true rfl) (s_isIn (fun hb => ?_) (fun hb => ?_))
  · refine zi_zret h rfl (by first | exact Or.inl rfl | exact Or.inr rfl | exact tw_nz_01 _ | assumption) ?_
    exact h1 hb
  · refine zi_zret h rfl (by first | exact Or.inl rfl | exact Or.inr rfl | exact tw_nz_01 _ | assumption) ?_
    exact h2 hb
set_option maxRecDepth 20000 in
theorem s_serves {fl : Bool} {d : Nat} {f : tw_S} {P : tw_S → Option tw_A → Prop} {q k : Nat} (hq : q = 17 ∨ q = 39) (hk : k < 32) (h1 : (¬ f q 6 = 0 ∧ p_bit (f q 11) (k / 16)) → P f (some (tw_I 1))) (h2 : ¬ (¬ f q 6 = 0 ∧ p_bit (f q 11) (k / 16)) → P f (some (tw_I 0))) : tS fl (d + 3) 7 [tw_R q, tw_I (nI k)] f P := by
  have lc := tx_ctl hq
  obtain ⟨a0, a1, a2, a3, a4⟩ := tx_ent (tx_c1 hq)
  obtain ⟨m0, m1, m2, m3, m4⟩ := tx_ent (tx_c6 hq)
  obtain ⟨i0, i1, i2, i3, i4, i5⟩ := tx_inb (tx_c11 hq)
  obtain ⟨d0, d1, d2, d3⟩ := tx_des (tx_c17 hq)
  have w0 := tx_dwr (tx_c21 hq)
  refine tw_Sp_of rfl rfl (Nat.le_of_ble_eq_true rfl) (fun X h => ?_)
  refine zi_aload_n h rfl rfl ?_
  refine zg_boo h rfl (by first | rfl | assumption) (by decide) rfl ?_
  first | refine zb_ifeq h rfl (fun hc => ?_) (fun hc => ?_) | refine zc_ifeq h rfl (fun hc => ?_) (fun hc => ?_)
  · refine zn_iconst h 0 rfl rfl ?_
    refine zi_zret h rfl (by first | exact Or.inl rfl | exact Or.inr rfl | exact tw_nz_01 _ | assumption) ?_
    exact h2 (fun g => g.1 hc)
  · have hc0 := hc
    refine zi_aload_n h rfl rfl ?_
    refine zi_iload_n h rfl rfl ?_
    refine zn_bipush h 16 rfl rfl ?_
    refine zn_idiv h rfl (by omega) (by omega) (by omega) ?_
    refine zk_V h [_] rfl (by first | rfl | assumption) rfl rfl (Nat.le_of_ble_eq_true rfl) (s_owns hq (fun hb => ?_) (fun hb => ?_))
    · first | refine zb_ifeq h rfl (fun hc => ?_) (fun hc => ?_) | refine zc_ifeq h rfl (fun hc => ?_) (fun hc => ?_)
      · exact absurd hc (by decide)
      · refine zn_iconst h 1 rfl rfl ?_
        refine zi_goto h rfl ?_
        refine zi_zret h rfl (by first | exact Or.inl rfl | exact Or.inr rfl | exact tw_nz_01 _ | assumption) ?_
        exact h1 ⟨hc0, hb⟩
    · first | refine zb_ifeq h rfl (fun hc => ?_) (fun hc => ?_) | refine zc_ifeq h rfl (fun hc => ?_) (fun hc => ?_)
      · refine zn_iconst h 0 rfl rfl ?_
        refine zi_zret h rfl (by first | exact Or.inl rfl | exact Or.inr rfl | exact tw_nz_01 _ | assumption) ?_
        exact h2 (fun g => hb g.2)
      · exact absurd rfl hc
set_option maxRecDepth 20000 in
theorem s_newVersion {fl : Bool} {d : Nat} {f : tw_S} {P : tw_S → Option tw_A → Prop} {q : Nat} (hq : q = 17 ∨ q = 39) (hP : P (tw_up f q 16 (f q 16 + 1)) (some (tw_I (f q 16 + 1)))) : tS fl (d + 1) 8 [tw_R q] f P := by
  have lc := tx_ctl hq
  obtain ⟨a0, a1, a2, a3, a4⟩ := tx_ent (tx_c1 hq)
  obtain ⟨m0, m1, m2, m3, m4⟩ := tx_ent (tx_c6 hq)
  obtain ⟨i0, i1, i2, i3, i4, i5⟩ := tx_inb (tx_c11 hq)
  obtain ⟨d0, d1, d2, d3⟩ := tx_des (tx_c17 hq)
  have w0 := tx_dwr (tx_c21 hq)
  refine tw_Sp_of rfl rfl (Nat.le_of_ble_eq_true rfl) (fun X h => ?_)
  refine zi_aload_n h rfl rfl ?_
  refine zi_dup h rfl rfl ?_
  refine zg_int h rfl (by first | rfl | assumption) (by decide) rfl ?_
  refine zn_iconst h 1 rfl rfl ?_
  first | refine zn_iadd h rfl ?_ | refine zi_iadd h rfl ?_
  refine zp_int h rfl (by first | rfl | assumption) (by decide) rfl ?_
  refine zi_aload_n h rfl rfl ?_
  refine zg_int h rfl (by first | rfl | assumption) (by decide) rfl ?_
  refine zi_iret h rfl ?_
  simpa [tw_up, tw_n1] using hP
set_option maxRecDepth 20000 in
theorem s_forget {fl : Bool} {d : Nat} {f : tw_S} {P : tw_S → Option tw_A → Prop} {q : Nat} (hq : q = 17 ∨ q = 39) (hP : P (p_forget f q) none) : tS fl (d + 3) 11 [tw_R q] f P := by
  have lc := tx_ctl hq
  obtain ⟨a0, a1, a2, a3, a4⟩ := tx_ent (tx_c1 hq)
  obtain ⟨m0, m1, m2, m3, m4⟩ := tx_ent (tx_c6 hq)
  obtain ⟨i0, i1, i2, i3, i4, i5⟩ := tx_inb (tx_c11 hq)
  obtain ⟨d0, d1, d2, d3⟩ := tx_des (tx_c17 hq)
  have w0 := tx_dwr (tx_c21 hq)
  refine tw_Sp_of rfl rfl (Nat.le_of_ble_eq_true rfl) (fun X h => ?_)
  refine zi_aload_n h rfl rfl ?_
  refine zn_iconst h 0 rfl rfl ?_
  refine zp_boo h rfl (by first | rfl | assumption) (by decide) rfl (by first | exact Or.inl rfl | exact Or.inr rfl | assumption) ?_
  refine zi_aload_n h rfl rfl ?_
  refine zn_iconst h 0 rfl rfl ?_
  refine zp_boo h rfl (by first | rfl | assumption) (by decide) rfl (by first | exact Or.inl rfl | exact Or.inr rfl | assumption) ?_
  refine zi_aload_n h rfl rfl ?_
  refine zn_iconst h 0 rfl rfl ?_
  refine zp_boo h rfl (by first | rfl | assumption) (by decide) rfl (by first | exact Or.inl rfl | exact Or.inr rfl | assumption) ?_
  refine zi_aload_n h rfl rfl ?_
  show X 10 _ _ _ _
  refine zn_iconst h 0 rfl rfl ?_
  refine zp_boo h rfl (by first | rfl | assumption) (by decide) rfl (by first | exact Or.inl rfl | exact Or.inr rfl | assumption) ?_
  refine zi_aload_n h rfl rfl ?_
  refine zn_iconst h 0 rfl rfl ?_
  refine zp_int h rfl (by first | rfl | assumption) (by decide) rfl ?_
  refine zi_aload_n h rfl rfl ?_
  refine zn_iconst h 0 rfl rfl ?_
  refine zp_int h rfl (by first | rfl | assumption) (by decide) rfl ?_
  refine zi_aload_n h rfl rfl ?_
  refine zn_iconst h 0 rfl rfl ?_
  show X 20 _ _ _ _
  refine zp_int h rfl (by first | rfl | assumption) (by decide) rfl ?_
  refine zi_aload_n h rfl rfl ?_
  refine zn_iconst h 0 rfl rfl ?_
  refine zp_int h rfl (by first | rfl | assumption) (by decide) rfl ?_
  refine zi_aload_n h rfl rfl ?_
  refine zn_iconst h 0 rfl rfl ?_
  refine zp_int h rfl (by first | rfl | assumption) (by decide) rfl ?_
  refine zi_aload_n h rfl rfl ?_
  refine zn_iconst h 0 rfl rfl ?_
  refine zp_int h rfl (by first | rfl | assumption) (by decide) rfl ?_
  show X 30 _ _ _ _
  refine zi_aload_n h rfl rfl ?_
  refine zg_ref h rfl (by first | rfl | assumption) (by decide) rfl rfl ?_
  refine zk_V h [] rfl (by first | rfl | assumption) rfl rfl (Nat.le_of_ble_eq_true rfl) (s_dropAll (tx_c1 hq) ?_)
  refine zi_aload_n h rfl rfl ?_
  refine zg_ref h rfl (by first | rfl | assumption) (by decide) rfl rfl ?_
  refine zk_V h [] rfl (by first | rfl | assumption) rfl rfl (Nat.le_of_ble_eq_true rfl) (s_dropAll (tx_c6 hq) ?_)
  refine zi_aload_n h rfl rfl ?_
  refine zg_ref h rfl (by first | rfl | assumption) (by decide) rfl rfl ?_
  refine zi_iconst h rfl ?_
  refine zp_int h rfl (by first | rfl | assumption) (by decide) rfl ?_
  refine zi_aload_n h rfl rfl ?_
  refine zg_ref h rfl (by first | rfl | assumption) (by decide) rfl rfl ?_
  refine zn_iconst h 0 rfl rfl ?_
  refine zp_boo h rfl (by first | rfl | assumption) (by decide) rfl (by first | exact Or.inl rfl | exact Or.inr rfl | assumption) ?_
  refine zi_vret h rfl ?_
  exact hP
set_option maxRecDepth 20000 in
theorem s_isReadyToPair {fl : Bool} {d : Nat} {f : tw_S} {P : tw_S → Option tw_A → Prop} {q : Nat} (hq : q = 17 ∨ q = 39) (h1 : (¬ f q 6 = 0 ∧ f q 8 = 0 ∧ f (q + 17) 3 = -1 ∧ p_cd (f (q + 3)) 8 = 0 ∧ f q 12 = 0 ∧ f (q + 21) 0 = 0) → P f (some (tw_I 1))) (h2 : ¬ (¬ f q 6 = 0 ∧ f q 8 = 0 ∧ f (q + 17) 3 = -1 ∧ p_cd (f (q + 3)) 8 = 0 ∧ f q 12 = 0 ∧ f (q + 21) 0 = 0) → P f (some (tw_I 0))) : tS fl (d + 3) 16 [tw_R q] f P := by
  have lc := tx_ctl hq
  obtain ⟨a0, a1, a2, a3, a4⟩ := tx_ent (tx_c1 hq)
  obtain ⟨m0, m1, m2, m3, m4⟩ := tx_ent (tx_c6 hq)
  obtain ⟨i0, i1, i2, i3, i4, i5⟩ := tx_inb (tx_c11 hq)
  obtain ⟨d0, d1, d2, d3⟩ := tx_des (tx_c17 hq)
  have w0 := tx_dwr (tx_c21 hq)
  have hcd := p_cd_le (f (q + 3)) 8
  refine tw_Sp_of rfl rfl (Nat.le_of_ble_eq_true rfl) (fun X h => ?_)
  refine zi_aload_n h rfl rfl ?_
  refine zg_boo h rfl (by first | rfl | assumption) (by decide) rfl ?_
  first | refine zb_ifeq h rfl (fun hc => ?_) (fun hc => ?_) | refine zc_ifeq h rfl (fun hc => ?_) (fun hc => ?_)
  · refine zn_iconst h 0 rfl rfl ?_
    refine zi_zret h rfl (by first | exact Or.inl rfl | exact Or.inr rfl | exact tw_nz_01 _ | assumption) ?_
    exact h2 (fun g => g.1 hc)
  · have c1 := hc
    refine zi_aload_n h rfl rfl ?_
    refine zg_boo h rfl (by first | rfl | assumption) (by decide) rfl ?_
    first | refine zb_ifne h rfl (fun hc => ?_) (fun hc => ?_) | refine zc_ifne h rfl (fun hc => ?_) (fun hc => ?_)
    · refine zn_iconst h 0 rfl rfl ?_
      refine zi_zret h rfl (by first | exact Or.inl rfl | exact Or.inr rfl | exact tw_nz_01 _ | assumption) ?_
      exact h2 (fun g => hc g.2.1)
    · have c2 := hc
      refine zi_aload_n h rfl rfl ?_
      refine zg_ref h rfl (by first | rfl | assumption) (by decide) rfl rfl ?_
      refine zg_int h rfl (by first | rfl | assumption) (by decide) rfl ?_
      refine zi_iconst h rfl ?_
      refine zc_icmpne h rfl (fun hc => ?_) (fun hc => ?_)
      · refine zn_iconst h 0 rfl rfl ?_
        refine zi_zret h rfl (by first | exact Or.inl rfl | exact Or.inr rfl | exact tw_nz_01 _ | assumption) ?_
        exact h2 (fun g => hc g.2.2.1)
      · have c3 := hc
        refine zi_aload_n h rfl rfl ?_
        refine zg_ref h rfl (by first | rfl | assumption) (by decide) rfl rfl ?_
        refine zk_V h [] rfl (by first | rfl | assumption) rfl rfl (Nat.le_of_ble_eq_true rfl) (s_countDirty (tx_c1 hq) ?_)
        refine zc_ifne h rfl (fun hc => ?_) (fun hc => ?_)
        · refine zn_iconst h 0 rfl rfl ?_
          refine zi_zret h rfl (by first | exact Or.inl rfl | exact Or.inr rfl | exact tw_nz_01 _ | assumption) ?_
          exact h2 (fun g => hc ((nI_zero (n := p_cd (f (q + 3)) 8) (by omega)).mpr g.2.2.2.1))
        · have c4 := (nI_zero (n := p_cd (f (q + 3)) 8) (by omega)).mp hc
          refine zi_aload_n h rfl rfl ?_
          refine zg_int h rfl (by first | rfl | assumption) (by decide) rfl ?_
          refine zc_ifne h rfl (fun hc => ?_) (fun hc => ?_)
          · refine zn_iconst h 0 rfl rfl ?_
            refine zi_zret h rfl (by first | exact Or.inl rfl | exact Or.inr rfl | exact tw_nz_01 _ | assumption) ?_
            exact h2 (fun g => hc g.2.2.2.2.1)
          · have c5 := hc
            refine zi_aload_n h rfl rfl ?_
            refine zg_ref h rfl (by first | rfl | assumption) (by decide) rfl rfl ?_
            refine zg_boo h rfl (by first | rfl | assumption) (by decide) rfl ?_
            first | refine zb_ifne h rfl (fun hc => ?_) (fun hc => ?_) | refine zc_ifne h rfl (fun hc => ?_) (fun hc => ?_)
            · refine zn_iconst h 0 rfl rfl ?_
              refine zi_zret h rfl (by first | exact Or.inl rfl | exact Or.inr rfl | exact tw_nz_01 _ | assumption) ?_
              exact h2 (fun g => hc g.2.2.2.2.2)
            · refine zn_iconst h 1 rfl rfl ?_
              refine zi_goto h rfl ?_
              refine zi_zret h rfl (by first | exact Or.inl rfl | exact Or.inr rfl | exact tw_nz_01 _ | assumption) ?_
              exact h1 ⟨c1, c2, c3, c4, c5, hc⟩
set_option maxRecDepth 20000 in
theorem s_beginPaired {fl : Bool} {d : Nat} {f : tw_S} {P : tw_S → Option tw_A → Prop} {q : Nat} {x : Int32} (hq : q = 17 ∨ q = 39) (hP : P (p_begin f q x) none) : tS fl (d + 3) 18 [tw_R q, tw_I x] f P := by
  have lc := tx_ctl hq
  obtain ⟨a0, a1, a2, a3, a4⟩ := tx_ent (tx_c1 hq)
  obtain ⟨m0, m1, m2, m3, m4⟩ := tx_ent (tx_c6 hq)
  obtain ⟨i0, i1, i2, i3, i4, i5⟩ := tx_inb (tx_c11 hq)
  obtain ⟨d0, d1, d2, d3⟩ := tx_des (tx_c17 hq)
  have w0 := tx_dwr (tx_c21 hq)
  refine tw_Sp_of rfl rfl (Nat.le_of_ble_eq_true rfl) (fun X h => ?_)
  refine zi_aload_n h rfl rfl ?_
  refine zn_iconst h 1 rfl rfl ?_
  refine zp_boo h rfl (by first | rfl | assumption) (by decide) rfl (by first | exact Or.inl rfl | exact Or.inr rfl | assumption) ?_
  refine zi_aload_n h rfl rfl ?_
  refine zi_iload_n h rfl rfl ?_
  refine zp_int h rfl (by first | rfl | assumption) (by decide) rfl ?_
  refine zi_aload_n h rfl rfl ?_
  refine zg_ref h rfl (by first | rfl | assumption) (by decide) rfl rfl ?_
  refine zk_V h [] rfl (by first | rfl | assumption) rfl rfl (Nat.le_of_ble_eq_true rfl) (s_dropAll (tx_c1 hq) ?_)
  refine zi_aload_n h rfl rfl ?_
  refine zg_ref h rfl (by first | rfl | assumption) (by decide) rfl rfl ?_
  refine zk_V h [] rfl (by first | rfl | assumption) rfl rfl (Nat.le_of_ble_eq_true rfl) (s_dropAll (tx_c6 hq) ?_)
  refine zi_aload_n h rfl rfl ?_
  refine zg_ref h rfl (by first | rfl | assumption) (by decide) rfl rfl ?_
  refine zk_V h [] rfl (by first | rfl | assumption) rfl rfl (Nat.le_of_ble_eq_true rfl) (s_empty (tx_c11 hq) ?_)
  refine zi_aload_n h rfl rfl ?_
  refine zn_iconst h 0 rfl rfl ?_
  refine zp_int h rfl (by first | rfl | assumption) (by decide) rfl ?_
  refine zi_aload_n h rfl rfl ?_
  refine zn_iconst h 0 rfl rfl ?_
  refine zp_int h rfl (by first | rfl | assumption) (by decide) rfl ?_
  refine zi_vret h rfl ?_
  exact hP
set_option maxRecDepth 20000 in
theorem s_isBusyIn {fl : Bool} {d : Nat} {f : tw_S} {P : tw_S → Option tw_A → Prop} {q u : Nat} (hq : q = 17 ∨ q = 39) (hu : u < 2) (h1 : (∃ i, i < 4 ∧ (p_bit (f q 12) (u * 4 + i) ∨ f (q + 17) 3 = nI (u * 4 + i) ∨ 0 < p_cnt (fun j => f (q + 3) ((u * 4 + i) * 4 + j)) 4)) → P f (some (tw_I 1))) (h2 : ¬ (∃ i, i < 4 ∧ (p_bit (f q 12) (u * 4 + i) ∨ f (q + 17) 3 = nI (u * 4 + i) ∨ 0 < p_cnt (fun j => f (q + 3) ((u * 4 + i) * 4 + j)) 4)) → P f (some (tw_I 0))) : tS fl (d + 2) 19 [tw_R q, tw_I (nI u)] f P := by
  have lc := tx_ctl hq
  obtain ⟨a0, a1, a2, a3, a4⟩ := tx_ent (tx_c1 hq)
  obtain ⟨m0, m1, m2, m3, m4⟩ := tx_ent (tx_c6 hq)
  obtain ⟨i0, i1, i2, i3, i4, i5⟩ := tx_inb (tx_c11 hq)
  obtain ⟨d0, d1, d2, d3⟩ := tx_des (tx_c17 hq)
  have w0 := tx_dwr (tx_c21 hq)
  refine tw_Sp_of rfl rfl (Nat.le_of_ble_eq_true rfl) (fun X h => ?_)
  have loop : ∀ n i : Nat, i + n = 4 → (∀ j, j < i → ¬ (p_bit (f q 12) (u * 4 + j) ∨ f (q + 17) 3 = nI (u * 4 + j) ∨ 0 < p_cnt (fun k => f (q + 3) ((u * 4 + j) * 4 + k)) 4)) → ∀ o, X 2 [some (tw_R q), some (tw_I (nI u)), some (tw_I (nI i)), o] [] tx_L0 f := by
    intro n
    induction n with
    | zero =>
      intro i hi hz o
      obtain rfl : i = 4 := by omega
      refine zi_iload_n h rfl rfl ?_
      refine zn_iconst h 4 rfl rfl ?_
      first | refine zn_icmpge h rfl (by omega) (by omega) (fun hc => ?_) (fun hc => ?_) | refine zc_icmpge h rfl (fun hc => ?_) (fun hc => ?_)
      · refine zn_iconst h 0 rfl rfl ?_
        refine zi_zret h rfl (by first | exact Or.inl rfl | exact Or.inr rfl | exact tw_nz_01 _ | assumption) ?_
        exact h2 (fun ⟨j, g1, g2⟩ => hz j g1 g2)
      · omega
    | succ n ih =>
      intro i hi hz o
      have hcn := p_cnt_le (fun k => f (q + 3) ((u * 4 + i) * 4 + k)) 4
      refine zi_iload_n h rfl rfl ?_
      refine zn_iconst h 4 rfl rfl ?_
      first | refine zn_icmpge h rfl (by omega) (by omega) (fun hc => ?_) (fun hc => ?_) | refine zc_icmpge h rfl (fun hc => ?_) (fun hc => ?_)
      · omega
      · refine zi_iload_n h rfl rfl ?_
        refine zn_iconst h 4 rfl rfl ?_
        first | refine zn_imul h rfl ?_ | refine zi_imul h rfl ?_
        refine zi_iload_n h rfl rfl ?_
        first | refine zn_iadd h rfl ?_ | refine zi_iadd h rfl ?_
        refine zi_istore_n h rfl (Nat.le_of_ble_eq_true rfl) ?_
        refine zi_aload_n h rfl rfl ?_
        refine zg_int h rfl (by first | rfl | assumption) (by decide) rfl ?_
        refine zi_iload_n h rfl rfl ?_
        refine zk_S h [_, _] rfl rfl rfl (Nat.le_of_ble_eq_true rfl) (s_isIn (fun hb => ?_) (fun hb => ?_))
        · first | refine zb_ifne h rfl (fun hc => ?_) (fun hc => ?_) | refine zc_ifne h rfl (fun hc => ?_) (fun hc => ?_)
          · refine zn_iconst h 1 rfl rfl ?_
            refine zi_zret h rfl (by first | exact Or.inl rfl | exact Or.inr rfl | exact tw_nz_01 _ | assumption) ?_
            exact h1 ⟨i, by omega, Or.inl hb⟩
          · exact absurd hc (by decide)
        · first | refine zb_ifne h rfl (fun hc => ?_) (fun hc => ?_) | refine zc_ifne h rfl (fun hc => ?_) (fun hc => ?_)
          · exact absurd rfl hc
          · refine zi_aload_n h rfl rfl ?_
            refine zg_ref h rfl (by first | rfl | assumption) (by decide) rfl rfl ?_
            refine zg_int h rfl (by first | rfl | assumption) (by decide) rfl ?_
            refine zi_iload_n h rfl rfl ?_
            refine zc_icmpeq h rfl (fun hc => ?_) (fun hc => ?_)
            · refine zn_iconst h 1 rfl rfl ?_
              refine zi_zret h rfl (by first | exact Or.inl rfl | exact Or.inr rfl | exact tw_nz_01 _ | assumption) ?_
              exact h1 ⟨i, by omega, Or.inr (Or.inl hc)⟩
            · have c1 := hc
              refine zi_aload_n h rfl rfl ?_
              refine zg_ref h rfl (by first | rfl | assumption) (by decide) rfl rfl ?_
              refine zi_iload_n h rfl rfl ?_
              refine zk_V h [_] rfl (by first | rfl | assumption) rfl rfl (Nat.le_of_ble_eq_true rfl) (s_countDirtyOfStripe (tx_c1 hq) (by omega) ?_)
              refine zc_ifle h rfl (fun hc => ?_) (fun hc => ?_)
              · have c2 : p_cnt (fun k => f (q + 3) ((u * 4 + i) * 4 + k)) 4 ≤ 0 := (nI_leI (a := p_cnt (fun k => f (q + 3) ((u * 4 + i) * 4 + k)) 4) (b := 0) (by omega) (by omega)).mp hc
                have ih := ih (i + 1) (by omega) (fun j hj => by
                  by_cases hji : j = i
                  · subst hji
                    rintro (g | g | g)
                    · exact hb g
                    · exact c1 g
                    · omega
                  · exact hz j (by omega))
                first | refine zn_iinc h 1 rfl rfl rfl ?_ | refine zi_iinc h rfl rfl ?_
                refine zi_goto h rfl ?_
                exact ih _
              · have c2 : ¬ p_cnt (fun k => f (q + 3) ((u * 4 + i) * 4 + k)) 4 ≤ 0 := fun g => hc ((nI_leI (a := p_cnt (fun k => f (q + 3) ((u * 4 + i) * 4 + k)) 4) (b := 0) (by omega) (by omega)).mpr g)
                refine zn_iconst h 1 rfl rfl ?_
                refine zi_zret h rfl (by first | exact Or.inl rfl | exact Or.inr rfl | exact tw_nz_01 _ | assumption) ?_
                exact h1 ⟨i, by omega, Or.inr (Or.inr (by omega))⟩
  refine zn_iconst h 0 rfl rfl ?_
  refine zi_istore_n h rfl (Nat.le_of_ble_eq_true rfl) ?_
  exact loop 4 0 (by omega) (fun j hj => by omega) _
/-- the memory when the first i blocks of a mirror have been taken over -/
def p_tk (f : tw_S) (q g i : Nat) : tw_S := fun c x => if c = q ∧ x = 11 then 3 else if c = q ∧ x = 16 then nI (g + p_cnt (f (q + 7)) i) else if x < i ∧ ¬ f (q + 7) x = 0 ∧ (c = q + 2 ∨ c = q + 3) then 1 else if x < i ∧ ¬ f (q + 7) x = 0 ∧ c = q + 4 then f (q + 9) x else if x < i ∧ ¬ f (q + 7) x = 0 ∧ c = q + 5 then nI (g + p_cnt (f (q + 7)) (x + 1)) else if x < i ∧ ¬ f (q + 7) x = 0 ∧ (c = q + 7 ∨ c = q + 8) then 0 else f c x
set_option maxRecDepth 20000 in
theorem s_finishTakingOver {fl : Bool} {d : Nat} {f : tw_S} {P : tw_S → Option tw_A → Prop} {q g : Nat} (hq : q = 17 ∨ q = 39) (hg : f q 16 = nI g) (hP : P (fun c x => if c = q ∧ x = 12 then f q 12 ||| f q 13 else if c = q ∧ x = 14 then f q 14 ||| f q 13 else if c = q ∧ (x = 13 ∨ x = 8) then 0 else p_tk f q g 32 c x) none) : tS fl (d + 2) 13 [tw_R q] f P := by
  have lc := tx_ctl hq
  obtain ⟨a0, a1, a2, a3, a4⟩ := tx_ent (tx_c1 hq)
  obtain ⟨m0, m1, m2, m3, m4⟩ := tx_ent (tx_c6 hq)
  obtain ⟨i0, i1, i2, i3, i4, i5⟩ := tx_inb (tx_c11 hq)
  obtain ⟨d0, d1, d2, d3⟩ := tx_des (tx_c17 hq)
  have w0 := tx_dwr (tx_c21 hq)
  refine tw_Sp_of rfl rfl (Nat.le_of_ble_eq_true rfl) (fun X h => ?_)
  have loop : ∀ n i : Nat, i + n = 32 → X 5 [some (tw_R q), some (tw_I (nI i))] [] tx_L0 (p_tk f q g i) := by
    intro n
    induction n with
    | zero =>
      intro i hi
      obtain rfl : i = 32 := by omega
      refine zi_iload_n h rfl rfl ?_
      refine zn_bipush h 32 rfl rfl ?_
      first | refine zn_icmpge h rfl (by omega) (by omega) (fun hc => ?_) (fun hc => ?_) | refine zc_icmpge h rfl (fun hc => ?_) (fun hc => ?_)
      · refine zi_aload_n h rfl rfl ?_
        refine zi_dup h rfl rfl ?_
        refine zg_int h rfl (by first | rfl | assumption) (by decide) rfl ?_
        refine zi_aload_n h rfl rfl ?_
        refine zg_int h rfl (by first | rfl | assumption) (by decide) rfl ?_
        refine zi_ior h rfl ?_
        refine zp_int h rfl (by first | rfl | assumption) (by decide) rfl ?_
        refine zi_aload_n h rfl rfl ?_
        refine zi_dup h rfl rfl ?_
        refine zg_int h rfl (by first | rfl | assumption) (by decide) rfl ?_
        show X 42 _ _ _ _
        refine zi_aload_n h rfl rfl ?_
        refine zg_int h rfl (by first | rfl | assumption) (by decide) rfl ?_
        refine zi_ior h rfl ?_
        refine zp_int h rfl (by first | rfl | assumption) (by decide) rfl ?_
        refine zi_aload_n h rfl rfl ?_
        refine zn_iconst h 0 rfl rfl ?_
        refine zp_int h rfl (by first | rfl | assumption) (by decide) rfl ?_
        refine zi_aload_n h rfl rfl ?_
        refine zn_iconst h 0 rfl rfl ?_
        refine zp_boo h rfl (by first | rfl | assumption) (by decide) rfl (by first | exact Or.inl rfl | exact Or.inr rfl | assumption) ?_
        show X 52 _ _ _ _
        refine zi_vret h rfl ?_
        refine tw_memP (fun c x => ?_) hP
        have e1 : p_tk f q g 32 q 12 = f q 12 := by simp [p_tk]
        have e2 : p_tk f q g 32 q 13 = f q 13 := by simp [p_tk]
        have e3 : p_tk f q g 32 q 14 = f q 14 := by simp [p_tk]
        simp only [tw_up, e1, e2, e3]
        generalize p_tk f q g 32 c x = z
        (repeat' split) <;> first | rfl | omega
      · omega
    | succ n ih =>
      intro i hi
      have ih := ih (i + 1) (by omega)
      have e7 : p_tk f q g i (q + 7) i = f (q + 7) i := by simp [p_tk]
      have e9 : p_tk f q g i (q + 9) i = f (q + 9) i := by simp [p_tk]
      have e16 : p_tk f q g i q 16 = nI (g + p_cnt (f (q + 7)) i) := by simp [p_tk]
      refine zi_iload_n h rfl rfl ?_
      refine zn_bipush h 32 rfl rfl ?_
      first | refine zn_icmpge h rfl (by omega) (by omega) (fun hc => ?_) (fun hc => ?_) | refine zc_icmpge h rfl (fun hc => ?_) (fun hc => ?_)
      · omega
      · refine zi_aload_n h rfl rfl ?_
        refine zg_ref h rfl (by first | rfl | assumption) (by decide) rfl rfl ?_
        refine zg_ref h rfl (by first | rfl | assumption) (by decide) rfl rfl ?_
        refine zi_iload_n h rfl rfl ?_
        refine za_z h rfl (by first | rfl | assumption) rfl (by omega) (by decide) ?_
        first | refine zb_ifeq h rfl (fun hc => ?_) (fun hc => ?_) | refine zc_ifeq h rfl (fun hc => ?_) (fun hc => ?_)
        · rw [e7] at hc
          have ec : p_cnt (f (q + 7)) (i + 1) = p_cnt (f (q + 7)) i := by simp [p_cnt, hc]
          first | refine zn_iinc h 1 rfl rfl rfl ?_ | refine zi_iinc h rfl rfl ?_
          refine zi_goto h rfl ?_
          refine tw_mem (fun c x => ?_) ih
          unfold p_tk
          by_cases hx : x = i
          · subst hx
            simp [hc, ec]
          · have e1 : (x < i + 1) = (x < i) := by apply propext; omega
            simp only [e1, ec]
        · rw [e7] at hc
          have ec : p_cnt (f (q + 7)) (i + 1) = p_cnt (f (q + 7)) i + 1 := by simp [p_cnt, hc]
          refine zi_aload_n h rfl rfl ?_
          refine zg_ref h rfl (by first | rfl | assumption) (by decide) rfl rfl ?_
          refine zi_iload_n h rfl rfl ?_
          refine zi_aload_n h rfl rfl ?_
          refine zg_ref h rfl (by first | rfl | assumption) (by decide) rfl rfl ?_
          refine zg_ref h rfl (by first | rfl | assumption) (by decide) rfl rfl ?_
          refine zi_iload_n h rfl rfl ?_
          refine za_i h rfl (by first | rfl | assumption) rfl (by omega) (by decide) ?_
          refine zi_aload_n h rfl rfl ?_
          refine zk_V h [] rfl (by first | rfl | assumption) rfl rfl (Nat.le_of_ble_eq_true rfl) (s_newVersion hq ?_)
          refine zn_iconst h 1 rfl rfl ?_
          refine zk_V h [_, _, _, _] rfl (by first | rfl | assumption) rfl rfl (Nat.le_of_ble_eq_true rfl) (s_eput (tx_c1 hq) (by omega) (Or.inr rfl) ?_)
          refine zi_aload_n h rfl rfl ?_
          refine zg_ref h rfl (by first | rfl | assumption) (by decide) rfl rfl ?_
          refine zi_iload_n h rfl rfl ?_
          refine zk_V h [_] rfl (by first | rfl | assumption) rfl rfl (Nat.le_of_ble_eq_true rfl) (s_drop (tx_c6 hq) (by omega) ?_)
          first | refine zn_iinc h 1 rfl rfl rfl ?_ | refine zi_iinc h rfl rfl ?_
          refine zi_goto h rfl ?_
          have hval : p_tk f q g i q 16 + 1 = nI (g + p_cnt (f (q + 7)) (i + 1)) := by
            rw [e16, ec, nI_1]
            rfl
          refine tw_mem (fun c x => ?_) ih
          simp only [tw_up, hval, e9]
          have e1 : x ≠ i → ((x < i + 1) = (x < i)) := fun hx => by apply propext; omega
          rcases hq with rfl | rfl
          · by_cases hx : x = i
            · subst hx
              by_cases k0 : c = 17 ∨ c = 19 ∨ c = 20 ∨ c = 21 ∨ c = 22 ∨ c = 24 ∨ c = 25
              · rcases k0 with rfl | rfl | rfl | rfl | rfl | rfl | rfl <;> simp [p_tk, hc, tw_n1, tw_n0] <;> ((repeat' split) <;> first | rfl | omega)
              · simp only [not_or] at k0
                simp [p_tk, k0]
            · by_cases u : c = 17 ∧ x = 16
              · obtain ⟨rfl, rfl⟩ := u
                simp [p_tk, hx]
              · simp [p_tk, e1 hx, hx, u]
          · by_cases hx : x = i
            · subst hx
              by_cases k0 : c = 39 ∨ c = 41 ∨ c = 42 ∨ c = 43 ∨ c = 44 ∨ c = 46 ∨ c = 47
              · rcases k0 with rfl | rfl | rfl | rfl | rfl | rfl | rfl <;> simp [p_tk, hc, tw_n1, tw_n0] <;> ((repeat' split) <;> first | rfl | omega)
              · simp only [not_or] at k0
                simp [p_tk, k0]
            · by_cases u : c = 39 ∧ x = 16
              · obtain ⟨rfl, rfl⟩ := u
                simp [p_tk, hx]
              · simp [p_tk, e1 hx, hx, u]
  refine zi_aload_n h rfl rfl ?_
  refine zn_iconst h 3 rfl rfl ?_
  refine zp_int h rfl (by first | rfl | assumption) (by decide) rfl ?_
  refine zn_iconst h 0 rfl rfl ?_
  refine zi_istore_n h rfl (Nat.le_of_ble_eq_true rfl) ?_
  refine tw_mem (fun c x => ?_) (loop 32 0 (by omega))
  have e16 : f q 16 = nI (g + p_cnt (f (q + 7)) 0) := by simp [p_cnt, hg]
  unfold p_tk
  simp only [tw_up]
  (repeat' split) <;> first | rfl | omega | (rename_i u; obtain ⟨u1, u2⟩ := u; subst u1; subst u2; exact e16)
end
section
/-! TwinArray's own: who is who, messages, going down. -/
set_option maxRecDepth 20000 in
theorem s_numbered {fl : Bool} {d : Nat} {f : tw_S} {P : tw_S → Option tw_A → Prop} {c : Nat} (hc : c < 2) (hP : P f (some (tw_R (17 + 22 * c)))) : tS fl (d + 1) 64 [tw_R 0, tw_I (nI c)] f P := by
  refine tw_Sp_of rfl rfl (Nat.le_of_ble_eq_true rfl) (fun X h => ?_)
  rcases (show c = 0 ∨ c = 1 by omega) with rfl | rfl
  · refine zi_iload_n h rfl rfl ?_
    first | refine zb_ifne h rfl (fun hc => ?_) (fun hc => ?_) | refine zc_ifne h rfl (fun hc => ?_) (fun hc => ?_)
    · exact absurd rfl hc
    · refine zi_aload_n h rfl rfl ?_
      refine zg_ref h rfl (by first | rfl | assumption) (by decide) rfl rfl ?_
      refine zi_goto h rfl ?_
      refine zi_aret h rfl ?_
      exact hP
  · refine zi_iload_n h rfl rfl ?_
    first | refine zb_ifne h rfl (fun hc => ?_) (fun hc => ?_) | refine zc_ifne h rfl (fun hc => ?_) (fun hc => ?_)
    · refine zi_aload_n h rfl rfl ?_
      refine zg_ref h rfl (by first | rfl | assumption) (by decide) rfl rfl ?_
      refine zi_aret h rfl ?_
      exact hP
    · exact absurd hc (by decide)
set_option maxRecDepth 20000 in
theorem s_partnerOf {fl : Bool} {d : Nat} {f : tw_S} {P : tw_S → Option tw_A → Prop} {q : Nat} (hq : q = 17 ∨ q = 39) (hn : f q 0 = if q = 17 then 0 else 1) (hP : P f (some (tw_R (56 - q)))) : tS fl (d + 1) 65 [tw_R 0, tw_R q] f P := by
  have lc := tx_ctl hq
  refine tw_Sp_of rfl rfl (Nat.le_of_ble_eq_true rfl) (fun X h => ?_)
  refine zi_aload_n h rfl rfl ?_
  refine zg_int h rfl (by first | rfl | assumption) (by decide) rfl ?_
  rw [hn]
  rcases hq with rfl | rfl
  · refine zc_ifne h rfl (fun hc => ?_) (fun hc => ?_)
    · exact absurd rfl hc
    · refine zi_aload_n h rfl rfl ?_
      refine zg_ref h rfl (by first | rfl | assumption) (by decide) rfl rfl ?_
      refine zi_goto h rfl ?_
      refine zi_aret h rfl ?_
      exact hP
  · refine zc_ifne h rfl (fun hc => ?_) (fun hc => ?_)
    · refine zi_aload_n h rfl rfl ?_
      refine zg_ref h rfl (by first | rfl | assumption) (by decide) rfl rfl ?_
      refine zi_aret h rfl ?_
      exact hP
    · exact absurd hc (by decide)
set_option maxRecDepth 20000 in
theorem s_send {fl : Bool} {d : Nat} {f : tw_S} {P : tw_S → Option tw_A → Prop} {q : Nat} {k p v w t : Int32} (hq : q = 17 ∨ q = 39) (hb : p_box f q) (hP : P (p_send f q k p v w t) none) : tS fl (d + 2) 66 [tw_R 0, tw_R q, tw_I k, tw_I p, tw_I v, tw_I w, tw_I t] f P := by
  have lc := tx_ctl hq
  obtain ⟨a0, a1, a2, a3, a4⟩ := tx_ent (tx_c1 hq)
  obtain ⟨m0, m1, m2, m3, m4⟩ := tx_ent (tx_c6 hq)
  obtain ⟨i0, i1, i2, i3, i4, i5⟩ := tx_inb (tx_c11 hq)
  obtain ⟨d0, d1, d2, d3⟩ := tx_des (tx_c17 hq)
  have w0 := tx_dwr (tx_c21 hq)
  obtain ⟨a, m, ha, ha2, hm, hm2⟩ := hb
  have ea : (f (q + 11) 5).toNatClampNeg = a := by rw [ha]; exact nI_clamp (by omega)
  have em : (f (q + 11) 6).toNatClampNeg = m := by rw [hm]; exact nI_clamp (by omega)
  refine tw_Sp_of rfl rfl (Nat.le_of_ble_eq_true rfl) (fun X h => ?_)
  refine zi_aload_n h rfl rfl ?_
  refine zg_boo h rfl (by first | rfl | assumption) (by decide) rfl ?_
  first | refine zb_ifne h rfl (fun hc => ?_) (fun hc => ?_) | refine zc_ifne h rfl (fun hc => ?_) (fun hc => ?_)
  · refine zi_vret h rfl ?_
    rw [p_send, if_neg (fun g => hc g.1)] at hP
    exact hP
  · refine zi_aload_n h rfl rfl ?_
    refine zg_ref h rfl (by first | rfl | assumption) (by decide) rfl rfl ?_
    refine zi_iload_n h rfl rfl ?_
    refine zi_iload_n h rfl rfl ?_
    refine zi_iload h rfl rfl ?_
    refine zi_iload h rfl rfl ?_
    refine zi_iload h rfl rfl ?_
    refine zk_V h [_, _, _, _, _] rfl (by first | rfl | assumption) rfl rfl (Nat.le_of_ble_eq_true rfl) (s_iadd_box (tx_c11 hq) ha ha2 hm hm2 (fun g => ?_) (fun g => ?_))
    · refine zi_vret h rfl ?_
      rw [p_send, if_pos ⟨hc, by omega⟩, p_sl, ea, em, hm, nI_1] at hP
      exact hP
    · refine zi_vret h rfl ?_
      rw [p_send, if_neg (fun u => by omega)] at hP
      exact hP
set_option maxRecDepth 20000 in
theorem s_sendIfPaired {fl : Bool} {d : Nat} {f : tw_S} {P : tw_S → Option tw_A → Prop} {q : Nat} {k p w : Int32} (hq : q = 17 ∨ q = 39) (hn : f q 0 = if q = 17 then 0 else 1) (hb : p_box f (56 - q)) (hP : P (p_sip f q k p w) none) : tS fl (d + 3) 74 [tw_R 0, tw_R q, tw_I k, tw_I p, tw_I w] f P := by
  have lc := tx_ctl hq
  obtain ⟨a0, a1, a2, a3, a4⟩ := tx_ent (tx_c1 hq)
  obtain ⟨m0, m1, m2, m3, m4⟩ := tx_ent (tx_c6 hq)
  obtain ⟨i0, i1, i2, i3, i4, i5⟩ := tx_inb (tx_c11 hq)
  obtain ⟨d0, d1, d2, d3⟩ := tx_des (tx_c17 hq)
  have w0 := tx_dwr (tx_c21 hq)
  have hq2 : 56 - q = 17 ∨ 56 - q = 39 := by omega
  refine tw_Sp_of rfl rfl (Nat.le_of_ble_eq_true rfl) (fun X h => ?_)
  refine zi_aload_n h rfl rfl ?_
  refine zg_boo h rfl (by first | rfl | assumption) (by decide) rfl ?_
  first | refine zb_ifeq h rfl (fun hc => ?_) (fun hc => ?_) | refine zc_ifeq h rfl (fun hc => ?_) (fun hc => ?_)
  · refine zi_vret h rfl ?_
    rw [p_sip, if_pos hc] at hP
    exact hP
  · refine zi_aload_n h rfl rfl ?_
    refine zi_aload_n h rfl rfl ?_
    refine zi_aload_n h rfl rfl ?_
    refine zk_V h [_] rfl (by first | rfl | assumption) rfl rfl (Nat.le_of_ble_eq_true rfl) (s_partnerOf hq hn ?_)
    refine zi_iload_n h rfl rfl ?_
    refine zi_iload_n h rfl rfl ?_
    refine zn_iconst h 0 rfl rfl ?_
    refine zi_iload h rfl rfl ?_
    refine zi_iconst h rfl ?_
    refine zk_V h [_, _, _, _, _, _] rfl (by first | rfl | assumption) rfl rfl (Nat.le_of_ble_eq_true rfl) (s_send hq2 hb ?_)
    refine zi_vret h rfl ?_
    rw [p_sip, if_neg hc] at hP
    exact hP
set_option maxRecDepth 20000 in
theorem s_goDown {fl : Bool} {d : Nat} {f : tw_S} {P : tw_S → Option tw_A → Prop} {q lm tm : Nat} (hq : q = 17 ∨ q = 39) (hl : f 12 4 = nI lm) (hl2 : lm ≤ 20) (ht : f 6 5 = nI tm) (ht2 : tm ≤ 200) (hP : P (p_down f q) none) : tS fl (d + 4) 68 [tw_R 0, tw_R q] f P := by
  have lc := tx_ctl hq
  obtain ⟨a0, a1, a2, a3, a4⟩ := tx_ent (tx_c1 hq)
  obtain ⟨m0, m1, m2, m3, m4⟩ := tx_ent (tx_c6 hq)
  obtain ⟨i0, i1, i2, i3, i4, i5⟩ := tx_inb (tx_c11 hq)
  obtain ⟨d0, d1, d2, d3⟩ := tx_des (tx_c17 hq)
  have w0 := tx_dwr (tx_c21 hq)
  have el : (f 12 4).toNatClampNeg = lm := by rw [hl]; exact nI_clamp (by omega)
  refine tw_Sp_of rfl rfl (Nat.le_of_ble_eq_true rfl) (fun X h => ?_)
  refine zi_aload_n h rfl rfl ?_
  refine zg_ref h rfl (by first | rfl | assumption) (by decide) rfl rfl ?_
  refine zg_boo h rfl (by first | rfl | assumption) (by decide) rfl ?_
  first | refine zb_ifeq h rfl (fun hc => ?_) (fun hc => ?_) | refine zc_ifeq h rfl (fun hc => ?_) (fun hc => ?_)
  · rw [p_down_eq (g := f) (by rw [p_late, if_pos (Or.inl hc)]) ht ht2 rfl] at hP
    refine zi_aload_n h rfl rfl ?_
    refine zg_ref h rfl (by first | rfl | assumption) (by decide) rfl rfl ?_
    refine zi_aload_n h rfl rfl ?_
    refine zg_int h rfl (by first | rfl | assumption) (by decide) rfl ?_
    refine zk_V h [_] rfl (by first | rfl | assumption) rfl rfl (Nat.le_of_ble_eq_true rfl) (s_refuseOpen ht ht2 ?_)
    refine zi_aload_n h rfl rfl ?_
    refine zk_V h [] rfl (by first | rfl | assumption) rfl rfl (Nat.le_of_ble_eq_true rfl) (s_forget hq ?_)
    refine zi_vret h rfl ?_
    exact hP
  · refine zi_aload_n h rfl rfl ?_
    refine zg_ref h rfl (by first | rfl | assumption) (by decide) rfl rfl ?_
    refine zi_aload_n h rfl rfl ?_
    refine zg_ref h rfl (by first | rfl | assumption) (by decide) rfl rfl ?_
    refine zk_V h [_] rfl (by first | rfl | assumption) rfl rfl (Nat.le_of_ble_eq_true rfl) (s_ladd (tx_c21 hq) hl hl2 (fun g => ?_) (fun g => ?_))
    · rw [p_down_eq (g := tw_up (tw_up (tw_up (tw_up (tw_up f 13 lm (f (q + 21) 1)) 14 lm (f (q + 21) 2)) 15 lm (f (q + 21) 3)) 16 lm (f (q + 21) 4)) 12 4 (nI (lm + 1))) (by rw [p_late, if_neg (fun u => u.elim hc (fun u => u (by omega))), el, hl, nI_1]) (by rw [← ht]; simp [tw_up]) ht2 (by rcases hq with rfl | rfl <;> simp [tw_up])] at hP
      refine zi_aload_n h rfl rfl ?_
      refine zg_ref h rfl (by first | rfl | assumption) (by decide) rfl rfl ?_
      refine zi_aload_n h rfl rfl ?_
      refine zg_int h rfl (by first | rfl | assumption) (by decide) rfl ?_
      refine zk_V h [_] rfl (by first | rfl | assumption) rfl rfl (Nat.le_of_ble_eq_true rfl) (s_refuseOpen (by rw [← ht]; simp [tw_up]) ht2 ?_)
      refine zi_aload_n h rfl rfl ?_
      refine zk_V h [] rfl (by first | rfl | assumption) rfl rfl (Nat.le_of_ble_eq_true rfl) (s_forget hq ?_)
      refine zi_vret h rfl ?_
      exact hP
    · rw [p_down_eq (g := f) (by rw [p_late, if_pos (Or.inr (by omega))]) ht ht2 rfl] at hP
      refine zi_aload_n h rfl rfl ?_
      refine zg_ref h rfl (by first | rfl | assumption) (by decide) rfl rfl ?_
      refine zi_aload_n h rfl rfl ?_
      refine zg_int h rfl (by first | rfl | assumption) (by decide) rfl ?_
      refine zk_V h [_] rfl (by first | rfl | assumption) rfl rfl (Nat.le_of_ble_eq_true rfl) (s_refuseOpen ht ht2 ?_)
      refine zi_aload_n h rfl rfl ?_
      refine zk_V h [] rfl (by first | rfl | assumption) rfl rfl (Nat.le_of_ble_eq_true rfl) (s_forget hq ?_)
      refine zi_vret h rfl ?_
      exact hP
set_option maxRecDepth 20000 in
theorem s_land {fl : Bool} {d : Nat} {f : tw_S} {P : tw_S → Option tw_A → Prop} {q lm tm i s : Nat} (hq : q = 17 ∨ q = 39) (hl : f 12 4 = nI lm) (hl2 : lm ≤ 20) (ht : f 6 5 = nI tm) (ht2 : tm ≤ 200) (hi : f (q + 21) 1 = nI i) (hi2 : i < 5) (hs : f (q + 21) 2 = nI s) (hs2 : s < 8) (h1 : f 2 i = 0 → P (tw_up f (q + 21) 0 0) none) (h2 : ¬ f 2 i = 0 → f 3 i = f (q + 21) 4 → P (tw_up (tw_up (tw_up f (q + 21) 0 0) 4 (i * 8 + s) (f (q + 21) 3)) 5 (i * 8 + s) 0) none) (h3 : ¬ f 2 i = 0 → ¬ f 3 i = f (q + 21) 4 → P (p_down (tw_up f (q + 21) 0 0) q) none) : tS fl (d + 5) 70 [tw_R 0, tw_R q] f P := by
  have lc := tx_ctl hq
  obtain ⟨a0, a1, a2, a3, a4⟩ := tx_ent (tx_c1 hq)
  obtain ⟨m0, m1, m2, m3, m4⟩ := tx_ent (tx_c6 hq)
  obtain ⟨i0, i1, i2, i3, i4, i5⟩ := tx_inb (tx_c11 hq)
  obtain ⟨d0, d1, d2, d3⟩ := tx_des (tx_c17 hq)
  have w0 := tx_dwr (tx_c21 hq)
  have e2 : tw_up f (q + 21) 0 0 2 i = f 2 i := tw_off (by omega)
  have e3 : tw_up f (q + 21) 0 0 3 i = f 3 i := tw_off (by omega)
  have e4 : tw_up f (q + 21) 0 0 (q + 21) 4 = f (q + 21) 4 := tw_off (by omega)
  have e5 : tw_up f (q + 21) 0 0 (q + 21) 3 = f (q + 21) 3 := tw_off (by omega)
  refine tw_Sp_of rfl rfl (Nat.le_of_ble_eq_true rfl) (fun X h => ?_)
  refine zi_aload_n h rfl rfl ?_
  refine zg_ref h rfl (by first | rfl | assumption) (by decide) rfl rfl ?_
  refine zi_astore_n h rfl (Nat.le_of_ble_eq_true rfl) ?_
  refine zi_aload_n h rfl rfl ?_
  refine zn_iconst h 0 rfl rfl ?_
  refine zp_boo h rfl (by first | rfl | assumption) (by decide) rfl (by first | exact Or.inl rfl | exact Or.inr rfl | assumption) ?_
  refine zi_aload_n h rfl rfl ?_
  refine zg_ref h rfl (by first | rfl | assumption) (by decide) rfl rfl ?_
  refine zg_ref h rfl (by first | rfl | assumption) (by decide) rfl rfl ?_
  refine zi_aload_n h rfl rfl ?_
  refine zg_nat h i rfl (by first | rfl | assumption) (by decide) rfl (by rw [tw_off (by omega)]; exact hi) ?_
  refine za_z h rfl (by first | rfl | assumption) rfl (by omega) (by decide) ?_
  first | refine zb_ifne h rfl (fun hc => ?_) (fun hc => ?_) | refine zc_ifne h rfl (fun hc => ?_) (fun hc => ?_)
  · have c1 : ¬ f 2 i = 0 := fun g => hc (e2.trans g)
    refine zi_aload_n h rfl rfl ?_
    refine zg_ref h rfl (by first | rfl | assumption) (by decide) rfl rfl ?_
    refine zg_ref h rfl (by first | rfl | assumption) (by decide) rfl rfl ?_
    refine zi_aload_n h rfl rfl ?_
    refine zg_nat h i rfl (by first | rfl | assumption) (by decide) rfl (by rw [tw_off (by omega)]; exact hi) ?_
    refine za_i h rfl (by first | rfl | assumption) rfl (by omega) (by decide) ?_
    refine zi_aload_n h rfl rfl ?_
    refine zg_int h rfl (by first | rfl | assumption) (by decide) rfl ?_
    refine zc_icmpne h rfl (fun hc => ?_) (fun hc => ?_)
    · refine zi_aload_n h rfl rfl ?_
      refine zi_aload_n h rfl rfl ?_
      refine zk_V h [_] rfl (by first | rfl | assumption) rfl rfl (Nat.le_of_ble_eq_true rfl) (s_goDown hq (by rw [tw_off (by omega)]; exact hl) hl2 (by rw [tw_off (by omega)]; exact ht) ht2 ?_)
      refine zi_vret h rfl ?_
      exact h3 c1 (fun g => hc (e3.trans (g.trans e4.symm)))
    · refine zi_aload_n h rfl rfl ?_
      refine zg_ref h rfl (by first | rfl | assumption) (by decide) rfl rfl ?_
      refine zi_aload_n h rfl rfl ?_
      refine zg_nat h i rfl (by first | rfl | assumption) (by decide) rfl (by rw [tw_off (by omega)]; exact hi) ?_
      refine zi_aload_n h rfl rfl ?_
      refine zg_nat h s rfl (by first | rfl | assumption) (by decide) rfl (by rw [tw_off (by omega)]; exact hs) ?_
      refine zi_aload_n h rfl rfl ?_
      refine zg_int h rfl (by first | rfl | assumption) (by decide) rfl ?_
      refine zk_V h [_, _, _] rfl (by first | rfl | assumption) rfl rfl (Nat.le_of_ble_eq_true rfl) (s_put hi2 hs2 ?_)
      refine zi_goto h rfl ?_
      refine zi_vret h rfl ?_
      have h2 := h2 c1 (e3.symm.trans (hc.trans e4))
      rw [← e5] at h2
      exact h2
  · refine zi_vret h rfl ?_
    exact h1 (e2.symm.trans hc)
set_option maxRecDepth 20000 in
theorem s_goOnTakingOver {fl : Bool} {d : Nat} {f : tw_S} {P : tw_S → Option tw_A → Prop} {q lm tm i n g : Nat} (hq : q = 17 ∨ q = 39) (hl : f 12 4 = nI lm) (hl2 : lm ≤ 20) (ht : f 6 5 = nI tm) (ht2 : tm ≤ 200) (hi : f q 17 = nI i) (hn : i + n = 5) (hg : f q 16 = nI g) (h1 : p_ft (f 2) n i < 5 → P (tw_up (tw_up (tw_up f 3 (p_ft (f 2) n i) (f q 10)) q 18 (f q 18 + 1)) q 17 (nI (p_ft (f 2) n i + 1))) none) (h2 : ¬ p_ft (f 2) n i < 5 → ¬ 4 ≤ f q 18 → P (p_down f q) none) (h3 : ¬ p_ft (f 2) n i < 5 → 4 ≤ f q 18 → P (fun c x => if c = q ∧ x = 12 then f q 12 ||| f q 13 else if c = q ∧ x = 14 then f q 14 ||| f q 13 else if c = q ∧ (x = 13 ∨ x = 8) then 0 else p_tk f q g 32 c x) none) : tS fl (d + 5) 71 [tw_R 0, tw_R q] f P := by
  have lc := tx_ctl hq
  obtain ⟨a0, a1, a2, a3, a4⟩ := tx_ent (tx_c1 hq)
  obtain ⟨m0, m1, m2, m3, m4⟩ := tx_ent (tx_c6 hq)
  obtain ⟨i0, i1, i2, i3, i4, i5⟩ := tx_inb (tx_c11 hq)
  obtain ⟨d0, d1, d2, d3⟩ := tx_des (tx_c17 hq)
  have w0 := tx_dwr (tx_c21 hq)
  have lt := (p_ft_le (f 2) n i).2
  refine tw_Sp_of rfl rfl (Nat.le_of_ble_eq_true rfl) (fun X h => ?_)
  refine zi_aload_n h rfl rfl ?_
  refine zg_ref h rfl (by first | rfl | assumption) (by decide) rfl rfl ?_
  refine zi_aload_n h rfl rfl ?_
  refine zg_nat h i rfl (by first | rfl | assumption) (by decide) rfl hi ?_
  refine zk_V h [_] rfl (by first | rfl | assumption) rfl rfl (Nat.le_of_ble_eq_true rfl) (s_firstThereFrom hn (fun c1 => ?_) (fun c1 => ?_))
  · have e1 : tw_up f 3 (p_ft (f 2) n i) (f q 10) q 18 = f q 18 := tw_off (by omega)
    refine zi_istore_n h rfl (Nat.le_of_ble_eq_true rfl) ?_
    refine zi_iload_n h rfl rfl ?_
    refine zi_iconst h rfl ?_
    refine zc_icmpeq h rfl (fun hc => ?_) (fun hc => ?_)
    · exfalso
      have h9 : ¬ nI (p_ft (f 2) n i) < 0 := nI_pos (by omega)
      rw [hc] at h9
      exact h9 (by decide)
    · refine zi_aload_n h rfl rfl ?_
      refine zg_ref h rfl (by first | rfl | assumption) (by decide) rfl rfl ?_
      refine zg_ref h rfl (by first | rfl | assumption) (by decide) rfl rfl ?_
      refine zi_iload_n h rfl rfl ?_
      refine zi_aload_n h rfl rfl ?_
      refine zg_int h rfl (by first | rfl | assumption) (by decide) rfl ?_
      refine zs_i h rfl (by first | rfl | assumption) rfl (by omega) (by decide) ?_
      refine zi_aload_n h rfl rfl ?_
      refine zi_dup h rfl rfl ?_
      refine zg_int h rfl (by first | rfl | assumption) (by decide) rfl ?_
      show X 19 _ _ _ _
      refine zn_iconst h 1 rfl rfl ?_
      first | refine zn_iadd h rfl ?_ | refine zi_iadd h rfl ?_
      refine zp_int h rfl (by first | rfl | assumption) (by decide) rfl ?_
      refine zi_aload_n h rfl rfl ?_
      refine zi_iload_n h rfl rfl ?_
      refine zn_iconst h 1 rfl rfl ?_
      first | refine zn_iadd h rfl ?_ | refine zi_iadd h rfl ?_
      refine zp_int h rfl (by first | rfl | assumption) (by decide) rfl ?_
      refine zi_goto h rfl ?_
      have h1 := h1 c1
      rw [← e1] at h1
      refine zi_vret h rfl ?_
      exact h1
  · refine zi_istore_n h rfl (Nat.le_of_ble_eq_true rfl) ?_
    refine zi_iload_n h rfl rfl ?_
    refine zi_iconst h rfl ?_
    refine zc_icmpeq h rfl (fun hc => ?_) (fun hc => ?_)
    · refine zi_aload_n h rfl rfl ?_
      refine zg_int h rfl (by first | rfl | assumption) (by decide) rfl ?_
      refine zn_iconst h 4 rfl rfl ?_
      refine zc_icmpge h rfl (fun hc => ?_) (fun hc => ?_)
      · refine zi_aload_n h rfl rfl ?_
        refine zk_V h [] rfl (by first | rfl | assumption) rfl rfl (Nat.le_of_ble_eq_true rfl) (s_finishTakingOver hq hg ?_)
        refine zi_vret h rfl ?_
        exact h3 c1 hc
      · refine zi_aload_n h rfl rfl ?_
        refine zi_aload_n h rfl rfl ?_
        refine zk_V h [_] rfl (by first | rfl | assumption) rfl rfl (Nat.le_of_ble_eq_true rfl) (s_goDown hq hl hl2 ht ht2 ?_)
        refine zi_goto h rfl ?_
        refine zi_vret h rfl ?_
        exact h2 c1 hc
    · exact absurd rfl hc
set_option maxRecDepth 20000 in
theorem s_repair {fl : Bool} {d : Nat} {f : tw_S} {P : tw_S → Option tw_A → Prop} {q s : Nat} (hq : q = 17 ∨ q = 39) (hs : s < 8) (h1 : p_om (f 5) 5 s 5 → P (tw_up f q 14 (f q 14 &&& (1 <<< (nI s &&& 31) ^^^ -1))) none) (h2 : ¬ p_om (f 5) 5 s 5 → P (tw_up (tw_up (tw_up (tw_up (tw_up (tw_up f q 14 (f q 14 &&& (1 <<< (nI s &&& 31) ^^^ -1))) (q + 21) 0 1) (q + 21) 1 (nI (p_pd s))) (q + 21) 2 (nI s)) (q + 21) 3 (p_xor (f 4) (p_pd s) s 5)) (q + 21) 4 (f q 10)) none) : tS fl (d + 4) 73 [tw_R 0, tw_R q, tw_I (nI s)] f P := by
  have lc := tx_ctl hq
  obtain ⟨a0, a1, a2, a3, a4⟩ := tx_ent (tx_c1 hq)
  obtain ⟨m0, m1, m2, m3, m4⟩ := tx_ent (tx_c6 hq)
  obtain ⟨i0, i1, i2, i3, i4, i5⟩ := tx_inb (tx_c11 hq)
  obtain ⟨d0, d1, d2, d3⟩ := tx_des (tx_c17 hq)
  have w0 := tx_dwr (tx_c21 hq)
  have hp : p_pd s < 5 := by unfold p_pd; omega
  have e5 : tw_up f q 14 (f q 14 &&& (1 <<< (nI s &&& 31) ^^^ -1)) 5 = f 5 := by funext j; exact tw_off (by omega)
  have e4 : tw_up f q 14 (f q 14 &&& (1 <<< (nI s &&& 31) ^^^ -1)) 4 = f 4 := by funext j; exact tw_off (by omega)
  have e10 : tw_up f q 14 (f q 14 &&& (1 <<< (nI s &&& 31) ^^^ -1)) q 10 = f q 10 := tw_off (by omega)
  refine tw_Sp_of rfl rfl (Nat.le_of_ble_eq_true rfl) (fun X h => ?_)
  refine zi_aload_n h rfl rfl ?_
  refine zi_dup h rfl rfl ?_
  refine zg_int h rfl (by first | rfl | assumption) (by decide) rfl ?_
  refine zn_iconst h 1 rfl rfl ?_
  refine zi_iload_n h rfl rfl ?_
  refine zi_ishl h rfl ?_
  refine zi_iconst h rfl ?_
  refine zi_ixor h rfl ?_
  refine zi_iand h rfl ?_
  refine zp_int h rfl (by first | rfl | assumption) (by decide) rfl ?_
  show X 10 _ _ _ _
  refine zi_aload_n h rfl rfl ?_
  refine zg_ref h rfl (by first | rfl | assumption) (by decide) rfl rfl ?_
  refine zi_iload_n h rfl rfl ?_
  refine zk_V h [_] rfl (by first | rfl | assumption) rfl rfl (Nat.le_of_ble_eq_true rfl) (s_isAnyMissing hs (fun c1 => ?_) (fun c1 => ?_))
  · first | refine zb_ifne h rfl (fun hc => ?_) (fun hc => ?_) | refine zc_ifne h rfl (fun hc => ?_) (fun hc => ?_)
    · refine zi_vret h rfl ?_
      exact h1 (e5 ▸ c1)
    · exact absurd hc (by decide)
  · first | refine zb_ifne h rfl (fun hc => ?_) (fun hc => ?_) | refine zc_ifne h rfl (fun hc => ?_) (fun hc => ?_)
    · exact absurd rfl hc
    · refine zi_iload_n h rfl rfl ?_
      refine zk_S h [_] rfl rfl rfl (Nat.le_of_ble_eq_true rfl) (s_parityDisk hs ?_)
      refine zi_istore_n h rfl (Nat.le_of_ble_eq_true rfl) ?_
      refine zi_aload_n h rfl rfl ?_
      refine zg_ref h rfl (by first | rfl | assumption) (by decide) rfl rfl ?_
      refine zi_iload_n h rfl rfl ?_
      refine zi_iload_n h rfl rfl ?_
      refine zi_aload_n h rfl rfl ?_
      refine zg_ref h rfl (by first | rfl | assumption) (by decide) rfl rfl ?_
      refine zi_iload_n h rfl rfl ?_
      refine zi_iload_n h rfl rfl ?_
      refine zk_V h [_, _] rfl (by first | rfl | assumption) rfl rfl (Nat.le_of_ble_eq_true rfl) (s_xorOfOthers hp hs ?_)
      refine zi_aload_n h rfl rfl ?_
      refine zg_int h rfl (by first | rfl | assumption) (by decide) rfl ?_
      refine zk_V h [_, _, _, _] rfl (by first | rfl | assumption) rfl rfl (Nat.le_of_ble_eq_true rfl) (s_wbegin (tx_c21 hq) ?_)
      refine zi_vret h rfl ?_
      have h2 := h2 (fun u => c1 (e5.symm ▸ u))
      rw [← e4, ← e10] at h2
      exact h2
end
section
/-! Pure words for destaging. -/
noncomputable def p_ite {α : Type} (p : Prop) (a b : α) : α := @ite α p (Classical.propDecidable p) a b
theorem p_ite_t {α : Type} {p : Prop} {a b : α} (h : p) : p_ite p a b = a := if_pos h
theorem p_ite_f {α : Type} {p : Prop} {a b : α} (h : ¬ p) : p_ite p a b = b := if_neg h
theorem p_box_send {f : tw_S} {q q2 : Nat} {k p v w t : Int32} (hq : q = 17 ∨ q = 39) (hq2 : q2 = 17 ∨ q2 = 39) (h : p_box f q2) : p_box (p_send f q k p v w t) q2 := by
  obtain ⟨a, m, h1, h2, h3, h4⟩ := h
  unfold p_send
  split
  · rename_i hc
    by_cases he : q = q2
    · subst he
      have hm : (f (q + 11) 6).toNatClampNeg = m := by rw [h3]; exact nI_clamp (by omega)
      refine ⟨a, m + 1, ?_, h2, ?_, by omega⟩
      · rw [tw_off (by omega), tw_off (by omega), tw_off (by omega), tw_off (by omega), tw_off (by omega), tw_off (by omega)]
        exact h1
      · rw [h3, nI_1]
        simp [tw_up]
    · refine ⟨a, m, ?_, h2, ?_, h4⟩
      · rw [tw_off (by omega), tw_off (by omega), tw_off (by omega), tw_off (by omega), tw_off (by omega), tw_off (by omega)]
        exact h1
      · rw [tw_off (by omega), tw_off (by omega), tw_off (by omega), tw_off (by omega), tw_off (by omega), tw_off (by omega)]
        exact h3
  · exact ⟨a, m, h1, h2, h3, h4⟩
theorem p_send_off {f : tw_S} {q c j : Nat} {k p v w t : Int32} (h : ¬ (q + 11 ≤ c ∧ c ≤ q + 16)) : p_send f q k p v w t c j = f c j := by
  unfold p_send
  split
  · rw [tw_off (by omega), tw_off (by omega), tw_off (by omega), tw_off (by omega), tw_off (by omega), tw_off (by omega)]
  · rfl
theorem p_box_up {f : tw_S} {q c j : Nat} {x : Int32} (hc : c ≠ q + 11) (h : p_box f q) : p_box (tw_up f c j x) q := by
  obtain ⟨a, m, h1, h2, h3, h4⟩ := h
  exact ⟨a, m, by rw [tw_off (by omega)]; exact h1, h2, by rw [tw_off (by omega)]; exact h3, h4⟩
/-- a taken block is released -/
def p_rel (f : tw_S) (q k : Nat) (w : Int32) : tw_S := if f q 7 = 0 then p_fin (if ¬ f (q + 2) k = 0 ∧ f (q + 5) k = w then tw_up f (q + 3) k 0 else f) (f q 0) (nI k) w else if ¬ f (q + 2) k = 0 ∧ f (q + 5) k = w then p_send (tw_up f (q + 3) k 0) (56 - q) 2 (nI k) 0 w (-1) else f
theorem p_rel_off {f : tw_S} {q k c j : Nat} {w : Int32} (hq : q = 17 ∨ q = 39) (h : c ≠ q + 3 ∧ c ≠ 7 ∧ ¬ (67 - q ≤ c ∧ c ≤ 72 - q)) : p_rel f q k w c j = f c j := by
  unfold p_rel
  split
  · unfold p_fin
    rw [if_neg (fun g => h.2.1 g.1)]
    split
    · exact tw_off (by omega)
    · rfl
  · split
    · rw [p_send_off (by omega)]
      exact tw_off (by omega)
    · rfl
theorem p_box_rel {f : tw_S} {q k : Nat} {w : Int32} (hq : q = 17 ∨ q = 39) (h : p_box f (56 - q)) : p_box (p_rel f q k w) (56 - q) := by
  have h2 : p_box (tw_up f (q + 3) k 0) (56 - q) := p_box_up (by omega) h
  unfold p_rel
  split
  · have h3 : p_box (if ¬ f (q + 2) k = 0 ∧ f (q + 5) k = w then tw_up f (q + 3) k 0 else f) (56 - q) := by
      split
      · exact h2
      · exact h
    obtain ⟨a, m, g1, g2, g3, g4⟩ := h3
    refine ⟨a, m, ?_, g2, ?_, g4⟩
    · unfold p_fin
      rw [if_neg (fun u => by omega)]
      exact g1
    · unfold p_fin
      rw [if_neg (fun u => by omega)]
      exact g3
  · split
    · exact p_box_send (by omega) (by omega) h2
    · exact h
/-- the first i places of the stripe s that were taken are released -/
def p_fd (f : tw_S) (q s : Nat) : Nat → tw_S
  | 0 => f
  | i + 1 => if f (q + 18) i = 0 then p_fd f q s i else p_rel (p_fd f q s i) q (s * 4 + i) (f (q + 20) i)
theorem p_fd_off {f : tw_S} {q s c j : Nat} (hq : q = 17 ∨ q = 39) (h : c ≠ q + 3 ∧ c ≠ 7 ∧ ¬ (67 - q ≤ c ∧ c ≤ 72 - q)) : ∀ i, p_fd f q s i c j = f c j
  | 0 => rfl
  | i + 1 => by
    unfold p_fd
    split
    · exact p_fd_off hq h i
    · rw [p_rel_off hq h]
      exact p_fd_off hq h i
theorem p_fd_box {f : tw_S} {q s : Nat} (hq : q = 17 ∨ q = 39) (h : p_box f (56 - q)) : ∀ i, p_box (p_fd f q s i) (56 - q)
  | 0 => h
  | i + 1 => by
    unfold p_fd
    split
    · exact p_fd_box hq h i
    · exact p_box_rel hq (p_fd_box hq h i)
/-- may place k of the stripe s be written? -/
def p_can (f : tw_S) (q s k : Nat) : Int32 := if f (q + 18) k = 0 ∨ f 2 (p_dd s k) = 0 then 0 else 1
def p_wr (f : tw_S) (q : Nat) (a b v k : Int32) : tw_S := tw_up (tw_up (tw_up (tw_up (tw_up f (q + 21) 0 1) (q + 21) 1 a) (q + 21) 2 b) (q + 21) 3 v) (q + 21) 4 k
/-- a block is taken to be destaged, at the place k -/
noncomputable def p_td (f : tw_S) (q k i : Nat) : tw_S := if f (q + 3) k = 0 then p_ite (p_lost (f 5) k) (tw_up f (q + 17) 5 1) (tw_up f (q + 19) i (p_what (f 5) (f 4) k)) else tw_up (tw_up (tw_up f (q + 18) i 1) (q + 19) i (f (q + 4) k)) (q + 20) i (f (q + 5) k)
theorem p_td_off {f : tw_S} {q k i c j : Nat} (h : ¬ (q + 17 ≤ c ∧ c ≤ q + 20)) : p_td f q k i c j = f c j := by
  unfold p_td
  split
  · by_cases hl : p_lost (f 5) k
    · rw [p_ite_t hl]
      exact tw_off (by omega)
    · rw [p_ite_f hl]
      exact tw_off (by omega)
  · rw [tw_off (by omega), tw_off (by omega), tw_off (by omega)]
def p_db (f : tw_S) (q : Nat) (v : Int32) : tw_S := fun c j => if (c = q + 1 ∨ c = q + 2) ∧ j < 4 then 0 else if c = q ∧ j = 3 then v else if c = q ∧ (j = 4 ∨ j = 5 ∨ j = 6) then 0 else f c j
noncomputable def p_bd (f : tw_S) (q s : Nat) : Nat → tw_S
  | 0 => p_db (p_sip (tw_up f q 12 (f q 12 ||| 1 <<< (nI s &&& 31))) q 3 (nI s) 0) (q + 17) (nI s)
  | i + 1 => p_td (p_bd f q s i) q (s * 4 + i) i
def p_beat (f : tw_S) (q : Nat) : tw_S := if f q 15 + 1 < 4 then tw_up (p_sip f q 5 0 0) q 15 (f q 15 + 1) else tw_up (tw_up (p_sip f q 5 0 0) q 15 (f q 15 + 1)) q 7 0
theorem p_sip_off {f : tw_S} {q c j : Nat} {k p w : Int32} (hq : q = 17 ∨ q = 39) (h : ¬ (67 - q ≤ c ∧ c ≤ 72 - q)) : p_sip f q k p w c j = f c j := by
  unfold p_sip
  split
  · rfl
  · exact p_send_off (by omega)
theorem tw_tg_n {ts : List Nat} {df j : Nat} (h : j < 2 ^ 31) : tw_tg 0 ts df (nI j) = ts.getD j df := by
  unfold tw_tg
  rw [nI_toInt h, if_neg (by omega)]
  congr 1
def p_newer (f : tw_S) (q k : Nat) (v w : Int32) : tw_S := if f (q + 7) k = 0 ∨ ¬ w ≤ f (q + 10) k then tw_up (tw_up (tw_up (tw_up f (q + 7) k 1) (q + 8) k 0) (q + 9) k v) (q + 10) k w else f
theorem p_newer_off {f : tw_S} {q k c j : Nat} {v w : Int32} (h : ¬ (q + 7 ≤ c ∧ c ≤ q + 10)) : p_newer f q k v w c j = f c j := by
  unfold p_newer
  split
  · rw [tw_off (by omega), tw_off (by omega), tw_off (by omega), tw_off (by omega)]
  · rfl
def p_dropv (f : tw_S) (q k : Nat) (w : Int32) : tw_S := if ¬ f (q + 7) k = 0 ∧ f (q + 10) k = w then tw_up (tw_up f (q + 7) k 0) (q + 8) k 0 else f
def p_take (f : tw_S) (q a m : Nat) : tw_S := tw_up (tw_up f (q + 11) 5 (nI ((a + 1) % 40))) (q + 11) 6 (nI (m - 1))
def p_rdy (f : tw_S) (q : Nat) : Prop := ¬ f q 6 = 0 ∧ f q 8 = 0 ∧ f (q + 17) 3 = -1 ∧ p_cd (f (q + 3)) 8 = 0 ∧ f q 12 = 0 ∧ f (q + 21) 0 = 0
def p_any (f : tw_S) : Prop := ∃ u, u < 2 ∧ ¬ (p_bit (f 17 11) u ∨ p_bit (f 39 11) u) ∧ ((∃ j, j < 16 ∧ ¬ f 24 (u * 16 + j) = 0) ∨ ∃ j, j < 16 ∧ ¬ f 46 (u * 16 + j) = 0)
def p_sh1 (f : tw_S) : tw_S := tw_up (tw_up f 17 11 (f 17 11 ||| (3 &&& ((f 17 11 ||| f 39 11) ^^^ -1)))) 39 11 (f 39 11 &&& ((f 17 11 &&& f 39 11) ^^^ -1))
def p_sh0 (f : tw_S) : tw_S := tw_up f 17 11 ((f 17 11 ||| (3 &&& ((f 17 11 ||| f 39 11) ^^^ -1))) &&& ((f 17 11 &&& f 39 11) ^^^ -1))
def p_dv (f : tw_S) (q u : Nat) : tw_S := fun c j => if (c = q + 1 ∨ c = q + 2) ∧ u * 16 ≤ j ∧ j < u * 16 + 16 then 0 else f c j
def p_busy (f : tw_S) (q u : Nat) : Prop := ∃ i, i < 4 ∧ (p_bit (f q 12) (u * 4 + i) ∨ f (q + 17) 3 = nI (u * 4 + i) ∨ 0 < p_cnt (fun j => f (q + 3) ((u * 4 + i) * 4 + j)) 4)
def p_move (f : tw_S) (q q2 u : Nat) : tw_S := p_dv (p_dv (tw_up (tw_up f q 11 (f q 11 &&& (1 <<< (nI u &&& 31) ^^^ -1))) q2 11 (f q2 11 ||| 1 <<< (nI u &&& 31))) (q + 1) u) (q2 + 6) u
def p_st (f : tw_S) (q j : Nat) : Int32 := match j with
  | 0 => nI (p_cd (f (q + 3)) 8)
  | 1 => nI (p_cnt (f (q + 7)) 32)
  | 2 => f (q + 11) 6
  | 3 => f q 15
  | 4 => f q 10
  | 5 => tw_nz (f q 6)
  | 6 => tw_nz (f q 7)
  | 7 => tw_nz (f q 8)
  | 8 => tw_nz (f q 9)
  | 9 => f (q + 17) 3
  | 10 => f q 11
  | 11 => f q 12
  | 12 => f q 13
  | _ => f q 14
theorem tw_nz_t {x : Int32} (h : ¬ x = 0) : tw_nz x = 1 := if_neg h
theorem tw_nz_f {x : Int32} (h : x = 0) : tw_nz x = 0 := if_pos h
end
section
/-! TwinArray's own: destaging, steps. -/
set_option maxRecDepth 20000 in
theorem s_releaseTaken {fl : Bool} {d : Nat} {f : tw_S} {P : tw_S → Option tw_A → Prop} {q tm k : Nat} {w : Int32} (hq : q = 17 ∨ q = 39) (hn : f q 0 = if q = 17 then 0 else 1) (hb : p_box f (56 - q)) (ht : f 6 5 = nI tm) (ht2 : tm ≤ 200) (hk : k < 32) (hP : P (p_rel f q k w) none) : tS fl (d + 4) 75 [tw_R 0, tw_R q, tw_I (nI k), tw_I w] f P := by
  have lc := tx_ctl hq
  obtain ⟨a0, a1, a2, a3, a4⟩ := tx_ent (tx_c1 hq)
  obtain ⟨m0, m1, m2, m3, m4⟩ := tx_ent (tx_c6 hq)
  obtain ⟨i0, i1, i2, i3, i4, i5⟩ := tx_inb (tx_c11 hq)
  obtain ⟨d0, d1, d2, d3⟩ := tx_des (tx_c17 hq)
  have w0 := tx_dwr (tx_c21 hq)
  have et : (f 6 5).toNatClampNeg = tm := by rw [ht]; exact nI_clamp (by omega)
  have e7 : ∀ x : Int32, tw_up f (q + 3) k x q 7 = f q 7 := fun x => tw_off (by omega)
  have e6 : ∀ x : Int32, tw_up f (q + 3) k x 6 5 = f 6 5 := fun x => tw_off (by omega)
  have e0 : ∀ x : Int32, tw_up f (q + 3) k x q 0 = f q 0 := fun x => tw_off (by omega)
  have e9 : ∀ x : Int32, tw_up f (q + 3) k x 9 = f 9 := fun x => by funext j; exact tw_off (by omega)
  refine tw_Sp_of rfl rfl (Nat.le_of_ble_eq_true rfl) (fun X h => ?_)
  have tail : ∀ g : tw_S, g q 7 = f q 7 → g 6 5 = f 6 5 → g q 0 = f q 0 → (f q 7 = 0 → P (p_fin g (f q 0) (nI k) w) none) → (¬ f q 7 = 0 → P g none) → X 25 [some (tw_R 0), some (tw_R q), some (tw_I (nI k)), some (tw_I w)] [] tx_L0 g := by
    intro g g7 g6 g0 k1 k2
    refine zi_aload_n h rfl rfl ?_
    refine zg_boo h rfl (by first | rfl | assumption) (by decide) rfl ?_
    first | refine zb_ifne h rfl (fun hc => ?_) (fun hc => ?_) | refine zc_ifne h rfl (fun hc => ?_) (fun hc => ?_)
    · refine zi_vret h rfl ?_
      exact k2 (fun u => hc (g7.trans u))
    · have c1 := k1 (g7.symm.trans hc)
      refine zi_aload_n h rfl rfl ?_
      refine zg_ref h rfl (by first | rfl | assumption) (by decide) rfl rfl ?_
      refine zi_aload_n h rfl rfl ?_
      refine zg_int h rfl (by first | rfl | assumption) (by decide) rfl ?_
      refine zi_iload_n h rfl rfl ?_
      refine zi_iload_n h rfl rfl ?_
      refine zk_V h [_, _, _] rfl (by first | rfl | assumption) rfl rfl (Nat.le_of_ble_eq_true rfl) (s_finishWrites (by rw [g6]; exact ht) ht2 ?_)
      refine zi_vret h rfl ?_
      rw [g0]
      unfold p_fin at c1
      rw [g6, et] at c1
      exact c1
  refine zi_aload_n h rfl rfl ?_
  refine zg_ref h rfl (by first | rfl | assumption) (by decide) rfl rfl ?_
  refine zg_ref h rfl (by first | rfl | assumption) (by decide) rfl rfl ?_
  refine zi_iload_n h rfl rfl ?_
  refine za_z h rfl (by first | rfl | assumption) rfl (by omega) (by decide) ?_
  first | refine zb_ifeq h rfl (fun hc => ?_) (fun hc => ?_) | refine zc_ifeq h rfl (fun hc => ?_) (fun hc => ?_)
  · have c1 : ¬ (¬ f (q + 2) k = 0 ∧ f (q + 5) k = w) := fun u => u.1 hc
    refine tail f rfl rfl rfl (fun u => ?_) (fun u => ?_)
    · rw [p_rel, if_pos u, if_neg c1] at hP
      exact hP
    · rw [p_rel, if_neg u, if_neg c1] at hP
      exact hP
  · have c0 := hc
    refine zi_aload_n h rfl rfl ?_
    refine zg_ref h rfl (by first | rfl | assumption) (by decide) rfl rfl ?_
    refine zg_ref h rfl (by first | rfl | assumption) (by decide) rfl rfl ?_
    refine zi_iload_n h rfl rfl ?_
    refine za_i h rfl (by first | rfl | assumption) rfl (by omega) (by decide) ?_
    refine zi_iload_n h rfl rfl ?_
    refine zc_icmpne h rfl (fun hc => ?_) (fun hc => ?_)
    · have c1 : ¬ (¬ f (q + 2) k = 0 ∧ f (q + 5) k = w) := fun u => hc u.2
      refine tail f rfl rfl rfl (fun u => ?_) (fun u => ?_)
      · rw [p_rel, if_pos u, if_neg c1] at hP
        exact hP
      · rw [p_rel, if_neg u, if_neg c1] at hP
        exact hP
    · have c1 : ¬ f (q + 2) k = 0 ∧ f (q + 5) k = w := ⟨c0, hc⟩
      refine zi_aload_n h rfl rfl ?_
      refine zg_ref h rfl (by first | rfl | assumption) (by decide) rfl rfl ?_
      refine zg_ref h rfl (by first | rfl | assumption) (by decide) rfl rfl ?_
      refine zi_iload_n h rfl rfl ?_
      refine zn_iconst h 0 rfl rfl ?_
      refine zs_z h rfl (by first | rfl | assumption) rfl (by omega) (by decide) (by first | exact Or.inl rfl | exact Or.inr rfl | assumption) ?_
      refine zi_aload_n h rfl rfl ?_
      refine zi_aload_n h rfl rfl ?_
      refine zn_iconst h 2 rfl rfl ?_
      refine zi_iload_n h rfl rfl ?_
      show X 23 _ _ _ _
      refine zi_iload_n h rfl rfl ?_
      refine zk_V h [_, _, _, _] rfl (by first | rfl | assumption) rfl rfl (Nat.le_of_ble_eq_true rfl) (s_sendIfPaired hq ((e0 _).trans hn) (p_box_up (by omega) hb) ?_)
      by_cases c7 : f q 7 = 0
      · rw [p_rel, if_pos c7, if_pos c1] at hP
        rw [p_sip, if_pos ((e7 _).trans c7)]
        exact tail _ (e7 _) (e6 _) (e0 _) (fun _ => hP) (fun u => absurd c7 u)
      · rw [p_rel, if_neg c7, if_pos c1] at hP
        rw [p_sip, if_neg (fun u => c7 ((e7 _).symm.trans u))]
        refine tail _ ?_ ?_ ?_ (fun u => absurd u c7) (fun _ => hP)
        · rw [p_send_off (by omega)]; exact e7 _
        · rw [p_send_off (by omega)]; exact e6 _
        · rw [p_send_off (by omega)]; exact e0 _
set_option maxRecDepth 20000 in
theorem s_finishDestaging {fl : Bool} {d : Nat} {f : tw_S} {P : tw_S → Option tw_A → Prop} {q tm s : Nat} (hq : q = 17 ∨ q = 39) (hn : f q 0 = if q = 17 then 0 else 1) (hb : p_box f (56 - q)) (ht : f 6 5 = nI tm) (ht2 : tm ≤ 200) (hs : f (q + 17) 3 = nI s) (hs2 : s < 8) (hP : P (tw_up (p_fd f q s 4) (q + 17) 3 (-1)) none) : tS fl (d + 5) 76 [tw_R 0, tw_R q] f P := by
  have lc := tx_ctl hq
  obtain ⟨a0, a1, a2, a3, a4⟩ := tx_ent (tx_c1 hq)
  obtain ⟨m0, m1, m2, m3, m4⟩ := tx_ent (tx_c6 hq)
  obtain ⟨i0, i1, i2, i3, i4, i5⟩ := tx_inb (tx_c11 hq)
  obtain ⟨d0, d1, d2, d3⟩ := tx_des (tx_c17 hq)
  have w0 := tx_dwr (tx_c21 hq)
  refine tw_Sp_of rfl rfl (Nat.le_of_ble_eq_true rfl) (fun X h => ?_)
  have off : ∀ c j i, (c ≠ q + 3 ∧ c ≠ 7 ∧ ¬ (67 - q ≤ c ∧ c ≤ 72 - q)) → p_fd f q s i c j = f c j := fun c j i g => p_fd_off hq g i
  have loop : ∀ n i : Nat, i + n = 4 → X 5 [some (tw_R 0), some (tw_R q), some (tw_R (q + 17)), some (tw_I (nI i))] [] tx_L0 (p_fd f q s i) := by
    intro n
    induction n with
    | zero =>
      intro i hi
      obtain rfl : i = 4 := by omega
      refine zi_iload_n h rfl rfl ?_
      refine zn_iconst h 4 rfl rfl ?_
      first | refine zn_icmpge h rfl (by omega) (by omega) (fun hc => ?_) (fun hc => ?_) | refine zc_icmpge h rfl (fun hc => ?_) (fun hc => ?_)
      · refine zi_aload_n h rfl rfl ?_
        refine zi_iconst h rfl ?_
        refine zp_int h rfl (by first | rfl | assumption) (by decide) rfl ?_
        refine zi_vret h rfl ?_
        exact hP
      · omega
    | succ n ih =>
      intro i hi
      have ih := ih (i + 1) (by omega)
      have e18 := off (q + 18) i i (by omega)
      have e20 := off (q + 20) i i (by omega)
      refine zi_iload_n h rfl rfl ?_
      refine zn_iconst h 4 rfl rfl ?_
      first | refine zn_icmpge h rfl (by omega) (by omega) (fun hc => ?_) (fun hc => ?_) | refine zc_icmpge h rfl (fun hc => ?_) (fun hc => ?_)
      · omega
      · refine zi_aload_n h rfl rfl ?_
        refine zg_ref h rfl (by first | rfl | assumption) (by decide) rfl rfl ?_
        refine zi_iload_n h rfl rfl ?_
        refine za_z h rfl (by first | rfl | assumption) rfl (by omega) (by decide) ?_
        first | refine zb_ifeq h rfl (fun hc => ?_) (fun hc => ?_) | refine zc_ifeq h rfl (fun hc => ?_) (fun hc => ?_)
        · rw [e18] at hc
          rw [show p_fd f q s (i + 1) = p_fd f q s i from if_pos hc] at ih
          first | refine zn_iinc h 1 rfl rfl rfl ?_ | refine zi_iinc h rfl rfl ?_
          refine zi_goto h rfl ?_
          exact ih
        · rw [e18] at hc
          rw [show p_fd f q s (i + 1) = _ from if_neg hc, ← e20] at ih
          refine zi_aload_n h rfl rfl ?_
          refine zi_aload_n h rfl rfl ?_
          refine zi_aload_n h rfl rfl ?_
          refine zg_nat h s rfl (by first | rfl | assumption) (by decide) rfl (by rw [off _ _ _ (by omega)]; exact hs) ?_
          refine zn_iconst h 4 rfl rfl ?_
          first | refine zn_imul h rfl ?_ | refine zi_imul h rfl ?_
          refine zi_iload_n h rfl rfl ?_
          first | refine zn_iadd h rfl ?_ | refine zi_iadd h rfl ?_
          refine zi_aload_n h rfl rfl ?_
          refine zg_ref h rfl (by first | rfl | assumption) (by decide) rfl rfl ?_
          refine zi_iload_n h rfl rfl ?_
          refine za_i h rfl (by first | rfl | assumption) rfl (by omega) (by decide) ?_
          refine zk_V h [_, _, _] rfl (by first | rfl | assumption) rfl rfl (Nat.le_of_ble_eq_true rfl) (s_releaseTaken hq (by rw [off _ _ _ (by omega)]; exact hn) (p_fd_box hq hb i) (by rw [off _ _ _ (by omega)]; exact ht) ht2 (by omega) ?_)
          first | refine zn_iinc h 1 rfl rfl rfl ?_ | refine zi_iinc h rfl rfl ?_
          refine zi_goto h rfl ?_
          exact ih
  refine zi_aload_n h rfl rfl ?_
  refine zg_ref h rfl (by first | rfl | assumption) (by decide) rfl rfl ?_
  refine zi_astore_n h rfl (Nat.le_of_ble_eq_true rfl) ?_
  refine zn_iconst h 0 rfl rfl ?_
  refine zi_istore_n h rfl (Nat.le_of_ble_eq_true rfl) ?_
  exact loop 4 0 (by omega)
set_option maxRecDepth 20000 in
theorem s_goOnDestaging {fl : Bool} {d : Nat} {f : tw_S} {P : tw_S → Option tw_A → Prop} {q tm s i n : Nat} (hq : q = 17 ∨ q = 39) (hn : f q 0 = if q = 17 then 0 else 1) (hb : p_box f (56 - q)) (ht : f 6 5 = nI tm) (ht2 : tm ≤ 200) (hs : f (q + 17) 3 = nI s) (hs2 : s < 8) (hi : f (q + 17) 4 = nI i) (hin : i + n = 4) (h1 : p_ft (p_can f q s) n i < 4 → P (p_wr (tw_up f (q + 17) 4 (nI (p_ft (p_can f q s) n i + 1))) q (nI (p_dd s (p_ft (p_can f q s) n i))) (nI s) (f (q + 19) (p_ft (p_can f q s) n i)) (f q 10)) none) (h2 : ¬ p_ft (p_can f q s) n i < 4 → (f (q + 17) 6 = 0 ∧ f (q + 17) 5 = 0 ∧ ¬ f 2 (p_pd s) = 0) → P (p_wr (tw_up (tw_up f (q + 17) 4 (nI 4)) (q + 17) 6 1) q (nI (p_pd s)) (nI s) (p_x4 (f (q + 19)) 4) (f q 10)) none) (h3 : ¬ p_ft (p_can f q s) n i < 4 → ¬ (f (q + 17) 6 = 0 ∧ f (q + 17) 5 = 0 ∧ ¬ f 2 (p_pd s) = 0) → P (tw_up (p_fd (tw_up f (q + 17) 4 (nI 4)) q s 4) (q + 17) 3 (-1)) none) : tS fl (d + 6) 77 [tw_R 0, tw_R q] f P := by
  have lc := tx_ctl hq
  obtain ⟨a0, a1, a2, a3, a4⟩ := tx_ent (tx_c1 hq)
  obtain ⟨m0, m1, m2, m3, m4⟩ := tx_ent (tx_c6 hq)
  obtain ⟨i0, i1, i2, i3, i4, i5⟩ := tx_inb (tx_c11 hq)
  obtain ⟨d0, d1, d2, d3⟩ := tx_des (tx_c17 hq)
  have w0 := tx_dwr (tx_c21 hq)
  have hpd : p_pd s < 5 := by unfold p_pd; omega
  refine tw_Sp_of rfl rfl (Nat.le_of_ble_eq_true rfl) (fun X h => ?_)
  have off : ∀ (c j : Nat) (x : Int32), ¬ (c = q + 17 ∧ j = 4) → tw_up f (q + 17) 4 x c j = f c j := fun c j x g => tw_off g
  have last : ∀ o1 o2, ¬ p_ft (p_can f q s) n i < 4 → X 45 [some (tw_R 0), some (tw_R q), some (tw_R (q + 17)), o1, o2] [] tx_L0 (tw_up f (q + 17) 4 (nI 4)) := by
    intro o1 o2 hf
    have fin : ∀ o1 o2, ¬ (f (q + 17) 6 = 0 ∧ f (q + 17) 5 = 0 ∧ ¬ f 2 (p_pd s) = 0) → X 75 [some (tw_R 0), some (tw_R q), some (tw_R (q + 17)), o1, o2] [] tx_L0 (tw_up f (q + 17) 4 (nI 4)) := by
      intro o1 o2 hx
      refine zi_aload_n h rfl rfl ?_
      refine zi_aload_n h rfl rfl ?_
      refine zk_V h [_] rfl (by first | rfl | assumption) rfl rfl (Nat.le_of_ble_eq_true rfl) (s_finishDestaging hq (by rw [off _ _ _ (by omega)]; exact hn) (p_box_up (by omega) hb) (by rw [off _ _ _ (by omega)]; exact ht) ht2 (by rw [off _ _ _ (by omega)]; exact hs) hs2 ?_)
      refine zi_vret h rfl ?_
      exact h3 hf hx
    refine zi_aload_n h rfl rfl ?_
    refine zg_nat h s rfl (by first | rfl | assumption) (by decide) rfl (by rw [off _ _ _ (by omega)]; exact hs) ?_
    refine zk_S h [_] rfl rfl rfl (Nat.le_of_ble_eq_true rfl) (s_parityDisk hs2 ?_)
    refine zi_istore_n h rfl (Nat.le_of_ble_eq_true rfl) ?_
    refine zi_aload_n h rfl rfl ?_
    refine zg_boo h rfl (by first | rfl | assumption) (by decide) rfl ?_
    first | refine zb_ifne h rfl (fun hc => ?_) (fun hc => ?_) | refine zc_ifne h rfl (fun hc => ?_) (fun hc => ?_)
    · refine fin _ _ (fun u => hc ?_)
      rw [off _ _ _ (by omega)]
      exact u.1
    · rw [off _ _ _ (by omega)] at hc
      have c6 := hc
      refine zi_aload_n h rfl rfl ?_
      refine zg_boo h rfl (by first | rfl | assumption) (by decide) rfl ?_
      first | refine zb_ifne h rfl (fun hc => ?_) (fun hc => ?_) | refine zc_ifne h rfl (fun hc => ?_) (fun hc => ?_)
      · refine fin _ _ (fun u => hc ?_)
        rw [off _ _ _ (by omega)]
        exact u.2.1
      · rw [off _ _ _ (by omega)] at hc
        have c5 := hc
        refine zi_aload_n h rfl rfl ?_
        refine zg_ref h rfl (by first | rfl | assumption) (by decide) rfl rfl ?_
        refine zg_ref h rfl (by first | rfl | assumption) (by decide) rfl rfl ?_
        refine zi_iload_n h rfl rfl ?_
        refine za_z h rfl (by first | rfl | assumption) rfl (by omega) (by decide) ?_
        first | refine zb_ifeq h rfl (fun hc => ?_) (fun hc => ?_) | refine zc_ifeq h rfl (fun hc => ?_) (fun hc => ?_)
        · refine fin _ _ (fun u => u.2.2 ?_)
          rw [off _ _ _ (by omega)] at hc
          exact hc
        · rw [off _ _ _ (by omega)] at hc
          have h2 := h2 hf ⟨c6, c5, hc⟩
          refine zi_aload_n h rfl rfl ?_
          refine zn_iconst h 1 rfl rfl ?_
          refine zp_boo h rfl (by first | rfl | assumption) (by decide) rfl (by first | exact Or.inl rfl | exact Or.inr rfl | assumption) ?_
          refine zi_aload_n h rfl rfl ?_
          refine zg_ref h rfl (by first | rfl | assumption) (by decide) rfl rfl ?_
          refine zi_iload_n h rfl rfl ?_
          refine zi_aload_n h rfl rfl ?_
          refine zg_nat h s rfl (by first | rfl | assumption) (by decide) rfl (by rw [tw_off (by omega), off _ _ _ (by omega)]; exact hs) ?_
          refine zi_aload_n h rfl rfl ?_
          refine zk_V h [] rfl (by first | rfl | assumption) rfl rfl (Nat.le_of_ble_eq_true rfl) (s_xorOfData (tx_c17 hq) ?_)
          refine zi_aload_n h rfl rfl ?_
          refine zg_int h rfl (by first | rfl | assumption) (by decide) rfl ?_
          refine zk_V h [_, _, _, _] rfl (by first | rfl | assumption) rfl rfl (Nat.le_of_ble_eq_true rfl) (s_wbegin (tx_c21 hq) ?_)
          refine zi_vret h rfl ?_
          rw [show tw_up (tw_up f (q + 17) 4 (nI 4)) (q + 17) 6 (nI 1) (q + 17 + 2) = f (q + 19) by funext j; rw [tw_off (by omega), off _ _ _ (by omega)], show tw_up (tw_up f (q + 17) 4 (nI 4)) (q + 17) 6 (nI 1) q 10 = f q 10 by rw [tw_off (by omega), off _ _ _ (by omega)]]
          exact h2
  have loop : ∀ m k : Nat, k + m = 4 → p_ft (p_can f q s) m k = p_ft (p_can f q s) n i → ∀ o, X 6 [some (tw_R 0), some (tw_R q), some (tw_R (q + 17)), some (tw_I (nI k)), o] [] tx_L0 (tw_up f (q + 17) 4 (nI k)) := by
    intro m
    induction m with
    | zero =>
      intro k hk he o
      obtain rfl : k = 4 := by omega
      have he : 4 = p_ft (p_can f q s) n i := he
      refine zi_iload_n h rfl rfl ?_
      refine zn_iconst h 4 rfl rfl ?_
      first | refine zn_icmpge h rfl (by omega) (by omega) (fun hc => ?_) (fun hc => ?_) | refine zc_icmpge h rfl (fun hc => ?_) (fun hc => ?_)
      · exact last _ _ (by omega)
      · omega
    | succ m ih =>
      intro k hk he o
      have upup : ∀ c j, tw_up (tw_up f (q + 17) 4 (nI k)) (q + 17) 4 (nI (k + 1)) c j = tw_up f (q + 17) 4 (nI (k + 1)) c j := by
        intro c j
        unfold tw_up
        split <;> rfl
      have skip : p_can f q s k = 0 → ∀ o, X 43 [some (tw_R 0), some (tw_R q), some (tw_R (q + 17)), some (tw_I (nI k)), o] [] tx_L0 (tw_up f (q + 17) 4 (nI (k + 1))) := by
        intro hz o
        have ih := ih (k + 1) (by omega) (by rw [← he]; simp [p_ft, hz])
        first | refine zn_iinc h 1 rfl rfl rfl ?_ | refine zi_iinc h rfl rfl ?_
        refine zi_goto h rfl ?_
        exact ih _
      refine zi_iload_n h rfl rfl ?_
      refine zn_iconst h 4 rfl rfl ?_
      first | refine zn_icmpge h rfl (by omega) (by omega) (fun hc => ?_) (fun hc => ?_) | refine zc_icmpge h rfl (fun hc => ?_) (fun hc => ?_)
      · omega
      · refine zi_aload_n h rfl rfl ?_
        refine zi_iload_n h rfl rfl ?_
        refine zn_iconst h 1 rfl rfl ?_
        first | refine zn_iadd h rfl ?_ | refine zi_iadd h rfl ?_
        refine zp_int h rfl (by first | rfl | assumption) (by decide) rfl ?_
        refine tw_mem upup ?_
        refine zi_aload_n h rfl rfl ?_
        refine zg_nat h s rfl (by first | rfl | assumption) (by decide) rfl (by rw [off _ _ _ (by omega)]; exact hs) ?_
        refine zi_iload_n h rfl rfl ?_
        refine zk_S h [_, _] rfl rfl rfl (Nat.le_of_ble_eq_true rfl) (s_dataDisk hs2 (by omega) ?_)
        have hdd := p_dd_lt (s := s) (k := k) (by omega)
        refine zi_istore h rfl (Nat.le_of_ble_eq_true rfl) ?_
        refine zi_aload_n h rfl rfl ?_
        refine zg_ref h rfl (by first | rfl | assumption) (by decide) rfl rfl ?_
        refine zi_iload_n h rfl rfl ?_
        refine za_z h rfl (by first | rfl | assumption) rfl (by omega) (by decide) ?_
        first | refine zb_ifeq h rfl (fun hc => ?_) (fun hc => ?_) | refine zc_ifeq h rfl (fun hc => ?_) (fun hc => ?_)
        · rw [off _ _ _ (by omega)] at hc
          exact skip (if_pos (Or.inl hc)) _
        · rw [off _ _ _ (by omega)] at hc
          have c18 := hc
          refine zi_aload_n h rfl rfl ?_
          refine zg_ref h rfl (by first | rfl | assumption) (by decide) rfl rfl ?_
          refine zg_ref h rfl (by first | rfl | assumption) (by decide) rfl rfl ?_
          refine zi_iload h rfl rfl ?_
          refine za_z h rfl (by first | rfl | assumption) rfl (by omega) (by decide) ?_
          first | refine zb_ifeq h rfl (fun hc => ?_) (fun hc => ?_) | refine zc_ifeq h rfl (fun hc => ?_) (fun hc => ?_)
          · rw [off _ _ _ (by omega)] at hc
            exact skip (if_pos (Or.inr hc)) _
          · rw [off _ _ _ (by omega)] at hc
            have hz : ¬ p_can f q s k = 0 := by
              rw [p_can, if_neg (fun u => u.elim c18 hc)]
              decide
            have he : k = p_ft (p_can f q s) n i := by rw [← he]; simp [p_ft, hz]
            have h1 := h1 (by omega)
            rw [← he] at h1
            refine zi_aload_n h rfl rfl ?_
            refine zg_ref h rfl (by first | rfl | assumption) (by decide) rfl rfl ?_
            refine zi_iload h rfl rfl ?_
            refine zi_aload_n h rfl rfl ?_
            refine zg_nat h s rfl (by first | rfl | assumption) (by decide) rfl (by rw [off _ _ _ (by omega)]; exact hs) ?_
            refine zi_aload_n h rfl rfl ?_
            refine zg_ref h rfl (by first | rfl | assumption) (by decide) rfl rfl ?_
            refine zi_iload_n h rfl rfl ?_
            refine za_i h rfl (by first | rfl | assumption) rfl (by omega) (by decide) ?_
            refine zi_aload_n h rfl rfl ?_
            refine zg_int h rfl (by first | rfl | assumption) (by decide) rfl ?_
            refine zk_V h [_, _, _, _] rfl (by first | rfl | assumption) rfl rfl (Nat.le_of_ble_eq_true rfl) (s_wbegin (tx_c21 hq) ?_)
            refine zi_vret h rfl ?_
            rw [show tw_up f (q + 17) 4 (nI (k + 1)) (q + 17 + 2) k = f (q + 19) k from off _ _ _ (by omega), show tw_up f (q + 17) 4 (nI (k + 1)) q 10 = f q 10 from off _ _ _ (by omega)]
            exact h1
  refine zi_aload_n h rfl rfl ?_
  refine zg_ref h rfl (by first | rfl | assumption) (by decide) rfl rfl ?_
  refine zi_astore_n h rfl (Nat.le_of_ble_eq_true rfl) ?_
  refine zi_aload_n h rfl rfl ?_
  refine zg_nat h i rfl (by first | rfl | assumption) (by decide) rfl hi ?_
  refine zi_istore_n h rfl (Nat.le_of_ble_eq_true rfl) ?_
  refine tw_mem (fun c j => ?_) (loop n i hin rfl _)
  unfold tw_up
  split
  · rename_i u
    rw [u.1, u.2, hi]
  · rfl
end
section
/-! TwinArray's own: what is taken, what a step does. -/
set_option maxRecDepth 20000 in
theorem s_takeData {fl : Bool} {d : Nat} {f : tw_S} {P : tw_S → Option tw_A → Prop} {q k i : Nat} (hq : q = 17 ∨ q = 39) (hk : k < 32) (hi : i < 4) (hP : P (p_td f q k i) none) : tS fl (d + 4) 78 [tw_R 0, tw_R q, tw_I (nI k), tw_I (nI i)] f P := by
  have lc := tx_ctl hq
  obtain ⟨a0, a1, a2, a3, a4⟩ := tx_ent (tx_c1 hq)
  obtain ⟨m0, m1, m2, m3, m4⟩ := tx_ent (tx_c6 hq)
  obtain ⟨i0, i1, i2, i3, i4, i5⟩ := tx_inb (tx_c11 hq)
  obtain ⟨d0, d1, d2, d3⟩ := tx_des (tx_c17 hq)
  have w0 := tx_dwr (tx_c21 hq)
  refine tw_Sp_of rfl rfl (Nat.le_of_ble_eq_true rfl) (fun X h => ?_)
  refine zi_aload_n h rfl rfl ?_
  refine zg_ref h rfl (by first | rfl | assumption) (by decide) rfl rfl ?_
  refine zg_ref h rfl (by first | rfl | assumption) (by decide) rfl rfl ?_
  refine zi_iload_n h rfl rfl ?_
  refine za_z h rfl (by first | rfl | assumption) rfl (by omega) (by decide) ?_
  first | refine zb_ifeq h rfl (fun hc => ?_) (fun hc => ?_) | refine zc_ifeq h rfl (fun hc => ?_) (fun hc => ?_)
  · rw [p_td, if_pos hc] at hP
    refine zi_aload_n h rfl rfl ?_
    refine zg_ref h rfl (by first | rfl | assumption) (by decide) rfl rfl ?_
    refine zi_iload_n h rfl rfl ?_
    refine zk_V h [_] rfl (by first | rfl | assumption) rfl rfl (Nat.le_of_ble_eq_true rfl) (s_isDataLost hk (fun c1 => ?_) (fun c1 => ?_))
    · rw [p_ite_t c1] at hP
      first | refine zb_ifeq h rfl (fun hc => ?_) (fun hc => ?_) | refine zc_ifeq h rfl (fun hc => ?_) (fun hc => ?_)
      · exact absurd hc (by decide)
      · refine zi_aload_n h rfl rfl ?_
        refine zg_ref h rfl (by first | rfl | assumption) (by decide) rfl rfl ?_
        refine zn_iconst h 1 rfl rfl ?_
        refine zp_boo h rfl (by first | rfl | assumption) (by decide) rfl (by first | exact Or.inl rfl | exact Or.inr rfl | assumption) ?_
        refine zi_goto h rfl ?_
        refine zi_vret h rfl ?_
        exact hP
    · rw [p_ite_f c1] at hP
      first | refine zb_ifeq h rfl (fun hc => ?_) (fun hc => ?_) | refine zc_ifeq h rfl (fun hc => ?_) (fun hc => ?_)
      · refine zi_aload_n h rfl rfl ?_
        refine zg_ref h rfl (by first | rfl | assumption) (by decide) rfl rfl ?_
        refine zg_ref h rfl (by first | rfl | assumption) (by decide) rfl rfl ?_
        refine zi_iload_n h rfl rfl ?_
        refine zi_aload_n h rfl rfl ?_
        refine zg_ref h rfl (by first | rfl | assumption) (by decide) rfl rfl ?_
        refine zi_iload_n h rfl rfl ?_
        refine zk_V h [_] rfl (by first | rfl | assumption) rfl rfl (Nat.le_of_ble_eq_true rfl) (s_dataOf hk ?_)
        refine zs_i h rfl (by first | rfl | assumption) rfl (by omega) (by decide) ?_
        refine zi_vret h rfl ?_
        exact hP
      · exact absurd rfl hc
  · rw [p_td, if_neg hc] at hP
    refine zi_aload_n h rfl rfl ?_
    refine zg_ref h rfl (by first | rfl | assumption) (by decide) rfl rfl ?_
    refine zi_iload_n h rfl rfl ?_
    refine zi_aload_n h rfl rfl ?_
    refine zg_ref h rfl (by first | rfl | assumption) (by decide) rfl rfl ?_
    refine zg_ref h rfl (by first | rfl | assumption) (by decide) rfl rfl ?_
    refine zi_iload_n h rfl rfl ?_
    refine za_i h rfl (by first | rfl | assumption) rfl (by omega) (by decide) ?_
    refine zi_aload_n h rfl rfl ?_
    refine zg_ref h rfl (by first | rfl | assumption) (by decide) rfl rfl ?_
    show X 16 _ _ _ _
    refine zg_ref h rfl (by first | rfl | assumption) (by decide) rfl rfl ?_
    refine zi_iload_n h rfl rfl ?_
    refine za_i h rfl (by first | rfl | assumption) rfl (by omega) (by decide) ?_
    refine zk_V h [_, _, _] rfl (by first | rfl | assumption) rfl rfl (Nat.le_of_ble_eq_true rfl) (s_takeDirty (tx_c17 hq) hi ?_)
    refine zi_goto h rfl ?_
    refine zi_vret h rfl ?_
    exact hP
set_option maxRecDepth 20000 in
theorem s_beginDestaging {fl : Bool} {d : Nat} {f : tw_S} {P : tw_S → Option tw_A → Prop} {q : Nat} (hq : q = 17 ∨ q = 39) (hn : f q 0 = if q = 17 then 0 else 1) (hb : p_box f (56 - q)) (hP : P (p_bd f q (p_ds (f (q + 3)) 7) 4) none) : tS fl (d + 5) 79 [tw_R 0, tw_R q] f P := by
  have lc := tx_ctl hq
  obtain ⟨a0, a1, a2, a3, a4⟩ := tx_ent (tx_c1 hq)
  obtain ⟨m0, m1, m2, m3, m4⟩ := tx_ent (tx_c6 hq)
  obtain ⟨i0, i1, i2, i3, i4, i5⟩ := tx_inb (tx_c11 hq)
  obtain ⟨d0, d1, d2, d3⟩ := tx_des (tx_c17 hq)
  have w0 := tx_dwr (tx_c21 hq)
  have hds := p_ds_le (f (q + 3)) 7
  refine tw_Sp_of rfl rfl (Nat.le_of_ble_eq_true rfl) (fun X h => ?_)
  refine zi_aload_n h rfl rfl ?_
  refine zg_ref h rfl (by first | rfl | assumption) (by decide) rfl rfl ?_
  refine zk_V h [] rfl (by first | rfl | assumption) rfl rfl (Nat.le_of_ble_eq_true rfl) (s_dirtiestStripe (tx_c1 hq) ?_)
  show X 3 _ [tw_I (nI (p_ds (f (q + 3)) 7))] _ _
  generalize p_ds (f (q + 3)) 7 = s at hP hds ⊢
  have loop : ∀ n i : Nat, i + n = 4 → X 24 [some (tw_R 0), some (tw_R q), some (tw_I (nI s)), some (tw_I (nI i))] [] tx_L0 (p_bd f q s i) := by
    intro n
    induction n with
    | zero =>
      intro i hi
      obtain rfl : i = 4 := by omega
      refine zi_iload_n h rfl rfl ?_
      refine zn_iconst h 4 rfl rfl ?_
      first | refine zn_icmpge h rfl (by omega) (by omega) (fun hc => ?_) (fun hc => ?_) | refine zc_icmpge h rfl (fun hc => ?_) (fun hc => ?_)
      · refine zi_vret h rfl ?_
        exact hP
      · omega
    | succ n ih =>
      intro i hi
      have ih := ih (i + 1) (by omega)
      refine zi_iload_n h rfl rfl ?_
      refine zn_iconst h 4 rfl rfl ?_
      first | refine zn_icmpge h rfl (by omega) (by omega) (fun hc => ?_) (fun hc => ?_) | refine zc_icmpge h rfl (fun hc => ?_) (fun hc => ?_)
      · omega
      · refine zi_aload_n h rfl rfl ?_
        refine zi_aload_n h rfl rfl ?_
        refine zi_iload_n h rfl rfl ?_
        refine zn_iconst h 4 rfl rfl ?_
        first | refine zn_imul h rfl ?_ | refine zi_imul h rfl ?_
        refine zi_iload_n h rfl rfl ?_
        first | refine zn_iadd h rfl ?_ | refine zi_iadd h rfl ?_
        refine zi_iload_n h rfl rfl ?_
        refine zk_V h [_, _, _] rfl (by first | rfl | assumption) rfl rfl (Nat.le_of_ble_eq_true rfl) (s_takeData hq (by omega) (by omega) ?_)
        first | refine zn_iinc h 1 rfl rfl rfl ?_ | refine zi_iinc h rfl rfl ?_
        refine zi_goto h rfl ?_
        exact ih
  refine zi_istore_n h rfl (Nat.le_of_ble_eq_true rfl) ?_
  refine zi_aload_n h rfl rfl ?_
  refine zi_dup h rfl rfl ?_
  refine zg_int h rfl (by first | rfl | assumption) (by decide) rfl ?_
  refine zn_iconst h 1 rfl rfl ?_
  refine zi_iload_n h rfl rfl ?_
  refine zi_ishl h rfl ?_
  refine zi_ior h rfl ?_
  refine zp_int h rfl (by first | rfl | assumption) (by decide) rfl ?_
  refine zi_aload_n h rfl rfl ?_
  show X 13 _ _ _ _
  refine zi_aload_n h rfl rfl ?_
  refine zn_iconst h 3 rfl rfl ?_
  refine zi_iload_n h rfl rfl ?_
  refine zn_iconst h 0 rfl rfl ?_
  refine zk_V h [_, _, _, _] rfl (by first | rfl | assumption) rfl rfl (Nat.le_of_ble_eq_true rfl) (s_sendIfPaired hq (by rw [tw_off (by omega)]; exact hn) (p_box_up (by omega) hb) ?_)
  refine zi_aload_n h rfl rfl ?_
  refine zg_ref h rfl (by first | rfl | assumption) (by decide) rfl rfl ?_
  refine zi_iload_n h rfl rfl ?_
  refine zk_V h [_] rfl (by first | rfl | assumption) rfl rfl (Nat.le_of_ble_eq_true rfl) (s_dbegin (tx_c17 hq) ?_)
  refine zn_iconst h 0 rfl rfl ?_
  refine zi_istore_n h rfl (Nat.le_of_ble_eq_true rfl) ?_
  exact loop 4 0 (by omega)
set_option maxRecDepth 20000 in
theorem s_beat {fl : Bool} {d : Nat} {f : tw_S} {P : tw_S → Option tw_A → Prop} {q : Nat} (hq : q = 17 ∨ q = 39) (hn : f q 0 = if q = 17 then 0 else 1) (hb : p_box f (56 - q)) (hP : P (p_beat f q) none) : tS fl (d + 4) 80 [tw_R 0, tw_R q] f P := by
  have lc := tx_ctl hq
  obtain ⟨a0, a1, a2, a3, a4⟩ := tx_ent (tx_c1 hq)
  obtain ⟨m0, m1, m2, m3, m4⟩ := tx_ent (tx_c6 hq)
  obtain ⟨i0, i1, i2, i3, i4, i5⟩ := tx_inb (tx_c11 hq)
  obtain ⟨d0, d1, d2, d3⟩ := tx_des (tx_c17 hq)
  have w0 := tx_dwr (tx_c21 hq)
  have e15 : p_sip f q 5 0 0 q 15 = f q 15 := p_sip_off hq (by omega)
  refine tw_Sp_of rfl rfl (Nat.le_of_ble_eq_true rfl) (fun X h => ?_)
  refine zi_aload_n h rfl rfl ?_
  refine zi_aload_n h rfl rfl ?_
  refine zn_iconst h 5 rfl rfl ?_
  refine zn_iconst h 0 rfl rfl ?_
  refine zn_iconst h 0 rfl rfl ?_
  refine zk_V h [_, _, _, _] rfl (by first | rfl | assumption) rfl rfl (Nat.le_of_ble_eq_true rfl) (s_sendIfPaired hq hn hb ?_)
  refine zi_aload_n h rfl rfl ?_
  refine zi_dup h rfl rfl ?_
  refine zg_int h rfl (by first | rfl | assumption) (by decide) rfl ?_
  refine zn_iconst h 1 rfl rfl ?_
  first | refine zn_iadd h rfl ?_ | refine zi_iadd h rfl ?_
  refine zp_int h rfl (by first | rfl | assumption) (by decide) rfl ?_
  refine zi_aload_n h rfl rfl ?_
  refine zg_int h rfl (by first | rfl | assumption) (by decide) rfl ?_
  refine zn_iconst h 4 rfl rfl ?_
  have e16 : tw_up (p_sip f q 5 0 0) q 15 (p_sip f q 5 0 0 q 15 + nI 1) q 15 = f q 15 + 1 := by rw [e15]; simp [tw_up, tw_n1]
  refine zc_icmplt h rfl (fun hc => ?_) (fun hc => ?_)
  · have hc : f q 15 + 1 < 4 := e16 ▸ hc
    rw [p_beat, if_pos hc, ← e15] at hP
    refine zi_vret h rfl ?_
    exact hP
  · have hc : ¬ f q 15 + 1 < 4 := e16 ▸ hc
    rw [p_beat, if_neg hc, ← e15] at hP
    refine zi_aload_n h rfl rfl ?_
    refine zn_iconst h 0 rfl rfl ?_
    refine zp_boo h rfl (by first | rfl | assumption) (by decide) rfl (by first | exact Or.inl rfl | exact Or.inr rfl | assumption) ?_
    refine zi_vret h rfl ?_
    exact hP
set_option maxRecDepth 20000 in
theorem s_doFirstWithoutWrites {fl : Bool} {d : Nat} {f : tw_S} {P : tw_S → Option tw_A → Prop} {q : Nat} {gn : Nat → Int32} (hq : q = 17 ∨ q = 39) (hn : f q 0 = if q = 17 then 0 else 1) (hb : p_box f (56 - q)) (hg : ∀ s, s < 8 → (gn s = 0 ↔ ¬ p_bit (f q 12 &&& (f q 14 ^^^ -1)) s)) (h6 : p_ft gn 8 0 < 8 → P (p_sip (tw_up f q 12 (f q 12 &&& (1 <<< (nI (p_ft gn 8 0) &&& 31) ^^^ -1))) q 4 (nI (p_ft gn 8 0)) 0) (some (tw_I 6))) (h7 : ¬ p_ft gn 8 0 < 8 → ¬ f q 9 = 0 → P (tw_up f q 9 0) (some (tw_I 7))) (h8 : ¬ p_ft gn 8 0 < 8 → f q 9 = 0 → ¬ f q 7 = 0 → P (p_beat f q) (some (tw_I 8))) (h9 : ¬ p_ft gn 8 0 < 8 → f q 9 = 0 → f q 7 = 0 → P f (some (tw_I 9))) : tS fl (d + 5) 81 [tw_R 0, tw_R q] f P := by
  have lc := tx_ctl hq
  obtain ⟨a0, a1, a2, a3, a4⟩ := tx_ent (tx_c1 hq)
  obtain ⟨m0, m1, m2, m3, m4⟩ := tx_ent (tx_c6 hq)
  obtain ⟨i0, i1, i2, i3, i4, i5⟩ := tx_inb (tx_c11 hq)
  obtain ⟨d0, d1, d2, d3⟩ := tx_des (tx_c17 hq)
  have w0 := tx_dwr (tx_c21 hq)
  refine tw_Sp_of rfl rfl (Nat.le_of_ble_eq_true rfl) (fun X h => ?_)
  refine zi_aload_n h rfl rfl ?_
  refine zg_int h rfl (by first | rfl | assumption) (by decide) rfl ?_
  refine zi_aload_n h rfl rfl ?_
  refine zg_int h rfl (by first | rfl | assumption) (by decide) rfl ?_
  refine zi_iconst h rfl ?_
  refine zi_ixor h rfl ?_
  refine zi_iand h rfl ?_
  refine zk_S h [_] rfl rfl rfl (Nat.le_of_ble_eq_true rfl) (s_lowestStripeIn hg (fun c1 => ?_) (fun c1 => ?_))
  · refine zi_istore_n h rfl (Nat.le_of_ble_eq_true rfl) ?_
    refine zi_iload_n h rfl rfl ?_
    refine zi_iconst h rfl ?_
    refine zc_icmpeq h rfl (fun hc => ?_) (fun hc => ?_)
    · exfalso
      have h9 : ¬ nI (p_ft gn 8 0) < 0 := nI_pos (by omega)
      rw [hc] at h9
      exact h9 (by decide)
    · refine zi_aload_n h rfl rfl ?_
      refine zi_dup h rfl rfl ?_
      refine zg_int h rfl (by first | rfl | assumption) (by decide) rfl ?_
      refine zn_iconst h 1 rfl rfl ?_
      refine zi_iload_n h rfl rfl ?_
      refine zi_ishl h rfl ?_
      refine zi_iconst h rfl ?_
      refine zi_ixor h rfl ?_
      refine zi_iand h rfl ?_
      refine zp_int h rfl (by first | rfl | assumption) (by decide) rfl ?_
      show X 22 _ _ _ _
      refine zi_aload_n h rfl rfl ?_
      refine zi_aload_n h rfl rfl ?_
      refine zn_iconst h 4 rfl rfl ?_
      refine zi_iload_n h rfl rfl ?_
      refine zn_iconst h 0 rfl rfl ?_
      refine zk_V h [_, _, _, _] rfl (by first | rfl | assumption) rfl rfl (Nat.le_of_ble_eq_true rfl) (s_sendIfPaired hq (by rw [tw_off (by omega)]; exact hn) (p_box_up (by omega) hb) ?_)
      refine zn_bipush h 6 rfl rfl ?_
      refine zi_iret h rfl ?_
      exact h6 c1
  · refine zi_istore_n h rfl (Nat.le_of_ble_eq_true rfl) ?_
    refine zi_iload_n h rfl rfl ?_
    refine zi_iconst h rfl ?_
    refine zc_icmpeq h rfl (fun hc => ?_) (fun hc => ?_)
    · refine zi_aload_n h rfl rfl ?_
      refine zg_boo h rfl (by first | rfl | assumption) (by decide) rfl ?_
      first | refine zb_ifeq h rfl (fun hc => ?_) (fun hc => ?_) | refine zc_ifeq h rfl (fun hc => ?_) (fun hc => ?_)
      · have c9 := hc
        refine zi_aload_n h rfl rfl ?_
        refine zg_boo h rfl (by first | rfl | assumption) (by decide) rfl ?_
        first | refine zb_ifeq h rfl (fun hc => ?_) (fun hc => ?_) | refine zc_ifeq h rfl (fun hc => ?_) (fun hc => ?_)
        · refine zn_bipush h 9 rfl rfl ?_
          refine zi_iret h rfl ?_
          exact h9 c1 c9 hc
        · refine zi_aload_n h rfl rfl ?_
          refine zi_aload_n h rfl rfl ?_
          refine zk_V h [_] rfl (by first | rfl | assumption) rfl rfl (Nat.le_of_ble_eq_true rfl) (s_beat hq hn hb ?_)
          refine zn_bipush h 8 rfl rfl ?_
          refine zi_iret h rfl ?_
          exact h8 c1 c9 hc
      · refine zi_aload_n h rfl rfl ?_
        refine zn_iconst h 0 rfl rfl ?_
        refine zp_boo h rfl (by first | rfl | assumption) (by decide) rfl (by first | exact Or.inl rfl | exact Or.inr rfl | assumption) ?_
        refine zn_bipush h 7 rfl rfl ?_
        refine zi_iret h rfl ?_
        exact h7 c1 hc
    · exact absurd rfl hc
set_option maxRecDepth 20000 in
theorem s_doFirst {fl : Bool} {d : Nat} {f : tw_S} {P : tw_S → Option tw_A → Prop} {q lm tm : Nat} {gr gn : Nat → Int32} (hq : q = 17 ∨ q = 39) (hn : f q 0 = if q = 17 then 0 else 1) (hb : p_box f (56 - q)) (hl : f 12 4 = nI lm) (hl2 : lm ≤ 20) (ht : f 6 5 = nI tm) (ht2 : tm ≤ 200)
    (hgr : ∀ s, s < 8 → (gr s = 0 ↔ ¬ p_bit (f q 14) s)) (hgn : ∀ s, s < 8 → (gn s = 0 ↔ ¬ p_bit (f q 12 &&& (f q 14 ^^^ -1)) s))
    (hw : ¬ f (q + 21) 0 = 0 → (∃ i s, f (q + 21) 1 = nI i ∧ i < 5 ∧ f (q + 21) 2 = nI s ∧ s < 8 ∧ (f 2 i = 0 → P (tw_up f (q + 21) 0 0) (some (tw_I 1))) ∧ (¬ f 2 i = 0 → f 3 i = f (q + 21) 4 → P (tw_up (tw_up (tw_up f (q + 21) 0 0) 4 (i * 8 + s) (f (q + 21) 3)) 5 (i * 8 + s) 0) (some (tw_I 1))) ∧ (¬ f 2 i = 0 → ¬ f 3 i = f (q + 21) 4 → P (p_down (tw_up f (q + 21) 0 0) q) (some (tw_I 1)))))
    (htk : f (q + 21) 0 = 0 → ¬ f q 8 = 0 → (∃ i n g, f q 17 = nI i ∧ i + n = 5 ∧ f q 16 = nI g ∧ (p_ft (f 2) n i < 5 → P (tw_up (tw_up (tw_up f 3 (p_ft (f 2) n i) (f q 10)) q 18 (f q 18 + 1)) q 17 (nI (p_ft (f 2) n i + 1))) (some (tw_I 2))) ∧ (¬ p_ft (f 2) n i < 5 → ¬ 4 ≤ f q 18 → P (p_down f q) (some (tw_I 2))) ∧ (¬ p_ft (f 2) n i < 5 → 4 ≤ f q 18 → P (fun c x => if c = q ∧ x = 12 then f q 12 ||| f q 13 else if c = q ∧ x = 14 then f q 14 ||| f q 13 else if c = q ∧ (x = 13 ∨ x = 8) then 0 else p_tk f q g 32 c x) (some (tw_I 2)))))
    (hr1 : f (q + 21) 0 = 0 → f q 8 = 0 → p_ft gr 8 0 < 8 → p_om (f 5) 5 (p_ft gr 8 0) 5 → P (tw_up f q 14 (f q 14 &&& (1 <<< (nI (p_ft gr 8 0) &&& 31) ^^^ -1))) (some (tw_I 3)))
    (hr2 : f (q + 21) 0 = 0 → f q 8 = 0 → p_ft gr 8 0 < 8 → ¬ p_om (f 5) 5 (p_ft gr 8 0) 5 → P (p_wr (tw_up f q 14 (f q 14 &&& (1 <<< (nI (p_ft gr 8 0) &&& 31) ^^^ -1))) q (nI (p_pd (p_ft gr 8 0))) (nI (p_ft gr 8 0)) (p_xor (f 4) (p_pd (p_ft gr 8 0)) (p_ft gr 8 0) 5) (f q 10)) (some (tw_I 3)))
    (hds : f (q + 21) 0 = 0 → f q 8 = 0 → ¬ p_ft gr 8 0 < 8 → ¬ f (q + 17) 3 = -1 → (∃ s i n, f (q + 17) 3 = nI s ∧ s < 8 ∧ f (q + 17) 4 = nI i ∧ i + n = 4 ∧ (p_ft (p_can f q s) n i < 4 → P (p_wr (tw_up f (q + 17) 4 (nI (p_ft (p_can f q s) n i + 1))) q (nI (p_dd s (p_ft (p_can f q s) n i))) (nI s) (f (q + 19) (p_ft (p_can f q s) n i)) (f q 10)) (some (tw_I 4))) ∧ (¬ p_ft (p_can f q s) n i < 4 → (f (q + 17) 6 = 0 ∧ f (q + 17) 5 = 0 ∧ ¬ f 2 (p_pd s) = 0) → P (p_wr (tw_up (tw_up f (q + 17) 4 (nI 4)) (q + 17) 6 1) q (nI (p_pd s)) (nI s) (p_x4 (f (q + 19)) 4) (f q 10)) (some (tw_I 4))) ∧ (¬ p_ft (p_can f q s) n i < 4 → ¬ (f (q + 17) 6 = 0 ∧ f (q + 17) 5 = 0 ∧ ¬ f 2 (p_pd s) = 0) → P (tw_up (p_fd (tw_up f (q + 17) 4 (nI 4)) q s 4) (q + 17) 3 (-1)) (some (tw_I 4)))))
    (hbd : f (q + 21) 0 = 0 → f q 8 = 0 → ¬ p_ft gr 8 0 < 8 → f (q + 17) 3 = -1 → (¬ f q 9 = 0 ∨ f q 7 = 0) → 0 < p_cd (f (q + 3)) 8 → P (p_bd f q (p_ds (f (q + 3)) 7) 4) (some (tw_I 5)))
    (h6 : f (q + 21) 0 = 0 → f q 8 = 0 → ¬ p_ft gr 8 0 < 8 → f (q + 17) 3 = -1 → ¬ ((¬ f q 9 = 0 ∨ f q 7 = 0) ∧ 0 < p_cd (f (q + 3)) 8) → p_ft gn 8 0 < 8 → P (p_sip (tw_up f q 12 (f q 12 &&& (1 <<< (nI (p_ft gn 8 0) &&& 31) ^^^ -1))) q 4 (nI (p_ft gn 8 0)) 0) (some (tw_I 6)))
    (h7 : f (q + 21) 0 = 0 → f q 8 = 0 → ¬ p_ft gr 8 0 < 8 → f (q + 17) 3 = -1 → ¬ ((¬ f q 9 = 0 ∨ f q 7 = 0) ∧ 0 < p_cd (f (q + 3)) 8) → ¬ p_ft gn 8 0 < 8 → ¬ f q 9 = 0 → P (tw_up f q 9 0) (some (tw_I 7)))
    (h8 : f (q + 21) 0 = 0 → f q 8 = 0 → ¬ p_ft gr 8 0 < 8 → f (q + 17) 3 = -1 → ¬ ((¬ f q 9 = 0 ∨ f q 7 = 0) ∧ 0 < p_cd (f (q + 3)) 8) → ¬ p_ft gn 8 0 < 8 → f q 9 = 0 → ¬ f q 7 = 0 → P (p_beat f q) (some (tw_I 8)))
    (h9 : f (q + 21) 0 = 0 → f q 8 = 0 → ¬ p_ft gr 8 0 < 8 → f (q + 17) 3 = -1 → ¬ ((¬ f q 9 = 0 ∨ f q 7 = 0) ∧ 0 < p_cd (f (q + 3)) 8) → ¬ p_ft gn 8 0 < 8 → f q 9 = 0 → f q 7 = 0 → P f (some (tw_I 9))) : tS fl (d + 7) 82 [tw_R 0, tw_R q] f P := by
  have lc := tx_ctl hq
  obtain ⟨a0, a1, a2, a3, a4⟩ := tx_ent (tx_c1 hq)
  obtain ⟨m0, m1, m2, m3, m4⟩ := tx_ent (tx_c6 hq)
  obtain ⟨i0, i1, i2, i3, i4, i5⟩ := tx_inb (tx_c11 hq)
  obtain ⟨d0, d1, d2, d3⟩ := tx_des (tx_c17 hq)
  have w0 := tx_dwr (tx_c21 hq)
  have hcd := p_cd_le (f (q + 3)) 8
  refine tw_Sp_of rfl rfl (Nat.le_of_ble_eq_true rfl) (fun X h => ?_)
  refine zi_aload_n h rfl rfl ?_
  refine zg_ref h rfl (by first | rfl | assumption) (by decide) rfl rfl ?_
  refine zg_boo h rfl (by first | rfl | assumption) (by decide) rfl ?_
  first | refine zb_ifeq h rfl (fun hc => ?_) (fun hc => ?_) | refine zc_ifeq h rfl (fun hc => ?_) (fun hc => ?_)
  · have c0 := hc
    refine zi_aload_n h rfl rfl ?_
    refine zg_boo h rfl (by first | rfl | assumption) (by decide) rfl ?_
    first | refine zb_ifeq h rfl (fun hc => ?_) (fun hc => ?_) | refine zc_ifeq h rfl (fun hc => ?_) (fun hc => ?_)
    · have c8 := hc
      refine zi_aload_n h rfl rfl ?_
      refine zg_int h rfl (by first | rfl | assumption) (by decide) rfl ?_
      refine zk_S h [_] rfl rfl rfl (Nat.le_of_ble_eq_true rfl) (s_lowestStripeIn hgr (fun c1 => ?_) (fun c1 => ?_))
      · refine zi_iconst h rfl ?_
        refine zc_icmpeq h rfl (fun hc => ?_) (fun hc => ?_)
        · exfalso
          have h9 : ¬ nI (p_ft gr 8 0) < 0 := nI_pos (by omega)
          rw [hc] at h9
          exact h9 (by decide)
        · refine zi_aload_n h rfl rfl ?_
          refine zi_aload_n h rfl rfl ?_
          refine zi_aload_n h rfl rfl ?_
          refine zg_int h rfl (by first | rfl | assumption) (by decide) rfl ?_
          refine zk_S h [_] rfl rfl rfl (Nat.le_of_ble_eq_true rfl) (s_lowestStripeIn hgr (fun c1 => ?_) (fun c2 => absurd c1 c2))
          refine zk_V h [_, _] rfl (by first | rfl | assumption) rfl rfl (Nat.le_of_ble_eq_true rfl) (s_repair hq c1 (fun c2 => ?_) (fun c2 => ?_))
          · refine zn_iconst h 3 rfl rfl ?_
            refine zi_iret h rfl ?_
            exact hr1 c0 c8 c1 c2
          · refine zn_iconst h 3 rfl rfl ?_
            refine zi_iret h rfl ?_
            exact hr2 c0 c8 c1 c2
      · refine zi_iconst h rfl ?_
        refine zc_icmpeq h rfl (fun hc => ?_) (fun hc => ?_)
        · refine zi_aload_n h rfl rfl ?_
          refine zg_ref h rfl (by first | rfl | assumption) (by decide) rfl rfl ?_
          refine zg_int h rfl (by first | rfl | assumption) (by decide) rfl ?_
          refine zi_iconst h rfl ?_
          refine zc_icmpeq h rfl (fun hc => ?_) (fun hc => ?_)
          · have c3 := hc
            have rest : ¬ ((¬ f q 9 = 0 ∨ f q 7 = 0) ∧ 0 < p_cd (f (q + 3)) 8) → X 55 [some (tw_R 0), some (tw_R q)] [] tx_L0 f := by
              intro cn
              refine zi_aload_n h rfl rfl ?_
              refine zi_aload_n h rfl rfl ?_
              refine zk_V h [_] rfl (by first | rfl | assumption) rfl rfl (Nat.le_of_ble_eq_true rfl) (s_doFirstWithoutWrites hq hn hb hgn (fun g1 => ?_) (fun g1 g2 => ?_) (fun g1 g2 g3 => ?_) (fun g1 g2 g3 => ?_))
              · refine zi_iret h rfl ?_
                exact h6 c0 c8 c1 c3 cn g1
              · refine zi_iret h rfl ?_
                exact h7 c0 c8 c1 c3 cn g1 g2
              · refine zi_iret h rfl ?_
                exact h8 c0 c8 c1 c3 cn g1 g2 g3
              · refine zi_iret h rfl ?_
                exact h9 c0 c8 c1 c3 cn g1 g2 g3
            have flush : (¬ f q 9 = 0 ∨ f q 7 = 0) → X 46 [some (tw_R 0), some (tw_R q)] [] tx_L0 f := by
              intro cf
              refine zi_aload_n h rfl rfl ?_
              refine zg_ref h rfl (by first | rfl | assumption) (by decide) rfl rfl ?_
              refine zk_V h [] rfl (by first | rfl | assumption) rfl rfl (Nat.le_of_ble_eq_true rfl) (s_countDirty (tx_c1 hq) ?_)
              refine zc_ifle h rfl (fun hc => ?_) (fun hc => ?_)
              · have c4 : p_cd (f (q + 3)) 8 ≤ 0 := (nI_leI (a := p_cd (f (q + 3)) 8) (b := 0) (by omega) (by omega)).mp hc
                exact rest (fun u => by omega)
              · have c4 : ¬ p_cd (f (q + 3)) 8 ≤ 0 := fun g => hc ((nI_leI (a := p_cd (f (q + 3)) 8) (b := 0) (by omega) (by omega)).mpr g)
                refine zi_aload_n h rfl rfl ?_
                refine zi_aload_n h rfl rfl ?_
                refine zk_V h [_] rfl (by first | rfl | assumption) rfl rfl (Nat.le_of_ble_eq_true rfl) (s_beginDestaging hq hn hb ?_)
                refine zn_iconst h 5 rfl rfl ?_
                refine zi_iret h rfl ?_
                exact hbd c0 c8 c1 c3 cf (by omega)
            refine zi_aload_n h rfl rfl ?_
            refine zg_boo h rfl (by first | rfl | assumption) (by decide) rfl ?_
            first | refine zb_ifne h rfl (fun hc => ?_) (fun hc => ?_) | refine zc_ifne h rfl (fun hc => ?_) (fun hc => ?_)
            · exact flush (Or.inl hc)
            · have c9 := hc
              refine zi_aload_n h rfl rfl ?_
              refine zg_boo h rfl (by first | rfl | assumption) (by decide) rfl ?_
              first | refine zb_ifne h rfl (fun hc => ?_) (fun hc => ?_) | refine zc_ifne h rfl (fun hc => ?_) (fun hc => ?_)
              · exact rest (fun u => u.1.elim (fun v => v c9) hc)
              · exact flush (Or.inr hc)
          · obtain ⟨s, i, n, k1, k2, k3, k4, k5, k6, k7⟩ := hds c0 c8 c1 hc
            refine zi_aload_n h rfl rfl ?_
            refine zi_aload_n h rfl rfl ?_
            refine zk_V h [_] rfl (by first | rfl | assumption) rfl rfl (Nat.le_of_ble_eq_true rfl) (s_goOnDestaging hq hn hb ht ht2 k1 k2 k3 k4 (fun g1 => ?_) (fun g1 g2 => ?_) (fun g1 g2 => ?_))
            · refine zn_iconst h 4 rfl rfl ?_
              refine zi_iret h rfl ?_
              exact k5 g1
            · refine zn_iconst h 4 rfl rfl ?_
              refine zi_iret h rfl ?_
              exact k6 g1 g2
            · refine zn_iconst h 4 rfl rfl ?_
              refine zi_iret h rfl ?_
              exact k7 g1 g2
        · exact absurd rfl hc
    · obtain ⟨i, n, g, k1, k2, k3, k4, k5, k6⟩ := htk c0 hc
      refine zi_aload_n h rfl rfl ?_
      refine zi_aload_n h rfl rfl ?_
      refine zk_V h [_] rfl (by first | rfl | assumption) rfl rfl (Nat.le_of_ble_eq_true rfl) (s_goOnTakingOver hq hl hl2 ht ht2 k1 k2 k3 (fun g1 => ?_) (fun g1 g2 => ?_) (fun g1 g2 => ?_))
      · refine zn_iconst h 2 rfl rfl ?_
        refine zi_iret h rfl ?_
        exact k4 g1
      · refine zn_iconst h 2 rfl rfl ?_
        refine zi_iret h rfl ?_
        exact k5 g1 g2
      · refine zn_iconst h 2 rfl rfl ?_
        refine zi_iret h rfl ?_
        exact k6 g1 g2
  · obtain ⟨i, s, k1, k2, k3, k4, k5, k6, k7⟩ := hw hc
    refine zi_aload_n h rfl rfl ?_
    refine zi_aload_n h rfl rfl ?_
    refine zk_V h [_] rfl (by first | rfl | assumption) rfl rfl (Nat.le_of_ble_eq_true rfl) (s_land hq hl hl2 ht ht2 k1 k2 k3 k4 (fun g1 => ?_) (fun g1 g2 => ?_) (fun g1 g2 => ?_))
    · refine zn_iconst h 1 rfl rfl ?_
      refine zi_iret h rfl ?_
      exact k5 g1
    · refine zn_iconst h 1 rfl rfl ?_
      refine zi_iret h rfl ?_
      exact k6 g1 g2
    · refine zn_iconst h 1 rfl rfl ?_
      refine zi_iret h rfl ?_
      exact k7 g1 g2
end
section
/-! TwinArray's public methods: the simple ones. -/
set_option maxRecDepth 20000 in
theorem s_num {fl : Bool} {d : Nat} {f : tw_S} {P : tw_S → Option tw_A → Prop} {c q : Nat} (hc : c < 2) (hqc : q = 17 + 22 * c) (hP : P f (some (tw_R q))) : tS fl (d + 1) 64 [tw_R 0, tw_I (nI c)] f P := by
  subst hqc
  exact s_numbered hc hP
set_option maxRecDepth 20000 in
theorem s_ctl1 {fl : Bool} {d : Nat} {f : tw_S} {P : tw_S → Option tw_A → Prop} {c : Nat} (hc : c < 2) (hP : P f (some (tw_I 1))) : tS fl (d + 1) 62 [tw_I (nI c)] f P := s_isController (fun _ => hP) (fun h => absurd (show nI c = 0 ∨ nI c = 1 by rcases (show c = 0 ∨ c = 1 by omega) with rfl | rfl <;> simp [tw_n0, tw_n1]) h)
set_option maxRecDepth 20000 in
theorem s_ctl0 {fl : Bool} {d : Nat} {f : tw_S} {P : tw_S → Option tw_A → Prop} {x : Int32} (hx : ¬ (x = 0 ∨ x = 1)) (hP : P f (some (tw_I 0))) : tS fl (d + 1) 62 [tw_I x] f P := s_isController (fun h => absurd h hx) (fun _ => hP)
set_option maxRecDepth 20000 in
theorem s_cut {fl : Bool} {d : Nat} {f : tw_S} {P : tw_S → Option tw_A → Prop} {x : Int32} (hx : x = 0 ∨ x = 1) (hP : P (tw_up f 0 5 x) none) : tS fl (d + 1) 86 [tw_R 0, tw_I x] f P := by
  refine tw_Sp_of rfl rfl (Nat.le_of_ble_eq_true rfl) (fun X h => ?_)
  refine zi_aload_n h rfl rfl ?_
  refine zi_iload_n h rfl rfl ?_
  refine zp_boo h rfl (by first | rfl | assumption) (by decide) rfl (by first | exact Or.inl rfl | exact Or.inr rfl | assumption) ?_
  refine zi_vret h rfl ?_
  exact hP
set_option maxRecDepth 20000 in
theorem s_lates {fl : Bool} {d : Nat} {f : tw_S} {P : tw_S → Option tw_A → Prop} (hP : P f (some (tw_I (f 12 4)))) : tS fl (d + 1) 101 [tw_R 0] f P := by
  refine tw_Sp_of rfl rfl (Nat.le_of_ble_eq_true rfl) (fun X h => ?_)
  refine zi_aload_n h rfl rfl ?_
  refine zg_ref h rfl (by first | rfl | assumption) (by decide) rfl rfl ?_
  refine zg_int h rfl (by first | rfl | assumption) (by decide) rfl ?_
  refine zi_iret h rfl ?_
  exact hP
set_option maxRecDepth 20000 in
theorem s_crash_x {fl : Bool} {d : Nat} {f : tw_S} {P : tw_S → Option tw_A → Prop} {x : Int32} (hx : ¬ (x = 0 ∨ x = 1)) (hP : P f (some (tw_I 0))) : tS fl (d + 5) 87 [tw_R 0, tw_I x] f P := by
  refine tw_Sp_of rfl rfl (Nat.le_of_ble_eq_true rfl) (fun X h => ?_)
  refine zi_iload_n h rfl rfl ?_
  refine zk_S h [_] rfl rfl rfl (Nat.le_of_ble_eq_true rfl) (s_ctl0 hx ?_)
  first | refine zb_ifeq h rfl (fun hc => ?_) (fun hc => ?_) | refine zc_ifeq h rfl (fun hc => ?_) (fun hc => ?_)
  · refine zn_iconst h 0 rfl rfl ?_
    refine zi_zret h rfl (by first | exact Or.inl rfl | exact Or.inr rfl | exact tw_nz_01 _ | assumption) ?_
    exact hP
  · exact absurd rfl hc
set_option maxRecDepth 20000 in
theorem s_crash_c {fl : Bool} {d : Nat} {f : tw_S} {P : tw_S → Option tw_A → Prop} {c q lm tm : Nat} (hc : c < 2) (hqc : q = 17 + 22 * c) (hl : f 12 4 = nI lm) (hl2 : lm ≤ 20) (ht : f 6 5 = nI tm) (ht2 : tm ≤ 200) (h1 : f q 6 = 0 → P f (some (tw_I 0))) (h2 : ¬ f q 6 = 0 → P (p_down f q) (some (tw_I 1))) : tS fl (d + 5) 87 [tw_R 0, tw_I (nI c)] f P := by
  have hcc := hc
  have hq : q = 17 ∨ q = 39 := by omega
  have lc := tx_ctl hq
  obtain ⟨a0, a1, a2, a3, a4⟩ := tx_ent (tx_c1 hq)
  obtain ⟨m0, m1, m2, m3, m4⟩ := tx_ent (tx_c6 hq)
  obtain ⟨i0, i1, i2, i3, i4, i5⟩ := tx_inb (tx_c11 hq)
  obtain ⟨d0, d1, d2, d3⟩ := tx_des (tx_c17 hq)
  have w0 := tx_dwr (tx_c21 hq)
  refine tw_Sp_of rfl rfl (Nat.le_of_ble_eq_true rfl) (fun X h => ?_)
  refine zi_iload_n h rfl rfl ?_
  refine zk_S h [_] rfl rfl rfl (Nat.le_of_ble_eq_true rfl) (s_ctl1 hcc ?_)
  first | refine zb_ifeq h rfl (fun hc => ?_) (fun hc => ?_) | refine zc_ifeq h rfl (fun hc => ?_) (fun hc => ?_)
  · exact absurd hc (by decide)
  · refine zi_aload_n h rfl rfl ?_
    refine zi_iload_n h rfl rfl ?_
    refine zk_V h [_] rfl (by first | rfl | assumption) rfl rfl (Nat.le_of_ble_eq_true rfl) (s_num hcc hqc ?_)
    refine zg_boo h rfl (by first | rfl | assumption) (by decide) rfl ?_
    first | refine zb_ifne h rfl (fun hc => ?_) (fun hc => ?_) | refine zc_ifne h rfl (fun hc => ?_) (fun hc => ?_)
    · refine zi_aload_n h rfl rfl ?_
      refine zi_aload_n h rfl rfl ?_
      refine zi_iload_n h rfl rfl ?_
      refine zk_V h [_] rfl (by first | rfl | assumption) rfl rfl (Nat.le_of_ble_eq_true rfl) (s_num hcc hqc ?_)
      refine zk_V h [_] rfl (by first | rfl | assumption) rfl rfl (Nat.le_of_ble_eq_true rfl) (s_goDown hq hl hl2 ht ht2 ?_)
      refine zn_iconst h 1 rfl rfl ?_
      refine zi_zret h rfl (by first | exact Or.inl rfl | exact Or.inr rfl | exact tw_nz_01 _ | assumption) ?_
      exact h2 hc
    · refine zn_iconst h 0 rfl rfl ?_
      refine zi_zret h rfl (by first | exact Or.inl rfl | exact Or.inr rfl | exact tw_nz_01 _ | assumption) ?_
      exact h1 hc
set_option maxRecDepth 20000 in
theorem s_restart_x {fl : Bool} {d : Nat} {f : tw_S} {P : tw_S → Option tw_A → Prop} {x : Int32} (hx : ¬ (x = 0 ∨ x = 1)) (hP : P f (some (tw_I 0))) : tS fl (d + 2) 88 [tw_R 0, tw_I x] f P := by
  refine tw_Sp_of rfl rfl (Nat.le_of_ble_eq_true rfl) (fun X h => ?_)
  refine zi_iload_n h rfl rfl ?_
  refine zk_S h [_] rfl rfl rfl (Nat.le_of_ble_eq_true rfl) (s_ctl0 hx ?_)
  first | refine zb_ifeq h rfl (fun hc => ?_) (fun hc => ?_) | refine zc_ifeq h rfl (fun hc => ?_) (fun hc => ?_)
  · refine zn_iconst h 0 rfl rfl ?_
    refine zi_zret h rfl (by first | exact Or.inl rfl | exact Or.inr rfl | exact tw_nz_01 _ | assumption) ?_
    exact hP
  · exact absurd rfl hc
set_option maxRecDepth 20000 in
theorem s_restart_c {fl : Bool} {d : Nat} {f : tw_S} {P : tw_S → Option tw_A → Prop} {c q : Nat} (hc : c < 2) (hqc : q = 17 + 22 * c) (h1 : ¬ f q 6 = 0 → P f (some (tw_I 0))) (h2 : f q 6 = 0 → P (tw_up (tw_up f q 6 1) (q + 11) 6 0) (some (tw_I 1))) : tS fl (d + 2) 88 [tw_R 0, tw_I (nI c)] f P := by
  have hcc := hc
  have hq : q = 17 ∨ q = 39 := by omega
  have lc := tx_ctl hq
  obtain ⟨a0, a1, a2, a3, a4⟩ := tx_ent (tx_c1 hq)
  obtain ⟨m0, m1, m2, m3, m4⟩ := tx_ent (tx_c6 hq)
  obtain ⟨i0, i1, i2, i3, i4, i5⟩ := tx_inb (tx_c11 hq)
  obtain ⟨d0, d1, d2, d3⟩ := tx_des (tx_c17 hq)
  have w0 := tx_dwr (tx_c21 hq)
  refine tw_Sp_of rfl rfl (Nat.le_of_ble_eq_true rfl) (fun X h => ?_)
  refine zi_iload_n h rfl rfl ?_
  refine zk_S h [_] rfl rfl rfl (Nat.le_of_ble_eq_true rfl) (s_ctl1 hcc ?_)
  first | refine zb_ifeq h rfl (fun hc => ?_) (fun hc => ?_) | refine zc_ifeq h rfl (fun hc => ?_) (fun hc => ?_)
  · exact absurd hc (by decide)
  · refine zi_aload_n h rfl rfl ?_
    refine zi_iload_n h rfl rfl ?_
    refine zk_V h [_] rfl (by first | rfl | assumption) rfl rfl (Nat.le_of_ble_eq_true rfl) (s_num hcc hqc ?_)
    refine zg_boo h rfl (by first | rfl | assumption) (by decide) rfl ?_
    first | refine zb_ifeq h rfl (fun hc => ?_) (fun hc => ?_) | refine zc_ifeq h rfl (fun hc => ?_) (fun hc => ?_)
    · refine zi_aload_n h rfl rfl ?_
      refine zi_iload_n h rfl rfl ?_
      refine zk_V h [_] rfl (by first | rfl | assumption) rfl rfl (Nat.le_of_ble_eq_true rfl) (s_num hcc hqc ?_)
      refine zi_astore_n h rfl (Nat.le_of_ble_eq_true rfl) ?_
      refine zi_aload_n h rfl rfl ?_
      refine zn_iconst h 1 rfl rfl ?_
      refine zp_boo h rfl (by first | rfl | assumption) (by decide) rfl (by first | exact Or.inl rfl | exact Or.inr rfl | assumption) ?_
      refine zi_aload_n h rfl rfl ?_
      refine zg_ref h rfl (by first | rfl | assumption) (by decide) rfl rfl ?_
      refine zk_V h [] rfl (by first | rfl | assumption) rfl rfl (Nat.le_of_ble_eq_true rfl) (s_empty (tx_c11 hq) ?_)
      refine zn_iconst h 1 rfl rfl ?_
      refine zi_zret h rfl (by first | exact Or.inl rfl | exact Or.inr rfl | exact tw_nz_01 _ | assumption) ?_
      exact h2 hc
    · refine zn_iconst h 0 rfl rfl ?_
      refine zi_zret h rfl (by first | exact Or.inl rfl | exact Or.inr rfl | exact tw_nz_01 _ | assumption) ?_
      exact h1 hc
set_option maxRecDepth 20000 in
theorem s_takeOver_x {fl : Bool} {d : Nat} {f : tw_S} {P : tw_S → Option tw_A → Prop} {x : Int32} (hx : ¬ (x = 0 ∨ x = 1)) (hP : P f (some (tw_I 0))) : tS fl (d + 3) 92 [tw_R 0, tw_I x] f P := by
  refine tw_Sp_of rfl rfl (Nat.le_of_ble_eq_true rfl) (fun X h => ?_)
  refine zi_iload_n h rfl rfl ?_
  refine zk_S h [_] rfl rfl rfl (Nat.le_of_ble_eq_true rfl) (s_ctl0 hx ?_)
  first | refine zb_ifne h rfl (fun hc => ?_) (fun hc => ?_) | refine zc_ifne h rfl (fun hc => ?_) (fun hc => ?_)
  · exact absurd rfl hc
  · refine zn_iconst h 0 rfl rfl ?_
    refine zi_zret h rfl (by first | exact Or.inl rfl | exact Or.inr rfl | exact tw_nz_01 _ | assumption) ?_
    exact hP
set_option maxRecDepth 20000 in
theorem s_takeOver_c {fl : Bool} {d : Nat} {f : tw_S} {P : tw_S → Option tw_A → Prop} {c q : Nat} (hc : c < 2) (hqc : q = 17 + 22 * c) (h1 : ¬ (¬ f q 6 = 0 ∧ f q 8 = 0) → P f (some (tw_I 0))) (h2 : (¬ f q 6 = 0 ∧ f q 8 = 0) → P (tw_up (tw_up (tw_up (tw_up (tw_up f q 7 0) q 10 ((if f q 10 < p_great (f 2) (f 3) 5 then p_great (f 2) (f 3) 5 else f q 10) + 1)) q 8 1) q 17 0) q 18 0) (some (tw_I 1))) : tS fl (d + 3) 92 [tw_R 0, tw_I (nI c)] f P := by
  have hcc := hc
  have hq : q = 17 ∨ q = 39 := by omega
  have lc := tx_ctl hq
  obtain ⟨a0, a1, a2, a3, a4⟩ := tx_ent (tx_c1 hq)
  obtain ⟨m0, m1, m2, m3, m4⟩ := tx_ent (tx_c6 hq)
  obtain ⟨i0, i1, i2, i3, i4, i5⟩ := tx_inb (tx_c11 hq)
  obtain ⟨d0, d1, d2, d3⟩ := tx_des (tx_c17 hq)
  have w0 := tx_dwr (tx_c21 hq)
  have e2 : tw_up f q 7 (nI 0) 2 = f 2 := by funext j; exact tw_off (by omega)
  have e3 : tw_up f q 7 (nI 0) 3 = f 3 := by funext j; exact tw_off (by omega)
  have e10 : tw_up f q 7 (nI 0) q 10 = f q 10 := tw_off (by omega)
  refine tw_Sp_of rfl rfl (Nat.le_of_ble_eq_true rfl) (fun X h => ?_)
  refine zi_iload_n h rfl rfl ?_
  refine zk_S h [_] rfl rfl rfl (Nat.le_of_ble_eq_true rfl) (s_ctl1 hcc ?_)
  first | refine zb_ifne h rfl (fun hc => ?_) (fun hc => ?_) | refine zc_ifne h rfl (fun hc => ?_) (fun hc => ?_)
  · refine zi_aload_n h rfl rfl ?_
    refine zi_iload_n h rfl rfl ?_
    refine zk_V h [_] rfl (by first | rfl | assumption) rfl rfl (Nat.le_of_ble_eq_true rfl) (s_num hcc hqc ?_)
    refine zi_astore_n h rfl (Nat.le_of_ble_eq_true rfl) ?_
    refine zi_aload_n h rfl rfl ?_
    refine zg_boo h rfl (by first | rfl | assumption) (by decide) rfl ?_
    first | refine zb_ifeq h rfl (fun hc => ?_) (fun hc => ?_) | refine zc_ifeq h rfl (fun hc => ?_) (fun hc => ?_)
    · refine zn_iconst h 0 rfl rfl ?_
      refine zi_zret h rfl (by first | exact Or.inl rfl | exact Or.inr rfl | exact tw_nz_01 _ | assumption) ?_
      exact h1 (fun u => u.1 hc)
    · have c6 := hc
      refine zi_aload_n h rfl rfl ?_
      refine zg_boo h rfl (by first | rfl | assumption) (by decide) rfl ?_
      first | refine zb_ifeq h rfl (fun hc => ?_) (fun hc => ?_) | refine zc_ifeq h rfl (fun hc => ?_) (fun hc => ?_)
      · have h2 := h2 ⟨c6, hc⟩
        refine zi_aload_n h rfl rfl ?_
        refine zn_iconst h 0 rfl rfl ?_
        refine zp_boo h rfl (by first | rfl | assumption) (by decide) rfl (by first | exact Or.inl rfl | exact Or.inr rfl | assumption) ?_
        refine zi_aload_n h rfl rfl ?_
        refine zi_aload_n h rfl rfl ?_
        refine zg_int h rfl (by first | rfl | assumption) (by decide) rfl ?_
        refine zi_aload_n h rfl rfl ?_
        refine zg_ref h rfl (by first | rfl | assumption) (by decide) rfl rfl ?_
        refine zk_V h [] rfl (by first | rfl | assumption) rfl rfl (Nat.le_of_ble_eq_true rfl) (s_greatestKey ?_)
        refine zi_max h rfl (Nat.le_of_ble_eq_true rfl) (Nat.le_refl _) (Nat.le_refl _) ?_
        refine zn_iconst h 1 rfl rfl ?_
        first | refine zn_iadd h rfl ?_ | refine zi_iadd h rfl ?_
        refine zp_int h rfl (by first | rfl | assumption) (by decide) rfl ?_
        refine zi_aload_n h rfl rfl ?_
        refine zn_iconst h 1 rfl rfl ?_
        refine zp_boo h rfl (by first | rfl | assumption) (by decide) rfl (by first | exact Or.inl rfl | exact Or.inr rfl | assumption) ?_
        refine zi_aload_n h rfl rfl ?_
        refine zn_iconst h 0 rfl rfl ?_
        refine zp_int h rfl (by first | rfl | assumption) (by decide) rfl ?_
        show X 36 _ _ _ _
        refine zi_aload_n h rfl rfl ?_
        refine zn_iconst h 0 rfl rfl ?_
        refine zp_int h rfl (by first | rfl | assumption) (by decide) rfl ?_
        refine zn_iconst h 1 rfl rfl ?_
        refine zi_zret h rfl (by first | exact Or.inl rfl | exact Or.inr rfl | exact tw_nz_01 _ | assumption) ?_
        rw [e2, e3, e10]
        exact h2
      · refine zn_iconst h 0 rfl rfl ?_
        refine zi_zret h rfl (by first | exact Or.inl rfl | exact Or.inr rfl | exact tw_nz_01 _ | assumption) ?_
        exact h1 (fun u => hc u.2)
  · exact absurd hc (by decide)
set_option maxRecDepth 20000 in
theorem s_flush_x {fl : Bool} {d : Nat} {f : tw_S} {P : tw_S → Option tw_A → Prop} {x : Int32} (hx : ¬ (x = 0 ∨ x = 1)) (hP : P f (some (tw_I 0))) : tS fl (d + 2) 95 [tw_R 0, tw_I x] f P := by
  refine tw_Sp_of rfl rfl (Nat.le_of_ble_eq_true rfl) (fun X h => ?_)
  refine zi_iload_n h rfl rfl ?_
  refine zk_S h [_] rfl rfl rfl (Nat.le_of_ble_eq_true rfl) (s_ctl0 hx ?_)
  first | refine zb_ifeq h rfl (fun hc => ?_) (fun hc => ?_) | refine zc_ifeq h rfl (fun hc => ?_) (fun hc => ?_)
  · refine zn_iconst h 0 rfl rfl ?_
    refine zi_zret h rfl (by first | exact Or.inl rfl | exact Or.inr rfl | exact tw_nz_01 _ | assumption) ?_
    exact hP
  · exact absurd rfl hc
set_option maxRecDepth 20000 in
theorem s_flush_c {fl : Bool} {d : Nat} {f : tw_S} {P : tw_S → Option tw_A → Prop} {c q : Nat} (hc : c < 2) (hqc : q = 17 + 22 * c) (h1 : f q 6 = 0 → P f (some (tw_I 0))) (h2 : ¬ f q 6 = 0 → P (tw_up f q 9 1) (some (tw_I 1))) : tS fl (d + 2) 95 [tw_R 0, tw_I (nI c)] f P := by
  have hcc := hc
  have hq : q = 17 ∨ q = 39 := by omega
  have lc := tx_ctl hq
  obtain ⟨a0, a1, a2, a3, a4⟩ := tx_ent (tx_c1 hq)
  obtain ⟨m0, m1, m2, m3, m4⟩ := tx_ent (tx_c6 hq)
  obtain ⟨i0, i1, i2, i3, i4, i5⟩ := tx_inb (tx_c11 hq)
  obtain ⟨d0, d1, d2, d3⟩ := tx_des (tx_c17 hq)
  have w0 := tx_dwr (tx_c21 hq)
  refine tw_Sp_of rfl rfl (Nat.le_of_ble_eq_true rfl) (fun X h => ?_)
  refine zi_iload_n h rfl rfl ?_
  refine zk_S h [_] rfl rfl rfl (Nat.le_of_ble_eq_true rfl) (s_ctl1 hcc ?_)
  first | refine zb_ifeq h rfl (fun hc => ?_) (fun hc => ?_) | refine zc_ifeq h rfl (fun hc => ?_) (fun hc => ?_)
  · exact absurd hc (by decide)
  · refine zi_aload_n h rfl rfl ?_
    refine zi_iload_n h rfl rfl ?_
    refine zk_V h [_] rfl (by first | rfl | assumption) rfl rfl (Nat.le_of_ble_eq_true rfl) (s_num hcc hqc ?_)
    refine zg_boo h rfl (by first | rfl | assumption) (by decide) rfl ?_
    first | refine zb_ifne h rfl (fun hc => ?_) (fun hc => ?_) | refine zc_ifne h rfl (fun hc => ?_) (fun hc => ?_)
    · refine zi_aload_n h rfl rfl ?_
      refine zi_iload_n h rfl rfl ?_
      refine zk_V h [_] rfl (by first | rfl | assumption) rfl rfl (Nat.le_of_ble_eq_true rfl) (s_num hcc hqc ?_)
      refine zn_iconst h 1 rfl rfl ?_
      refine zp_boo h rfl (by first | rfl | assumption) (by decide) rfl (by first | exact Or.inl rfl | exact Or.inr rfl | assumption) ?_
      refine zn_iconst h 1 rfl rfl ?_
      refine zi_zret h rfl (by first | exact Or.inl rfl | exact Or.inr rfl | exact tw_nz_01 _ | assumption) ?_
      exact h2 hc
    · refine zn_iconst h 0 rfl rfl ?_
      refine zi_zret h rfl (by first | exact Or.inl rfl | exact Or.inr rfl | exact tw_nz_01 _ | assumption) ?_
      exact h1 hc
set_option maxRecDepth 20000 in
theorem s_dsk1 {fl : Bool} {d : Nat} {f : tw_S} {P : tw_S → Option tw_A → Prop} {i : Nat} (hi : i < 5) (hP : P f (some (tw_I 1))) : tS fl (d + 1) 96 [tw_I (nI i)] f P := s_isDisk (fun _ _ _ => hP) (fun g => by
  rcases g with g | g
  · exact absurd g (nI_pos (by omega))
  · exact absurd ((nI_leI (by omega) (by omega)).mp g) (by omega))
set_option maxRecDepth 20000 in
theorem s_dsk0 {fl : Bool} {d : Nat} {f : tw_S} {P : tw_S → Option tw_A → Prop} {x : Int32} (hx : x < 0 ∨ nI 5 ≤ x) (hP : P f (some (tw_I 0))) : tS fl (d + 1) 96 [tw_I x] f P := s_isDisk (fun j h1 h2 => by
  subst h2
  rcases hx with g | g
  · exact absurd g (nI_pos (by omega))
  · exact absurd ((nI_leI (by omega) (by omega)).mp g) (by omega)) (fun _ => hP)
set_option maxRecDepth 20000 in
theorem s_lose_x {fl : Bool} {d : Nat} {f : tw_S} {P : tw_S → Option tw_A → Prop} {x : Int32} (hx : x < 0 ∨ nI 5 ≤ x) (hP : P f (some (tw_I 0))) : tS fl (d + 2) 97 [tw_R 0, tw_I x] f P := by
  refine tw_Sp_of rfl rfl (Nat.le_of_ble_eq_true rfl) (fun X h => ?_)
  refine zi_iload_n h rfl rfl ?_
  refine zk_S h [_] rfl rfl rfl (Nat.le_of_ble_eq_true rfl) (s_dsk0 hx ?_)
  first | refine zb_ifeq h rfl (fun hc => ?_) (fun hc => ?_) | refine zc_ifeq h rfl (fun hc => ?_) (fun hc => ?_)
  · refine zn_iconst h 0 rfl rfl ?_
    refine zi_zret h rfl (by first | exact Or.inl rfl | exact Or.inr rfl | exact tw_nz_01 _ | assumption) ?_
    exact hP
  · exact absurd rfl hc
set_option maxRecDepth 20000 in
theorem s_lose_i {fl : Bool} {d : Nat} {f : tw_S} {P : tw_S → Option tw_A → Prop} {i : Nat} (hi : i < 5) (h1 : f 2 i = 0 → P f (some (tw_I 0))) (h2 : ¬ f 2 i = 0 → P (fun q j => if q = 2 ∧ j = i then 0 else if q = 5 ∧ i * 8 ≤ j ∧ j < i * 8 + 8 then 1 else f q j) (some (tw_I 1))) : tS fl (d + 2) 97 [tw_R 0, tw_I (nI i)] f P := by
  refine tw_Sp_of rfl rfl (Nat.le_of_ble_eq_true rfl) (fun X h => ?_)
  refine zi_iload_n h rfl rfl ?_
  refine zk_S h [_] rfl rfl rfl (Nat.le_of_ble_eq_true rfl) (s_dsk1 hi ?_)
  first | refine zb_ifeq h rfl (fun hc => ?_) (fun hc => ?_) | refine zc_ifeq h rfl (fun hc => ?_) (fun hc => ?_)
  · exact absurd hc (by decide)
  · refine zi_aload_n h rfl rfl ?_
    refine zg_ref h rfl (by first | rfl | assumption) (by decide) rfl rfl ?_
    refine zg_ref h rfl (by first | rfl | assumption) (by decide) rfl rfl ?_
    refine zi_iload_n h rfl rfl ?_
    refine za_z h rfl (by first | rfl | assumption) rfl (by omega) (by decide) ?_
    first | refine zb_ifne h rfl (fun hc => ?_) (fun hc => ?_) | refine zc_ifne h rfl (fun hc => ?_) (fun hc => ?_)
    · refine zi_aload_n h rfl rfl ?_
      refine zg_ref h rfl (by first | rfl | assumption) (by decide) rfl rfl ?_
      refine zi_iload_n h rfl rfl ?_
      refine zk_V h [_] rfl (by first | rfl | assumption) rfl rfl (Nat.le_of_ble_eq_true rfl) (s_remove hi ?_)
      refine zn_iconst h 1 rfl rfl ?_
      refine zi_zret h rfl (by first | exact Or.inl rfl | exact Or.inr rfl | exact tw_nz_01 _ | assumption) ?_
      exact h2 hc
    · refine zn_iconst h 0 rfl rfl ?_
      refine zi_zret h rfl (by first | exact Or.inl rfl | exact Or.inr rfl | exact tw_nz_01 _ | assumption) ?_
      exact h1 hc
set_option maxRecDepth 20000 in
theorem s_replace_x {fl : Bool} {d : Nat} {f : tw_S} {P : tw_S → Option tw_A → Prop} {x : Int32} (hx : x < 0 ∨ nI 5 ≤ x) (hP : P f (some (tw_I 0))) : tS fl (d + 4) 98 [tw_R 0, tw_I x] f P := by
  refine tw_Sp_of rfl rfl (Nat.le_of_ble_eq_true rfl) (fun X h => ?_)
  refine zi_iload_n h rfl rfl ?_
  refine zk_S h [_] rfl rfl rfl (Nat.le_of_ble_eq_true rfl) (s_dsk0 hx ?_)
  first | refine zb_ifeq h rfl (fun hc => ?_) (fun hc => ?_) | refine zc_ifeq h rfl (fun hc => ?_) (fun hc => ?_)
  · refine zn_iconst h 0 rfl rfl ?_
    refine zi_zret h rfl (by first | exact Or.inl rfl | exact Or.inr rfl | exact tw_nz_01 _ | assumption) ?_
    exact hP
  · exact absurd rfl hc
set_option maxRecDepth 20000 in
theorem s_replace_i {fl : Bool} {d : Nat} {f : tw_S} {P : tw_S → Option tw_A → Prop} {i : Nat} (hi : i < 5) (h1 : ¬ f 2 i = 0 → P f (some (tw_I 0))) (h2 : f 2 i = 0 → P (tw_up (tw_up f 3 i (p_great (f 2) (f 3) 5)) 2 i 1) (some (tw_I 1))) : tS fl (d + 4) 98 [tw_R 0, tw_I (nI i)] f P := by
  refine tw_Sp_of rfl rfl (Nat.le_of_ble_eq_true rfl) (fun X h => ?_)
  refine zi_iload_n h rfl rfl ?_
  refine zk_S h [_] rfl rfl rfl (Nat.le_of_ble_eq_true rfl) (s_dsk1 hi ?_)
  first | refine zb_ifeq h rfl (fun hc => ?_) (fun hc => ?_) | refine zc_ifeq h rfl (fun hc => ?_) (fun hc => ?_)
  · exact absurd hc (by decide)
  · refine zi_aload_n h rfl rfl ?_
    refine zg_ref h rfl (by first | rfl | assumption) (by decide) rfl rfl ?_
    refine zg_ref h rfl (by first | rfl | assumption) (by decide) rfl rfl ?_
    refine zi_iload_n h rfl rfl ?_
    refine za_z h rfl (by first | rfl | assumption) rfl (by omega) (by decide) ?_
    first | refine zb_ifeq h rfl (fun hc => ?_) (fun hc => ?_) | refine zc_ifeq h rfl (fun hc => ?_) (fun hc => ?_)
    · refine zi_aload_n h rfl rfl ?_
      refine zg_ref h rfl (by first | rfl | assumption) (by decide) rfl rfl ?_
      refine zi_iload_n h rfl rfl ?_
      refine zk_V h [_] rfl (by first | rfl | assumption) rfl rfl (Nat.le_of_ble_eq_true rfl) (s_insert hi ?_)
      refine zn_iconst h 1 rfl rfl ?_
      refine zi_zret h rfl (by first | exact Or.inl rfl | exact Or.inr rfl | exact tw_nz_01 _ | assumption) ?_
      exact h2 hc
    · refine zn_iconst h 0 rfl rfl ?_
      refine zi_zret h rfl (by first | exact Or.inl rfl | exact Or.inr rfl | exact tw_nz_01 _ | assumption) ?_
      exact h1 hc
set_option maxRecDepth 20000 in
theorem s_rebuild_x {fl : Bool} {d : Nat} {f : tw_S} {P : tw_S → Option tw_A → Prop} {x : Int32} (hx : x < 0 ∨ nI 5 ≤ x) (hP : P f (some (tw_I (-1)))) : tS fl (d + 3) 99 [tw_R 0, tw_I x] f P := by
  refine tw_Sp_of rfl rfl (Nat.le_of_ble_eq_true rfl) (fun X h => ?_)
  refine zi_iload_n h rfl rfl ?_
  refine zk_S h [_] rfl rfl rfl (Nat.le_of_ble_eq_true rfl) (s_dsk0 hx ?_)
  first | refine zb_ifeq h rfl (fun hc => ?_) (fun hc => ?_) | refine zc_ifeq h rfl (fun hc => ?_) (fun hc => ?_)
  · refine zi_iconst h rfl ?_
    refine zi_iret h rfl ?_
    exact hP
  · exact absurd rfl hc
set_option maxRecDepth 20000 in
theorem s_rebuild_i {fl : Bool} {d : Nat} {f : tw_S} {P : tw_S → Option tw_A → Prop} {i : Nat} (hi : i < 5) (h1 : f 2 i = 0 → P f (some (tw_I (-1)))) (h2 : ¬ f 2 i = 0 → ¬ p_ft (fun s => f 5 (i * 8 + s)) 8 0 < 8 → P f (some (tw_I (-1)))) (h3 : ¬ f 2 i = 0 → p_ft (fun s => f 5 (i * 8 + s)) 8 0 < 8 → p_om (f 5) i (p_ft (fun s => f 5 (i * 8 + s)) 8 0) 5 → P f (some (tw_I (-1)))) (h4 : ¬ f 2 i = 0 → p_ft (fun s => f 5 (i * 8 + s)) 8 0 < 8 → ¬ p_om (f 5) i (p_ft (fun s => f 5 (i * 8 + s)) 8 0) 5 → P (tw_up (tw_up f 4 (i * 8 + p_ft (fun s => f 5 (i * 8 + s)) 8 0) (p_xor (f 4) i (p_ft (fun s => f 5 (i * 8 + s)) 8 0) 5)) 5 (i * 8 + p_ft (fun s => f 5 (i * 8 + s)) 8 0) 0) (some (tw_I (nI (p_ft (fun s => f 5 (i * 8 + s)) 8 0))))) : tS fl (d + 3) 99 [tw_R 0, tw_I (nI i)] f P := by
  refine tw_Sp_of rfl rfl (Nat.le_of_ble_eq_true rfl) (fun X h => ?_)
  refine zi_iload_n h rfl rfl ?_
  refine zk_S h [_] rfl rfl rfl (Nat.le_of_ble_eq_true rfl) (s_dsk1 hi ?_)
  first | refine zb_ifeq h rfl (fun hc => ?_) (fun hc => ?_) | refine zc_ifeq h rfl (fun hc => ?_) (fun hc => ?_)
  · exact absurd hc (by decide)
  · refine zi_aload_n h rfl rfl ?_
    refine zg_ref h rfl (by first | rfl | assumption) (by decide) rfl rfl ?_
    refine zg_ref h rfl (by first | rfl | assumption) (by decide) rfl rfl ?_
    refine zi_iload_n h rfl rfl ?_
    refine za_z h rfl (by first | rfl | assumption) rfl (by omega) (by decide) ?_
    first | refine zb_ifne h rfl (fun hc => ?_) (fun hc => ?_) | refine zc_ifne h rfl (fun hc => ?_) (fun hc => ?_)
    · have c2 := hc
      refine zi_aload_n h rfl rfl ?_
      refine zg_ref h rfl (by first | rfl | assumption) (by decide) rfl rfl ?_
      refine zi_iload_n h rfl rfl ?_
      refine zk_V h [_] rfl (by first | rfl | assumption) rfl rfl (Nat.le_of_ble_eq_true rfl) (s_lowestMissing hi (fun g => ?_) (fun g => ?_))
      · refine zi_istore_n h rfl (Nat.le_of_ble_eq_true rfl) ?_
        refine zi_iload_n h rfl rfl ?_
        refine zi_iconst h rfl ?_
        refine zc_icmpeq h rfl (fun hc => ?_) (fun hc => ?_)
        · exfalso
          have h9 : ¬ nI (p_ft (fun s => f 5 (i * 8 + s)) 8 0) < 0 := nI_pos (by omega)
          rw [hc] at h9
          exact h9 (by decide)
        · refine zi_aload_n h rfl rfl ?_
          refine zg_ref h rfl (by first | rfl | assumption) (by decide) rfl rfl ?_
          refine zi_iload_n h rfl rfl ?_
          refine zi_iload_n h rfl rfl ?_
          refine zk_V h [_, _] rfl (by first | rfl | assumption) rfl rfl (Nat.le_of_ble_eq_true rfl) (s_isOtherMissing hi g (fun k => ?_) (fun k => ?_))
          · first | refine zb_ifeq h rfl (fun hc => ?_) (fun hc => ?_) | refine zc_ifeq h rfl (fun hc => ?_) (fun hc => ?_)
            · exact absurd hc (by decide)
            · refine zi_iconst h rfl ?_
              refine zi_iret h rfl ?_
              exact h3 c2 g k
          · first | refine zb_ifeq h rfl (fun hc => ?_) (fun hc => ?_) | refine zc_ifeq h rfl (fun hc => ?_) (fun hc => ?_)
            · refine zi_aload_n h rfl rfl ?_
              refine zg_ref h rfl (by first | rfl | assumption) (by decide) rfl rfl ?_
              refine zi_iload_n h rfl rfl ?_
              refine zi_iload_n h rfl rfl ?_
              refine zi_aload_n h rfl rfl ?_
              refine zg_ref h rfl (by first | rfl | assumption) (by decide) rfl rfl ?_
              refine zi_iload_n h rfl rfl ?_
              refine zi_iload_n h rfl rfl ?_
              refine zk_V h [_, _] rfl (by first | rfl | assumption) rfl rfl (Nat.le_of_ble_eq_true rfl) (s_xorOfOthers hi g ?_)
              refine zk_V h [_, _, _] rfl (by first | rfl | assumption) rfl rfl (Nat.le_of_ble_eq_true rfl) (s_put hi g ?_)
              refine zi_iload_n h rfl rfl ?_
              refine zi_iret h rfl ?_
              exact h4 c2 g k
            · exact absurd rfl hc
      · refine zi_istore_n h rfl (Nat.le_of_ble_eq_true rfl) ?_
        refine zi_iload_n h rfl rfl ?_
        refine zi_iconst h rfl ?_
        refine zc_icmpeq h rfl (fun hc => ?_) (fun hc => ?_)
        · refine zi_iconst h rfl ?_
          refine zi_iret h rfl ?_
          exact h2 c2 g
        · exact absurd rfl hc
    · refine zi_iconst h rfl ?_
      refine zi_iret h rfl ?_
      exact h1 hc
set_option maxRecDepth 20000 in
theorem s_keyOf_x {fl : Bool} {d : Nat} {f : tw_S} {P : tw_S → Option tw_A → Prop} {x : Int32} (hx : x < 0 ∨ nI 5 ≤ x) (hP : P f (some (tw_I (-1)))) : tS fl (d + 2) 104 [tw_R 0, tw_I x] f P := by
  refine tw_Sp_of rfl rfl (Nat.le_of_ble_eq_true rfl) (fun X h => ?_)
  refine zi_iload_n h rfl rfl ?_
  refine zk_S h [_] rfl rfl rfl (Nat.le_of_ble_eq_true rfl) (s_dsk0 hx ?_)
  first | refine zb_ifeq h rfl (fun hc => ?_) (fun hc => ?_) | refine zc_ifeq h rfl (fun hc => ?_) (fun hc => ?_)
  · refine zi_iconst h rfl ?_
    refine zi_iret h rfl ?_
    exact hP
  · exact absurd rfl hc
set_option maxRecDepth 20000 in
theorem s_keyOf_i {fl : Bool} {d : Nat} {f : tw_S} {P : tw_S → Option tw_A → Prop} {i : Nat} (hi : i < 5) (h1 : f 2 i = 0 → P f (some (tw_I (-1)))) (h2 : ¬ f 2 i = 0 → P f (some (tw_I (f 3 i)))) : tS fl (d + 2) 104 [tw_R 0, tw_I (nI i)] f P := by
  refine tw_Sp_of rfl rfl (Nat.le_of_ble_eq_true rfl) (fun X h => ?_)
  refine zi_iload_n h rfl rfl ?_
  refine zk_S h [_] rfl rfl rfl (Nat.le_of_ble_eq_true rfl) (s_dsk1 hi ?_)
  first | refine zb_ifeq h rfl (fun hc => ?_) (fun hc => ?_) | refine zc_ifeq h rfl (fun hc => ?_) (fun hc => ?_)
  · exact absurd hc (by decide)
  · refine zi_aload_n h rfl rfl ?_
    refine zg_ref h rfl (by first | rfl | assumption) (by decide) rfl rfl ?_
    refine zg_ref h rfl (by first | rfl | assumption) (by decide) rfl rfl ?_
    refine zi_iload_n h rfl rfl ?_
    refine za_z h rfl (by first | rfl | assumption) rfl (by omega) (by decide) ?_
    first | refine zb_ifeq h rfl (fun hc => ?_) (fun hc => ?_) | refine zc_ifeq h rfl (fun hc => ?_) (fun hc => ?_)
    · refine zi_iconst h rfl ?_
      refine zi_iret h rfl ?_
      exact h1 hc
    · refine zi_aload_n h rfl rfl ?_
      refine zg_ref h rfl (by first | rfl | assumption) (by decide) rfl rfl ?_
      refine zg_ref h rfl (by first | rfl | assumption) (by decide) rfl rfl ?_
      refine zi_iload_n h rfl rfl ?_
      refine za_i h rfl (by first | rfl | assumption) rfl (by omega) (by decide) ?_
      refine zi_goto h rfl ?_
      refine zi_iret h rfl ?_
      exact h2 hc
set_option maxRecDepth 20000 in
theorem s_str1 {fl : Bool} {d : Nat} {f : tw_S} {P : tw_S → Option tw_A → Prop} {i : Nat} (hi : i < 8) (hP : P f (some (tw_I 1))) : tS fl (d + 1) 102 [tw_I (nI i)] f P := s_isStripe (fun _ _ _ => hP) (fun g => by
  rcases g with g | g
  · exact absurd g (nI_pos (by omega))
  · exact absurd ((nI_leI (by omega) (by omega)).mp g) (by omega))
set_option maxRecDepth 20000 in
theorem s_str0 {fl : Bool} {d : Nat} {f : tw_S} {P : tw_S → Option tw_A → Prop} {x : Int32} (hx : x < 0 ∨ nI 8 ≤ x) (hP : P f (some (tw_I 0))) : tS fl (d + 1) 102 [tw_I x] f P := s_isStripe (fun j h1 h2 => by
  subst h2
  rcases hx with g | g
  · exact absurd g (nI_pos (by omega))
  · exact absurd ((nI_leI (by omega) (by omega)).mp g) (by omega)) (fun _ => hP)
set_option maxRecDepth 20000 in
theorem s_parityGood_x {fl : Bool} {d : Nat} {f : tw_S} {P : tw_S → Option tw_A → Prop} {x : Int32} (hx : x < 0 ∨ nI 8 ≤ x) (hP : P f (some (tw_I (-1)))) : tS fl (d + 4) 103 [tw_R 0, tw_I x] f P := by
  refine tw_Sp_of rfl rfl (Nat.le_of_ble_eq_true rfl) (fun X h => ?_)
  refine zi_iload_n h rfl rfl ?_
  refine zk_S h [_] rfl rfl rfl (Nat.le_of_ble_eq_true rfl) (s_str0 hx ?_)
  first | refine zb_ifeq h rfl (fun hc => ?_) (fun hc => ?_) | refine zc_ifeq h rfl (fun hc => ?_) (fun hc => ?_)
  · refine zi_iconst h rfl ?_
    refine zi_iret h rfl ?_
    exact hP
  · exact absurd rfl hc
set_option maxRecDepth 20000 in
theorem s_parityGood_s {fl : Bool} {d : Nat} {f : tw_S} {P : tw_S → Option tw_A → Prop} {s : Nat} (hs : s < 8) (h1 : p_om (f 5) 5 s 5 → P f (some (tw_I (-1)))) (h2 : ¬ p_om (f 5) 5 s 5 → f 4 (p_pd s * 8 + s) = p_xor (f 4) (p_pd s) s 5 → P f (some (tw_I 1))) (h3 : ¬ p_om (f 5) 5 s 5 → ¬ f 4 (p_pd s * 8 + s) = p_xor (f 4) (p_pd s) s 5 → P f (some (tw_I 0))) : tS fl (d + 4) 103 [tw_R 0, tw_I (nI s)] f P := by
  have hp : p_pd s < 5 := by unfold p_pd; omega
  refine tw_Sp_of rfl rfl (Nat.le_of_ble_eq_true rfl) (fun X h => ?_)
  refine zi_iload_n h rfl rfl ?_
  refine zk_S h [_] rfl rfl rfl (Nat.le_of_ble_eq_true rfl) (s_str1 hs ?_)
  first | refine zb_ifeq h rfl (fun hc => ?_) (fun hc => ?_) | refine zc_ifeq h rfl (fun hc => ?_) (fun hc => ?_)
  · exact absurd hc (by decide)
  · refine zi_aload_n h rfl rfl ?_
    refine zg_ref h rfl (by first | rfl | assumption) (by decide) rfl rfl ?_
    refine zi_iload_n h rfl rfl ?_
    refine zk_V h [_] rfl (by first | rfl | assumption) rfl rfl (Nat.le_of_ble_eq_true rfl) (s_isAnyMissing hs (fun g => ?_) (fun g => ?_))
    · first | refine zb_ifeq h rfl (fun hc => ?_) (fun hc => ?_) | refine zc_ifeq h rfl (fun hc => ?_) (fun hc => ?_)
      · exact absurd hc (by decide)
      · refine zi_iconst h rfl ?_
        refine zi_iret h rfl ?_
        exact h1 g
    · first | refine zb_ifeq h rfl (fun hc => ?_) (fun hc => ?_) | refine zc_ifeq h rfl (fun hc => ?_) (fun hc => ?_)
      · refine zi_iload_n h rfl rfl ?_
        refine zk_S h [_] rfl rfl rfl (Nat.le_of_ble_eq_true rfl) (s_parityDisk hs ?_)
        refine zi_istore_n h rfl (Nat.le_of_ble_eq_true rfl) ?_
        refine zi_aload_n h rfl rfl ?_
        refine zg_ref h rfl (by first | rfl | assumption) (by decide) rfl rfl ?_
        refine zi_iload_n h rfl rfl ?_
        refine zi_iload_n h rfl rfl ?_
        refine zk_V h [_, _] rfl (by first | rfl | assumption) rfl rfl (Nat.le_of_ble_eq_true rfl) (s_blockOn hp hs ?_)
        refine zi_aload_n h rfl rfl ?_
        refine zg_ref h rfl (by first | rfl | assumption) (by decide) rfl rfl ?_
        refine zi_iload_n h rfl rfl ?_
        refine zi_iload_n h rfl rfl ?_
        refine zk_V h [_, _] rfl (by first | rfl | assumption) rfl rfl (Nat.le_of_ble_eq_true rfl) (s_xorOfOthers hp hs ?_)
        refine zc_icmpne h rfl (fun hc => ?_) (fun hc => ?_)
        · refine zn_iconst h 0 rfl rfl ?_
          refine zi_iret h rfl ?_
          exact h3 g hc
        · refine zn_iconst h 1 rfl rfl ?_
          refine zi_goto h rfl ?_
          refine zi_iret h rfl ?_
          exact h2 g hc
      · exact absurd rfl hc
end
section
/-! TwinArray's public methods: write, read, late, tickets, step, arrive. -/
set_option maxRecDepth 20000 in
theorem s_blk1 {fl : Bool} {d : Nat} {f : tw_S} {P : tw_S → Option tw_A → Prop} {i : Nat} (hi : i < 32) (hP : P f (some (tw_I 1))) : tS fl (d + 1) 63 [tw_I (nI i)] f P := s_isBlock (fun _ _ _ => hP) (fun g => by
  rcases g with g | g
  · exact absurd g (nI_pos (by omega))
  · exact absurd ((nI_leI (by omega) (by omega)).mp g) (by omega))
set_option maxRecDepth 20000 in
theorem s_blk0 {fl : Bool} {d : Nat} {f : tw_S} {P : tw_S → Option tw_A → Prop} {x : Int32} (hx : x < 0 ∨ nI 32 ≤ x) (hP : P f (some (tw_I 0))) : tS fl (d + 1) 63 [tw_I x] f P := s_isBlock (fun j h1 h2 => by
  subst h2
  rcases hx with g | g
  · exact absurd g (nI_pos (by omega))
  · exact absurd ((nI_leI (by omega) (by omega)).mp g) (by omega)) (fun _ => hP)
set_option maxRecDepth 20000 in
theorem s_write_x {fl : Bool} {d : Nat} {f : tw_S} {P : tw_S → Option tw_A → Prop} {x y z : Int32} {tm : Nat} (ht : f 6 5 = nI tm) (ht2 : tm ≤ 200) (hx : ¬ (x = 0 ∨ x = 1) ∨ (y < 0 ∨ nI 32 ≤ y) ∨ tm = 200) (hP : P f (some (tw_I (-1)))) : tS fl (d + 4) 67 [tw_R 0, tw_I x, tw_I y, tw_I z] f P := by
  refine tw_Sp_of rfl rfl (Nat.le_of_ble_eq_true rfl) (fun X h => ?_)
  have no : X 10 [some (tw_R 0), some (tw_I x), some (tw_I y), some (tw_I z), none, none, none] [] tx_L0 f := by
    refine zi_iconst h rfl ?_
    refine zi_iret h rfl ?_
    exact hP
  refine zi_iload_n h rfl rfl ?_
  refine zk_S h [_] rfl rfl rfl (Nat.le_of_ble_eq_true rfl) (s_isController (fun c1 => ?_) (fun c1 => ?_))
  · first | refine zb_ifeq h rfl (fun hc => ?_) (fun hc => ?_) | refine zc_ifeq h rfl (fun hc => ?_) (fun hc => ?_)
    · exact absurd hc (by decide)
    · refine zi_iload_n h rfl rfl ?_
      refine zk_S h [_] rfl rfl rfl (Nat.le_of_ble_eq_true rfl) (s_isBlock (fun j g1 g2 => ?_) (fun g => ?_))
      · subst g2
        first | refine zb_ifeq h rfl (fun hc => ?_) (fun hc => ?_) | refine zc_ifeq h rfl (fun hc => ?_) (fun hc => ?_)
        · exact absurd hc (by decide)
        · refine zi_aload_n h rfl rfl ?_
          refine zg_ref h rfl (by first | rfl | assumption) (by decide) rfl rfl ?_
          refine zk_V h [] rfl (by first | rfl | assumption) rfl rfl (Nat.le_of_ble_eq_true rfl) (s_areFull ht ht2 (fun g => ?_) (fun g => ?_))
          · first | refine zb_ifeq h rfl (fun hc => ?_) (fun hc => ?_) | refine zc_ifeq h rfl (fun hc => ?_) (fun hc => ?_)
            · exact absurd hc (by decide)
            · exact no
          · exfalso
            rcases hx with u | u | u
            · exact u c1
            · rcases u with u | u
              · exact absurd u (nI_pos (by omega))
              · exact absurd ((nI_leI (by omega) (by omega)).mp u) (by omega)
            · omega
      · first | refine zb_ifeq h rfl (fun hc => ?_) (fun hc => ?_) | refine zc_ifeq h rfl (fun hc => ?_) (fun hc => ?_)
        · exact no
        · exact absurd rfl hc
  · first | refine zb_ifeq h rfl (fun hc => ?_) (fun hc => ?_) | refine zc_ifeq h rfl (fun hc => ?_) (fun hc => ?_)
    · exact no
    · exact absurd rfl hc
/-- what a write does that is served -/
def p_write (f : tw_S) (q k : Nat) (v : Int32) : tw_S := tw_up (tw_up (tw_up (tw_up (tw_up (tw_up (tw_up (tw_up (tw_up (tw_up (tw_up f q 16 (f q 16 + 1)) (q + 2) k 1) (q + 3) k 1) (q + 4) k v) (q + 5) k (f q 16 + 1)) 7 (f 6 5).toNatClampNeg 0) 8 (f 6 5).toNatClampNeg v) 6 5 (f 6 5 + 1)) 9 (f 6 5).toNatClampNeg (f q 0)) 10 (f 6 5).toNatClampNeg (nI k)) 11 (f 6 5).toNatClampNeg (f q 16 + 1)
set_option maxRecDepth 20000 in
theorem s_write_c {fl : Bool} {d : Nat} {f : tw_S} {P : tw_S → Option tw_A → Prop} {c q k tm : Nat} {v : Int32} (hc : c < 2) (hqc : q = 17 + 22 * c) (hn : f q 0 = if q = 17 then 0 else 1) (hb : p_box f (56 - q)) (hk : k < 32) (ht : f 6 5 = nI tm) (ht2 : tm < 200) (h1 : ¬ (¬ f q 6 = 0 ∧ p_bit (f q 11) (k / 16)) → P (tw_up (tw_up (tw_up f 7 tm 2) 8 tm v) 6 5 (nI (tm + 1))) (some (tw_I (nI tm)))) (h2 : (¬ f q 6 = 0 ∧ p_bit (f q 11) (k / 16)) → f q 7 = 0 → P (p_write f q k v) (some (tw_I (nI tm)))) (h3 : (¬ f q 6 = 0 ∧ p_bit (f q 11) (k / 16)) → ¬ f q 7 = 0 → P (p_send (p_write f q k v) (56 - q) 0 (nI k) v (f q 16 + 1) (nI tm)) (some (tw_I (nI tm)))) : tS fl (d + 4) 67 [tw_R 0, tw_I (nI c), tw_I (nI k), tw_I v] f P := by
  have hcc := hc
  have hq : q = 17 ∨ q = 39 := by omega
  have lc := tx_ctl hq
  obtain ⟨a0, a1, a2, a3, a4⟩ := tx_ent (tx_c1 hq)
  obtain ⟨m0, m1, m2, m3, m4⟩ := tx_ent (tx_c6 hq)
  obtain ⟨i0, i1, i2, i3, i4, i5⟩ := tx_inb (tx_c11 hq)
  obtain ⟨d0, d1, d2, d3⟩ := tx_des (tx_c17 hq)
  have w0 := tx_dwr (tx_c21 hq)
  have et : (f 6 5).toNatClampNeg = tm := by rw [ht]; exact nI_clamp (by omega)
  have ew : ∀ a b : Nat, a ≠ q + 2 ∧ a ≠ q + 3 ∧ a ≠ q + 4 ∧ a ≠ q + 5 ∧ a ≠ 6 ∧ a ≠ 7 ∧ a ≠ 8 ∧ a ≠ 9 ∧ a ≠ 10 ∧ a ≠ 11 ∧ ¬ (a = q ∧ b = 16) → p_write f q k v a b = f a b := by
    intro a b g
    unfold p_write
    rw [tw_off (by omega), tw_off (by omega), tw_off (by omega), tw_off (by omega), tw_off (by omega), tw_off (by omega), tw_off (by omega), tw_off (by omega), tw_off (by omega), tw_off (by omega), tw_off (by omega)]
  have hbw : p_box (p_write f q k v) (56 - q) := by
    obtain ⟨a, m, g1, g2, g3, g4⟩ := hb
    exact ⟨a, m, by rw [ew _ _ (by omega)]; exact g1, g2, by rw [ew _ _ (by omega)]; exact g3, g4⟩
  refine tw_Sp_of rfl rfl (Nat.le_of_ble_eq_true rfl) (fun X h => ?_)
  refine zi_iload_n h rfl rfl ?_
  refine zk_S h [_] rfl rfl rfl (Nat.le_of_ble_eq_true rfl) (s_ctl1 hcc ?_)
  first | refine zb_ifeq h rfl (fun hc => ?_) (fun hc => ?_) | refine zc_ifeq h rfl (fun hc => ?_) (fun hc => ?_)
  · exact absurd hc (by decide)
  · refine zi_iload_n h rfl rfl ?_
    refine zk_S h [_] rfl rfl rfl (Nat.le_of_ble_eq_true rfl) (s_blk1 hk ?_)
    first | refine zb_ifeq h rfl (fun hc => ?_) (fun hc => ?_) | refine zc_ifeq h rfl (fun hc => ?_) (fun hc => ?_)
    · exact absurd hc (by decide)
    · refine zi_aload_n h rfl rfl ?_
      refine zg_ref h rfl (by first | rfl | assumption) (by decide) rfl rfl ?_
      refine zk_V h [] rfl (by first | rfl | assumption) rfl rfl (Nat.le_of_ble_eq_true rfl) (s_areFull ht (by omega) (fun g => by omega) (fun g => ?_))
      first | refine zb_ifeq h rfl (fun hc => ?_) (fun hc => ?_) | refine zc_ifeq h rfl (fun hc => ?_) (fun hc => ?_)
      · refine zi_aload_n h rfl rfl ?_
        refine zi_iload_n h rfl rfl ?_
        refine zk_V h [_] rfl (by first | rfl | assumption) rfl rfl (Nat.le_of_ble_eq_true rfl) (s_num hcc hqc ?_)
        refine zi_astore h rfl (Nat.le_of_ble_eq_true rfl) ?_
        refine zi_aload h rfl rfl ?_
        refine zi_iload_n h rfl rfl ?_
        refine zk_V h [_] rfl (by first | rfl | assumption) rfl rfl (Nat.le_of_ble_eq_true rfl) (s_serves hq hk (fun g => ?_) (fun g => ?_))
        · first | refine zb_ifne h rfl (fun hc => ?_) (fun hc => ?_) | refine zc_ifne h rfl (fun hc => ?_) (fun hc => ?_)
          · refine zi_aload h rfl rfl ?_
            refine zk_V h [] rfl (by first | rfl | assumption) rfl rfl (Nat.le_of_ble_eq_true rfl) (s_newVersion hq ?_)
            refine zi_istore h rfl (Nat.le_of_ble_eq_true rfl) ?_
            refine zi_aload h rfl rfl ?_
            refine zg_ref h rfl (by first | rfl | assumption) (by decide) rfl rfl ?_
            refine zi_iload_n h rfl rfl ?_
            refine zi_iload_n h rfl rfl ?_
            refine zi_iload h rfl rfl ?_
            refine zn_iconst h 1 rfl rfl ?_
            refine zk_V h [_, _, _, _] rfl (by first | rfl | assumption) rfl rfl (Nat.le_of_ble_eq_true rfl) (s_eput (tx_c1 hq) hk (Or.inr rfl) ?_)
            refine zi_aload_n h rfl rfl ?_
            refine zg_ref h rfl (by first | rfl | assumption) (by decide) rfl rfl ?_
            refine zi_aload h rfl rfl ?_
            refine zg_int h rfl (by first | rfl | assumption) (by decide) rfl ?_
            refine zi_iload_n h rfl rfl ?_
            refine zi_iload h rfl rfl ?_
            refine zi_iload_n h rfl rfl ?_
            refine zk_V h [_, _, _, _] rfl (by first | rfl | assumption) rfl rfl (Nat.le_of_ble_eq_true rfl) (s_addOpenWrite (m := tm) (by rw [tw_off (by omega), tw_off (by omega), tw_off (by omega), tw_off (by omega), tw_off (by omega)]; exact ht) ht2 ?_)
            have hmem : ∀ a b, tw_up (tw_up (tw_up (tw_up (tw_up (tw_up (tw_up (tw_up (tw_up (tw_up (tw_up f q 16 (f q 16 + 1)) (q + 1 + 1) k 1) (q + 1 + 2) k (nI 1)) (q + 1 + 3) k v) (q + 1 + 4) k (f q 16 + 1)) 7 tm 0) 8 tm v) 6 5 (nI (tm + 1))) 9 tm (tw_up (tw_up (tw_up (tw_up (tw_up f q 16 (f q 16 + 1)) (q + 1 + 1) k 1) (q + 1 + 2) k (nI 1)) (q + 1 + 3) k v) (q + 1 + 4) k (f q 16 + 1) q 0)) 10 tm (nI k)) 11 tm (f q 16 + 1) a b = p_write f q k v a b := by
              intro a b
              unfold p_write
              rw [et, ht, nI_1, tw_n1, show tw_up (tw_up (tw_up (tw_up (tw_up f q 16 (f q 16 + 1)) (q + 1 + 1) k 1) (q + 1 + 2) k 1) (q + 1 + 3) k v) (q + 1 + 4) k (f q 16 + 1) q 0 = f q 0 by rw [tw_off (by omega), tw_off (by omega), tw_off (by omega), tw_off (by omega), tw_off (by omega)]]
            refine tw_mem hmem ?_
            refine zi_istore h rfl (Nat.le_of_ble_eq_true rfl) ?_
            refine zi_aload h rfl rfl ?_
            refine zg_boo h rfl (by first | rfl | assumption) (by decide) rfl ?_
            first | refine zb_ifeq h rfl (fun hc => ?_) (fun hc => ?_) | refine zc_ifeq h rfl (fun hc => ?_) (fun hc => ?_)
            · rw [ew _ _ (by omega)] at hc
              refine zi_iload h rfl rfl ?_
              refine zi_iret h rfl ?_
              exact h2 g hc
            · rw [ew _ _ (by omega)] at hc
              refine zi_aload_n h rfl rfl ?_
              refine zi_aload_n h rfl rfl ?_
              refine zi_aload h rfl rfl ?_
              refine zk_V h [_] rfl (by first | rfl | assumption) rfl rfl (Nat.le_of_ble_eq_true rfl) (s_partnerOf hq (by rw [ew _ _ (by omega)]; exact hn) ?_)
              refine zn_iconst h 0 rfl rfl ?_
              refine zi_iload_n h rfl rfl ?_
              refine zi_iload_n h rfl rfl ?_
              refine zi_iload h rfl rfl ?_
              refine zi_iload h rfl rfl ?_
              refine zk_V h [_, _, _, _, _, _] rfl (by first | rfl | assumption) rfl rfl (Nat.le_of_ble_eq_true rfl) (s_send (by omega) hbw ?_)
              refine zi_iload h rfl rfl ?_
              refine zi_iret h rfl ?_
              exact h3 g hc
          · exact absurd hc (by decide)
        · first | refine zb_ifne h rfl (fun hc => ?_) (fun hc => ?_) | refine zc_ifne h rfl (fun hc => ?_) (fun hc => ?_)
          · exact absurd rfl hc
          · refine zi_aload_n h rfl rfl ?_
            refine zg_ref h rfl (by first | rfl | assumption) (by decide) rfl rfl ?_
            refine zn_iconst h 2 rfl rfl ?_
            refine zi_iload_n h rfl rfl ?_
            refine zk_V h [_, _] rfl (by first | rfl | assumption) rfl rfl (Nat.le_of_ble_eq_true rfl) (s_tadd ht ht2 ?_)
            refine zi_iret h rfl ?_
            exact h1 g
      · exact absurd rfl hc
set_option maxRecDepth 20000 in
theorem s_read_x {fl : Bool} {d : Nat} {f : tw_S} {P : tw_S → Option tw_A → Prop} {x y : Int32} {tm : Nat} (ht : f 6 5 = nI tm) (ht2 : tm ≤ 200) (hx : ¬ (x = 0 ∨ x = 1) ∨ (y < 0 ∨ nI 32 ≤ y) ∨ tm = 200) (hP : P f (some (tw_I (-1)))) : tS fl (d + 5) 69 [tw_R 0, tw_I x, tw_I y] f P := by
  refine tw_Sp_of rfl rfl (Nat.le_of_ble_eq_true rfl) (fun X h => ?_)
  have no : X 10 [some (tw_R 0), some (tw_I x), some (tw_I y), none] [] tx_L0 f := by
    refine zi_iconst h rfl ?_
    refine zi_iret h rfl ?_
    exact hP
  refine zi_iload_n h rfl rfl ?_
  refine zk_S h [_] rfl rfl rfl (Nat.le_of_ble_eq_true rfl) (s_isController (fun c1 => ?_) (fun c1 => ?_))
  · first | refine zb_ifeq h rfl (fun hc => ?_) (fun hc => ?_) | refine zc_ifeq h rfl (fun hc => ?_) (fun hc => ?_)
    · exact absurd hc (by decide)
    · refine zi_iload_n h rfl rfl ?_
      refine zk_S h [_] rfl rfl rfl (Nat.le_of_ble_eq_true rfl) (s_isBlock (fun j g1 g2 => ?_) (fun g => ?_))
      · subst g2
        first | refine zb_ifeq h rfl (fun hc => ?_) (fun hc => ?_) | refine zc_ifeq h rfl (fun hc => ?_) (fun hc => ?_)
        · exact absurd hc (by decide)
        · refine zi_aload_n h rfl rfl ?_
          refine zg_ref h rfl (by first | rfl | assumption) (by decide) rfl rfl ?_
          refine zk_V h [] rfl (by first | rfl | assumption) rfl rfl (Nat.le_of_ble_eq_true rfl) (s_areFull ht ht2 (fun g => ?_) (fun g => ?_))
          · first | refine zb_ifeq h rfl (fun hc => ?_) (fun hc => ?_) | refine zc_ifeq h rfl (fun hc => ?_) (fun hc => ?_)
            · exact absurd hc (by decide)
            · exact no
          · exfalso
            rcases hx with u | u | u
            · exact u c1
            · rcases u with u | u
              · exact absurd u (nI_pos (by omega))
              · exact absurd ((nI_leI (by omega) (by omega)).mp u) (by omega)
            · omega
      · first | refine zb_ifeq h rfl (fun hc => ?_) (fun hc => ?_) | refine zc_ifeq h rfl (fun hc => ?_) (fun hc => ?_)
        · exact no
        · exact absurd rfl hc
  · first | refine zb_ifeq h rfl (fun hc => ?_) (fun hc => ?_) | refine zc_ifeq h rfl (fun hc => ?_) (fun hc => ?_)
    · exact no
    · exact absurd rfl hc
theorem p_other_le (th ks : Nat → Int32) (key : Int32) : ∀ n, p_other th ks key n ≤ n
  | 0 => Nat.le_refl _
  | n + 1 => by
    have h := p_other_le th ks key n
    unfold p_other
    split <;> omega
def p_tick (f : tw_S) (s v : Int32) : tw_S := tw_up (tw_up (tw_up f 7 (f 6 5).toNatClampNeg s) 8 (f 6 5).toNatClampNeg v) 6 5 (f 6 5 + 1)
set_option maxRecDepth 20000 in
theorem s_tick {fl : Bool} {d : Nat} {f : tw_S} {P : tw_S → Option tw_A → Prop} {m : Nat} {s v : Int32} (hm : f 6 5 = nI m) (hm2 : m < 200) (hP : P (p_tick f s v) (some (tw_I (nI m)))) : tS fl (d + 1) 55 [tw_R 6, tw_I s, tw_I v] f P := by
  refine s_tadd hm hm2 ?_
  rw [p_tick, hm, nI_clamp (by omega), nI_1] at hP
  exact hP
theorem p_down_65 {f : tw_S} {q : Nat} (hq : q = 17 ∨ q = 39) : p_down f q 6 5 = f 6 5 := by
  have h1 : p_late f (q + 21) 6 5 = f 6 5 := by
    unfold p_late
    split
    · rfl
    · rw [tw_off (by omega), tw_off (by omega), tw_off (by omega), tw_off (by omega), tw_off (by omega)]
  unfold p_down p_forget p_drop p_ref
  rw [tw_off (by omega), tw_off (by omega), if_neg (by omega), if_neg (by omega), tw_off (by omega), tw_off (by omega), tw_off (by omega), tw_off (by omega), tw_off (by omega), tw_off (by omega), tw_off (by omega), tw_off (by omega), tw_off (by omega), tw_off (by omega), if_neg (by omega)]
  exact h1
set_option maxRecDepth 20000 in
theorem s_read_c {fl : Bool} {d : Nat} {f : tw_S} {P : tw_S → Option tw_A → Prop} {c q k tm lm : Nat} (hc : c < 2) (hqc : q = 17 + 22 * c) (hk : k < 32) (hl : f 12 4 = nI lm) (hl2 : lm ≤ 20) (ht : f 6 5 = nI tm) (ht2 : tm < 200) (h1 : ¬ (¬ f q 6 = 0 ∧ p_bit (f q 11) (k / 16)) → P (p_tick f 2 0) (some (tw_I (nI tm)))) (h2 : (¬ f q 6 = 0 ∧ p_bit (f q 11) (k / 16)) → ¬ p_other (f 2) (f 3) (f q 10) 5 < 3 → P (p_tick (p_down f q) 2 0) (some (tw_I (nI tm)))) (h3 : (¬ f q 6 = 0 ∧ p_bit (f q 11) (k / 16)) → p_other (f 2) (f 3) (f q 10) 5 < 3 → ¬ f (q + 2) k = 0 → P (p_tick f 1 (f (q + 4) k)) (some (tw_I (nI tm)))) (h4 : (¬ f q 6 = 0 ∧ p_bit (f q 11) (k / 16)) → p_other (f 2) (f 3) (f q 10) 5 < 3 → f (q + 2) k = 0 → p_lost (f 5) k → P (p_tick f 2 0) (some (tw_I (nI tm)))) (h5 : (¬ f q 6 = 0 ∧ p_bit (f q 11) (k / 16)) → p_other (f 2) (f 3) (f q 10) 5 < 3 → f (q + 2) k = 0 → ¬ p_lost (f 5) k → P (p_tick (tw_up (tw_up (tw_up (tw_up f (q + 2) k 1) (q + 3) k 0) (q + 4) k (p_what (f 5) (f 4) k)) (q + 5) k 0) 1 (p_what (f 5) (f 4) k)) (some (tw_I (nI tm)))) : tS fl (d + 5) 69 [tw_R 0, tw_I (nI c), tw_I (nI k)] f P := by
  have hcc := hc
  have hq : q = 17 ∨ q = 39 := by omega
  have lc := tx_ctl hq
  obtain ⟨a0, a1, a2, a3, a4⟩ := tx_ent (tx_c1 hq)
  obtain ⟨m0, m1, m2, m3, m4⟩ := tx_ent (tx_c6 hq)
  obtain ⟨i0, i1, i2, i3, i4, i5⟩ := tx_inb (tx_c11 hq)
  obtain ⟨d0, d1, d2, d3⟩ := tx_des (tx_c17 hq)
  have w0 := tx_dwr (tx_c21 hq)
  have hol := p_other_le (f 2) (f 3) (f q 10) 5
  refine tw_Sp_of rfl rfl (Nat.le_of_ble_eq_true rfl) (fun X h => ?_)
  refine zi_iload_n h rfl rfl ?_
  refine zk_S h [_] rfl rfl rfl (Nat.le_of_ble_eq_true rfl) (s_ctl1 hcc ?_)
  first | refine zb_ifeq h rfl (fun hc => ?_) (fun hc => ?_) | refine zc_ifeq h rfl (fun hc => ?_) (fun hc => ?_)
  · exact absurd hc (by decide)
  · refine zi_iload_n h rfl rfl ?_
    refine zk_S h [_] rfl rfl rfl (Nat.le_of_ble_eq_true rfl) (s_blk1 hk ?_)
    first | refine zb_ifeq h rfl (fun hc => ?_) (fun hc => ?_) | refine zc_ifeq h rfl (fun hc => ?_) (fun hc => ?_)
    · exact absurd hc (by decide)
    · refine zi_aload_n h rfl rfl ?_
      refine zg_ref h rfl (by first | rfl | assumption) (by decide) rfl rfl ?_
      refine zk_V h [] rfl (by first | rfl | assumption) rfl rfl (Nat.le_of_ble_eq_true rfl) (s_areFull ht (by omega) (fun g => by omega) (fun g => ?_))
      first | refine zb_ifeq h rfl (fun hc => ?_) (fun hc => ?_) | refine zc_ifeq h rfl (fun hc => ?_) (fun hc => ?_)
      · refine zi_aload_n h rfl rfl ?_
        refine zi_iload_n h rfl rfl ?_
        refine zk_V h [_] rfl (by first | rfl | assumption) rfl rfl (Nat.le_of_ble_eq_true rfl) (s_num hcc hqc ?_)
        refine zi_astore_n h rfl (Nat.le_of_ble_eq_true rfl) ?_
        refine zi_aload_n h rfl rfl ?_
        refine zi_iload_n h rfl rfl ?_
        refine zk_V h [_] rfl (by first | rfl | assumption) rfl rfl (Nat.le_of_ble_eq_true rfl) (s_serves hq hk (fun g => ?_) (fun g => ?_))
        · first | refine zb_ifne h rfl (fun hc => ?_) (fun hc => ?_) | refine zc_ifne h rfl (fun hc => ?_) (fun hc => ?_)
          · refine zi_aload_n h rfl rfl ?_
            refine zg_ref h rfl (by first | rfl | assumption) (by decide) rfl rfl ?_
            refine zi_aload_n h rfl rfl ?_
            refine zg_int h rfl (by first | rfl | assumption) (by decide) rfl ?_
            refine zk_V h [_] rfl (by first | rfl | assumption) rfl rfl (Nat.le_of_ble_eq_true rfl) (s_withOther ?_)
            refine zn_iconst h 3 rfl rfl ?_
            first | refine zn_icmplt h rfl (by omega) (by omega) (fun hc => ?_) (fun hc => ?_) | refine zc_icmplt h rfl (fun hc => ?_) (fun hc => ?_)
            · have c3 := hc
              refine zi_aload_n h rfl rfl ?_
              refine zg_ref h rfl (by first | rfl | assumption) (by decide) rfl rfl ?_
              refine zg_ref h rfl (by first | rfl | assumption) (by decide) rfl rfl ?_
              refine zi_iload_n h rfl rfl ?_
              refine za_z h rfl (by first | rfl | assumption) rfl (by omega) (by decide) ?_
              first | refine zb_ifne h rfl (fun hc => ?_) (fun hc => ?_) | refine zc_ifne h rfl (fun hc => ?_) (fun hc => ?_)
              · refine zi_aload_n h rfl rfl ?_
                refine zg_ref h rfl (by first | rfl | assumption) (by decide) rfl rfl ?_
                refine zn_iconst h 1 rfl rfl ?_
                refine zi_aload_n h rfl rfl ?_
                refine zg_ref h rfl (by first | rfl | assumption) (by decide) rfl rfl ?_
                refine zg_ref h rfl (by first | rfl | assumption) (by decide) rfl rfl ?_
                refine zi_iload_n h rfl rfl ?_
                refine za_i h rfl (by first | rfl | assumption) rfl (by omega) (by decide) ?_
                refine zk_V h [_, _] rfl (by first | rfl | assumption) rfl rfl (Nat.le_of_ble_eq_true rfl) (s_tick ht ht2 ?_)
                refine zi_iret h rfl ?_
                exact h3 g c3 hc
              · have c4 := hc
                refine zi_aload_n h rfl rfl ?_
                refine zg_ref h rfl (by first | rfl | assumption) (by decide) rfl rfl ?_
                refine zi_iload_n h rfl rfl ?_
                refine zk_V h [_] rfl (by first | rfl | assumption) rfl rfl (Nat.le_of_ble_eq_true rfl) (s_isDataLost hk (fun u => ?_) (fun u => ?_))
                · first | refine zb_ifeq h rfl (fun hc => ?_) (fun hc => ?_) | refine zc_ifeq h rfl (fun hc => ?_) (fun hc => ?_)
                  · exact absurd hc (by decide)
                  · refine zi_aload_n h rfl rfl ?_
                    refine zg_ref h rfl (by first | rfl | assumption) (by decide) rfl rfl ?_
                    refine zn_iconst h 2 rfl rfl ?_
                    refine zn_iconst h 0 rfl rfl ?_
                    refine zk_V h [_, _] rfl (by first | rfl | assumption) rfl rfl (Nat.le_of_ble_eq_true rfl) (s_tick ht ht2 ?_)
                    refine zi_iret h rfl ?_
                    exact h4 g c3 c4 u
                · first | refine zb_ifeq h rfl (fun hc => ?_) (fun hc => ?_) | refine zc_ifeq h rfl (fun hc => ?_) (fun hc => ?_)
                  · refine zi_aload_n h rfl rfl ?_
                    refine zg_ref h rfl (by first | rfl | assumption) (by decide) rfl rfl ?_
                    refine zi_iload_n h rfl rfl ?_
                    refine zi_aload_n h rfl rfl ?_
                    refine zg_ref h rfl (by first | rfl | assumption) (by decide) rfl rfl ?_
                    refine zi_iload_n h rfl rfl ?_
                    refine zk_V h [_] rfl (by first | rfl | assumption) rfl rfl (Nat.le_of_ble_eq_true rfl) (s_dataOf hk ?_)
                    refine zn_iconst h 0 rfl rfl ?_
                    refine zn_iconst h 0 rfl rfl ?_
                    refine zk_V h [_, _, _, _] rfl (by first | rfl | assumption) rfl rfl (Nat.le_of_ble_eq_true rfl) (s_eput (tx_c1 hq) hk (Or.inl rfl) ?_)
                    refine zi_aload_n h rfl rfl ?_
                    refine zg_ref h rfl (by first | rfl | assumption) (by decide) rfl rfl ?_
                    refine zn_iconst h 1 rfl rfl ?_
                    refine zi_aload_n h rfl rfl ?_
                    refine zg_ref h rfl (by first | rfl | assumption) (by decide) rfl rfl ?_
                    refine zg_ref h rfl (by first | rfl | assumption) (by decide) rfl rfl ?_
                    refine zi_iload_n h rfl rfl ?_
                    refine za_i h rfl (by first | rfl | assumption) rfl (by omega) (by decide) ?_
                    have e1 : tw_up (tw_up (tw_up (tw_up f (q + 1 + 1) k 1) (q + 1 + 2) k (nI 0)) (q + 1 + 3) k (p_what (f 5) (f 4) k)) (q + 1 + 4) k (nI 0) (q + 1 + 3) k = p_what (f 5) (f 4) k := by
                      rw [tw_off (by omega)]
                      simp [tw_up]
                    rw [e1]
                    refine zk_V h [_, _] rfl (by first | rfl | assumption) rfl rfl (Nat.le_of_ble_eq_true rfl) (s_tick (m := tm) (by rw [tw_off (by omega), tw_off (by omega), tw_off (by omega), tw_off (by omega)]; exact ht) ht2 ?_)
                    refine zi_iret h rfl ?_
                    exact h5 g c3 c4 u
                  · exact absurd rfl hc
            · refine zi_aload_n h rfl rfl ?_
              refine zi_aload_n h rfl rfl ?_
              refine zk_V h [_] rfl (by first | rfl | assumption) rfl rfl (Nat.le_of_ble_eq_true rfl) (s_goDown hq hl hl2 ht (by omega) ?_)
              refine zi_aload_n h rfl rfl ?_
              refine zg_ref h rfl (by first | rfl | assumption) (by decide) rfl rfl ?_
              refine zn_iconst h 2 rfl rfl ?_
              refine zn_iconst h 0 rfl rfl ?_
              refine zk_V h [_, _] rfl (by first | rfl | assumption) rfl rfl (Nat.le_of_ble_eq_true rfl) (s_tick (m := tm) (by rw [p_down_65 hq]; exact ht) ht2 ?_)
              refine zi_iret h rfl ?_
              exact h2 g (by omega)
          · exact absurd hc (by decide)
        · first | refine zb_ifne h rfl (fun hc => ?_) (fun hc => ?_) | refine zc_ifne h rfl (fun hc => ?_) (fun hc => ?_)
          · exact absurd rfl hc
          · refine zi_aload_n h rfl rfl ?_
            refine zg_ref h rfl (by first | rfl | assumption) (by decide) rfl rfl ?_
            refine zn_iconst h 2 rfl rfl ?_
            refine zn_iconst h 0 rfl rfl ?_
            refine zk_V h [_, _] rfl (by first | rfl | assumption) rfl rfl (Nat.le_of_ble_eq_true rfl) (s_tick ht ht2 ?_)
            refine zi_iret h rfl ?_
            exact h1 g
      · exact absurd rfl hc
set_option maxRecDepth 20000 in
theorem s_late_x {fl : Bool} {d : Nat} {f : tw_S} {P : tw_S → Option tw_A → Prop} {x : Int32} {lm : Nat} (hl : f 12 4 = nI lm) (hl2 : lm ≤ 20) (hx : x < 0 ∨ nI lm ≤ x) (hP : P f (some (tw_I (-1)))) : tS fl (d + 2) 100 [tw_R 0, tw_I x] f P := by
  refine tw_Sp_of rfl rfl (Nat.le_of_ble_eq_true rfl) (fun X h => ?_)
  refine zi_aload_n h rfl rfl ?_
  refine zg_ref h rfl (by first | rfl | assumption) (by decide) rfl rfl ?_
  refine zi_iload_n h rfl rfl ?_
  refine zk_V h [_] rfl (by first | rfl | assumption) rfl rfl (Nat.le_of_ble_eq_true rfl) (s_lhas hl hl2 (fun j g1 g2 => ?_) (fun g => ?_))
  · exfalso
    subst g2
    rcases hx with u | u
    · exact absurd u (nI_pos (by omega))
    · exact absurd ((nI_leI (by omega) (by omega)).mp u) (by omega)
  · first | refine zb_ifne h rfl (fun hc => ?_) (fun hc => ?_) | refine zc_ifne h rfl (fun hc => ?_) (fun hc => ?_)
    · exact absurd rfl hc
    · refine zi_iconst h rfl ?_
      refine zi_iret h rfl ?_
      exact hP
/-- the late writes without the one at k, of m -/
def p_lrm (f : tw_S) (k m : Nat) : tw_S := fun c j => if 13 ≤ c ∧ c ≤ 16 ∧ k ≤ j ∧ j < m - 1 then f c (j + 1) else if c = 12 ∧ j = 4 then nI (m - 1) else f c j
set_option maxRecDepth 20000 in
theorem s_late_k {fl : Bool} {d : Nat} {f : tw_S} {P : tw_S → Option tw_A → Prop} {k lm i s : Nat} (hl : f 12 4 = nI lm) (hl2 : lm ≤ 20) (hk : k < lm) (hi : f 13 k = nI i) (hi2 : i < 5) (hs : f 14 k = nI s) (hs2 : s < 8) (h1 : (¬ f 2 i = 0 ∧ f 3 i = f 16 k) → P (p_lrm (tw_up (tw_up f 4 (i * 8 + s) (f 15 k)) 5 (i * 8 + s) 0) k lm) (some (tw_I 1))) (h2 : ¬ (¬ f 2 i = 0 ∧ f 3 i = f 16 k) → P (p_lrm f k lm) (some (tw_I 0))) : tS fl (d + 2) 100 [tw_R 0, tw_I (nI k)] f P := by
  refine tw_Sp_of rfl rfl (Nat.le_of_ble_eq_true rfl) (fun X h => ?_)
  have no : ¬ (¬ f 2 i = 0 ∧ f 3 i = f 16 k) → X 33 [some (tw_R 0), some (tw_I (nI k)), some (tw_I (nI i)), none] [tw_I (nI 0)] tx_L0 f := by
    intro cn
    refine zi_istore_n h rfl (Nat.le_of_ble_eq_true rfl) ?_
    refine zi_iload_n h rfl rfl ?_
    first | refine zb_ifeq h rfl (fun hc => ?_) (fun hc => ?_) | refine zc_ifeq h rfl (fun hc => ?_) (fun hc => ?_)
    · refine zi_aload_n h rfl rfl ?_
      refine zg_ref h rfl (by first | rfl | assumption) (by decide) rfl rfl ?_
      refine zi_iload_n h rfl rfl ?_
      refine zk_V h [_] rfl (by first | rfl | assumption) rfl rfl (Nat.le_of_ble_eq_true rfl) (s_lremove hl hl2 hk ?_)
      refine zi_iload_n h rfl rfl ?_
      first | refine zb_ifeq h rfl (fun hc => ?_) (fun hc => ?_) | refine zc_ifeq h rfl (fun hc => ?_) (fun hc => ?_)
      · refine zn_iconst h 0 rfl rfl ?_
        refine zi_iret h rfl ?_
        exact h2 cn
      · exact absurd rfl hc
    · exact absurd rfl hc
  refine zi_aload_n h rfl rfl ?_
  refine zg_ref h rfl (by first | rfl | assumption) (by decide) rfl rfl ?_
  refine zi_iload_n h rfl rfl ?_
  refine zk_V h [_] rfl (by first | rfl | assumption) rfl rfl (Nat.le_of_ble_eq_true rfl) (s_lhas hl hl2 (fun j g1 g2 => ?_) (fun g => ?_))
  · first | refine zb_ifne h rfl (fun hc => ?_) (fun hc => ?_) | refine zc_ifne h rfl (fun hc => ?_) (fun hc => ?_)
    · refine zi_aload_n h rfl rfl ?_
      refine zg_ref h rfl (by first | rfl | assumption) (by decide) rfl rfl ?_
      refine zg_ref h rfl (by first | rfl | assumption) (by decide) rfl rfl ?_
      refine zi_iload_n h rfl rfl ?_
      refine za_n h i rfl (by first | rfl | assumption) rfl (by omega) (by decide) hi ?_
      refine zi_istore_n h rfl (Nat.le_of_ble_eq_true rfl) ?_
      refine zi_aload_n h rfl rfl ?_
      refine zg_ref h rfl (by first | rfl | assumption) (by decide) rfl rfl ?_
      refine zg_ref h rfl (by first | rfl | assumption) (by decide) rfl rfl ?_
      refine zi_iload_n h rfl rfl ?_
      refine za_z h rfl (by first | rfl | assumption) rfl (by omega) (by decide) ?_
      first | refine zb_ifeq h rfl (fun hc => ?_) (fun hc => ?_) | refine zc_ifeq h rfl (fun hc => ?_) (fun hc => ?_)
      · refine zn_iconst h 0 rfl rfl ?_
        exact no (fun u => u.1 hc)
      · have c2 := hc
        refine zi_aload_n h rfl rfl ?_
        refine zg_ref h rfl (by first | rfl | assumption) (by decide) rfl rfl ?_
        refine zg_ref h rfl (by first | rfl | assumption) (by decide) rfl rfl ?_
        refine zi_iload_n h rfl rfl ?_
        refine za_i h rfl (by first | rfl | assumption) rfl (by omega) (by decide) ?_
        refine zi_aload_n h rfl rfl ?_
        refine zg_ref h rfl (by first | rfl | assumption) (by decide) rfl rfl ?_
        refine zg_ref h rfl (by first | rfl | assumption) (by decide) rfl rfl ?_
        refine zi_iload_n h rfl rfl ?_
        refine za_i h rfl (by first | rfl | assumption) rfl (by omega) (by decide) ?_
        refine zc_icmpne h rfl (fun hc => ?_) (fun hc => ?_)
        · refine zn_iconst h 0 rfl rfl ?_
          exact no (fun u => hc u.2)
        · refine zn_iconst h 1 rfl rfl ?_
          refine zi_goto h rfl ?_
          refine zi_istore_n h rfl (Nat.le_of_ble_eq_true rfl) ?_
          refine zi_iload_n h rfl rfl ?_
          first | refine zb_ifeq h rfl (fun hc => ?_) (fun hc => ?_) | refine zc_ifeq h rfl (fun hc => ?_) (fun hc => ?_)
          · exact absurd hc (by decide)
          · refine zi_aload_n h rfl rfl ?_
            refine zg_ref h rfl (by first | rfl | assumption) (by decide) rfl rfl ?_
            refine zi_iload_n h rfl rfl ?_
            refine zi_aload_n h rfl rfl ?_
            refine zg_ref h rfl (by first | rfl | assumption) (by decide) rfl rfl ?_
            refine zg_ref h rfl (by first | rfl | assumption) (by decide) rfl rfl ?_
            refine zi_iload_n h rfl rfl ?_
            refine za_n h s rfl (by first | rfl | assumption) rfl (by omega) (by decide) hs ?_
            refine zi_aload_n h rfl rfl ?_
            refine zg_ref h rfl (by first | rfl | assumption) (by decide) rfl rfl ?_
            refine zg_ref h rfl (by first | rfl | assumption) (by decide) rfl rfl ?_
            refine zi_iload_n h rfl rfl ?_
            refine za_i h rfl (by first | rfl | assumption) rfl (by omega) (by decide) ?_
            refine zk_V h [_, _, _] rfl (by first | rfl | assumption) rfl rfl (Nat.le_of_ble_eq_true rfl) (s_put hi2 hs2 ?_)
            refine zi_aload_n h rfl rfl ?_
            refine zg_ref h rfl (by first | rfl | assumption) (by decide) rfl rfl ?_
            refine zi_iload_n h rfl rfl ?_
            refine zk_V h [_] rfl (by first | rfl | assumption) rfl rfl (Nat.le_of_ble_eq_true rfl) (s_lremove (by rw [tw_off (by omega), tw_off (by omega)]; exact hl) hl2 hk ?_)
            refine zi_iload_n h rfl rfl ?_
            first | refine zb_ifeq h rfl (fun hc => ?_) (fun hc => ?_) | refine zc_ifeq h rfl (fun hc => ?_) (fun hc => ?_)
            · exact absurd hc (by decide)
            · refine zn_iconst h 1 rfl rfl ?_
              refine zi_goto h rfl ?_
              refine zi_iret h rfl ?_
              exact h1 ⟨c2, by assumption⟩
    · exact absurd hc (by decide)
  · exfalso
    rcases g with u | u
    · exact absurd u (nI_pos (by omega))
    · exact absurd ((nI_leI (by omega) (by omega)).mp u) (by omega)
set_option maxRecDepth 20000 in
theorem s_ticket_k {fl : Bool} {d : Nat} {f : tw_S} {P : tw_S → Option tw_A → Prop} {k tm : Nat} (ht : f 6 5 = nI tm) (ht2 : tm ≤ 200) (hk : k < tm) (hP : P f (some (tw_I (f 7 k)))) : tS fl (d + 2) 106 [tw_R 0, tw_I (nI k)] f P := by
  refine tw_Sp_of rfl rfl (Nat.le_of_ble_eq_true rfl) (fun X h => ?_)
  refine zi_aload_n h rfl rfl ?_
  refine zg_ref h rfl (by first | rfl | assumption) (by decide) rfl rfl ?_
  refine zi_iload_n h rfl rfl ?_
  refine zk_V h [_] rfl (by first | rfl | assumption) rfl rfl (Nat.le_of_ble_eq_true rfl) (s_thas ht ht2 (fun j g1 g2 => ?_) (fun g => ?_))
  · first | refine zb_ifne h rfl (fun hc => ?_) (fun hc => ?_) | refine zc_ifne h rfl (fun hc => ?_) (fun hc => ?_)
    · refine zi_aload_n h rfl rfl ?_
      refine zg_ref h rfl (by first | rfl | assumption) (by decide) rfl rfl ?_
      refine zg_ref h rfl (by first | rfl | assumption) (by decide) rfl rfl ?_
      refine zi_iload_n h rfl rfl ?_
      refine za_i h rfl (by first | rfl | assumption) rfl (by omega) (by decide) ?_
      refine zi_iret h rfl ?_
      exact hP
    · exact absurd hc (by decide)
  · exfalso
    rcases g with u | u
    · exact absurd u (nI_pos (by omega))
    · exact absurd ((nI_leI (by omega) (by omega)).mp u) (by omega)
set_option maxRecDepth 20000 in
theorem s_value_k {fl : Bool} {d : Nat} {f : tw_S} {P : tw_S → Option tw_A → Prop} {k tm : Nat} (ht : f 6 5 = nI tm) (ht2 : tm ≤ 200) (hk : k < tm) (hP : P f (some (tw_I (f 8 k)))) : tS fl (d + 2) 107 [tw_R 0, tw_I (nI k)] f P := by
  refine tw_Sp_of rfl rfl (Nat.le_of_ble_eq_true rfl) (fun X h => ?_)
  refine zi_aload_n h rfl rfl ?_
  refine zg_ref h rfl (by first | rfl | assumption) (by decide) rfl rfl ?_
  refine zi_iload_n h rfl rfl ?_
  refine zk_V h [_] rfl (by first | rfl | assumption) rfl rfl (Nat.le_of_ble_eq_true rfl) (s_thas ht ht2 (fun j g1 g2 => ?_) (fun g => ?_))
  · first | refine zb_ifne h rfl (fun hc => ?_) (fun hc => ?_) | refine zc_ifne h rfl (fun hc => ?_) (fun hc => ?_)
    · refine zi_aload_n h rfl rfl ?_
      refine zg_ref h rfl (by first | rfl | assumption) (by decide) rfl rfl ?_
      refine zg_ref h rfl (by first | rfl | assumption) (by decide) rfl rfl ?_
      refine zi_iload_n h rfl rfl ?_
      refine za_i h rfl (by first | rfl | assumption) rfl (by omega) (by decide) ?_
      refine zi_iret h rfl ?_
      exact hP
    · exact absurd hc (by decide)
  · exfalso
    rcases g with u | u
    · exact absurd u (nI_pos (by omega))
    · exact absurd ((nI_leI (by omega) (by omega)).mp u) (by omega)
set_option maxRecDepth 20000 in
theorem s_onDisk_i {fl : Bool} {d : Nat} {f : tw_S} {P : tw_S → Option tw_A → Prop} {i s : Nat} (hi : i < 5) (hs : s < 8) (hm : f 5 (i * 8 + s) = 0) (hP : P f (some (tw_I (f 4 (i * 8 + s))))) : tS fl (d + 2) 108 [tw_R 0, tw_I (nI i), tw_I (nI s)] f P := by
  refine tw_Sp_of rfl rfl (Nat.le_of_ble_eq_true rfl) (fun X h => ?_)
  refine zi_iload_n h rfl rfl ?_
  refine zk_S h [_] rfl rfl rfl (Nat.le_of_ble_eq_true rfl) (s_dsk1 hi ?_)
  first | refine zb_ifeq h rfl (fun hc => ?_) (fun hc => ?_) | refine zc_ifeq h rfl (fun hc => ?_) (fun hc => ?_)
  · exact absurd hc (by decide)
  · refine zi_iload_n h rfl rfl ?_
    refine zk_S h [_] rfl rfl rfl (Nat.le_of_ble_eq_true rfl) (s_str1 hs ?_)
    first | refine zb_ifeq h rfl (fun hc => ?_) (fun hc => ?_) | refine zc_ifeq h rfl (fun hc => ?_) (fun hc => ?_)
    · exact absurd hc (by decide)
    · refine zi_aload_n h rfl rfl ?_
      refine zg_ref h rfl (by first | rfl | assumption) (by decide) rfl rfl ?_
      refine zi_iload_n h rfl rfl ?_
      refine zi_iload_n h rfl rfl ?_
      refine zk_V h [_, _] rfl (by first | rfl | assumption) rfl rfl (Nat.le_of_ble_eq_true rfl) (s_isMissing hi hs ?_)
      first | refine zb_ifeq h rfl (fun hc => ?_) (fun hc => ?_) | refine zc_ifeq h rfl (fun hc => ?_) (fun hc => ?_)
      · refine zi_aload_n h rfl rfl ?_
        refine zg_ref h rfl (by first | rfl | assumption) (by decide) rfl rfl ?_
        refine zi_iload_n h rfl rfl ?_
        refine zi_iload_n h rfl rfl ?_
        refine zk_V h [_, _] rfl (by first | rfl | assumption) rfl rfl (Nat.le_of_ble_eq_true rfl) (s_blockOn hi hs ?_)
        refine zi_iret h rfl ?_
        exact hP
      · exact absurd hm hc
set_option maxRecDepth 20000 in
theorem s_step_x {fl : Bool} {d : Nat} {f : tw_S} {P : tw_S → Option tw_A → Prop} {x : Int32} (hx : ¬ (x = 0 ∨ x = 1)) (hP : P f (some (tw_I (-1)))) : tS fl (d + 8) 83 [tw_R 0, tw_I x] f P := by
  refine tw_Sp_of rfl rfl (Nat.le_of_ble_eq_true rfl) (fun X h => ?_)
  refine zi_iload_n h rfl rfl ?_
  refine zk_S h [_] rfl rfl rfl (Nat.le_of_ble_eq_true rfl) (s_ctl0 hx ?_)
  first | refine zb_ifne h rfl (fun hc => ?_) (fun hc => ?_) | refine zc_ifne h rfl (fun hc => ?_) (fun hc => ?_)
  · exact absurd rfl hc
  · refine zi_iconst h rfl ?_
    refine zi_iret h rfl ?_
    exact hP
set_option maxRecDepth 20000 in
theorem s_step_c {fl : Bool} {d : Nat} {f : tw_S} {P : tw_S → Option tw_A → Prop} {c q : Nat} (hc : c < 2) (hqc : q = 17 + 22 * c) (h1 : f q 6 = 0 → P f (some (tw_I 0))) (h2 : ¬ f q 6 = 0 → tS fl (d + 7) 82 [tw_R 0, tw_R q] f (fun f2 r => ∃ x, r = some (tw_I x) ∧ P f2 r)) : tS fl (d + 8) 83 [tw_R 0, tw_I (nI c)] f P := by
  have hcc := hc
  have hq : q = 17 ∨ q = 39 := by omega
  have lc := tx_ctl hq
  obtain ⟨a0, a1, a2, a3, a4⟩ := tx_ent (tx_c1 hq)
  obtain ⟨m0, m1, m2, m3, m4⟩ := tx_ent (tx_c6 hq)
  obtain ⟨i0, i1, i2, i3, i4, i5⟩ := tx_inb (tx_c11 hq)
  obtain ⟨d0, d1, d2, d3⟩ := tx_des (tx_c17 hq)
  have w0 := tx_dwr (tx_c21 hq)
  refine tw_Sp_of rfl rfl (Nat.le_of_ble_eq_true rfl) (fun X h => ?_)
  refine zi_iload_n h rfl rfl ?_
  refine zk_S h [_] rfl rfl rfl (Nat.le_of_ble_eq_true rfl) (s_ctl1 hcc ?_)
  first | refine zb_ifne h rfl (fun hc => ?_) (fun hc => ?_) | refine zc_ifne h rfl (fun hc => ?_) (fun hc => ?_)
  · refine zi_aload_n h rfl rfl ?_
    refine zi_iload_n h rfl rfl ?_
    refine zk_V h [_] rfl (by first | rfl | assumption) rfl rfl (Nat.le_of_ble_eq_true rfl) (s_num hcc hqc ?_)
    refine zi_astore_n h rfl (Nat.le_of_ble_eq_true rfl) ?_
    refine zi_aload_n h rfl rfl ?_
    refine zg_boo h rfl (by first | rfl | assumption) (by decide) rfl ?_
    first | refine zb_ifeq h rfl (fun hc => ?_) (fun hc => ?_) | refine zc_ifeq h rfl (fun hc => ?_) (fun hc => ?_)
    · refine zn_iconst h 0 rfl rfl ?_
      refine zi_iret h rfl ?_
      exact h1 hc
    · refine zi_aload_n h rfl rfl ?_
      refine zi_aload_n h rfl rfl ?_
      refine zk_V h [_] rfl (by first | rfl | assumption) rfl rfl (Nat.le_of_ble_eq_true rfl) (tw_Sp_mono (h2 hc) (fun f2 r k => ?_))
      obtain ⟨x, rfl, k⟩ := k
      refine zi_goto h rfl ?_
      refine zi_iret h rfl ?_
      exact k
  · exact absurd hc (by decide)
end
section
/-! TwinArray's public methods: arrivals, state, pair, moveOwner. -/
set_option maxRecDepth 20000 in
theorem s_notice0 {fl : Bool} {d : Nat} {f : tw_S} {P : tw_S → Option tw_A → Prop} {q i k : Nat} (hq : q = 17 ∨ q = 39) (hn : f q 0 = if q = 17 then 0 else 1) (hb : p_box f (56 - q)) (hi : i < 40) (hp : f (q + 13) i = nI k) (hk : k < 32) (hP : P (p_send (p_newer f q k (f (q + 14) i) (f (q + 15) i)) (56 - q) 1 0 0 0 (f (q + 16) i)) none) : tS fl (d + 3) 84 [tw_R 0, tw_R q, tw_I (nI 0), tw_I (nI i)] f P := by
  have lc := tx_ctl hq
  obtain ⟨a0, a1, a2, a3, a4⟩ := tx_ent (tx_c1 hq)
  obtain ⟨m0, m1, m2, m3, m4⟩ := tx_ent (tx_c6 hq)
  obtain ⟨i0, i1, i2, i3, i4, i5⟩ := tx_inb (tx_c11 hq)
  obtain ⟨d0, d1, d2, d3⟩ := tx_des (tx_c17 hq)
  have w0 := tx_dwr (tx_c21 hq)
  have hbn : p_box (p_newer f q k (f (q + 14) i) (f (q + 15) i)) (56 - q) := by
    obtain ⟨a, m, g1, g2, g3, g4⟩ := hb
    exact ⟨a, m, by rw [p_newer_off (by omega)]; exact g1, g2, by rw [p_newer_off (by omega)]; exact g3, g4⟩
  refine tw_Sp_of rfl rfl (Nat.le_of_ble_eq_true rfl) (fun X h => ?_)
  have tail : ∀ g : tw_S, (∀ a b, g a b = p_newer f q k (f (q + 14) i) (f (q + 15) i) a b) → X 22 [some (tw_R 0), some (tw_R q), some (tw_I (nI 0)), some (tw_I (nI i)), some (tw_R (q + 11)), some (tw_I (nI k))] [] tx_L0 g := by
    intro g hg
    refine tw_mem hg ?_
    have e16 : p_newer f q k (f (q + 14) i) (f (q + 15) i) (q + 11 + 5) i = f (q + 16) i := p_newer_off (by omega)
    refine zi_aload_n h rfl rfl ?_
    refine zi_aload_n h rfl rfl ?_
    refine zi_aload_n h rfl rfl ?_
    refine zk_V h [_] rfl (by first | rfl | assumption) rfl rfl (Nat.le_of_ble_eq_true rfl) (s_partnerOf hq (by rw [p_newer_off (by omega)]; exact hn) ?_)
    refine zn_iconst h 1 rfl rfl ?_
    refine zn_iconst h 0 rfl rfl ?_
    refine zn_iconst h 0 rfl rfl ?_
    refine zn_iconst h 0 rfl rfl ?_
    refine zi_aload h rfl rfl ?_
    refine zg_ref h rfl (by first | rfl | assumption) (by decide) rfl rfl ?_
    refine zi_iload_n h rfl rfl ?_
    refine za_i h rfl (by first | rfl | assumption) rfl (by omega) (by decide) ?_
    rw [e16]
    refine zk_V h [_, _, _, _, _, _] rfl (by first | rfl | assumption) rfl rfl (Nat.le_of_ble_eq_true rfl) (s_send (by omega) hbn ?_)
    refine zi_goto h rfl ?_
    refine zi_vret h rfl ?_
    exact hP
  refine zi_aload_n h rfl rfl ?_
  refine zg_ref h rfl (by first | rfl | assumption) (by decide) rfl rfl ?_
  refine zi_astore h rfl (Nat.le_of_ble_eq_true rfl) ?_
  refine zi_aload h rfl rfl ?_
  refine zg_ref h rfl (by first | rfl | assumption) (by decide) rfl rfl ?_
  refine zi_iload_n h rfl rfl ?_
  refine za_n h k rfl (by first | rfl | assumption) rfl (by omega) (by decide) hp ?_
  refine zi_istore h rfl (Nat.le_of_ble_eq_true rfl) ?_
  refine zi_iload_n h rfl rfl ?_
  refine zi_switch h rfl rfl ?_
  rw [tw_tg_n (by omega)]
  show X 10 _ _ _ _
  refine zi_aload_n h rfl rfl ?_
  refine zg_ref h rfl (by first | rfl | assumption) (by decide) rfl rfl ?_
  refine zi_iload h rfl rfl ?_
  refine zi_aload h rfl rfl ?_
  refine zg_ref h rfl (by first | rfl | assumption) (by decide) rfl rfl ?_
  refine zi_iload_n h rfl rfl ?_
  refine za_i h rfl (by first | rfl | assumption) rfl (by omega) (by decide) ?_
  refine zi_aload h rfl rfl ?_
  refine zg_ref h rfl (by first | rfl | assumption) (by decide) rfl rfl ?_
  refine zi_iload_n h rfl rfl ?_
  show X 20 _ _ _ _
  refine za_i h rfl (by first | rfl | assumption) rfl (by omega) (by decide) ?_
  refine zk_V h [_, _, _] rfl (by first | rfl | assumption) rfl rfl (Nat.le_of_ble_eq_true rfl) (s_putIfNewer (tx_c6 hq) hk (fun g => ?_) (fun g => ?_))
  · refine tail _ (fun a b => ?_)
    rw [p_newer, if_pos g]
  · refine tail _ (fun a b => ?_)
    rw [p_newer, if_neg g]
set_option maxRecDepth 20000 in
theorem s_notice1 {fl : Bool} {d : Nat} {f : tw_S} {P : tw_S → Option tw_A → Prop} {q i tm : Nat} (hq : q = 17 ∨ q = 39) (hi : i < 40) (ht : f 6 5 = nI tm) (ht2 : tm ≤ 200) (h1 : ∀ j, j < tm → f (q + 16) i = nI j → f 7 j = 0 → P (tw_up f 7 j 1) none) (h2 : (∀ j, j < tm → f (q + 16) i = nI j → ¬ f 7 j = 0) → P f none) : tS fl (d + 3) 84 [tw_R 0, tw_R q, tw_I (nI 1), tw_I (nI i)] f P := by
  have lc := tx_ctl hq
  obtain ⟨a0, a1, a2, a3, a4⟩ := tx_ent (tx_c1 hq)
  obtain ⟨m0, m1, m2, m3, m4⟩ := tx_ent (tx_c6 hq)
  obtain ⟨i0, i1, i2, i3, i4, i5⟩ := tx_inb (tx_c11 hq)
  obtain ⟨d0, d1, d2, d3⟩ := tx_des (tx_c17 hq)
  have w0 := tx_dwr (tx_c21 hq)
  refine tw_Sp_of rfl rfl (Nat.le_of_ble_eq_true rfl) (fun X h => ?_)
  refine zi_aload_n h rfl rfl ?_
  refine zg_ref h rfl (by first | rfl | assumption) (by decide) rfl rfl ?_
  refine zi_astore h rfl (Nat.le_of_ble_eq_true rfl) ?_
  refine zi_aload h rfl rfl ?_
  refine zg_ref h rfl (by first | rfl | assumption) (by decide) rfl rfl ?_
  refine zi_iload_n h rfl rfl ?_
  refine za_i h rfl (by first | rfl | assumption) rfl (by omega) (by decide) ?_
  refine zi_istore h rfl (Nat.le_of_ble_eq_true rfl) ?_
  refine zi_iload_n h rfl rfl ?_
  refine zi_switch h rfl rfl ?_
  rw [tw_tg_n (by omega)]
  show X 36 _ _ _ _
  refine zi_aload_n h rfl rfl ?_
  refine zg_ref h rfl (by first | rfl | assumption) (by decide) rfl rfl ?_
  refine zi_aload h rfl rfl ?_
  refine zg_ref h rfl (by first | rfl | assumption) (by decide) rfl rfl ?_
  refine zi_iload_n h rfl rfl ?_
  refine za_i h rfl (by first | rfl | assumption) rfl (by omega) (by decide) ?_
  refine zk_V h [_] rfl (by first | rfl | assumption) rfl rfl (Nat.le_of_ble_eq_true rfl) (s_finish ht ht2 (fun j g1 g2 g3 => ?_) (fun g => ?_))
  · refine zi_goto h rfl ?_
    refine zi_vret h rfl ?_
    exact h1 j g1 g2 g3
  · refine zi_goto h rfl ?_
    refine zi_vret h rfl ?_
    exact h2 g
set_option maxRecDepth 20000 in
theorem s_notice2 {fl : Bool} {d : Nat} {f : tw_S} {P : tw_S → Option tw_A → Prop} {q i k : Nat} (hq : q = 17 ∨ q = 39) (hi : i < 40) (hp : f (q + 13) i = nI k) (hk : k < 32) (hP : P (p_dropv f q k (f (q + 15) i)) none) : tS fl (d + 3) 84 [tw_R 0, tw_R q, tw_I (nI 2), tw_I (nI i)] f P := by
  have lc := tx_ctl hq
  obtain ⟨a0, a1, a2, a3, a4⟩ := tx_ent (tx_c1 hq)
  obtain ⟨m0, m1, m2, m3, m4⟩ := tx_ent (tx_c6 hq)
  obtain ⟨i0, i1, i2, i3, i4, i5⟩ := tx_inb (tx_c11 hq)
  obtain ⟨d0, d1, d2, d3⟩ := tx_des (tx_c17 hq)
  have w0 := tx_dwr (tx_c21 hq)
  refine tw_Sp_of rfl rfl (Nat.le_of_ble_eq_true rfl) (fun X h => ?_)
  refine zi_aload_n h rfl rfl ?_
  refine zg_ref h rfl (by first | rfl | assumption) (by decide) rfl rfl ?_
  refine zi_astore h rfl (Nat.le_of_ble_eq_true rfl) ?_
  refine zi_aload h rfl rfl ?_
  refine zg_ref h rfl (by first | rfl | assumption) (by decide) rfl rfl ?_
  refine zi_iload_n h rfl rfl ?_
  refine za_n h k rfl (by first | rfl | assumption) rfl (by omega) (by decide) hp ?_
  refine zi_istore h rfl (Nat.le_of_ble_eq_true rfl) ?_
  refine zi_iload_n h rfl rfl ?_
  refine zi_switch h rfl rfl ?_
  rw [tw_tg_n (by omega)]
  show X 44 _ _ _ _
  refine zi_aload_n h rfl rfl ?_
  refine zg_ref h rfl (by first | rfl | assumption) (by decide) rfl rfl ?_
  refine zi_iload h rfl rfl ?_
  refine zi_aload h rfl rfl ?_
  refine zg_ref h rfl (by first | rfl | assumption) (by decide) rfl rfl ?_
  refine zi_iload_n h rfl rfl ?_
  refine za_i h rfl (by first | rfl | assumption) rfl (by omega) (by decide) ?_
  refine zk_V h [_, _] rfl (by first | rfl | assumption) rfl rfl (Nat.le_of_ble_eq_true rfl) (s_dropVersion (tx_c6 hq) hk (fun g => ?_) (fun g => ?_))
  · refine zi_goto h rfl ?_
    refine zi_vret h rfl ?_
    rw [p_dropv, if_pos g] at hP
    exact hP
  · refine zi_goto h rfl ?_
    refine zi_vret h rfl ?_
    rw [p_dropv, if_neg g] at hP
    exact hP
set_option maxRecDepth 20000 in
theorem s_notice3 {fl : Bool} {d : Nat} {f : tw_S} {P : tw_S → Option tw_A → Prop} {q i : Nat} (hq : q = 17 ∨ q = 39) (hi : i < 40) (hP : P (tw_up f q 13 (f q 13 ||| 1 <<< (f (q + 13) i &&& 31))) none) : tS fl (d + 3) 84 [tw_R 0, tw_R q, tw_I (nI 3), tw_I (nI i)] f P := by
  have lc := tx_ctl hq
  obtain ⟨a0, a1, a2, a3, a4⟩ := tx_ent (tx_c1 hq)
  obtain ⟨m0, m1, m2, m3, m4⟩ := tx_ent (tx_c6 hq)
  obtain ⟨i0, i1, i2, i3, i4, i5⟩ := tx_inb (tx_c11 hq)
  obtain ⟨d0, d1, d2, d3⟩ := tx_des (tx_c17 hq)
  have w0 := tx_dwr (tx_c21 hq)
  refine tw_Sp_of rfl rfl (Nat.le_of_ble_eq_true rfl) (fun X h => ?_)
  refine zi_aload_n h rfl rfl ?_
  refine zg_ref h rfl (by first | rfl | assumption) (by decide) rfl rfl ?_
  refine zi_astore h rfl (Nat.le_of_ble_eq_true rfl) ?_
  refine zi_aload h rfl rfl ?_
  refine zg_ref h rfl (by first | rfl | assumption) (by decide) rfl rfl ?_
  refine zi_iload_n h rfl rfl ?_
  refine za_i h rfl (by first | rfl | assumption) rfl (by omega) (by decide) ?_
  refine zi_istore h rfl (Nat.le_of_ble_eq_true rfl) ?_
  refine zi_iload_n h rfl rfl ?_
  refine zi_switch h rfl rfl ?_
  rw [tw_tg_n (by omega)]
  show X 53 _ _ _ _
  refine zi_aload_n h rfl rfl ?_
  refine zi_dup h rfl rfl ?_
  refine zg_int h rfl (by first | rfl | assumption) (by decide) rfl ?_
  refine zn_iconst h 1 rfl rfl ?_
  refine zi_iload h rfl rfl ?_
  refine zi_ishl h rfl ?_
  refine zi_ior h rfl ?_
  refine zp_int h rfl (by first | rfl | assumption) (by decide) rfl ?_
  refine zi_goto h rfl ?_
  refine zi_vret h rfl ?_
  exact hP
set_option maxRecDepth 20000 in
theorem s_notice4 {fl : Bool} {d : Nat} {f : tw_S} {P : tw_S → Option tw_A → Prop} {q i : Nat} (hq : q = 17 ∨ q = 39) (hi : i < 40) (hP : P (tw_up f q 13 (f q 13 &&& (1 <<< (f (q + 13) i &&& 31) ^^^ -1))) none) : tS fl (d + 3) 84 [tw_R 0, tw_R q, tw_I (nI 4), tw_I (nI i)] f P := by
  have lc := tx_ctl hq
  obtain ⟨a0, a1, a2, a3, a4⟩ := tx_ent (tx_c1 hq)
  obtain ⟨m0, m1, m2, m3, m4⟩ := tx_ent (tx_c6 hq)
  obtain ⟨i0, i1, i2, i3, i4, i5⟩ := tx_inb (tx_c11 hq)
  obtain ⟨d0, d1, d2, d3⟩ := tx_des (tx_c17 hq)
  have w0 := tx_dwr (tx_c21 hq)
  refine tw_Sp_of rfl rfl (Nat.le_of_ble_eq_true rfl) (fun X h => ?_)
  refine zi_aload_n h rfl rfl ?_
  refine zg_ref h rfl (by first | rfl | assumption) (by decide) rfl rfl ?_
  refine zi_astore h rfl (Nat.le_of_ble_eq_true rfl) ?_
  refine zi_aload h rfl rfl ?_
  refine zg_ref h rfl (by first | rfl | assumption) (by decide) rfl rfl ?_
  refine zi_iload_n h rfl rfl ?_
  refine za_i h rfl (by first | rfl | assumption) rfl (by omega) (by decide) ?_
  refine zi_istore h rfl (Nat.le_of_ble_eq_true rfl) ?_
  refine zi_iload_n h rfl rfl ?_
  refine zi_switch h rfl rfl ?_
  rw [tw_tg_n (by omega)]
  show X 62 _ _ _ _
  refine zi_aload_n h rfl rfl ?_
  refine zi_dup h rfl rfl ?_
  refine zg_int h rfl (by first | rfl | assumption) (by decide) rfl ?_
  refine zn_iconst h 1 rfl rfl ?_
  refine zi_iload h rfl rfl ?_
  refine zi_ishl h rfl ?_
  refine zi_iconst h rfl ?_
  refine zi_ixor h rfl ?_
  refine zi_iand h rfl ?_
  refine zp_int h rfl (by first | rfl | assumption) (by decide) rfl ?_
  show X 72 _ _ _ _
  refine zi_goto h rfl ?_
  refine zi_vret h rfl ?_
  exact hP
set_option maxRecDepth 20000 in
theorem s_notice5 {fl : Bool} {d : Nat} {f : tw_S} {P : tw_S → Option tw_A → Prop} {q i : Nat} (hq : q = 17 ∨ q = 39) (hi : i < 40) (hP : P (tw_up f q 15 0) none) : tS fl (d + 3) 84 [tw_R 0, tw_R q, tw_I (nI 5), tw_I (nI i)] f P := by
  have lc := tx_ctl hq
  obtain ⟨a0, a1, a2, a3, a4⟩ := tx_ent (tx_c1 hq)
  obtain ⟨m0, m1, m2, m3, m4⟩ := tx_ent (tx_c6 hq)
  obtain ⟨i0, i1, i2, i3, i4, i5⟩ := tx_inb (tx_c11 hq)
  obtain ⟨d0, d1, d2, d3⟩ := tx_des (tx_c17 hq)
  have w0 := tx_dwr (tx_c21 hq)
  refine tw_Sp_of rfl rfl (Nat.le_of_ble_eq_true rfl) (fun X h => ?_)
  refine zi_aload_n h rfl rfl ?_
  refine zg_ref h rfl (by first | rfl | assumption) (by decide) rfl rfl ?_
  refine zi_astore h rfl (Nat.le_of_ble_eq_true rfl) ?_
  refine zi_aload h rfl rfl ?_
  refine zg_ref h rfl (by first | rfl | assumption) (by decide) rfl rfl ?_
  refine zi_iload_n h rfl rfl ?_
  refine za_i h rfl (by first | rfl | assumption) rfl (by omega) (by decide) ?_
  refine zi_istore h rfl (Nat.le_of_ble_eq_true rfl) ?_
  refine zi_iload_n h rfl rfl ?_
  refine zi_switch h rfl rfl ?_
  rw [tw_tg_n (by omega)]
  show X 73 _ _ _ _
  refine zi_aload_n h rfl rfl ?_
  refine zn_iconst h 0 rfl rfl ?_
  refine zp_int h rfl (by first | rfl | assumption) (by decide) rfl ?_
  refine zi_vret h rfl ?_
  exact hP
set_option maxRecDepth 20000 in
theorem s_arrive_x {fl : Bool} {d : Nat} {f : tw_S} {P : tw_S → Option tw_A → Prop} {x : Int32} (hx : ¬ (x = 0 ∨ x = 1) ∨ ¬ f 0 5 = 0) (hP : P f (some (tw_I (-1)))) : tS fl (d + 4) 85 [tw_R 0, tw_I x] f P := by
  refine tw_Sp_of rfl rfl (Nat.le_of_ble_eq_true rfl) (fun X h => ?_)
  refine zi_iload_n h rfl rfl ?_
  refine zk_S h [_] rfl rfl rfl (Nat.le_of_ble_eq_true rfl) (s_isController (fun c1 => ?_) (fun c1 => ?_))
  · first | refine zb_ifeq h rfl (fun hc => ?_) (fun hc => ?_) | refine zc_ifeq h rfl (fun hc => ?_) (fun hc => ?_)
    · exact absurd hc (by decide)
    · refine zi_aload_n h rfl rfl ?_
      refine zg_boo h rfl (by first | rfl | assumption) (by decide) rfl ?_
      first | refine zb_ifeq h rfl (fun hc => ?_) (fun hc => ?_) | refine zc_ifeq h rfl (fun hc => ?_) (fun hc => ?_)
      · exact absurd hc (hx.elim (fun u => absurd c1 u) (fun u => u))
      · refine zi_iconst h rfl ?_
        refine zi_iret h rfl ?_
        exact hP
  · first | refine zb_ifeq h rfl (fun hc => ?_) (fun hc => ?_) | refine zc_ifeq h rfl (fun hc => ?_) (fun hc => ?_)
    · refine zi_iconst h rfl ?_
      refine zi_iret h rfl ?_
      exact hP
    · exact absurd rfl hc
set_option maxRecDepth 20000 in
theorem s_arrive_c {fl : Bool} {d : Nat} {f : tw_S} {P : tw_S → Option tw_A → Prop} {c q a m : Nat} (hc : c < 2) (hqc : q = 17 + 22 * c) (h0 : f 0 5 = 0) (ha : f (q + 11) 5 = nI a) (ha2 : a < 40) (hm : f (q + 11) 6 = nI m) (hm2 : m ≤ 40) (h1 : m = 0 → P f (some (tw_I (-1)))) (h2 : 0 < m → ¬ (¬ f q 6 = 0 ∧ ¬ f q 7 = 0) → P (p_take f q a m) (some (tw_I (f (q + 12) a)))) (h3 : 0 < m → (¬ f q 6 = 0 ∧ ¬ f q 7 = 0) → tS fl (d + 3) 84 [tw_R 0, tw_R q, tw_I (f (q + 12) a), tw_I (nI a)] (p_take f q a m) (fun f2 r => r = none ∧ P f2 (some (tw_I (f (q + 12) a))))) : tS fl (d + 4) 85 [tw_R 0, tw_I (nI c)] f P := by
  have hcc := hc
  have hq : q = 17 ∨ q = 39 := by omega
  have lc := tx_ctl hq
  obtain ⟨a0, a1, a2, a3, a4⟩ := tx_ent (tx_c1 hq)
  obtain ⟨m0, m1, m2, m3, m4⟩ := tx_ent (tx_c6 hq)
  obtain ⟨i0, i1, i2, i3, i4, i5⟩ := tx_inb (tx_c11 hq)
  obtain ⟨d0, d1, d2, d3⟩ := tx_des (tx_c17 hq)
  have w0 := tx_dwr (tx_c21 hq)
  have e12 : p_take f q a m (q + 11 + 1) a = f (q + 12) a := by unfold p_take; rw [tw_off (by omega), tw_off (by omega)]
  have e6 : p_take f q a m q 6 = f q 6 := by unfold p_take; rw [tw_off (by omega), tw_off (by omega)]
  have e7 : p_take f q a m q 7 = f q 7 := by unfold p_take; rw [tw_off (by omega), tw_off (by omega)]
  refine tw_Sp_of rfl rfl (Nat.le_of_ble_eq_true rfl) (fun X h => ?_)
  refine zi_iload_n h rfl rfl ?_
  refine zk_S h [_] rfl rfl rfl (Nat.le_of_ble_eq_true rfl) (s_ctl1 hcc ?_)
  first | refine zb_ifeq h rfl (fun hc => ?_) (fun hc => ?_) | refine zc_ifeq h rfl (fun hc => ?_) (fun hc => ?_)
  · exact absurd hc (by decide)
  · refine zi_aload_n h rfl rfl ?_
    refine zg_boo h rfl (by first | rfl | assumption) (by decide) rfl ?_
    first | refine zb_ifeq h rfl (fun hc => ?_) (fun hc => ?_) | refine zc_ifeq h rfl (fun hc => ?_) (fun hc => ?_)
    · refine zi_aload_n h rfl rfl ?_
      refine zi_iload_n h rfl rfl ?_
      refine zk_V h [_] rfl (by first | rfl | assumption) rfl rfl (Nat.le_of_ble_eq_true rfl) (s_num hcc hqc ?_)
      refine zi_astore_n h rfl (Nat.le_of_ble_eq_true rfl) ?_
      refine zi_aload_n h rfl rfl ?_
      refine zg_ref h rfl (by first | rfl | assumption) (by decide) rfl rfl ?_
      refine zg_nat h m rfl (by first | rfl | assumption) (by decide) rfl hm ?_
      refine zc_ifne h rfl (fun hc => ?_) (fun hc => ?_)
      · have hm3 : 0 < m := by
          rcases Nat.eq_zero_or_pos m with u | u
          · subst u; exact absurd rfl hc
          · exact u
        refine zi_aload_n h rfl rfl ?_
        refine zg_ref h rfl (by first | rfl | assumption) (by decide) rfl rfl ?_
        refine zk_V h [] rfl (by first | rfl | assumption) rfl rfl (Nat.le_of_ble_eq_true rfl) (s_takeFirst (tx_c11 hq) ha ha2 hm hm2 hm3 ?_)
        refine tw_mem (g := p_take f q a m) (fun _ _ => rfl) ?_
        refine zi_istore_n h rfl (Nat.le_of_ble_eq_true rfl) ?_
        refine zi_aload_n h rfl rfl ?_
        refine zg_ref h rfl (by first | rfl | assumption) (by decide) rfl rfl ?_
        refine zg_ref h rfl (by first | rfl | assumption) (by decide) rfl rfl ?_
        refine zi_iload_n h rfl rfl ?_
        refine za_i h rfl (by first | rfl | assumption) rfl (by omega) (by decide) ?_
        rw [e12]
        refine zi_istore h rfl (Nat.le_of_ble_eq_true rfl) ?_
        refine zi_aload_n h rfl rfl ?_
        refine zg_boo h rfl (by first | rfl | assumption) (by decide) rfl ?_
        first | refine zb_ifeq h rfl (fun hc => ?_) (fun hc => ?_) | refine zc_ifeq h rfl (fun hc => ?_) (fun hc => ?_)
        · rw [e6] at hc
          refine zi_iload h rfl rfl ?_
          refine zi_iret h rfl ?_
          exact h2 hm3 (fun u => u.1 hc)
        · rw [e6] at hc
          have c6 := hc
          refine zi_aload_n h rfl rfl ?_
          refine zg_boo h rfl (by first | rfl | assumption) (by decide) rfl ?_
          first | refine zb_ifeq h rfl (fun hc => ?_) (fun hc => ?_) | refine zc_ifeq h rfl (fun hc => ?_) (fun hc => ?_)
          · rw [e7] at hc
            refine zi_iload h rfl rfl ?_
            refine zi_iret h rfl ?_
            exact h2 hm3 (fun u => u.2 hc)
          · rw [e7] at hc
            refine zi_aload_n h rfl rfl ?_
            refine zi_aload_n h rfl rfl ?_
            refine zi_iload h rfl rfl ?_
            refine zi_iload_n h rfl rfl ?_
            refine zk_V h [_, _, _] rfl (by first | rfl | assumption) rfl rfl (Nat.le_of_ble_eq_true rfl) (tw_Sp_mono (h3 hm3 ⟨c6, hc⟩) (fun f2 r k => ?_))
            obtain ⟨rfl, k⟩ := k
            refine zi_iload h rfl rfl ?_
            refine zi_iret h rfl ?_
            exact k
      · refine zi_iconst h rfl ?_
        refine zi_iret h rfl ?_
        exact h1 ((nI_zero (by omega)).mp hc)
    · exact absurd h0 hc
set_option maxRecDepth 20000 in
theorem s_state_x {fl : Bool} {d : Nat} {f : tw_S} {P : tw_S → Option tw_A → Prop} {x y : Int32} (hx : ¬ (x = 0 ∨ x = 1)) (hP : P f (some (tw_I (-1)))) : tS fl (d + 3) 105 [tw_R 0, tw_I x, tw_I y] f P := by
  refine tw_Sp_of rfl rfl (Nat.le_of_ble_eq_true rfl) (fun X h => ?_)
  refine zi_iload_n h rfl rfl ?_
  refine zk_S h [_] rfl rfl rfl (Nat.le_of_ble_eq_true rfl) (s_ctl0 hx ?_)
  first | refine zb_ifne h rfl (fun hc => ?_) (fun hc => ?_) | refine zc_ifne h rfl (fun hc => ?_) (fun hc => ?_)
  · exact absurd rfl hc
  · refine zi_iconst h rfl ?_
    refine zi_iret h rfl ?_
    exact hP
set_option maxRecDepth 20000 in
theorem s_state_y {fl : Bool} {d : Nat} {f : tw_S} {P : tw_S → Option tw_A → Prop} {c q : Nat} {y : Int32} (hc : c < 2) (hqc : q = 17 + 22 * c) (hy : y < 0 ∨ nI 14 ≤ y) (hP : P f (some (tw_I (-1)))) : tS fl (d + 3) 105 [tw_R 0, tw_I (nI c), tw_I y] f P := by
  have hcc := hc
  have hq : q = 17 ∨ q = 39 := by omega
  have lc := tx_ctl hq
  obtain ⟨a0, a1, a2, a3, a4⟩ := tx_ent (tx_c1 hq)
  obtain ⟨m0, m1, m2, m3, m4⟩ := tx_ent (tx_c6 hq)
  obtain ⟨i0, i1, i2, i3, i4, i5⟩ := tx_inb (tx_c11 hq)
  obtain ⟨d0, d1, d2, d3⟩ := tx_des (tx_c17 hq)
  have w0 := tx_dwr (tx_c21 hq)
  refine tw_Sp_of rfl rfl (Nat.le_of_ble_eq_true rfl) (fun X h => ?_)
  refine zi_iload_n h rfl rfl ?_
  refine zk_S h [_] rfl rfl rfl (Nat.le_of_ble_eq_true rfl) (s_ctl1 hcc ?_)
  first | refine zb_ifne h rfl (fun hc => ?_) (fun hc => ?_) | refine zc_ifne h rfl (fun hc => ?_) (fun hc => ?_)
  · refine zi_aload_n h rfl rfl ?_
    refine zi_iload_n h rfl rfl ?_
    refine zk_V h [_] rfl (by first | rfl | assumption) rfl rfl (Nat.le_of_ble_eq_true rfl) (s_num hcc hqc ?_)
    refine zi_astore_n h rfl (Nat.le_of_ble_eq_true rfl) ?_
    refine zi_iload_n h rfl rfl ?_
    refine zi_switch h rfl rfl ?_
    have e : tw_tg 0 [11, 15, 19, 23, 26, 29, 36, 43, 50, 57, 61, 64, 67, 70] 73 y = 73 := by
      unfold tw_tg
      split
      · rfl
      · rename_i hn
        rcases hy with g | g
        · exact absurd (Int32.lt_iff_toInt_lt.mp g) hn
        · have g2 := Int32.le_iff_toInt_le.mp g
          rw [nI_toInt (by omega)] at g2
          rw [List.getD_eq_getElem?_getD, List.getElem?_eq_none]
          · rfl
          · show 14 ≤ _
            omega
    rw [e]
    refine zi_iconst h rfl ?_
    refine zi_iret h rfl ?_
    exact hP
  · exact absurd hc (by decide)
set_option maxRecDepth 20000 in
theorem s_state_j {fl : Bool} {d : Nat} {f : tw_S} {P : tw_S → Option tw_A → Prop} {c q j : Nat} (hc : c < 2) (hqc : q = 17 + 22 * c) (hj : j < 14) (hP : P f (some (tw_I (p_st f q j)))) : tS fl (d + 3) 105 [tw_R 0, tw_I (nI c), tw_I (nI j)] f P := by
  have hcc := hc
  have hq : q = 17 ∨ q = 39 := by omega
  have lc := tx_ctl hq
  obtain ⟨a0, a1, a2, a3, a4⟩ := tx_ent (tx_c1 hq)
  obtain ⟨m0, m1, m2, m3, m4⟩ := tx_ent (tx_c6 hq)
  obtain ⟨i0, i1, i2, i3, i4, i5⟩ := tx_inb (tx_c11 hq)
  obtain ⟨d0, d1, d2, d3⟩ := tx_des (tx_c17 hq)
  have w0 := tx_dwr (tx_c21 hq)
  refine tw_Sp_of rfl rfl (Nat.le_of_ble_eq_true rfl) (fun X h => ?_)
  refine zi_iload_n h rfl rfl ?_
  refine zk_S h [_] rfl rfl rfl (Nat.le_of_ble_eq_true rfl) (s_ctl1 hcc ?_)
  first | refine zb_ifne h rfl (fun hc => ?_) (fun hc => ?_) | refine zc_ifne h rfl (fun hc => ?_) (fun hc => ?_)
  · refine zi_aload_n h rfl rfl ?_
    refine zi_iload_n h rfl rfl ?_
    refine zk_V h [_] rfl (by first | rfl | assumption) rfl rfl (Nat.le_of_ble_eq_true rfl) (s_num hcc hqc ?_)
    refine zi_astore_n h rfl (Nat.le_of_ble_eq_true rfl) ?_
    refine zi_iload_n h rfl rfl ?_
    refine zi_switch h rfl rfl ?_
    rw [tw_tg_n (by omega)]
    rcases (show j = 0 ∨ j = 1 ∨ j = 2 ∨ j = 3 ∨ j = 4 ∨ j = 5 ∨ j = 6 ∨ j = 7 ∨ j = 8 ∨ j = 9 ∨ j = 10 ∨ j = 11 ∨ j = 12 ∨ j = 13 by omega) with rfl | rfl | rfl | rfl | rfl | rfl | rfl | rfl | rfl | rfl | rfl | rfl | rfl | rfl
    · show X 11 _ _ _ _
      refine zi_aload_n h rfl rfl ?_
      refine zg_ref h rfl (by first | rfl | assumption) (by decide) rfl rfl ?_
      refine zk_V h [] rfl (by first | rfl | assumption) rfl rfl (Nat.le_of_ble_eq_true rfl) (s_countDirty (tx_c1 hq) ?_)
      refine zi_iret h rfl ?_
      exact hP
    · show X 15 _ _ _ _
      refine zi_aload_n h rfl rfl ?_
      refine zg_ref h rfl (by first | rfl | assumption) (by decide) rfl rfl ?_
      refine zk_V h [] rfl (by first | rfl | assumption) rfl rfl (Nat.le_of_ble_eq_true rfl) (s_countHeld (tx_c6 hq) ?_)
      refine zi_iret h rfl ?_
      exact hP
    · show X 19 _ _ _ _
      refine zi_aload_n h rfl rfl ?_
      refine zg_ref h rfl (by first | rfl | assumption) (by decide) rfl rfl ?_
      refine zg_int h rfl (by first | rfl | assumption) (by decide) rfl ?_
      refine zi_iret h rfl ?_
      exact hP
    · show X 23 _ _ _ _
      refine zi_aload_n h rfl rfl ?_
      refine zg_int h rfl (by first | rfl | assumption) (by decide) rfl ?_
      refine zi_iret h rfl ?_
      exact hP
    · show X 26 _ _ _ _
      refine zi_aload_n h rfl rfl ?_
      refine zg_int h rfl (by first | rfl | assumption) (by decide) rfl ?_
      refine zi_iret h rfl ?_
      exact hP
    · show X 29 _ _ _ _
      refine zi_aload_n h rfl rfl ?_
      refine zg_boo h rfl (by first | rfl | assumption) (by decide) rfl ?_
      first | refine zb_ifeq h rfl (fun hc => ?_) (fun hc => ?_) | refine zc_ifeq h rfl (fun hc => ?_) (fun hc => ?_)
      · refine zn_iconst h 0 rfl rfl ?_
        refine zi_iret h rfl ?_
        rw [show p_st f q 5 = 0 from tw_nz_f hc] at hP
        exact hP
      · refine zn_iconst h 1 rfl rfl ?_
        refine zi_goto h rfl ?_
        refine zi_iret h rfl ?_
        rw [show p_st f q 5 = 1 from tw_nz_t hc] at hP
        exact hP
    · show X 36 _ _ _ _
      refine zi_aload_n h rfl rfl ?_
      refine zg_boo h rfl (by first | rfl | assumption) (by decide) rfl ?_
      first | refine zb_ifeq h rfl (fun hc => ?_) (fun hc => ?_) | refine zc_ifeq h rfl (fun hc => ?_) (fun hc => ?_)
      · refine zn_iconst h 0 rfl rfl ?_
        refine zi_iret h rfl ?_
        rw [show p_st f q 6 = 0 from tw_nz_f hc] at hP
        exact hP
      · refine zn_iconst h 1 rfl rfl ?_
        refine zi_goto h rfl ?_
        refine zi_iret h rfl ?_
        rw [show p_st f q 6 = 1 from tw_nz_t hc] at hP
        exact hP
    · show X 43 _ _ _ _
      refine zi_aload_n h rfl rfl ?_
      refine zg_boo h rfl (by first | rfl | assumption) (by decide) rfl ?_
      first | refine zb_ifeq h rfl (fun hc => ?_) (fun hc => ?_) | refine zc_ifeq h rfl (fun hc => ?_) (fun hc => ?_)
      · refine zn_iconst h 0 rfl rfl ?_
        refine zi_iret h rfl ?_
        rw [show p_st f q 7 = 0 from tw_nz_f hc] at hP
        exact hP
      · refine zn_iconst h 1 rfl rfl ?_
        refine zi_goto h rfl ?_
        refine zi_iret h rfl ?_
        rw [show p_st f q 7 = 1 from tw_nz_t hc] at hP
        exact hP
    · show X 50 _ _ _ _
      refine zi_aload_n h rfl rfl ?_
      refine zg_boo h rfl (by first | rfl | assumption) (by decide) rfl ?_
      first | refine zb_ifeq h rfl (fun hc => ?_) (fun hc => ?_) | refine zc_ifeq h rfl (fun hc => ?_) (fun hc => ?_)
      · refine zn_iconst h 0 rfl rfl ?_
        refine zi_iret h rfl ?_
        rw [show p_st f q 8 = 0 from tw_nz_f hc] at hP
        exact hP
      · refine zn_iconst h 1 rfl rfl ?_
        refine zi_goto h rfl ?_
        refine zi_iret h rfl ?_
        rw [show p_st f q 8 = 1 from tw_nz_t hc] at hP
        exact hP
    · show X 57 _ _ _ _
      refine zi_aload_n h rfl rfl ?_
      refine zg_ref h rfl (by first | rfl | assumption) (by decide) rfl rfl ?_
      refine zg_int h rfl (by first | rfl | assumption) (by decide) rfl ?_
      refine zi_iret h rfl ?_
      exact hP
    · show X 61 _ _ _ _
      refine zi_aload_n h rfl rfl ?_
      refine zg_int h rfl (by first | rfl | assumption) (by decide) rfl ?_
      refine zi_iret h rfl ?_
      exact hP
    · show X 64 _ _ _ _
      refine zi_aload_n h rfl rfl ?_
      refine zg_int h rfl (by first | rfl | assumption) (by decide) rfl ?_
      refine zi_iret h rfl ?_
      exact hP
    · show X 67 _ _ _ _
      refine zi_aload_n h rfl rfl ?_
      refine zg_int h rfl (by first | rfl | assumption) (by decide) rfl ?_
      refine zi_iret h rfl ?_
      exact hP
    · show X 70 _ _ _ _
      refine zi_aload_n h rfl rfl ?_
      refine zg_int h rfl (by first | rfl | assumption) (by decide) rfl ?_
      refine zi_iret h rfl ?_
      exact hP
  · exact absurd hc (by decide)
set_option maxRecDepth 20000 in
theorem s_isAny {fl : Bool} {d : Nat} {f : tw_S} {P : tw_S → Option tw_A → Prop} (h1 : p_any f → P f (some (tw_I 1))) (h2 : ¬ p_any f → P f (some (tw_I 0))) : tS fl (d + 3) 89 [tw_R 0] f P := by
  have e1 : tx_isE 23 := by simp [tx_isE]
  have e2 : tx_isE 45 := by simp [tx_isE]
  refine tw_Sp_of rfl rfl (Nat.le_of_ble_eq_true rfl) (fun X h => ?_)
  have loop : ∀ n u : Nat, u + n = 2 → (∀ j, j < u → ¬ (¬ (p_bit (f 17 11) j ∨ p_bit (f 39 11) j) ∧ ((∃ i, i < 16 ∧ ¬ f 24 (j * 16 + i) = 0) ∨ ∃ i, i < 16 ∧ ¬ f 46 (j * 16 + i) = 0))) → ∀ o, X 2 [some (tw_R 0), some (tw_I (nI u)), o] [] tx_L0 f := by
    intro n
    induction n with
    | zero =>
      intro u hu hz o
      obtain rfl : u = 2 := by omega
      refine zi_iload_n h rfl rfl ?_
      refine zn_iconst h 2 rfl rfl ?_
      first | refine zn_icmpge h rfl (by omega) (by omega) (fun hc => ?_) (fun hc => ?_) | refine zc_icmpge h rfl (fun hc => ?_) (fun hc => ?_)
      · refine zn_iconst h 0 rfl rfl ?_
        refine zi_zret h rfl (by first | exact Or.inl rfl | exact Or.inr rfl | exact tw_nz_01 _ | assumption) ?_
        exact h2 (fun ⟨j, g1, g2⟩ => hz j g1 g2)
      · omega
    | succ n ih =>
      intro u hu hz o
      have next : ¬ (¬ (p_bit (f 17 11) u ∨ p_bit (f 39 11) u) ∧ ((∃ i, i < 16 ∧ ¬ f 24 (u * 16 + i) = 0) ∨ ∃ i, i < 16 ∧ ¬ f 46 (u * 16 + i) = 0)) → ∀ o, X 35 [some (tw_R 0), some (tw_I (nI u)), o] [] tx_L0 f := by
        intro hn o
        have ih := ih (u + 1) (by omega) (fun j hj => by
          by_cases hju : j = u
          · rw [hju]; exact hn
          · exact hz j (by omega))
        first | refine zn_iinc h 1 rfl rfl rfl ?_ | refine zi_iinc h rfl rfl ?_
        refine zi_goto h rfl ?_
        exact ih _
      have owned : (p_bit (f 17 11) u ∨ p_bit (f 39 11) u) → X 15 [some (tw_R 0), some (tw_I (nI u)), o] [] tx_L0 f := by
        intro ho
        refine zn_iconst h 1 rfl rfl ?_
        refine zi_goto h rfl ?_
        refine zi_istore_n h rfl (Nat.le_of_ble_eq_true rfl) ?_
        refine zi_iload_n h rfl rfl ?_
        first | refine zb_ifne h rfl (fun hc => ?_) (fun hc => ?_) | refine zc_ifne h rfl (fun hc => ?_) (fun hc => ?_)
        · exact next (fun g => g.1 ho) _
        · exact absurd hc (by decide)
      refine zi_iload_n h rfl rfl ?_
      refine zn_iconst h 2 rfl rfl ?_
      first | refine zn_icmpge h rfl (by omega) (by omega) (fun hc => ?_) (fun hc => ?_) | refine zc_icmpge h rfl (fun hc => ?_) (fun hc => ?_)
      · omega
      · refine zi_aload_n h rfl rfl ?_
        refine zg_ref h rfl (by first | rfl | assumption) (by decide) rfl rfl ?_
        refine zi_iload_n h rfl rfl ?_
        refine zk_V h [_] rfl (by first | rfl | assumption) rfl rfl (Nat.le_of_ble_eq_true rfl) (s_owns (Or.inl rfl) (fun b1 => ?_) (fun b1 => ?_))
        · first | refine zb_ifne h rfl (fun hc => ?_) (fun hc => ?_) | refine zc_ifne h rfl (fun hc => ?_) (fun hc => ?_)
          · exact owned (Or.inl b1)
          · exact absurd hc (by decide)
        · first | refine zb_ifne h rfl (fun hc => ?_) (fun hc => ?_) | refine zc_ifne h rfl (fun hc => ?_) (fun hc => ?_)
          · exact absurd rfl hc
          · refine zi_aload_n h rfl rfl ?_
            refine zg_ref h rfl (by first | rfl | assumption) (by decide) rfl rfl ?_
            refine zi_iload_n h rfl rfl ?_
            refine zk_V h [_] rfl (by first | rfl | assumption) rfl rfl (Nat.le_of_ble_eq_true rfl) (s_owns (Or.inr rfl) (fun b2 => ?_) (fun b2 => ?_))
            · first | refine zb_ifeq h rfl (fun hc => ?_) (fun hc => ?_) | refine zc_ifeq h rfl (fun hc => ?_) (fun hc => ?_)
              · exact absurd hc (by decide)
              · exact owned (Or.inr b2)
            · have hno : ¬ (p_bit (f 17 11) u ∨ p_bit (f 39 11) u) := fun g => g.elim b1 b2
              first | refine zb_ifeq h rfl (fun hc => ?_) (fun hc => ?_) | refine zc_ifeq h rfl (fun hc => ?_) (fun hc => ?_)
              · refine zn_iconst h 0 rfl rfl ?_
                refine zi_istore_n h rfl (Nat.le_of_ble_eq_true rfl) ?_
                refine zi_iload_n h rfl rfl ?_
                first | refine zb_ifne h rfl (fun hc => ?_) (fun hc => ?_) | refine zc_ifne h rfl (fun hc => ?_) (fun hc => ?_)
                · exact absurd rfl hc
                · refine zi_aload_n h rfl rfl ?_
                  refine zg_ref h rfl (by first | rfl | assumption) (by decide) rfl rfl ?_
                  refine zg_ref h rfl (by first | rfl | assumption) (by decide) rfl rfl ?_
                  refine zi_iload_n h rfl rfl ?_
                  refine zk_V h [_] rfl (by first | rfl | assumption) rfl rfl (Nat.le_of_ble_eq_true rfl) (s_holdsOfVolume e1 (by omega) (fun g => ?_) (fun g => ?_))
                  · first | refine zb_ifne h rfl (fun hc => ?_) (fun hc => ?_) | refine zc_ifne h rfl (fun hc => ?_) (fun hc => ?_)
                    · refine zn_iconst h 1 rfl rfl ?_
                      refine zi_zret h rfl (by first | exact Or.inl rfl | exact Or.inr rfl | exact tw_nz_01 _ | assumption) ?_
                      exact h1 ⟨u, by omega, hno, Or.inl g⟩
                    · exact absurd hc (by decide)
                  · have g0 := g
                    first | refine zb_ifne h rfl (fun hc => ?_) (fun hc => ?_) | refine zc_ifne h rfl (fun hc => ?_) (fun hc => ?_)
                    · exact absurd rfl hc
                    · refine zi_aload_n h rfl rfl ?_
                      refine zg_ref h rfl (by first | rfl | assumption) (by decide) rfl rfl ?_
                      refine zg_ref h rfl (by first | rfl | assumption) (by decide) rfl rfl ?_
                      refine zi_iload_n h rfl rfl ?_
                      refine zk_V h [_] rfl (by first | rfl | assumption) rfl rfl (Nat.le_of_ble_eq_true rfl) (s_holdsOfVolume e2 (by omega) (fun g => ?_) (fun g => ?_))
                      · first | refine zb_ifeq h rfl (fun hc => ?_) (fun hc => ?_) | refine zc_ifeq h rfl (fun hc => ?_) (fun hc => ?_)
                        · exact absurd hc (by decide)
                        · refine zn_iconst h 1 rfl rfl ?_
                          refine zi_zret h rfl (by first | exact Or.inl rfl | exact Or.inr rfl | exact tw_nz_01 _ | assumption) ?_
                          exact h1 ⟨u, by omega, hno, Or.inr g⟩
                      · first | refine zb_ifeq h rfl (fun hc => ?_) (fun hc => ?_) | refine zc_ifeq h rfl (fun hc => ?_) (fun hc => ?_)
                        · exact next (fun v => v.2.elim g0 g) _
                        · exact absurd rfl hc
              · exact absurd rfl hc
  refine zn_iconst h 0 rfl rfl ?_
  refine zi_istore_n h rfl (Nat.le_of_ble_eq_true rfl) ?_
  exact loop 2 0 (by omega) (fun j hj => by omega) _
set_option maxRecDepth 20000 in
theorem s_share1 {fl : Bool} {d : Nat} {f : tw_S} {P : tw_S → Option tw_A → Prop} (hP : P (p_sh1 f) none) : tS fl (d + 1) 90 [tw_R 0, tw_I 1] f P := by
  refine tw_Sp_of rfl rfl (Nat.le_of_ble_eq_true rfl) (fun X h => ?_)
  have e : ∀ x : Int32, tw_up f 17 11 x 39 11 = f 39 11 := fun x => tw_off (by omega)
  refine zn_iconst h 3 rfl rfl ?_
  refine zi_aload_n h rfl rfl ?_
  refine zg_ref h rfl (by first | rfl | assumption) (by decide) rfl rfl ?_
  refine zg_int h rfl (by first | rfl | assumption) (by decide) rfl ?_
  refine zi_aload_n h rfl rfl ?_
  refine zg_ref h rfl (by first | rfl | assumption) (by decide) rfl rfl ?_
  refine zg_int h rfl (by first | rfl | assumption) (by decide) rfl ?_
  refine zi_ior h rfl ?_
  refine zi_iconst h rfl ?_
  refine zi_ixor h rfl ?_
  show X 10 _ _ _ _
  refine zi_iand h rfl ?_
  refine zi_istore_n h rfl (Nat.le_of_ble_eq_true rfl) ?_
  refine zi_aload_n h rfl rfl ?_
  refine zg_ref h rfl (by first | rfl | assumption) (by decide) rfl rfl ?_
  refine zg_int h rfl (by first | rfl | assumption) (by decide) rfl ?_
  refine zi_aload_n h rfl rfl ?_
  refine zg_ref h rfl (by first | rfl | assumption) (by decide) rfl rfl ?_
  refine zg_int h rfl (by first | rfl | assumption) (by decide) rfl ?_
  refine zi_iand h rfl ?_
  refine zi_istore_n h rfl (Nat.le_of_ble_eq_true rfl) ?_
  show X 20 _ _ _ _
  refine zi_aload_n h rfl rfl ?_
  refine zg_ref h rfl (by first | rfl | assumption) (by decide) rfl rfl ?_
  refine zi_dup h rfl rfl ?_
  refine zg_int h rfl (by first | rfl | assumption) (by decide) rfl ?_
  refine zi_iload_n h rfl rfl ?_
  refine zi_ior h rfl ?_
  refine zp_int h rfl (by first | rfl | assumption) (by decide) rfl ?_
  refine zi_iload_n h rfl rfl ?_
  first | refine zb_ifeq h rfl (fun hc => ?_) (fun hc => ?_) | refine zc_ifeq h rfl (fun hc => ?_) (fun hc => ?_)
  · exact absurd hc (by decide)
  · refine zi_aload_n h rfl rfl ?_
    refine zg_ref h rfl (by first | rfl | assumption) (by decide) rfl rfl ?_
    refine zi_dup h rfl rfl ?_
    refine zg_int h rfl (by first | rfl | assumption) (by decide) rfl ?_
    refine zi_iload_n h rfl rfl ?_
    refine zi_iconst h rfl ?_
    refine zi_ixor h rfl ?_
    refine zi_iand h rfl ?_
    refine zp_int h rfl (by first | rfl | assumption) (by decide) rfl ?_
    refine zi_goto h rfl ?_
    refine zi_vret h rfl ?_
    rw [e]
    exact hP
set_option maxRecDepth 20000 in
theorem s_share0 {fl : Bool} {d : Nat} {f : tw_S} {P : tw_S → Option tw_A → Prop} (hP : P (p_sh0 f) none) : tS fl (d + 1) 90 [tw_R 0, tw_I 0] f P := by
  refine tw_Sp_of rfl rfl (Nat.le_of_ble_eq_true rfl) (fun X h => ?_)
  refine zn_iconst h 3 rfl rfl ?_
  refine zi_aload_n h rfl rfl ?_
  refine zg_ref h rfl (by first | rfl | assumption) (by decide) rfl rfl ?_
  refine zg_int h rfl (by first | rfl | assumption) (by decide) rfl ?_
  refine zi_aload_n h rfl rfl ?_
  refine zg_ref h rfl (by first | rfl | assumption) (by decide) rfl rfl ?_
  refine zg_int h rfl (by first | rfl | assumption) (by decide) rfl ?_
  refine zi_ior h rfl ?_
  refine zi_iconst h rfl ?_
  refine zi_ixor h rfl ?_
  show X 10 _ _ _ _
  refine zi_iand h rfl ?_
  refine zi_istore_n h rfl (Nat.le_of_ble_eq_true rfl) ?_
  refine zi_aload_n h rfl rfl ?_
  refine zg_ref h rfl (by first | rfl | assumption) (by decide) rfl rfl ?_
  refine zg_int h rfl (by first | rfl | assumption) (by decide) rfl ?_
  refine zi_aload_n h rfl rfl ?_
  refine zg_ref h rfl (by first | rfl | assumption) (by decide) rfl rfl ?_
  refine zg_int h rfl (by first | rfl | assumption) (by decide) rfl ?_
  refine zi_iand h rfl ?_
  refine zi_istore_n h rfl (Nat.le_of_ble_eq_true rfl) ?_
  show X 20 _ _ _ _
  refine zi_aload_n h rfl rfl ?_
  refine zg_ref h rfl (by first | rfl | assumption) (by decide) rfl rfl ?_
  refine zi_dup h rfl rfl ?_
  refine zg_int h rfl (by first | rfl | assumption) (by decide) rfl ?_
  refine zi_iload_n h rfl rfl ?_
  refine zi_ior h rfl ?_
  refine zp_int h rfl (by first | rfl | assumption) (by decide) rfl ?_
  refine zi_iload_n h rfl rfl ?_
  first | refine zb_ifeq h rfl (fun hc => ?_) (fun hc => ?_) | refine zc_ifeq h rfl (fun hc => ?_) (fun hc => ?_)
  · refine zi_aload_n h rfl rfl ?_
    refine zg_ref h rfl (by first | rfl | assumption) (by decide) rfl rfl ?_
    refine zi_dup h rfl rfl ?_
    refine zg_int h rfl (by first | rfl | assumption) (by decide) rfl ?_
    refine zi_iload_n h rfl rfl ?_
    refine zi_iconst h rfl ?_
    refine zi_ixor h rfl ?_
    refine zi_iand h rfl ?_
    refine zp_int h rfl (by first | rfl | assumption) (by decide) rfl ?_
    refine zi_vret h rfl ?_
    refine tw_memP (fun c j => ?_) hP
    unfold p_sh0 tw_up
    simp only [and_self, if_true]
    split
    · rfl
    · rfl
  · exact absurd rfl hc
set_option maxRecDepth 20000 in
theorem s_pair {fl : Bool} {d : Nat} {f : tw_S} {P : tw_S → Option tw_A → Prop} (h0 : ¬ (f 0 5 = 0 ∧ p_rdy f 17 ∧ p_rdy f 39) → P f (some (tw_I 0))) (h1 : (f 0 5 = 0 ∧ p_rdy f 17 ∧ p_rdy f 39) → ¬ p_other (f 2) (f 3) (f 17 10) 5 = 0 → ¬ p_other (f 2) (f 3) (f 39 10) 5 = 0 → P f (some (tw_I 0))) (h2 : (f 0 5 = 0 ∧ p_rdy f 17 ∧ p_rdy f 39) → (p_other (f 2) (f 3) (f 17 10) 5 = 0 ∨ p_other (f 2) (f 3) (f 39 10) 5 = 0) → p_any f → P f (some (tw_I 0))) (h3 : (f 0 5 = 0 ∧ p_rdy f 17 ∧ p_rdy f 39) → p_other (f 2) (f 3) (f 17 10) 5 = 0 → ¬ p_any f → P (p_begin (p_begin (p_sh1 f) 17 (f 17 10)) 39 (f 17 10)) (some (tw_I 1))) (h4 : (f 0 5 = 0 ∧ p_rdy f 17 ∧ p_rdy f 39) → ¬ p_other (f 2) (f 3) (f 17 10) 5 = 0 → p_other (f 2) (f 3) (f 39 10) 5 = 0 → ¬ p_any f → P (p_begin (p_begin (p_sh0 f) 17 (f 39 10)) 39 (f 39 10)) (some (tw_I 1))) : tS fl (d + 4) 91 [tw_R 0] f P := by
  have o1 := p_other_le (f 2) (f 3) (f 17 10) 5
  have o2 := p_other_le (f 2) (f 3) (f 39 10) 5
  refine tw_Sp_of rfl rfl (Nat.le_of_ble_eq_true rfl) (fun X h => ?_)
  have no : ¬ (f 0 5 = 0 ∧ p_rdy f 17 ∧ p_rdy f 39) → X 11 [some (tw_R 0), none, none] [] tx_L0 f := by
    intro g
    refine zn_iconst h 0 rfl rfl ?_
    refine zi_zret h rfl (by first | exact Or.inl rfl | exact Or.inr rfl | exact tw_nz_01 _ | assumption) ?_
    exact h0 g
  refine zi_aload_n h rfl rfl ?_
  refine zg_boo h rfl (by first | rfl | assumption) (by decide) rfl ?_
  first | refine zb_ifne h rfl (fun hc => ?_) (fun hc => ?_) | refine zc_ifne h rfl (fun hc => ?_) (fun hc => ?_)
  · exact no (fun g => hc g.1)
  · have c0 := hc
    refine zi_aload_n h rfl rfl ?_
    refine zg_ref h rfl (by first | rfl | assumption) (by decide) rfl rfl ?_
    refine zk_V h [] rfl (by first | rfl | assumption) rfl rfl (Nat.le_of_ble_eq_true rfl) (s_isReadyToPair (Or.inl rfl) (fun r1 => ?_) (fun r1 => ?_))
    · first | refine zb_ifeq h rfl (fun hc => ?_) (fun hc => ?_) | refine zc_ifeq h rfl (fun hc => ?_) (fun hc => ?_)
      · exact absurd hc (by decide)
      · refine zi_aload_n h rfl rfl ?_
        refine zg_ref h rfl (by first | rfl | assumption) (by decide) rfl rfl ?_
        refine zk_V h [] rfl (by first | rfl | assumption) rfl rfl (Nat.le_of_ble_eq_true rfl) (s_isReadyToPair (Or.inr rfl) (fun r2 => ?_) (fun r2 => ?_))
        · have cr : f 0 5 = 0 ∧ p_rdy f 17 ∧ p_rdy f 39 := ⟨c0, r1, r2⟩
          first | refine zb_ifne h rfl (fun hc => ?_) (fun hc => ?_) | refine zc_ifne h rfl (fun hc => ?_) (fun hc => ?_)
          · refine zi_aload_n h rfl rfl ?_
            refine zg_ref h rfl (by first | rfl | assumption) (by decide) rfl rfl ?_
            refine zi_aload_n h rfl rfl ?_
            refine zg_ref h rfl (by first | rfl | assumption) (by decide) rfl rfl ?_
            refine zg_int h rfl (by first | rfl | assumption) (by decide) rfl ?_
            refine zk_V h [_] rfl (by first | rfl | assumption) rfl rfl (Nat.le_of_ble_eq_true rfl) (s_withOther ?_)
            refine zc_ifne h rfl (fun hc => ?_) (fun hc => ?_)
            · have k1 : ¬ p_other (f 2) (f 3) (f 17 10) 5 = 0 := fun u => hc ((nI_zero (by omega)).mpr u)
              refine zn_iconst h 0 rfl rfl ?_
              refine zi_istore_n h rfl (Nat.le_of_ble_eq_true rfl) ?_
              refine zi_iload_n h rfl rfl ?_
              first | refine zb_ifne h rfl (fun hc => ?_) (fun hc => ?_) | refine zc_ifne h rfl (fun hc => ?_) (fun hc => ?_)
              · exact absurd rfl hc
              · refine zi_aload_n h rfl rfl ?_
                refine zg_ref h rfl (by first | rfl | assumption) (by decide) rfl rfl ?_
                refine zi_aload_n h rfl rfl ?_
                refine zg_ref h rfl (by first | rfl | assumption) (by decide) rfl rfl ?_
                refine zg_int h rfl (by first | rfl | assumption) (by decide) rfl ?_
                refine zk_V h [_] rfl (by first | rfl | assumption) rfl rfl (Nat.le_of_ble_eq_true rfl) (s_withOther ?_)
                refine zc_ifeq h rfl (fun hc => ?_) (fun hc => ?_)
                · have k2 := (nI_zero (by omega)).mp hc
                  refine zi_aload_n h rfl rfl ?_
                  refine zk_V h [] rfl (by first | rfl | assumption) rfl rfl (Nat.le_of_ble_eq_true rfl) (s_isAny (fun g => ?_) (fun g => ?_))
                  · first | refine zb_ifeq h rfl (fun hc => ?_) (fun hc => ?_) | refine zc_ifeq h rfl (fun hc => ?_) (fun hc => ?_)
                    · exact absurd hc (by decide)
                    · refine zn_iconst h 0 rfl rfl ?_
                      refine zi_zret h rfl (by first | exact Or.inl rfl | exact Or.inr rfl | exact tw_nz_01 _ | assumption) ?_
                      exact h2 cr (Or.inr k2) g
                  · first | refine zb_ifeq h rfl (fun hc => ?_) (fun hc => ?_) | refine zc_ifeq h rfl (fun hc => ?_) (fun hc => ?_)
                    · refine zi_iload_n h rfl rfl ?_
                      first | refine zb_ifeq h rfl (fun hc => ?_) (fun hc => ?_) | refine zc_ifeq h rfl (fun hc => ?_) (fun hc => ?_)
                      · refine zi_aload_n h rfl rfl ?_
                        refine zg_ref h rfl (by first | rfl | assumption) (by decide) rfl rfl ?_
                        refine zg_int h rfl (by first | rfl | assumption) (by decide) rfl ?_
                        refine zi_istore_n h rfl (Nat.le_of_ble_eq_true rfl) ?_
                        refine zi_aload_n h rfl rfl ?_
                        refine zi_iload_n h rfl rfl ?_
                        refine zk_V h [_] rfl (by first | rfl | assumption) rfl rfl (Nat.le_of_ble_eq_true rfl) (s_share0 ?_)
                        refine zi_aload_n h rfl rfl ?_
                        refine zg_ref h rfl (by first | rfl | assumption) (by decide) rfl rfl ?_
                        refine zi_iload_n h rfl rfl ?_
                        refine zk_V h [_] rfl (by first | rfl | assumption) rfl rfl (Nat.le_of_ble_eq_true rfl) (s_beginPaired (Or.inl rfl) ?_)
                        refine zi_aload_n h rfl rfl ?_
                        refine zg_ref h rfl (by first | rfl | assumption) (by decide) rfl rfl ?_
                        refine zi_iload_n h rfl rfl ?_
                        refine zk_V h [_] rfl (by first | rfl | assumption) rfl rfl (Nat.le_of_ble_eq_true rfl) (s_beginPaired (Or.inr rfl) ?_)
                        refine zn_iconst h 1 rfl rfl ?_
                        refine zi_zret h rfl (by first | exact Or.inl rfl | exact Or.inr rfl | exact tw_nz_01 _ | assumption) ?_
                        exact h4 cr k1 k2 g
                      · exact absurd rfl hc
                    · exact absurd rfl hc
                · have k2 : ¬ p_other (f 2) (f 3) (f 39 10) 5 = 0 := fun u => hc ((nI_zero (by omega)).mpr u)
                  refine zn_iconst h 0 rfl rfl ?_
                  refine zi_zret h rfl (by first | exact Or.inl rfl | exact Or.inr rfl | exact tw_nz_01 _ | assumption) ?_
                  exact h1 cr k1 k2
            · have k1 := (nI_zero (by omega)).mp hc
              refine zn_iconst h 1 rfl rfl ?_
              refine zi_goto h rfl ?_
              refine zi_istore_n h rfl (Nat.le_of_ble_eq_true rfl) ?_
              refine zi_iload_n h rfl rfl ?_
              first | refine zb_ifne h rfl (fun hc => ?_) (fun hc => ?_) | refine zc_ifne h rfl (fun hc => ?_) (fun hc => ?_)
              · refine zi_aload_n h rfl rfl ?_
                refine zk_V h [] rfl (by first | rfl | assumption) rfl rfl (Nat.le_of_ble_eq_true rfl) (s_isAny (fun g => ?_) (fun g => ?_))
                · first | refine zb_ifeq h rfl (fun hc => ?_) (fun hc => ?_) | refine zc_ifeq h rfl (fun hc => ?_) (fun hc => ?_)
                  · exact absurd hc (by decide)
                  · refine zn_iconst h 0 rfl rfl ?_
                    refine zi_zret h rfl (by first | exact Or.inl rfl | exact Or.inr rfl | exact tw_nz_01 _ | assumption) ?_
                    exact h2 cr (Or.inl k1) g
                · first | refine zb_ifeq h rfl (fun hc => ?_) (fun hc => ?_) | refine zc_ifeq h rfl (fun hc => ?_) (fun hc => ?_)
                  · refine zi_iload_n h rfl rfl ?_
                    first | refine zb_ifeq h rfl (fun hc => ?_) (fun hc => ?_) | refine zc_ifeq h rfl (fun hc => ?_) (fun hc => ?_)
                    · exact absurd hc (by decide)
                    · refine zi_aload_n h rfl rfl ?_
                      refine zg_ref h rfl (by first | rfl | assumption) (by decide) rfl rfl ?_
                      refine zg_int h rfl (by first | rfl | assumption) (by decide) rfl ?_
                      refine zi_goto h rfl ?_
                      refine zi_istore_n h rfl (Nat.le_of_ble_eq_true rfl) ?_
                      refine zi_aload_n h rfl rfl ?_
                      refine zi_iload_n h rfl rfl ?_
                      refine zk_V h [_] rfl (by first | rfl | assumption) rfl rfl (Nat.le_of_ble_eq_true rfl) (s_share1 ?_)
                      refine zi_aload_n h rfl rfl ?_
                      refine zg_ref h rfl (by first | rfl | assumption) (by decide) rfl rfl ?_
                      refine zi_iload_n h rfl rfl ?_
                      refine zk_V h [_] rfl (by first | rfl | assumption) rfl rfl (Nat.le_of_ble_eq_true rfl) (s_beginPaired (Or.inl rfl) ?_)
                      refine zi_aload_n h rfl rfl ?_
                      refine zg_ref h rfl (by first | rfl | assumption) (by decide) rfl rfl ?_
                      refine zi_iload_n h rfl rfl ?_
                      refine zk_V h [_] rfl (by first | rfl | assumption) rfl rfl (Nat.le_of_ble_eq_true rfl) (s_beginPaired (Or.inr rfl) ?_)
                      refine zn_iconst h 1 rfl rfl ?_
                      refine zi_zret h rfl (by first | exact Or.inl rfl | exact Or.inr rfl | exact tw_nz_01 _ | assumption) ?_
                      exact h3 cr k1 g
                  · exact absurd rfl hc
              · exact absurd hc (by decide)
          · exact absurd hc (by decide)
        · first | refine zb_ifne h rfl (fun hc => ?_) (fun hc => ?_) | refine zc_ifne h rfl (fun hc => ?_) (fun hc => ?_)
          · exact absurd rfl hc
          · exact no (fun g => r2 g.2.2)
    · first | refine zb_ifeq h rfl (fun hc => ?_) (fun hc => ?_) | refine zc_ifeq h rfl (fun hc => ?_) (fun hc => ?_)
      · exact no (fun g => r1 g.2.1)
      · exact absurd rfl hc
set_option maxRecDepth 20000 in
theorem s_vol1 {fl : Bool} {d : Nat} {f : tw_S} {P : tw_S → Option tw_A → Prop} {i : Nat} (hi : i < 2) (hP : P f (some (tw_I 1))) : tS fl (d + 1) 93 [tw_I (nI i)] f P := s_isVolume (fun _ _ _ => hP) (fun g => by
  rcases g with g | g
  · exact absurd g (nI_pos (by omega))
  · exact absurd ((nI_leI (by omega) (by omega)).mp g) (by omega))
set_option maxRecDepth 20000 in
theorem s_vol0 {fl : Bool} {d : Nat} {f : tw_S} {P : tw_S → Option tw_A → Prop} {x : Int32} (hx : x < 0 ∨ nI 2 ≤ x) (hP : P f (some (tw_I 0))) : tS fl (d + 1) 93 [tw_I x] f P := s_isVolume (fun j h1 h2 => by
  subst h2
  rcases hx with g | g
  · exact absurd g (nI_pos (by omega))
  · exact absurd ((nI_leI (by omega) (by omega)).mp g) (by omega)) (fun _ => hP)
set_option maxRecDepth 20000 in
theorem s_moveOwner_x {fl : Bool} {d : Nat} {f : tw_S} {P : tw_S → Option tw_A → Prop} {x : Int32} (hx : x < 0 ∨ nI 2 ≤ x) (hP : P f (some (tw_I 0))) : tS fl (d + 3) 94 [tw_R 0, tw_I x] f P := by
  refine tw_Sp_of rfl rfl (Nat.le_of_ble_eq_true rfl) (fun X h => ?_)
  refine zi_iload_n h rfl rfl ?_
  refine zk_S h [_] rfl rfl rfl (Nat.le_of_ble_eq_true rfl) (s_vol0 hx ?_)
  first | refine zb_ifeq h rfl (fun hc => ?_) (fun hc => ?_) | refine zc_ifeq h rfl (fun hc => ?_) (fun hc => ?_)
  · refine zn_iconst h 0 rfl rfl ?_
    refine zi_zret h rfl (by first | exact Or.inl rfl | exact Or.inr rfl | exact tw_nz_01 _ | assumption) ?_
    exact hP
  · exact absurd rfl hc
set_option maxRecDepth 20000 in
theorem s_moveOwner_u {fl : Bool} {d : Nat} {f : tw_S} {P : tw_S → Option tw_A → Prop} {u m0 m1 : Nat} (hu : u < 2) (hn0 : f 17 0 = 0) (hn1 : f 39 0 = 1) (hm0 : f 28 6 = nI m0) (hm0b : m0 ≤ 40) (hm1 : f 50 6 = nI m1) (hm1b : m1 ≤ 40) (h0 : ¬ (¬ f 17 6 = 0 ∧ ¬ f 39 6 = 0 ∧ ¬ f 17 7 = 0 ∧ ¬ f 39 7 = 0) → P f (some (tw_I 0))) (h1 : (¬ f 17 6 = 0 ∧ ¬ f 39 6 = 0 ∧ ¬ f 17 7 = 0 ∧ ¬ f 39 7 = 0) → (p_bit (f 17 11) u ↔ p_bit (f 39 11) u) → P f (some (tw_I 0))) (h2 : (¬ f 17 6 = 0 ∧ ¬ f 39 6 = 0 ∧ ¬ f 17 7 = 0 ∧ ¬ f 39 7 = 0) → ¬ (p_bit (f 17 11) u ↔ p_bit (f 39 11) u) → ¬ (m0 = 0 ∧ m1 = 0) → P f (some (tw_I 0))) (h3 : (¬ f 17 6 = 0 ∧ ¬ f 39 6 = 0 ∧ ¬ f 17 7 = 0 ∧ ¬ f 39 7 = 0) → (m0 = 0 ∧ m1 = 0) → p_bit (f 17 11) u → ¬ p_bit (f 39 11) u → p_busy f 17 u → P f (some (tw_I 0))) (h4 : (¬ f 17 6 = 0 ∧ ¬ f 39 6 = 0 ∧ ¬ f 17 7 = 0 ∧ ¬ f 39 7 = 0) → (m0 = 0 ∧ m1 = 0) → p_bit (f 17 11) u → ¬ p_bit (f 39 11) u → ¬ p_busy f 17 u → P (p_move f 17 39 u) (some (tw_I 1))) (h5 : (¬ f 17 6 = 0 ∧ ¬ f 39 6 = 0 ∧ ¬ f 17 7 = 0 ∧ ¬ f 39 7 = 0) → (m0 = 0 ∧ m1 = 0) → ¬ p_bit (f 17 11) u → p_bit (f 39 11) u → p_busy f 39 u → P f (some (tw_I 0))) (h6 : (¬ f 17 6 = 0 ∧ ¬ f 39 6 = 0 ∧ ¬ f 17 7 = 0 ∧ ¬ f 39 7 = 0) → (m0 = 0 ∧ m1 = 0) → ¬ p_bit (f 17 11) u → p_bit (f 39 11) u → ¬ p_busy f 39 u → P (p_move f 39 17 u) (some (tw_I 1))) : tS fl (d + 3) 94 [tw_R 0, tw_I (nI u)] f P := by
  have e1 : tx_isE 18 := by simp [tx_isE]
  have e2 : tx_isE 23 := by simp [tx_isE]
  have e3 : tx_isE 40 := by simp [tx_isE]
  have e4 : tx_isE 45 := by simp [tx_isE]
  refine tw_Sp_of rfl rfl (Nat.le_of_ble_eq_true rfl) (fun X h => ?_)
  have no : ¬ (¬ f 17 6 = 0 ∧ ¬ f 39 6 = 0 ∧ ¬ f 17 7 = 0 ∧ ¬ f 39 7 = 0) → X 19 [some (tw_R 0), some (tw_I (nI u)), none, none] [] tx_L0 f := by
    intro g
    refine zn_iconst h 0 rfl rfl ?_
    refine zi_zret h rfl (by first | exact Or.inl rfl | exact Or.inr rfl | exact tw_nz_01 _ | assumption) ?_
    exact h0 g
  have cnt : (¬ f 17 6 = 0 ∧ ¬ f 39 6 = 0 ∧ ¬ f 17 7 = 0 ∧ ¬ f 39 7 = 0) → ¬ (p_bit (f 17 11) u ↔ p_bit (f 39 11) u) → ((m0 = 0 ∧ m1 = 0) → X 42 [some (tw_R 0), some (tw_I (nI u)), none, none] [] tx_L0 f) → X 30 [some (tw_R 0), some (tw_I (nI u)), none, none] [] tx_L0 f := by
    intro ca cb k
    refine zi_aload_n h rfl rfl ?_
    refine zg_ref h rfl (by first | rfl | assumption) (by decide) rfl rfl ?_
    refine zg_ref h rfl (by first | rfl | assumption) (by decide) rfl rfl ?_
    refine zg_nat h m0 rfl (by first | rfl | assumption) (by decide) rfl hm0 ?_
    refine zi_aload_n h rfl rfl ?_
    refine zg_ref h rfl (by first | rfl | assumption) (by decide) rfl rfl ?_
    refine zg_ref h rfl (by first | rfl | assumption) (by decide) rfl rfl ?_
    refine zg_nat h m1 rfl (by first | rfl | assumption) (by decide) rfl hm1 ?_
    first | refine zn_iadd h rfl ?_ | refine zi_iadd h rfl ?_
    refine zc_ifeq h rfl (fun hc => ?_) (fun hc => ?_)
    · have := (nI_zero (by omega)).mp hc
      exact k (by omega)
    · have hne : ¬ (m0 = 0 ∧ m1 = 0) := fun g => by
        obtain ⟨rfl, rfl⟩ := g
        exact hc rfl
      refine zn_iconst h 0 rfl rfl ?_
      refine zi_zret h rfl (by first | exact Or.inl rfl | exact Or.inr rfl | exact tw_nz_01 _ | assumption) ?_
      exact h2 ca cb hne
  refine zi_iload_n h rfl rfl ?_
  refine zk_S h [_] rfl rfl rfl (Nat.le_of_ble_eq_true rfl) (s_vol1 hu ?_)
  first | refine zb_ifeq h rfl (fun hc => ?_) (fun hc => ?_) | refine zc_ifeq h rfl (fun hc => ?_) (fun hc => ?_)
  · exact absurd hc (by decide)
  · refine zi_aload_n h rfl rfl ?_
    refine zg_ref h rfl (by first | rfl | assumption) (by decide) rfl rfl ?_
    refine zg_boo h rfl (by first | rfl | assumption) (by decide) rfl ?_
    first | refine zb_ifeq h rfl (fun hc => ?_) (fun hc => ?_) | refine zc_ifeq h rfl (fun hc => ?_) (fun hc => ?_)
    · exact no (fun g => g.1 hc)
    · have c1 := hc
      refine zi_aload_n h rfl rfl ?_
      refine zg_ref h rfl (by first | rfl | assumption) (by decide) rfl rfl ?_
      refine zg_boo h rfl (by first | rfl | assumption) (by decide) rfl ?_
      first | refine zb_ifeq h rfl (fun hc => ?_) (fun hc => ?_) | refine zc_ifeq h rfl (fun hc => ?_) (fun hc => ?_)
      · exact no (fun g => g.2.1 hc)
      · have c2 := hc
        refine zi_aload_n h rfl rfl ?_
        refine zg_ref h rfl (by first | rfl | assumption) (by decide) rfl rfl ?_
        refine zg_boo h rfl (by first | rfl | assumption) (by decide) rfl ?_
        first | refine zb_ifeq h rfl (fun hc => ?_) (fun hc => ?_) | refine zc_ifeq h rfl (fun hc => ?_) (fun hc => ?_)
        · exact no (fun g => g.2.2.1 hc)
        · have c3 := hc
          refine zi_aload_n h rfl rfl ?_
          refine zg_ref h rfl (by first | rfl | assumption) (by decide) rfl rfl ?_
          refine zg_boo h rfl (by first | rfl | assumption) (by decide) rfl ?_
          first | refine zb_ifne h rfl (fun hc => ?_) (fun hc => ?_) | refine zc_ifne h rfl (fun hc => ?_) (fun hc => ?_)
          · have ca : ¬ f 17 6 = 0 ∧ ¬ f 39 6 = 0 ∧ ¬ f 17 7 = 0 ∧ ¬ f 39 7 = 0 := ⟨c1, c2, c3, hc⟩
            refine zi_aload_n h rfl rfl ?_
            refine zg_ref h rfl (by first | rfl | assumption) (by decide) rfl rfl ?_
            refine zi_iload_n h rfl rfl ?_
            refine zk_V h [_] rfl (by first | rfl | assumption) rfl rfl (Nat.le_of_ble_eq_true rfl) (s_owns (Or.inl rfl) (fun b1 => ?_) (fun b1 => ?_))
            · refine zi_aload_n h rfl rfl ?_
              refine zg_ref h rfl (by first | rfl | assumption) (by decide) rfl rfl ?_
              refine zi_iload_n h rfl rfl ?_
              refine zk_V h [_] rfl (by first | rfl | assumption) rfl rfl (Nat.le_of_ble_eq_true rfl) (s_owns (Or.inr rfl) (fun b2 => ?_) (fun b2 => ?_))
              · refine zc_icmpeq h rfl (fun hc => ?_) (fun hc => ?_)
                · refine zn_iconst h 0 rfl rfl ?_
                  refine zi_zret h rfl (by first | exact Or.inl rfl | exact Or.inr rfl | exact tw_nz_01 _ | assumption) ?_
                  exact h1 ca ⟨fun _ => b2, fun _ => b1⟩
                · exact absurd rfl hc
              · refine zc_icmpeq h rfl (fun hc => ?_) (fun hc => ?_)
                · exact absurd hc (by decide)
                · refine cnt ca (fun g => b2 (g.mp b1)) (fun hm => ?_)
                  refine zi_aload_n h rfl rfl ?_
                  refine zg_ref h rfl (by first | rfl | assumption) (by decide) rfl rfl ?_
                  refine zi_iload_n h rfl rfl ?_
                  refine zk_V h [_] rfl (by first | rfl | assumption) rfl rfl (Nat.le_of_ble_eq_true rfl) (s_owns (Or.inl rfl) (fun _ => ?_) (fun b => absurd b1 b))
                  first | refine zb_ifeq h rfl (fun hc => ?_) (fun hc => ?_) | refine zc_ifeq h rfl (fun hc => ?_) (fun hc => ?_)
                  · exact absurd hc (by decide)
                  · refine zi_aload_n h rfl rfl ?_
                    refine zg_ref h rfl (by first | rfl | assumption) (by decide) rfl rfl ?_
                    refine zi_goto h rfl ?_
                    refine zi_astore_n h rfl (Nat.le_of_ble_eq_true rfl) ?_
                    refine zi_aload_n h rfl rfl ?_
                    refine zi_iload_n h rfl rfl ?_
                    refine zk_V h [_] rfl (by first | rfl | assumption) rfl rfl (Nat.le_of_ble_eq_true rfl) (s_isBusyIn (Or.inl rfl) hu (fun g => ?_) (fun g => ?_))
                    · first | refine zb_ifeq h rfl (fun hc => ?_) (fun hc => ?_) | refine zc_ifeq h rfl (fun hc => ?_) (fun hc => ?_)
                      · exact absurd hc (by decide)
                      · refine zn_iconst h 0 rfl rfl ?_
                        refine zi_zret h rfl (by first | exact Or.inl rfl | exact Or.inr rfl | exact tw_nz_01 _ | assumption) ?_
                        exact h3 ca hm b1 b2 g
                    · first | refine zb_ifeq h rfl (fun hc => ?_) (fun hc => ?_) | refine zc_ifeq h rfl (fun hc => ?_) (fun hc => ?_)
                      · refine zi_aload_n h rfl rfl ?_
                        refine zi_aload_n h rfl rfl ?_
                        refine zk_V h [_] rfl (by first | rfl | assumption) rfl rfl (Nat.le_of_ble_eq_true rfl) (s_partnerOf (Or.inl rfl) hn0 ?_)
                        refine zi_astore_n h rfl (Nat.le_of_ble_eq_true rfl) ?_
                        refine zi_aload_n h rfl rfl ?_
                        refine zi_dup h rfl rfl ?_
                        refine zg_int h rfl (by first | rfl | assumption) (by decide) rfl ?_
                        refine zn_iconst h 1 rfl rfl ?_
                        refine zi_iload_n h rfl rfl ?_
                        refine zi_ishl h rfl ?_
                        refine zi_iconst h rfl ?_
                        refine zi_ixor h rfl ?_
                        refine zi_iand h rfl ?_
                        show X 72 _ _ _ _
                        refine zp_int h rfl (by first | rfl | assumption) (by decide) rfl ?_
                        refine zi_aload_n h rfl rfl ?_
                        refine zi_dup h rfl rfl ?_
                        refine zg_int h rfl (by first | rfl | assumption) (by decide) rfl ?_
                        refine zn_iconst h 1 rfl rfl ?_
                        refine zi_iload_n h rfl rfl ?_
                        refine zi_ishl h rfl ?_
                        refine zi_ior h rfl ?_
                        refine zp_int h rfl (by first | rfl | assumption) (by decide) rfl ?_
                        refine zi_aload_n h rfl rfl ?_
                        show X 82 _ _ _ _
                        refine zg_ref h rfl (by first | rfl | assumption) (by decide) rfl rfl ?_
                        refine zi_iload_n h rfl rfl ?_
                        refine zk_V h [_] rfl (by first | rfl | assumption) rfl rfl (Nat.le_of_ble_eq_true rfl) (s_dropVolume e1 hu ?_)
                        refine zi_aload_n h rfl rfl ?_
                        refine zg_ref h rfl (by first | rfl | assumption) (by decide) rfl rfl ?_
                        refine zi_iload_n h rfl rfl ?_
                        refine zk_V h [_] rfl (by first | rfl | assumption) rfl rfl (Nat.le_of_ble_eq_true rfl) (s_dropVolume e4 hu ?_)
                        refine zn_iconst h 1 rfl rfl ?_
                        refine zi_zret h rfl (by first | exact Or.inl rfl | exact Or.inr rfl | exact tw_nz_01 _ | assumption) ?_
                        have h4 := h4 ca hm b1 b2 g
                        unfold p_move at h4
                        rw [show f 39 11 = tw_up f 17 11 (f 17 11 &&& (1 <<< (nI u &&& 31) ^^^ -1)) 39 11 from (tw_off (by omega)).symm] at h4
                        exact h4
                      · exact absurd rfl hc
            · refine zi_aload_n h rfl rfl ?_
              refine zg_ref h rfl (by first | rfl | assumption) (by decide) rfl rfl ?_
              refine zi_iload_n h rfl rfl ?_
              refine zk_V h [_] rfl (by first | rfl | assumption) rfl rfl (Nat.le_of_ble_eq_true rfl) (s_owns (Or.inr rfl) (fun b2 => ?_) (fun b2 => ?_))
              · refine zc_icmpeq h rfl (fun hc => ?_) (fun hc => ?_)
                · exact absurd hc (by decide)
                · refine cnt ca (fun g => b1 (g.mpr b2)) (fun hm => ?_)
                  refine zi_aload_n h rfl rfl ?_
                  refine zg_ref h rfl (by first | rfl | assumption) (by decide) rfl rfl ?_
                  refine zi_iload_n h rfl rfl ?_
                  refine zk_V h [_] rfl (by first | rfl | assumption) rfl rfl (Nat.le_of_ble_eq_true rfl) (s_owns (Or.inl rfl) (fun b => absurd b b1) (fun _ => ?_))
                  first | refine zb_ifeq h rfl (fun hc => ?_) (fun hc => ?_) | refine zc_ifeq h rfl (fun hc => ?_) (fun hc => ?_)
                  · refine zi_aload_n h rfl rfl ?_
                    refine zg_ref h rfl (by first | rfl | assumption) (by decide) rfl rfl ?_
                    refine zi_astore_n h rfl (Nat.le_of_ble_eq_true rfl) ?_
                    refine zi_aload_n h rfl rfl ?_
                    refine zi_iload_n h rfl rfl ?_
                    refine zk_V h [_] rfl (by first | rfl | assumption) rfl rfl (Nat.le_of_ble_eq_true rfl) (s_isBusyIn (Or.inr rfl) hu (fun g => ?_) (fun g => ?_))
                    · first | refine zb_ifeq h rfl (fun hc => ?_) (fun hc => ?_) | refine zc_ifeq h rfl (fun hc => ?_) (fun hc => ?_)
                      · exact absurd hc (by decide)
                      · refine zn_iconst h 0 rfl rfl ?_
                        refine zi_zret h rfl (by first | exact Or.inl rfl | exact Or.inr rfl | exact tw_nz_01 _ | assumption) ?_
                        exact h5 ca hm b1 b2 g
                    · first | refine zb_ifeq h rfl (fun hc => ?_) (fun hc => ?_) | refine zc_ifeq h rfl (fun hc => ?_) (fun hc => ?_)
                      · refine zi_aload_n h rfl rfl ?_
                        refine zi_aload_n h rfl rfl ?_
                        refine zk_V h [_] rfl (by first | rfl | assumption) rfl rfl (Nat.le_of_ble_eq_true rfl) (s_partnerOf (Or.inr rfl) hn1 ?_)
                        refine zi_astore_n h rfl (Nat.le_of_ble_eq_true rfl) ?_
                        refine zi_aload_n h rfl rfl ?_
                        refine zi_dup h rfl rfl ?_
                        refine zg_int h rfl (by first | rfl | assumption) (by decide) rfl ?_
                        refine zn_iconst h 1 rfl rfl ?_
                        refine zi_iload_n h rfl rfl ?_
                        refine zi_ishl h rfl ?_
                        refine zi_iconst h rfl ?_
                        refine zi_ixor h rfl ?_
                        refine zi_iand h rfl ?_
                        show X 72 _ _ _ _
                        refine zp_int h rfl (by first | rfl | assumption) (by decide) rfl ?_
                        refine zi_aload_n h rfl rfl ?_
                        refine zi_dup h rfl rfl ?_
                        refine zg_int h rfl (by first | rfl | assumption) (by decide) rfl ?_
                        refine zn_iconst h 1 rfl rfl ?_
                        refine zi_iload_n h rfl rfl ?_
                        refine zi_ishl h rfl ?_
                        refine zi_ior h rfl ?_
                        refine zp_int h rfl (by first | rfl | assumption) (by decide) rfl ?_
                        refine zi_aload_n h rfl rfl ?_
                        show X 82 _ _ _ _
                        refine zg_ref h rfl (by first | rfl | assumption) (by decide) rfl rfl ?_
                        refine zi_iload_n h rfl rfl ?_
                        refine zk_V h [_] rfl (by first | rfl | assumption) rfl rfl (Nat.le_of_ble_eq_true rfl) (s_dropVolume e3 hu ?_)
                        refine zi_aload_n h rfl rfl ?_
                        refine zg_ref h rfl (by first | rfl | assumption) (by decide) rfl rfl ?_
                        refine zi_iload_n h rfl rfl ?_
                        refine zk_V h [_] rfl (by first | rfl | assumption) rfl rfl (Nat.le_of_ble_eq_true rfl) (s_dropVolume e2 hu ?_)
                        refine zn_iconst h 1 rfl rfl ?_
                        refine zi_zret h rfl (by first | exact Or.inl rfl | exact Or.inr rfl | exact tw_nz_01 _ | assumption) ?_
                        have h6 := h6 ca hm b1 b2 g
                        unfold p_move at h6
                        rw [show f 17 11 = tw_up f 39 11 (f 39 11 &&& (1 <<< (nI u &&& 31) ^^^ -1)) 17 11 from (tw_off (by omega)).symm] at h6
                        exact h6
                      · exact absurd rfl hc
                  · exact absurd rfl hc
              · refine zc_icmpeq h rfl (fun hc => ?_) (fun hc => ?_)
                · refine zn_iconst h 0 rfl rfl ?_
                  refine zi_zret h rfl (by first | exact Or.inl rfl | exact Or.inr rfl | exact tw_nz_01 _ | assumption) ?_
                  exact h1 ca ⟨fun g => absurd g b1, fun g => absurd g b2⟩
                · exact absurd rfl hc
          · exact no (fun g => g.2.2.2 hc)
end
section
/-! Pure words for the reference (object cell 61; there 62, keys 63, blocks 64, missing 65, up 66, key 67, paired 68, owns 69, has 70, cached 71, version 72, dirty 73, mirrored 74, mirror 75, mirrorVersion 76, note 77, remark 78, repair 79, wayDisk 80, wayStripe 81, wayValue 82, wayKey 83, taking 84, takeNext 85, takeCount 86, stripeOf 87, stage 88, took 89, tookValue 90, tookVersion 91, parity 92, parityKnown 93, flushing 94, missed 95, given 96, message 97, messages 98; fields isCut 38, tickets 39, lates 45; tickets 99 to 103, lates 104 to 107). -/
theorem nI_lt_iff {x : Int32} {h : Nat} (hh : h < 2 ^ 30) : nI h < x ↔ nI (h + 1) ≤ x := by
  rw [Int32.lt_iff_toInt_lt, Int32.le_iff_toInt_le, nI_toInt (by omega), nI_toInt (by omega)]
  omega
def k_tick (f : tw_S) (c b v : Int32) : tw_S := tw_up (tw_up (tw_up (tw_up (tw_up (tw_up f 99 (f 61 39).toNatClampNeg 2) 100 (f 61 39).toNatClampNeg v) 101 (f 61 39).toNatClampNeg c) 102 (f 61 39).toNatClampNeg b) 103 (f 61 39).toNatClampNeg 0) 61 39 (f 61 39 + 1)
def k_keep0 (f : tw_S) (c b : Nat) (v : Int32) : tw_S := tw_up (tw_up (tw_up (tw_up f 70 (32 * c + b) 1) 71 (32 * c + b) v) 73 (32 * c + b) 0) 72 (32 * c + b) 0
def k_keep1 (f : tw_S) (c b : Nat) (v : Int32) : tw_S := tw_up (tw_up (tw_up (tw_up (tw_up (tw_up f 70 (32 * c + b) 1) 71 (32 * c + b) v) 73 (32 * c + b) 1) 72 (32 * c + b) 0) 96 c (f 96 c + 1)) 72 (32 * c + b) (f 96 c + 1)
def k_at (f : tw_S) (c : Nat) : Nat := 200 * (1 - c) + 5 * (f 98 (1 - c)).toNatClampNeg
def k_send (f : tw_S) (c : Nat) (s a b v t : Int32) : tw_S := if f 61 38 = 0 ∧ ¬ f 98 (1 - c) = 40 then tw_up (tw_up (tw_up (tw_up (tw_up (tw_up f 97 (k_at f c) s) 97 (k_at f c + 1) a) 97 (k_at f c + 2) b) 97 (k_at f c + 3) v) 97 (k_at f c + 4) t) 98 (1 - c) (f 98 (1 - c) + 1) else f
def k_put (f : tw_S) (i s : Nat) (v : Int32) : tw_S := tw_up (tw_up f 64 (i * 8 + s) v) 65 (i * 8 + s) 0
def k_begins (f : tw_S) (c : Nat) (a b v : Int32) : tw_S := tw_up (tw_up (tw_up (tw_up f 80 c a) 81 c b) 82 c v) 83 c (f 67 c)
def p_bits (g : Nat → Int32) : Nat → Int32
  | 0 => 0
  | n + 1 => if g n = 0 then p_bits g n else p_bits g n ||| 1 <<< (nI n &&& 31)
/-- the dirty places of a stripe, in the reference -/
def k_cd (f : tw_S) (c : Nat) : Nat → Nat := p_cd (fun j => f 73 (32 * c + j))
def k_quiet (f : tw_S) (c : Nat) : Prop := ¬ f 66 c = 0 ∧ f 84 c = 0 ∧ ¬ 0 ≤ f 87 c ∧ p_cd (fun j => f 73 (32 * c + j)) 8 = 0 ∧ ¬ p_ft (fun s => f 77 (8 * c + s)) 8 0 < 8 ∧ ¬ 0 ≤ f 80 c
theorem nI_ge0 {n : Nat} (h : n < 2 ^ 31) : 0 ≤ nI n := nI_pos' h
end
section
/-! The reference: its small methods. -/
set_option maxRecDepth 20000 in
theorem s_k_thrown {fl : Bool} {d : Nat} {f : tw_S} {P : tw_S → Option tw_A → Prop} (hP : P f (some (tw_I (f 61 0)))) : tS fl (d + 1) 110 [tw_R 61] f P := by
  refine tw_Sp_of rfl rfl (Nat.le_of_ble_eq_true rfl) (fun X h => ?_)
  refine zi_aload_n h rfl rfl ?_
  refine zg_int h rfl (by first | rfl | assumption) (by decide) rfl ?_
  refine zi_iret h rfl ?_
  exact hP
set_option maxRecDepth 20000 in
theorem s_k_in1 {fl : Bool} {d : Nat} {f : tw_S} {P : tw_S → Option tw_A → Prop} {c h1 : Nat} (hc : c ≤ h1) (hh : h1 < 1000) (hP : P f (some (tw_I 1))) : tS fl (d + 1) 111 [tw_I (nI c), tw_I (nI 0), tw_I (nI h1)] f P := by
  refine tw_Sp_of rfl rfl (Nat.le_of_ble_eq_true rfl) (fun X h => ?_)
  have hcc := hc
  refine zi_iload_n h rfl rfl ?_
  refine zi_iload_n h rfl rfl ?_
  first | refine zn_icmplt h rfl (by omega) (by omega) (fun hc => ?_) (fun hc => ?_) | refine zc_icmplt h rfl (fun hc => ?_) (fun hc => ?_)
  · omega
  · refine zi_iload_n h rfl rfl ?_
    refine zi_iload_n h rfl rfl ?_
    first | refine zn_icmpgt h rfl (by omega) (by omega) (fun hc => ?_) (fun hc => ?_) | refine zc_icmpgt h rfl (fun hc => ?_) (fun hc => ?_)
    · omega
    · refine zn_iconst h 1 rfl rfl ?_
      refine zi_goto h rfl ?_
      refine zi_zret h rfl (by first | exact Or.inl rfl | exact Or.inr rfl | exact tw_nz_01 _ | assumption) ?_
      exact hP
set_option maxRecDepth 20000 in
theorem s_k_in0 {fl : Bool} {d : Nat} {f : tw_S} {P : tw_S → Option tw_A → Prop} {x : Int32} {h1 : Nat} (hh : h1 < 1000) (hx : x < 0 ∨ nI (h1 + 1) ≤ x) (hP : P f (some (tw_I 0))) : tS fl (d + 1) 111 [tw_I x, tw_I (nI 0), tw_I (nI h1)] f P := by
  refine tw_Sp_of rfl rfl (Nat.le_of_ble_eq_true rfl) (fun X h => ?_)
  refine zi_iload_n h rfl rfl ?_
  refine zi_iload_n h rfl rfl ?_
  refine zc_icmplt h rfl (fun hc => ?_) (fun hc => ?_)
  · refine zn_iconst h 0 rfl rfl ?_
    refine zi_zret h rfl (by first | exact Or.inl rfl | exact Or.inr rfl | exact tw_nz_01 _ | assumption) ?_
    exact hP
  · have hc0 := hc
    refine zi_iload_n h rfl rfl ?_
    refine zi_iload_n h rfl rfl ?_
    refine zc_icmpgt h rfl (fun hc => ?_) (fun hc => ?_)
    · refine zn_iconst h 0 rfl rfl ?_
      refine zi_zret h rfl (by first | exact Or.inl rfl | exact Or.inr rfl | exact tw_nz_01 _ | assumption) ?_
      exact hP
    · exfalso
      rcases hx with g | g
      · exact hc0 g
      · exact hc ((nI_lt_iff (by omega)).mpr g)
-- 'in' with an upper bound that is a number less one (tickets, lates): both ways
set_option maxRecDepth 20000 in
theorem s_k_inm1 {fl : Bool} {d : Nat} {f : tw_S} {P : tw_S → Option tw_A → Prop} {x : Int32} {m : Nat} (hm : m < 1000) (h1 : ∀ j, j < m → x = nI j → P f (some (tw_I 1))) (h2 : x < 0 ∨ nI m ≤ x → P f (some (tw_I 0))) : tS fl (d + 1) 111 [tw_I x, tw_I (nI 0), tw_I (nI m - nI 1)] f P := by
  refine tw_Sp_of rfl rfl (Nat.le_of_ble_eq_true rfl) (fun X h => ?_)
  have key : nI m - nI 1 < x ↔ nI m ≤ x := by
    rw [Int32.lt_iff_toInt_lt, Int32.le_iff_toInt_le, nI_toInt (by omega), pk_sub_toInt (by omega) (by omega)]
    omega
  refine zi_iload_n h rfl rfl ?_
  refine zi_iload_n h rfl rfl ?_
  refine zc_icmplt h rfl (fun hc => ?_) (fun hc => ?_)
  · refine zn_iconst h 0 rfl rfl ?_
    refine zi_zret h rfl (by first | exact Or.inl rfl | exact Or.inr rfl | exact tw_nz_01 _ | assumption) ?_
    exact h2 (Or.inl hc)
  · have hc0 := hc
    refine zi_iload_n h rfl rfl ?_
    refine zi_iload_n h rfl rfl ?_
    refine zc_icmpgt h rfl (fun hc => ?_) (fun hc => ?_)
    · refine zn_iconst h 0 rfl rfl ?_
      refine zi_zret h rfl (by first | exact Or.inl rfl | exact Or.inr rfl | exact tw_nz_01 _ | assumption) ?_
      exact h2 (Or.inr (key.mp hc))
    · refine zn_iconst h 1 rfl rfl ?_
      refine zi_goto h rfl ?_
      refine zi_zret h rfl (by first | exact Or.inl rfl | exact Or.inr rfl | exact tw_nz_01 _ | assumption) ?_
      obtain g | g | ⟨j, g1, g2⟩ := pk_ix x (n := m) (by omega)
      · exact absurd g hc0
      · exact absurd (key.mpr g) hc
      · exact h1 j g1 g2
set_option maxRecDepth 20000 in
theorem s_k_tick {fl : Bool} {d : Nat} {f : tw_S} {P : tw_S → Option tw_A → Prop} {m : Nat} {a b v : Int32} (hm : f 61 39 = nI m) (hm2 : m < 200) (hP : P (k_tick f a b v) (some (tw_I (nI m)))) : tS fl (d + 1) 112 [tw_R 61, tw_I a, tw_I b, tw_I v] f P := by
  refine tw_Sp_of rfl rfl (Nat.le_of_ble_eq_true rfl) (fun X h => ?_)
  rw [k_tick, hm, nI_clamp (by omega), nI_1] at hP
  refine zi_aload_n h rfl rfl ?_
  refine zg_ref h rfl (by first | rfl | assumption) (by decide) rfl rfl ?_
  refine zi_aload_n h rfl rfl ?_
  refine zg_nat h m rfl (by first | rfl | assumption) (by decide) rfl hm ?_
  refine zn_iconst h 2 rfl rfl ?_
  refine zs_i h rfl (by first | rfl | assumption) rfl (by omega) (by decide) ?_
  refine zi_aload_n h rfl rfl ?_
  refine zg_ref h rfl (by first | rfl | assumption) (by decide) rfl rfl ?_
  refine zi_aload_n h rfl rfl ?_
  refine zg_nat h m rfl (by first | rfl | assumption) (by decide) rfl (by simp [tw_up, hm]) ?_
  refine zi_iload_n h rfl rfl ?_
  refine zs_i h rfl (by first | rfl | assumption) rfl (by omega) (by decide) ?_
  refine zi_aload_n h rfl rfl ?_
  refine zg_ref h rfl (by first | rfl | assumption) (by decide) rfl rfl ?_
  refine zi_aload_n h rfl rfl ?_
  refine zg_nat h m rfl (by first | rfl | assumption) (by decide) rfl (by simp [tw_up, hm]) ?_
  refine zi_iload_n h rfl rfl ?_
  refine zs_i h rfl (by first | rfl | assumption) rfl (by omega) (by decide) ?_
  refine zi_aload_n h rfl rfl ?_
  refine zg_ref h rfl (by first | rfl | assumption) (by decide) rfl rfl ?_
  refine zi_aload_n h rfl rfl ?_
  refine zg_nat h m rfl (by first | rfl | assumption) (by decide) rfl (by simp [tw_up, hm]) ?_
  refine zi_iload_n h rfl rfl ?_
  refine zs_i h rfl (by first | rfl | assumption) rfl (by omega) (by decide) ?_
  refine zi_aload_n h rfl rfl ?_
  refine zg_ref h rfl (by first | rfl | assumption) (by decide) rfl rfl ?_
  refine zi_aload_n h rfl rfl ?_
  refine zg_nat h m rfl (by first | rfl | assumption) (by decide) rfl (by simp [tw_up, hm]) ?_
  refine zn_iconst h 0 rfl rfl ?_
  refine zs_i h rfl (by first | rfl | assumption) rfl (by omega) (by decide) ?_
  refine zi_aload_n h rfl rfl ?_
  refine zi_dup h rfl rfl ?_
  refine zg_nat h m rfl (by first | rfl | assumption) (by decide) rfl (by simp [tw_up, hm]) ?_
  refine zn_iconst h 1 rfl rfl ?_
  first | refine zn_iadd h rfl ?_ | refine zi_iadd h rfl ?_
  refine zp_int h rfl (by first | rfl | assumption) (by decide) rfl ?_
  refine zi_aload_n h rfl rfl ?_
  refine zg_nat h (m+1) rfl (by first | rfl | assumption) (by decide) rfl (by simp [tw_up]) ?_
  refine zn_iconst h 1 rfl rfl ?_
  first | refine zn_isub h rfl (by omega) ?_ | refine zi_isub h rfl ?_
  refine zi_iret h rfl ?_
  exact hP
set_option maxRecDepth 20000 in
theorem s_k_keep0 {fl : Bool} {d : Nat} {f : tw_S} {P : tw_S → Option tw_A → Prop} {c b : Nat} {v : Int32} (hc : c < 2) (hb : b < 32) (hP : P (k_keep0 f c b v) none) : tS fl (d + 1) 113 [tw_R 61, tw_I (nI c), tw_I (nI b), tw_I v, tw_I 0] f P := by
  refine tw_Sp_of rfl rfl (Nat.le_of_ble_eq_true rfl) (fun X h => ?_)
  have hcc := hc
  refine zn_bipush h 32 rfl rfl ?_
  refine zi_iload_n h rfl rfl ?_
  first | refine zn_imul h rfl ?_ | refine zi_imul h rfl ?_
  refine zi_iload_n h rfl rfl ?_
  first | refine zn_iadd h rfl ?_ | refine zi_iadd h rfl ?_
  refine zi_istore h rfl (Nat.le_of_ble_eq_true rfl) ?_
  refine zi_aload_n h rfl rfl ?_
  refine zg_ref h rfl (by first | rfl | assumption) (by decide) rfl rfl ?_
  refine zi_iload h rfl rfl ?_
  refine zn_iconst h 1 rfl rfl ?_
  show X 10 _ _ _ _
  refine zs_z h rfl (by first | rfl | assumption) rfl (by omega) (by decide) (by first | exact Or.inl rfl | exact Or.inr rfl | exact tw_nz_01 _ | assumption) ?_
  refine zi_aload_n h rfl rfl ?_
  refine zg_ref h rfl (by first | rfl | assumption) (by decide) rfl rfl ?_
  refine zi_iload h rfl rfl ?_
  refine zi_iload_n h rfl rfl ?_
  refine zs_i h rfl (by first | rfl | assumption) rfl (by omega) (by decide) ?_
  refine zi_aload_n h rfl rfl ?_
  refine zg_ref h rfl (by first | rfl | assumption) (by decide) rfl rfl ?_
  refine zi_iload h rfl rfl ?_
  refine zi_iload h rfl rfl ?_
  show X 20 _ _ _ _
  refine zs_z h rfl (by first | rfl | assumption) rfl (by omega) (by decide) (by first | exact Or.inl rfl | exact Or.inr rfl | exact tw_nz_01 _ | assumption) ?_
  refine zi_aload_n h rfl rfl ?_
  refine zg_ref h rfl (by first | rfl | assumption) (by decide) rfl rfl ?_
  refine zi_iload h rfl rfl ?_
  refine zn_iconst h 0 rfl rfl ?_
  refine zs_i h rfl (by first | rfl | assumption) rfl (by omega) (by decide) ?_
  refine zi_iload h rfl rfl ?_
  first | refine zb_ifeq h rfl (fun hc => ?_) (fun hc => ?_) | refine zc_ifeq h rfl (fun hc => ?_) (fun hc => ?_)
  · refine zi_vret h rfl ?_
    exact hP
  · exact absurd rfl hc
set_option maxRecDepth 20000 in
theorem s_k_keep1 {fl : Bool} {d : Nat} {f : tw_S} {P : tw_S → Option tw_A → Prop} {c b : Nat} {v : Int32} (hc : c < 2) (hb : b < 32) (hP : P (k_keep1 f c b v) none) : tS fl (d + 1) 113 [tw_R 61, tw_I (nI c), tw_I (nI b), tw_I v, tw_I 1] f P := by
  refine tw_Sp_of rfl rfl (Nat.le_of_ble_eq_true rfl) (fun X h => ?_)
  have hcc := hc
  refine zn_bipush h 32 rfl rfl ?_
  refine zi_iload_n h rfl rfl ?_
  first | refine zn_imul h rfl ?_ | refine zi_imul h rfl ?_
  refine zi_iload_n h rfl rfl ?_
  first | refine zn_iadd h rfl ?_ | refine zi_iadd h rfl ?_
  refine zi_istore h rfl (Nat.le_of_ble_eq_true rfl) ?_
  refine zi_aload_n h rfl rfl ?_
  refine zg_ref h rfl (by first | rfl | assumption) (by decide) rfl rfl ?_
  refine zi_iload h rfl rfl ?_
  refine zn_iconst h 1 rfl rfl ?_
  show X 10 _ _ _ _
  refine zs_z h rfl (by first | rfl | assumption) rfl (by omega) (by decide) (by first | exact Or.inl rfl | exact Or.inr rfl | exact tw_nz_01 _ | assumption) ?_
  refine zi_aload_n h rfl rfl ?_
  refine zg_ref h rfl (by first | rfl | assumption) (by decide) rfl rfl ?_
  refine zi_iload h rfl rfl ?_
  refine zi_iload_n h rfl rfl ?_
  refine zs_i h rfl (by first | rfl | assumption) rfl (by omega) (by decide) ?_
  refine zi_aload_n h rfl rfl ?_
  refine zg_ref h rfl (by first | rfl | assumption) (by decide) rfl rfl ?_
  refine zi_iload h rfl rfl ?_
  refine zi_iload h rfl rfl ?_
  show X 20 _ _ _ _
  refine zs_z h rfl (by first | rfl | assumption) rfl (by omega) (by decide) (by first | exact Or.inl rfl | exact Or.inr rfl | exact tw_nz_01 _ | assumption) ?_
  refine zi_aload_n h rfl rfl ?_
  refine zg_ref h rfl (by first | rfl | assumption) (by decide) rfl rfl ?_
  refine zi_iload h rfl rfl ?_
  refine zn_iconst h 0 rfl rfl ?_
  refine zs_i h rfl (by first | rfl | assumption) rfl (by omega) (by decide) ?_
  refine zi_iload h rfl rfl ?_
  first | refine zb_ifeq h rfl (fun hc => ?_) (fun hc => ?_) | refine zc_ifeq h rfl (fun hc => ?_) (fun hc => ?_)
  · exact absurd hc (by decide)
  · refine zi_aload_n h rfl rfl ?_
    refine zg_ref h rfl (by first | rfl | assumption) (by decide) rfl rfl ?_
    refine zi_iload_n h rfl rfl ?_
    refine zi_dup2 h rfl rfl rfl ?_
    refine za_i h rfl (by first | rfl | assumption) rfl (by omega) (by decide) ?_
    refine zn_iconst h 1 rfl rfl ?_
    first | refine zn_iadd h rfl ?_ | refine zi_iadd h rfl ?_
    refine zs_i h rfl (by first | rfl | assumption) rfl (by omega) (by decide) ?_
    refine zi_aload_n h rfl rfl ?_
    refine zg_ref h rfl (by first | rfl | assumption) (by decide) rfl rfl ?_
    show X 38 _ _ _ _
    refine zi_iload h rfl rfl ?_
    refine zi_aload_n h rfl rfl ?_
    refine zg_ref h rfl (by first | rfl | assumption) (by decide) rfl rfl ?_
    refine zi_iload_n h rfl rfl ?_
    refine za_i h rfl (by first | rfl | assumption) rfl (by omega) (by decide) ?_
    refine zs_i h rfl (by first | rfl | assumption) rfl (by omega) (by decide) ?_
    refine zi_vret h rfl ?_
    refine tw_memP (fun q j => ?_) hP
    have e1 : tw_up (tw_up (tw_up (tw_up f 70 (32 * c + b) (nI 1)) 71 (32 * c + b) v) 73 (32 * c + b) 1) 72 (32 * c + b) (nI 0) 96 c = f 96 c := by rw [tw_off (by omega), tw_off (by omega), tw_off (by omega), tw_off (by omega)]
    rw [e1]
    have e2 : tw_up (tw_up (tw_up (tw_up (tw_up f 70 (32 * c + b) (nI 1)) 71 (32 * c + b) v) 73 (32 * c + b) 1) 72 (32 * c + b) (nI 0)) 96 c (f 96 c + nI 1) 96 c = f 96 c + 1 := by simp [tw_up, tw_n1]
    rw [e2]
    rfl
set_option maxRecDepth 20000 in
theorem s_k_send {fl : Bool} {d : Nat} {f : tw_S} {P : tw_S → Option tw_A → Prop} {c m : Nat} {s a b v t : Int32} (hc : c < 2) (hm : f 98 (1 - c) = nI m) (hm2 : m ≤ 40) (hP : P (k_send f c s a b v t) none) : tS fl (d + 1) 114 [tw_R 61, tw_I (nI c), tw_I s, tw_I a, tw_I b, tw_I v, tw_I t] f P := by
  refine tw_Sp_of rfl rfl (Nat.le_of_ble_eq_true rfl) (fun X h => ?_)
  have hcc := hc
  have e40 : f 98 (1 - c) = 40 ↔ m = 40 := by
    rw [hm]
    exact nI_eq (b := 40) (by omega) (by omega)
  refine zn_iconst h 1 rfl rfl ?_
  refine zi_iload_n h rfl rfl ?_
  first | refine zn_isub h rfl (by omega) ?_ | refine zi_isub h rfl ?_
  refine zi_istore h rfl (Nat.le_of_ble_eq_true rfl) ?_
  refine zi_aload_n h rfl rfl ?_
  refine zg_boo h rfl (by first | rfl | assumption) (by decide) rfl ?_
  first | refine zb_ifne h rfl (fun hc => ?_) (fun hc => ?_) | refine zc_ifne h rfl (fun hc => ?_) (fun hc => ?_)
  · refine zi_vret h rfl ?_
    rw [k_send, if_neg (fun g => hc g.1)] at hP
    exact hP
  · have c0 := hc
    refine zi_aload_n h rfl rfl ?_
    refine zg_ref h rfl (by first | rfl | assumption) (by decide) rfl rfl ?_
    refine zi_iload h rfl rfl ?_
    refine za_n h m rfl (by first | rfl | assumption) rfl (by omega) (by decide) hm ?_
    refine zn_bipush h 40 rfl rfl ?_
    first | refine zn_icmpne h rfl (by omega) (by omega) (fun hc => ?_) (fun hc => ?_) | refine zc_icmpne h rfl (fun hc => ?_) (fun hc => ?_)
    · rw [k_send, if_pos ⟨c0, fun g => hc (e40.mp g)⟩, k_at, hm, nI_clamp (by omega), nI_1] at hP
      refine zn_sipush h 200 rfl rfl ?_
      refine zi_iload h rfl rfl ?_
      first | refine zn_imul h rfl ?_ | refine zi_imul h rfl ?_
      refine zn_iconst h 5 rfl rfl ?_
      refine zi_aload_n h rfl rfl ?_
      refine zg_ref h rfl (by first | rfl | assumption) (by decide) rfl rfl ?_
      refine zi_iload h rfl rfl ?_
      refine za_n h m rfl (by first | rfl | assumption) rfl (by omega) (by decide) hm ?_
      first | refine zn_imul h rfl ?_ | refine zi_imul h rfl ?_
      first | refine zn_iadd h rfl ?_ | refine zi_iadd h rfl ?_
      refine zi_istore h rfl (Nat.le_of_ble_eq_true rfl) ?_
      refine zi_aload_n h rfl rfl ?_
      refine zg_ref h rfl (by first | rfl | assumption) (by decide) rfl rfl ?_
      refine zi_iload h rfl rfl ?_
      refine zi_iload_n h rfl rfl ?_
      refine zs_i h rfl (by first | rfl | assumption) rfl (by omega) (by decide) ?_
      refine zi_aload_n h rfl rfl ?_
      refine zg_ref h rfl (by first | rfl | assumption) (by decide) rfl rfl ?_
      show X 32 _ _ _ _
      refine zi_iload h rfl rfl ?_
      refine zn_iconst h 1 rfl rfl ?_
      first | refine zn_iadd h rfl ?_ | refine zi_iadd h rfl ?_
      refine zi_iload_n h rfl rfl ?_
      refine zs_i h rfl (by first | rfl | assumption) rfl (by omega) (by decide) ?_
      refine zi_aload_n h rfl rfl ?_
      refine zg_ref h rfl (by first | rfl | assumption) (by decide) rfl rfl ?_
      refine zi_iload h rfl rfl ?_
      refine zn_iconst h 2 rfl rfl ?_
      first | refine zn_iadd h rfl ?_ | refine zi_iadd h rfl ?_
      show X 42 _ _ _ _
      refine zi_iload h rfl rfl ?_
      refine zs_i h rfl (by first | rfl | assumption) rfl (by omega) (by decide) ?_
      refine zi_aload_n h rfl rfl ?_
      refine zg_ref h rfl (by first | rfl | assumption) (by decide) rfl rfl ?_
      refine zi_iload h rfl rfl ?_
      refine zn_iconst h 3 rfl rfl ?_
      first | refine zn_iadd h rfl ?_ | refine zi_iadd h rfl ?_
      refine zi_iload h rfl rfl ?_
      refine zs_i h rfl (by first | rfl | assumption) rfl (by omega) (by decide) ?_
      refine zi_aload_n h rfl rfl ?_
      show X 52 _ _ _ _
      refine zg_ref h rfl (by first | rfl | assumption) (by decide) rfl rfl ?_
      refine zi_iload h rfl rfl ?_
      refine zn_iconst h 4 rfl rfl ?_
      first | refine zn_iadd h rfl ?_ | refine zi_iadd h rfl ?_
      refine zi_iload h rfl rfl ?_
      refine zs_i h rfl (by first | rfl | assumption) rfl (by omega) (by decide) ?_
      refine zi_aload_n h rfl rfl ?_
      refine zg_ref h rfl (by first | rfl | assumption) (by decide) rfl rfl ?_
      refine zi_iload h rfl rfl ?_
      refine zi_dup2 h rfl rfl rfl ?_
      refine za_n h m rfl (by first | rfl | assumption) rfl (by omega) (by decide) (by rw [tw_off (by omega), tw_off (by omega), tw_off (by omega), tw_off (by omega), tw_off (by omega)]; exact hm) ?_
      refine zn_iconst h 1 rfl rfl ?_
      first | refine zn_iadd h rfl ?_ | refine zi_iadd h rfl ?_
      refine zs_i h rfl (by first | rfl | assumption) rfl (by omega) (by decide) ?_
      refine zi_vret h rfl ?_
      exact hP
    · refine zi_vret h rfl ?_
      rw [k_send, if_neg (fun g => g.2 (e40.mpr hc))] at hP
      exact hP
set_option maxRecDepth 20000 in
theorem s_k_parityDisk {fl : Bool} {d : Nat} {f : tw_S} {P : tw_S → Option tw_A → Prop} {s : Nat} (hs : s < 8) (hP : P f (some (tw_I (nI (p_pd s))))) : tS fl (d + 1) 117 [tw_I (nI s)] f P := by
  refine tw_Sp_of rfl rfl (Nat.le_of_ble_eq_true rfl) (fun X h => ?_)
  refine zn_iconst h 4 rfl rfl ?_
  refine zi_iload_n h rfl rfl ?_
  refine zn_iconst h 5 rfl rfl ?_
  refine zn_irem h rfl (by omega) (by omega) (by omega) ?_
  first | refine zn_isub h rfl (by omega) ?_ | refine zi_isub h rfl ?_
  refine zi_iret h rfl ?_
  exact hP
set_option maxRecDepth 20000 in
theorem s_k_dataDisk {fl : Bool} {d : Nat} {f : tw_S} {P : tw_S → Option tw_A → Prop} {b : Nat} (hb : b < 32) (hP : P f (some (tw_I (nI (p_dd (b / 4) (b % 4)))))) : tS fl (d + 2) 118 [tw_I (nI b)] f P := by
  have hp : p_pd (b / 4) < 5 := by unfold p_pd; omega
  refine tw_Sp_of rfl rfl (Nat.le_of_ble_eq_true rfl) (fun X h => ?_)
  refine zi_iload_n h rfl rfl ?_
  refine zn_iconst h 4 rfl rfl ?_
  refine zn_irem h rfl (by omega) (by omega) (by omega) ?_
  refine zi_istore_n h rfl (Nat.le_of_ble_eq_true rfl) ?_
  refine zi_iload_n h rfl rfl ?_
  refine zi_iload_n h rfl rfl ?_
  refine zn_iconst h 4 rfl rfl ?_
  refine zn_idiv h rfl (by omega) (by omega) (by omega) ?_
  refine zk_S h [_] rfl rfl rfl (Nat.le_of_ble_eq_true rfl) (s_k_parityDisk (by omega) ?_)
  first | refine zn_icmplt h rfl (by omega) (by omega) (fun hc => ?_) (fun hc => ?_) | refine zc_icmplt h rfl (fun hc => ?_) (fun hc => ?_)
  · refine zi_iload_n h rfl rfl ?_
    refine zi_iret h rfl ?_
    rw [show p_dd (b / 4) (b % 4) = b % 4 from if_pos hc] at hP
    exact hP
  · first | refine zn_iinc h 1 rfl rfl rfl ?_ | refine zi_iinc h rfl rfl ?_
    refine zi_iload_n h rfl rfl ?_
    refine zi_iret h rfl ?_
    rw [show p_dd (b / 4) (b % 4) = b % 4 + 1 from if_neg (by omega)] at hP
    exact hP
set_option maxRecDepth 20000 in
theorem s_k_isMissing {fl : Bool} {d : Nat} {f : tw_S} {P : tw_S → Option tw_A → Prop} {i s : Nat} (hi : i < 5) (hs : s < 8) (hP : P f (some (tw_I (tw_nz (f 65 (i * 8 + s)))))) : tS fl (d + 1) 119 [tw_R 61, tw_I (nI i), tw_I (nI s)] f P := by
  rw [Nat.mul_comm i 8] at hP
  refine tw_Sp_of rfl rfl (Nat.le_of_ble_eq_true rfl) (fun X h => ?_)
  refine zi_aload_n h rfl rfl ?_
  refine zg_ref h rfl (by first | rfl | assumption) (by decide) rfl rfl ?_
  refine zn_bipush h 8 rfl rfl ?_
  refine zi_iload_n h rfl rfl ?_
  first | refine zn_imul h rfl ?_ | refine zi_imul h rfl ?_
  refine zi_iload_n h rfl rfl ?_
  first | refine zn_iadd h rfl ?_ | refine zi_iadd h rfl ?_
  refine za_z h rfl (by first | rfl | assumption) rfl (by omega) (by decide) ?_
  refine zi_zret h rfl (by first | exact Or.inl rfl | exact Or.inr rfl | exact tw_nz_01 _ | assumption) ?_
  exact hP
set_option maxRecDepth 20000 in
theorem s_k_othersThere {fl : Bool} {d : Nat} {f : tw_S} {P : tw_S → Option tw_A → Prop} {i s : Nat} (hs : s < 8) (hi : i < 6) (h1 : ¬ p_om (f 65) i s 5 → P f (some (tw_I 1))) (h2 : p_om (f 65) i s 5 → P f (some (tw_I 0))) : tS fl (d + 2) 120 [tw_R 61, tw_I (nI i), tw_I (nI s)] f P := by
  refine tw_Sp_of rfl rfl (Nat.le_of_ble_eq_true rfl) (fun X h => ?_)
  have loop : ∀ m j : Nat, j + m = 5 → ¬ p_om (f 65) i s j → X 2 [some (tw_R 61), some (tw_I (nI i)), some (tw_I (nI s)), some (tw_I (nI j))] [] tx_L0 f := by
    intro m
    induction m with
    | zero =>
      intro j hj he
      obtain rfl : j = 5 := by omega
      refine zi_iload_n h rfl rfl ?_
      refine zn_iconst h 5 rfl rfl ?_
      first | refine zn_icmpge h rfl (by omega) (by omega) (fun hc => ?_) (fun hc => ?_) | refine zc_icmpge h rfl (fun hc => ?_) (fun hc => ?_)
      · refine zn_iconst h 1 rfl rfl ?_
        refine zi_zret h rfl (by first | exact Or.inl rfl | exact Or.inr rfl | exact tw_nz_01 _ | assumption) ?_
        exact h1 he
      · omega
    | succ m ih =>
      intro j hj he
      refine zi_iload_n h rfl rfl ?_
      refine zn_iconst h 5 rfl rfl ?_
      first | refine zn_icmpge h rfl (by omega) (by omega) (fun hc => ?_) (fun hc => ?_) | refine zc_icmpge h rfl (fun hc => ?_) (fun hc => ?_)
      · omega
      · refine zi_iload_n h rfl rfl ?_
        refine zi_iload_n h rfl rfl ?_
        first | refine zn_icmpeq h rfl (by omega) (by omega) (fun hc => ?_) (fun hc => ?_) | refine zc_icmpeq h rfl (fun hc => ?_) (fun hc => ?_)
        · have ih := ih (j + 1) (by omega) (p_om_succ he (Or.inl hc))
          first | refine zn_iinc h 1 rfl rfl rfl ?_ | refine zi_iinc h rfl rfl ?_
          refine zi_goto h rfl ?_
          exact ih
        · have hc0 := hc
          refine zi_aload_n h rfl rfl ?_
          refine zi_iload_n h rfl rfl ?_
          refine zi_iload_n h rfl rfl ?_
          refine zk_V h [_, _] rfl (by first | rfl | assumption) rfl rfl (Nat.le_of_ble_eq_true rfl) (s_k_isMissing (by omega) (by omega) ?_)
          first | refine zb_ifeq h rfl (fun hc => ?_) (fun hc => ?_) | refine zc_ifeq h rfl (fun hc => ?_) (fun hc => ?_)
          · have ih := ih (j + 1) (by omega) (p_om_succ he (Or.inr hc))
            first | refine zn_iinc h 1 rfl rfl rfl ?_ | refine zi_iinc h rfl rfl ?_
            refine zi_goto h rfl ?_
            exact ih
          · refine zn_iconst h 0 rfl rfl ?_
            refine zi_zret h rfl (by first | exact Or.inl rfl | exact Or.inr rfl | exact tw_nz_01 _ | assumption) ?_
            exact h2 ⟨j, by omega, hc0, hc⟩
  refine zn_iconst h 0 rfl rfl ?_
  refine zi_istore_n h rfl (Nat.le_of_ble_eq_true rfl) ?_
  exact loop 5 0 (by omega) (fun ⟨o, ho, _⟩ => by omega)
set_option maxRecDepth 20000 in
theorem s_k_isLost {fl : Bool} {d : Nat} {f : tw_S} {P : tw_S → Option tw_A → Prop} {b : Nat} (hb : b < 32) (h1 : p_lost (f 65) b → P f (some (tw_I 1))) (h2 : ¬ p_lost (f 65) b → P f (some (tw_I 0))) : tS fl (d + 3) 121 [tw_R 61, tw_I (nI b)] f P := by
  have hdd := p_dd_lt (s := b / 4) (k := b % 4) (by omega)
  refine tw_Sp_of rfl rfl (Nat.le_of_ble_eq_true rfl) (fun X h => ?_)
  refine zi_iload_n h rfl rfl ?_
  refine zk_S h [_] rfl rfl rfl (Nat.le_of_ble_eq_true rfl) (s_k_dataDisk hb ?_)
  refine zi_istore_n h rfl (Nat.le_of_ble_eq_true rfl) ?_
  refine zi_aload_n h rfl rfl ?_
  refine zi_iload_n h rfl rfl ?_
  refine zi_iload_n h rfl rfl ?_
  refine zn_iconst h 4 rfl rfl ?_
  refine zn_idiv h rfl (by omega) (by omega) (by omega) ?_
  refine zk_V h [_, _] rfl (by first | rfl | assumption) rfl rfl (Nat.le_of_ble_eq_true rfl) (s_k_isMissing hdd (by omega) ?_)
  first | refine zb_ifeq h rfl (fun hc => ?_) (fun hc => ?_) | refine zc_ifeq h rfl (fun hc => ?_) (fun hc => ?_)
  · refine zn_iconst h 0 rfl rfl ?_
    refine zi_zret h rfl (by first | exact Or.inl rfl | exact Or.inr rfl | exact tw_nz_01 _ | assumption) ?_
    exact h2 (fun g => g.1 hc)
  · have hc0 := hc
    refine zi_aload_n h rfl rfl ?_
    refine zi_iload_n h rfl rfl ?_
    refine zi_iload_n h rfl rfl ?_
    refine zn_iconst h 4 rfl rfl ?_
    refine zn_idiv h rfl (by omega) (by omega) (by omega) ?_
    refine zk_V h [_, _] rfl (by first | rfl | assumption) rfl rfl (Nat.le_of_ble_eq_true rfl) (s_k_othersThere (by omega) (by omega) (fun hm => ?_) (fun hm => ?_))
    · first | refine zb_ifne h rfl (fun hc => ?_) (fun hc => ?_) | refine zc_ifne h rfl (fun hc => ?_) (fun hc => ?_)
      · refine zn_iconst h 0 rfl rfl ?_
        refine zi_zret h rfl (by first | exact Or.inl rfl | exact Or.inr rfl | exact tw_nz_01 _ | assumption) ?_
        exact h2 (fun g => hm g.2)
      · exact absurd hc (by decide)
    · first | refine zb_ifne h rfl (fun hc => ?_) (fun hc => ?_) | refine zc_ifne h rfl (fun hc => ?_) (fun hc => ?_)
      · exact absurd rfl hc
      · refine zn_iconst h 1 rfl rfl ?_
        refine zi_goto h rfl ?_
        refine zi_zret h rfl (by first | exact Or.inl rfl | exact Or.inr rfl | exact tw_nz_01 _ | assumption) ?_
        exact h1 ⟨hc0, hm⟩
set_option maxRecDepth 20000 in
theorem s_k_others {fl : Bool} {d : Nat} {f : tw_S} {P : tw_S → Option tw_A → Prop} {i s : Nat} (hi : i < 6) (hs : s < 8) (hP : P f (some (tw_I (p_xor (f 64) i s 5)))) : tS fl (d + 1) 122 [tw_R 61, tw_I (nI i), tw_I (nI s)] f P := by
  refine tw_Sp_of rfl rfl (Nat.le_of_ble_eq_true rfl) (fun X h => ?_)
  have loop : ∀ m j : Nat, j + m = 5 → X 4 [some (tw_R 61), some (tw_I (nI i)), some (tw_I (nI s)), some (tw_I (p_xor (f 64) i s j)), some (tw_I (nI j))] [] tx_L0 f := by
    intro m
    induction m with
    | zero =>
      intro j hj
      obtain rfl : j = 5 := by omega
      refine zi_iload h rfl rfl ?_
      refine zn_iconst h 5 rfl rfl ?_
      first | refine zn_icmpge h rfl (by omega) (by omega) (fun hc => ?_) (fun hc => ?_) | refine zc_icmpge h rfl (fun hc => ?_) (fun hc => ?_)
      · refine zi_iload_n h rfl rfl ?_
        refine zi_iret h rfl ?_
        exact hP
      · omega
    | succ m ih =>
      intro j hj
      have ih := ih (j + 1) (by omega)
      refine zi_iload h rfl rfl ?_
      refine zn_iconst h 5 rfl rfl ?_
      first | refine zn_icmpge h rfl (by omega) (by omega) (fun hc => ?_) (fun hc => ?_) | refine zc_icmpge h rfl (fun hc => ?_) (fun hc => ?_)
      · omega
      · refine zi_iload h rfl rfl ?_
        refine zi_iload_n h rfl rfl ?_
        first | refine zn_icmpeq h rfl (by omega) (by omega) (fun hc => ?_) (fun hc => ?_) | refine zc_icmpeq h rfl (fun hc => ?_) (fun hc => ?_)
        · rw [show p_xor (f 64) i s (j + 1) = p_xor (f 64) i s j by simp [p_xor, hc]] at ih
          first | refine zn_iinc h 1 rfl rfl rfl ?_ | refine zi_iinc h rfl rfl ?_
          refine zi_goto h rfl ?_
          exact ih
        · rw [show p_xor (f 64) i s (j + 1) = p_xor (f 64) i s j ^^^ f 64 (8 * j + s) by simp [p_xor, hc, Nat.mul_comm]] at ih
          refine zi_iload_n h rfl rfl ?_
          refine zi_aload_n h rfl rfl ?_
          refine zg_ref h rfl (by first | rfl | assumption) (by decide) rfl rfl ?_
          refine zn_bipush h 8 rfl rfl ?_
          refine zi_iload h rfl rfl ?_
          first | refine zn_imul h rfl ?_ | refine zi_imul h rfl ?_
          refine zi_iload_n h rfl rfl ?_
          first | refine zn_iadd h rfl ?_ | refine zi_iadd h rfl ?_
          refine za_i h rfl (by first | rfl | assumption) rfl (by omega) (by decide) ?_
          refine zi_ixor h rfl ?_
          show X 20 _ _ _ _
          refine zi_istore_n h rfl (Nat.le_of_ble_eq_true rfl) ?_
          first | refine zn_iinc h 1 rfl rfl rfl ?_ | refine zi_iinc h rfl rfl ?_
          refine zi_goto h rfl ?_
          exact ih
  refine zn_iconst h 0 rfl rfl ?_
  refine zi_istore_n h rfl (Nat.le_of_ble_eq_true rfl) ?_
  refine zn_iconst h 0 rfl rfl ?_
  refine zi_istore h rfl (Nat.le_of_ble_eq_true rfl) ?_
  exact loop 5 0 (by omega)
set_option maxRecDepth 20000 in
theorem s_k_what {fl : Bool} {d : Nat} {f : tw_S} {P : tw_S → Option tw_A → Prop} {b : Nat} (hb : b < 32) (hP : P f (some (tw_I (p_what (f 65) (f 64) b)))) : tS fl (d + 3) 123 [tw_R 61, tw_I (nI b)] f P := by
  have hdd := p_dd_lt (s := b / 4) (k := b % 4) (by omega)
  refine tw_Sp_of rfl rfl (Nat.le_of_ble_eq_true rfl) (fun X h => ?_)
  refine zi_iload_n h rfl rfl ?_
  refine zk_S h [_] rfl rfl rfl (Nat.le_of_ble_eq_true rfl) (s_k_dataDisk hb ?_)
  refine zi_istore_n h rfl (Nat.le_of_ble_eq_true rfl) ?_
  refine zi_aload_n h rfl rfl ?_
  refine zi_iload_n h rfl rfl ?_
  refine zi_iload_n h rfl rfl ?_
  refine zn_iconst h 4 rfl rfl ?_
  refine zn_idiv h rfl (by omega) (by omega) (by omega) ?_
  refine zk_V h [_, _] rfl (by first | rfl | assumption) rfl rfl (Nat.le_of_ble_eq_true rfl) (s_k_isMissing hdd (by omega) ?_)
  first | refine zb_ifeq h rfl (fun hc => ?_) (fun hc => ?_) | refine zc_ifeq h rfl (fun hc => ?_) (fun hc => ?_)
  · rw [show p_what (f 65) (f 64) b = _ from if_pos hc, Nat.mul_comm (p_dd (b / 4) (b % 4)) 8] at hP
    refine zi_aload_n h rfl rfl ?_
    refine zg_ref h rfl (by first | rfl | assumption) (by decide) rfl rfl ?_
    refine zn_bipush h 8 rfl rfl ?_
    refine zi_iload_n h rfl rfl ?_
    first | refine zn_imul h rfl ?_ | refine zi_imul h rfl ?_
    refine zi_iload_n h rfl rfl ?_
    refine zn_iconst h 4 rfl rfl ?_
    refine zn_idiv h rfl (by omega) (by omega) (by omega) ?_
    first | refine zn_iadd h rfl ?_ | refine zi_iadd h rfl ?_
    refine za_i h rfl (by first | rfl | assumption) rfl (by omega) (by decide) ?_
    show X 27 _ _ _ _
    refine zi_iret h rfl ?_
    exact hP
  · rw [show p_what (f 65) (f 64) b = _ from if_neg hc] at hP
    refine zi_aload_n h rfl rfl ?_
    refine zi_iload_n h rfl rfl ?_
    refine zi_iload_n h rfl rfl ?_
    refine zn_iconst h 4 rfl rfl ?_
    refine zn_idiv h rfl (by omega) (by omega) (by omega) ?_
    refine zk_V h [_, _] rfl (by first | rfl | assumption) rfl rfl (Nat.le_of_ble_eq_true rfl) (s_k_others (by omega) (by omega) ?_)
    refine zi_iret h rfl ?_
    exact hP
set_option maxRecDepth 20000 in
theorem s_k_lands {fl : Bool} {d : Nat} {f : tw_S} {P : tw_S → Option tw_A → Prop} {i s : Nat} {v : Int32} (hi : i < 5) (hs : s < 8) (hP : P (k_put f i s v) none) : tS fl (d + 1) 127 [tw_R 61, tw_I (nI i), tw_I (nI s), tw_I v] f P := by
  rw [k_put, Nat.mul_comm i 8] at hP
  refine tw_Sp_of rfl rfl (Nat.le_of_ble_eq_true rfl) (fun X h => ?_)
  refine zi_aload_n h rfl rfl ?_
  refine zg_ref h rfl (by first | rfl | assumption) (by decide) rfl rfl ?_
  refine zn_bipush h 8 rfl rfl ?_
  refine zi_iload_n h rfl rfl ?_
  first | refine zn_imul h rfl ?_ | refine zi_imul h rfl ?_
  refine zi_iload_n h rfl rfl ?_
  first | refine zn_iadd h rfl ?_ | refine zi_iadd h rfl ?_
  refine zi_iload_n h rfl rfl ?_
  refine zs_i h rfl (by first | rfl | assumption) rfl (by omega) (by decide) ?_
  refine zi_aload_n h rfl rfl ?_
  show X 10 _ _ _ _
  refine zg_ref h rfl (by first | rfl | assumption) (by decide) rfl rfl ?_
  refine zn_bipush h 8 rfl rfl ?_
  refine zi_iload_n h rfl rfl ?_
  first | refine zn_imul h rfl ?_ | refine zi_imul h rfl ?_
  refine zi_iload_n h rfl rfl ?_
  first | refine zn_iadd h rfl ?_ | refine zi_iadd h rfl ?_
  refine zn_iconst h 0 rfl rfl ?_
  refine zs_z h rfl (by first | rfl | assumption) rfl (by omega) (by decide) (by first | exact Or.inl rfl | exact Or.inr rfl | exact tw_nz_01 _ | assumption) ?_
  refine zi_vret h rfl ?_
  exact hP
set_option maxRecDepth 20000 in
theorem s_k_greatest {fl : Bool} {d : Nat} {f : tw_S} {P : tw_S → Option tw_A → Prop} (hP : P f (some (tw_I (p_great (f 62) (f 63) 5)))) : tS fl (d + 1) 146 [tw_R 61] f P := by
  refine tw_Sp_of rfl rfl (Nat.le_of_ble_eq_true rfl) (fun X h => ?_)
  have loop : ∀ n i : Nat, i + n = 5 → X 4 [some (tw_R 61), some (tw_I (p_great (f 62) (f 63) i)), some (tw_I (nI i))] [] tx_L0 f := by
    intro n
    induction n with
    | zero =>
      intro i hi
      obtain rfl : i = 5 := by omega
      refine zi_iload_n h rfl rfl ?_
      refine zn_iconst h 5 rfl rfl ?_
      first | refine zn_icmpge h rfl (by omega) (by omega) (fun hc => ?_) (fun hc => ?_) | refine zc_icmpge h rfl (fun hc => ?_) (fun hc => ?_)
      · refine zi_iload_n h rfl rfl ?_
        refine zi_iret h rfl ?_
        exact hP
      · omega
    | succ n ih =>
      intro i hi
      have ih := ih (i + 1) (by omega)
      refine zi_iload_n h rfl rfl ?_
      refine zn_iconst h 5 rfl rfl ?_
      first | refine zn_icmpge h rfl (by omega) (by omega) (fun hc => ?_) (fun hc => ?_) | refine zc_icmpge h rfl (fun hc => ?_) (fun hc => ?_)
      · omega
      · refine zi_aload_n h rfl rfl ?_
        refine zg_ref h rfl (by first | rfl | assumption) (by decide) rfl rfl ?_
        refine zi_iload_n h rfl rfl ?_
        refine za_z h rfl (by first | rfl | assumption) rfl (by omega) (by decide) ?_
        first | refine zb_ifeq h rfl (fun hc => ?_) (fun hc => ?_) | refine zc_ifeq h rfl (fun hc => ?_) (fun hc => ?_)
        · rw [show p_great (f 62) (f 63) (i + 1) = p_great (f 62) (f 63) i by simp [p_great, hc]] at ih
          first | refine zn_iinc h 1 rfl rfl rfl ?_ | refine zi_iinc h rfl rfl ?_
          refine zi_goto h rfl ?_
          exact ih
        · rw [show p_great (f 62) (f 63) (i + 1) = (if p_great (f 62) (f 63) i < f 63 i then f 63 i else p_great (f 62) (f 63) i) by simp [p_great, hc]] at ih
          refine zi_aload_n h rfl rfl ?_
          refine zg_ref h rfl (by first | rfl | assumption) (by decide) rfl rfl ?_
          refine zi_iload_n h rfl rfl ?_
          refine za_i h rfl (by first | rfl | assumption) rfl (by omega) (by decide) ?_
          refine zi_iload_n h rfl rfl ?_
          refine zc_icmple h rfl (fun hc => ?_) (fun hc => ?_)
          · rw [if_neg (Int32.not_lt.mpr hc)] at ih
            first | refine zn_iinc h 1 rfl rfl rfl ?_ | refine zi_iinc h rfl rfl ?_
            refine zi_goto h rfl ?_
            exact ih
          · rw [if_pos (Int32.not_le.mp hc)] at ih
            refine zi_aload_n h rfl rfl ?_
            refine zg_ref h rfl (by first | rfl | assumption) (by decide) rfl rfl ?_
            refine zi_iload_n h rfl rfl ?_
            refine za_i h rfl (by first | rfl | assumption) rfl (by omega) (by decide) ?_
            refine zi_istore_n h rfl (Nat.le_of_ble_eq_true rfl) ?_
            first | refine zn_iinc h 1 rfl rfl rfl ?_ | refine zi_iinc h rfl rfl ?_
            refine zi_goto h rfl ?_
            exact ih
  refine zn_iconst h 0 rfl rfl ?_
  refine zi_istore_n h rfl (Nat.le_of_ble_eq_true rfl) ?_
  refine zn_iconst h 0 rfl rfl ?_
  refine zi_istore_n h rfl (Nat.le_of_ble_eq_true rfl) ?_
  exact loop 5 0 (by omega)
set_option maxRecDepth 20000 in
theorem s_k_begins {fl : Bool} {d : Nat} {f : tw_S} {P : tw_S → Option tw_A → Prop} {c : Nat} {a b v : Int32} (hc : c < 2) (hP : P (k_begins f c a b v) none) : tS fl (d + 1) 131 [tw_R 61, tw_I (nI c), tw_I a, tw_I b, tw_I v] f P := by
  refine tw_Sp_of rfl rfl (Nat.le_of_ble_eq_true rfl) (fun X h => ?_)
  have e : ∀ x y z : Int32, tw_up (tw_up (tw_up f 80 c x) 81 c y) 82 c z 67 c = f 67 c := fun x y z => by rw [tw_off (by omega), tw_off (by omega), tw_off (by omega)]
  refine zi_aload_n h rfl rfl ?_
  refine zg_ref h rfl (by first | rfl | assumption) (by decide) rfl rfl ?_
  refine zi_iload_n h rfl rfl ?_
  refine zi_iload_n h rfl rfl ?_
  refine zs_i h rfl (by first | rfl | assumption) rfl (by omega) (by decide) ?_
  refine zi_aload_n h rfl rfl ?_
  refine zg_ref h rfl (by first | rfl | assumption) (by decide) rfl rfl ?_
  refine zi_iload_n h rfl rfl ?_
  refine zi_iload_n h rfl rfl ?_
  refine zs_i h rfl (by first | rfl | assumption) rfl (by omega) (by decide) ?_
  show X 10 _ _ _ _
  refine zi_aload_n h rfl rfl ?_
  refine zg_ref h rfl (by first | rfl | assumption) (by decide) rfl rfl ?_
  refine zi_iload_n h rfl rfl ?_
  refine zi_iload h rfl rfl ?_
  refine zs_i h rfl (by first | rfl | assumption) rfl (by omega) (by decide) ?_
  refine zi_aload_n h rfl rfl ?_
  refine zg_ref h rfl (by first | rfl | assumption) (by decide) rfl rfl ?_
  refine zi_iload_n h rfl rfl ?_
  refine zi_aload_n h rfl rfl ?_
  refine zg_ref h rfl (by first | rfl | assumption) (by decide) rfl rfl ?_
  show X 20 _ _ _ _
  refine zi_iload_n h rfl rfl ?_
  refine za_i h rfl (by first | rfl | assumption) rfl (by omega) (by decide) ?_
  refine zs_i h rfl (by first | rfl | assumption) rfl (by omega) (by decide) ?_
  refine zi_vret h rfl ?_
  rw [e]
  exact hP
set_option maxRecDepth 20000 in
theorem s_k_lowest {fl : Bool} {d : Nat} {f : tw_S} {P : tw_S → Option tw_A → Prop} {c q : Nat} (hc : c < 2) (hq : q = 77 ∨ q = 78 ∨ q = 79) (h1 : p_ft (fun s => f q (8 * c + s)) 8 0 < 8 → P f (some (tw_I (nI (p_ft (fun s => f q (8 * c + s)) 8 0))))) (h2 : ¬ p_ft (fun s => f q (8 * c + s)) 8 0 < 8 → P f (some (tw_I (-1)))) : tS fl (d + 1) 130 [tw_R 61, tw_R q, tw_I (nI c)] f P := by
  have lq : tx_L0[q]? = some (101, 16, []) := by rcases hq with rfl | rfl | rfl <;> rfl
  refine tw_Sp_of rfl rfl (Nat.le_of_ble_eq_true rfl) (fun X h => ?_)
  have loop : ∀ m j : Nat, j + m = 8 → p_ft (fun s => f q (8 * c + s)) m j = p_ft (fun s => f q (8 * c + s)) 8 0 → X 2 [some (tw_R 61), some (tw_R q), some (tw_I (nI c)), some (tw_I (nI j))] [] tx_L0 f := by
    intro m
    induction m with
    | zero =>
      intro j hj he
      obtain rfl : j = 8 := by omega
      have he : 8 = p_ft (fun s => f q (8 * c + s)) 8 0 := he
      refine zi_iload_n h rfl rfl ?_
      refine zn_bipush h 8 rfl rfl ?_
      first | refine zn_icmpge h rfl (by omega) (by omega) (fun hc => ?_) (fun hc => ?_) | refine zc_icmpge h rfl (fun hc => ?_) (fun hc => ?_)
      · refine zi_iconst h rfl ?_
        refine zi_iret h rfl ?_
        exact h2 (by omega)
      · omega
    | succ m ih =>
      intro j hj he
      refine zi_iload_n h rfl rfl ?_
      refine zn_bipush h 8 rfl rfl ?_
      first | refine zn_icmpge h rfl (by omega) (by omega) (fun hc => ?_) (fun hc => ?_) | refine zc_icmpge h rfl (fun hc => ?_) (fun hc => ?_)
      · omega
      · refine zi_aload_n h rfl rfl ?_
        refine zn_bipush h 8 rfl rfl ?_
        refine zi_iload_n h rfl rfl ?_
        first | refine zn_imul h rfl ?_ | refine zi_imul h rfl ?_
        refine zi_iload_n h rfl rfl ?_
        first | refine zn_iadd h rfl ?_ | refine zi_iadd h rfl ?_
        refine za_z h rfl (by first | rfl | assumption) rfl (by omega) (by decide) ?_
        first | refine zb_ifeq h rfl (fun hc => ?_) (fun hc => ?_) | refine zc_ifeq h rfl (fun hc => ?_) (fun hc => ?_)
        · have ih := ih (j + 1) (by omega) (by rw [← he]; simp [p_ft, hc])
          first | refine zn_iinc h 1 rfl rfl rfl ?_ | refine zi_iinc h rfl rfl ?_
          refine zi_goto h rfl ?_
          exact ih
        · have he : j = p_ft (fun s => f q (8 * c + s)) 8 0 := by rw [← he]; simp [p_ft, hc]
          refine zi_iload_n h rfl rfl ?_
          refine zi_iret h rfl ?_
          have h1 := h1 (by omega)
          rw [← he] at h1
          exact h1
  refine zn_iconst h 0 rfl rfl ?_
  refine zi_istore_n h rfl (Nat.le_of_ble_eq_true rfl) ?_
  exact loop 8 0 (by omega) rfl
def k_ln (f : tw_S) (c s : Nat) : Int32 := if f 77 (8 * c + s) = 0 ∨ ¬ f 79 (8 * c + s) = 0 then 0 else 1
set_option maxRecDepth 20000 in
theorem s_k_lowestNote {fl : Bool} {d : Nat} {f : tw_S} {P : tw_S → Option tw_A → Prop} {c : Nat} (hc : c < 2) (h1 : p_ft (k_ln f c) 8 0 < 8 → P f (some (tw_I (nI (p_ft (k_ln f c) 8 0))))) (h2 : ¬ p_ft (k_ln f c) 8 0 < 8 → P f (some (tw_I (-1)))) : tS fl (d + 1) 137 [tw_R 61, tw_I (nI c)] f P := by
  refine tw_Sp_of rfl rfl (Nat.le_of_ble_eq_true rfl) (fun X h => ?_)
  have loop : ∀ m j : Nat, j + m = 8 → p_ft (k_ln f c) m j = p_ft (k_ln f c) 8 0 → X 2 [some (tw_R 61), some (tw_I (nI c)), some (tw_I (nI j))] [] tx_L0 f := by
    intro m
    induction m with
    | zero =>
      intro j hj he
      obtain rfl : j = 8 := by omega
      have he : 8 = p_ft (k_ln f c) 8 0 := he
      refine zi_iload_n h rfl rfl ?_
      refine zn_bipush h 8 rfl rfl ?_
      first | refine zn_icmpge h rfl (by omega) (by omega) (fun hc => ?_) (fun hc => ?_) | refine zc_icmpge h rfl (fun hc => ?_) (fun hc => ?_)
      · refine zi_iconst h rfl ?_
        refine zi_iret h rfl ?_
        exact h2 (by omega)
      · omega
    | succ m ih =>
      intro j hj he
      have next : k_ln f c j = 0 → X 25 [some (tw_R 61), some (tw_I (nI c)), some (tw_I (nI j))] [] tx_L0 f := by
        intro hz
        have ih := ih (j + 1) (by omega) (by rw [← he]; simp [p_ft, hz])
        first | refine zn_iinc h 1 rfl rfl rfl ?_ | refine zi_iinc h rfl rfl ?_
        refine zi_goto h rfl ?_
        exact ih
      refine zi_iload_n h rfl rfl ?_
      refine zn_bipush h 8 rfl rfl ?_
      first | refine zn_icmpge h rfl (by omega) (by omega) (fun hc => ?_) (fun hc => ?_) | refine zc_icmpge h rfl (fun hc => ?_) (fun hc => ?_)
      · omega
      · refine zi_aload_n h rfl rfl ?_
        refine zg_ref h rfl (by first | rfl | assumption) (by decide) rfl rfl ?_
        refine zn_bipush h 8 rfl rfl ?_
        refine zi_iload_n h rfl rfl ?_
        first | refine zn_imul h rfl ?_ | refine zi_imul h rfl ?_
        refine zi_iload_n h rfl rfl ?_
        first | refine zn_iadd h rfl ?_ | refine zi_iadd h rfl ?_
        refine za_z h rfl (by first | rfl | assumption) rfl (by omega) (by decide) ?_
        first | refine zb_ifeq h rfl (fun hc => ?_) (fun hc => ?_) | refine zc_ifeq h rfl (fun hc => ?_) (fun hc => ?_)
        · exact next (if_pos (Or.inl hc))
        · have c1 := hc
          refine zi_aload_n h rfl rfl ?_
          refine zg_ref h rfl (by first | rfl | assumption) (by decide) rfl rfl ?_
          refine zn_bipush h 8 rfl rfl ?_
          refine zi_iload_n h rfl rfl ?_
          first | refine zn_imul h rfl ?_ | refine zi_imul h rfl ?_
          refine zi_iload_n h rfl rfl ?_
          first | refine zn_iadd h rfl ?_ | refine zi_iadd h rfl ?_
          refine za_z h rfl (by first | rfl | assumption) rfl (by omega) (by decide) ?_
          first | refine zb_ifne h rfl (fun hc => ?_) (fun hc => ?_) | refine zc_ifne h rfl (fun hc => ?_) (fun hc => ?_)
          · exact next (if_pos (Or.inr hc))
          · have hz : ¬ k_ln f c j = 0 := by
              rw [k_ln, if_neg (fun u => u.elim c1 (fun v => v hc))]
              decide
            have he : j = p_ft (k_ln f c) 8 0 := by rw [← he]; simp [p_ft, hz]
            refine zi_iload_n h rfl rfl ?_
            refine zi_iret h rfl ?_
            have h1 := h1 (by omega)
            rw [← he] at h1
            exact h1
  refine zn_iconst h 0 rfl rfl ?_
  refine zi_istore_n h rfl (Nat.le_of_ble_eq_true rfl) ?_
  exact loop 8 0 (by omega) rfl
set_option maxRecDepth 20000 in
theorem s_k_dirtyIn {fl : Bool} {d : Nat} {f : tw_S} {P : tw_S → Option tw_A → Prop} {c s : Nat} (hc : c < 2) (hs : s < 8) (hP : P f (some (tw_I (nI (p_cnt (fun j => f 73 (32 * c + (s * 4 + j))) 4))))) : tS fl (d + 1) 134 [tw_R 61, tw_I (nI c), tw_I (nI s)] f P := by
  refine tw_Sp_of rfl rfl (Nat.le_of_ble_eq_true rfl) (fun X h => ?_)
  have loop : ∀ n i : Nat, i + n = 4 → X 4 [some (tw_R 61), some (tw_I (nI c)), some (tw_I (nI s)), some (tw_I (nI (p_cnt (fun j => f 73 (32 * c + (s * 4 + j))) i))), some (tw_I (nI i))] [] tx_L0 f := by
    intro n
    induction n with
    | zero =>
      intro i hi
      obtain rfl : i = 4 := by omega
      refine zi_iload h rfl rfl ?_
      refine zn_iconst h 4 rfl rfl ?_
      first | refine zn_icmpge h rfl (by omega) (by omega) (fun hc => ?_) (fun hc => ?_) | refine zc_icmpge h rfl (fun hc => ?_) (fun hc => ?_)
      · refine zi_iload_n h rfl rfl ?_
        refine zi_iret h rfl ?_
        exact hP
      · omega
    | succ n ih =>
      intro i hi
      have ih := ih (i + 1) (by omega)
      have ei : 32 * c + 4 * s + i = 32 * c + (s * 4 + i) := by omega
      refine zi_iload h rfl rfl ?_
      refine zn_iconst h 4 rfl rfl ?_
      first | refine zn_icmpge h rfl (by omega) (by omega) (fun hc => ?_) (fun hc => ?_) | refine zc_icmpge h rfl (fun hc => ?_) (fun hc => ?_)
      · omega
      · refine zi_aload_n h rfl rfl ?_
        refine zg_ref h rfl (by first | rfl | assumption) (by decide) rfl rfl ?_
        refine zn_bipush h 32 rfl rfl ?_
        refine zi_iload_n h rfl rfl ?_
        first | refine zn_imul h rfl ?_ | refine zi_imul h rfl ?_
        refine zn_iconst h 4 rfl rfl ?_
        refine zi_iload_n h rfl rfl ?_
        first | refine zn_imul h rfl ?_ | refine zi_imul h rfl ?_
        first | refine zn_iadd h rfl ?_ | refine zi_iadd h rfl ?_
        refine zi_iload h rfl rfl ?_
        show X 17 _ _ _ _
        first | refine zn_iadd h rfl ?_ | refine zi_iadd h rfl ?_
        refine za_z h rfl (by first | rfl | assumption) rfl (by omega) (by decide) ?_
        first | refine zb_ifeq h rfl (fun hc => ?_) (fun hc => ?_) | refine zc_ifeq h rfl (fun hc => ?_) (fun hc => ?_)
        · rw [ei] at hc
          rw [show p_cnt (fun j => f 73 (32 * c + (s * 4 + j))) (i + 1) = p_cnt (fun j => f 73 (32 * c + (s * 4 + j))) i by simp [p_cnt, hc]] at ih
          first | refine zn_iinc h 1 rfl rfl rfl ?_ | refine zi_iinc h rfl rfl ?_
          refine zi_goto h rfl ?_
          exact ih
        · rw [ei] at hc
          rw [show p_cnt (fun j => f 73 (32 * c + (s * 4 + j))) (i + 1) = p_cnt (fun j => f 73 (32 * c + (s * 4 + j))) i + 1 by simp [p_cnt, hc]] at ih
          first | refine zn_iinc h 1 rfl rfl rfl ?_ | refine zi_iinc h rfl rfl ?_
          first | refine zn_iinc h 1 rfl rfl rfl ?_ | refine zi_iinc h rfl rfl ?_
          refine zi_goto h rfl ?_
          exact ih
  refine zn_iconst h 0 rfl rfl ?_
  refine zi_istore_n h rfl (Nat.le_of_ble_eq_true rfl) ?_
  refine zn_iconst h 0 rfl rfl ?_
  refine zi_istore h rfl (Nat.le_of_ble_eq_true rfl) ?_
  exact loop 4 0 (by omega)
set_option maxRecDepth 20000 in
theorem s_k_dirtyAll {fl : Bool} {d : Nat} {f : tw_S} {P : tw_S → Option tw_A → Prop} {c : Nat} (hc : c < 2) (hP : P f (some (tw_I (nI (p_cd (fun j => f 73 (32 * c + j)) 8))))) : tS fl (d + 2) 135 [tw_R 61, tw_I (nI c)] f P := by
  refine tw_Sp_of rfl rfl (Nat.le_of_ble_eq_true rfl) (fun X h => ?_)
  have hcc := hc
  have loop : ∀ n i : Nat, i + n = 8 → X 4 [some (tw_R 61), some (tw_I (nI c)), some (tw_I (nI (p_cd (fun j => f 73 (32 * c + j)) i))), some (tw_I (nI i))] [] tx_L0 f := by
    intro n
    induction n with
    | zero =>
      intro i hi
      obtain rfl : i = 8 := by omega
      refine zi_iload_n h rfl rfl ?_
      refine zn_bipush h 8 rfl rfl ?_
      first | refine zn_icmpge h rfl (by omega) (by omega) (fun hc => ?_) (fun hc => ?_) | refine zc_icmpge h rfl (fun hc => ?_) (fun hc => ?_)
      · refine zi_iload_n h rfl rfl ?_
        refine zi_iret h rfl ?_
        exact hP
      · omega
    | succ n ih =>
      intro i hi
      have ih := ih (i + 1) (by omega)
      refine zi_iload_n h rfl rfl ?_
      refine zn_bipush h 8 rfl rfl ?_
      first | refine zn_icmpge h rfl (by omega) (by omega) (fun hc => ?_) (fun hc => ?_) | refine zc_icmpge h rfl (fun hc => ?_) (fun hc => ?_)
      · omega
      · refine zi_iload_n h rfl rfl ?_
        refine zi_aload_n h rfl rfl ?_
        refine zi_iload_n h rfl rfl ?_
        refine zi_iload_n h rfl rfl ?_
        refine zk_V h [_, _] rfl (by first | rfl | assumption) rfl rfl (Nat.le_of_ble_eq_true rfl) (s_k_dirtyIn hcc (by omega) ?_)
        first | refine zn_iadd h rfl ?_ | refine zi_iadd h rfl ?_
        refine zi_istore_n h rfl (Nat.le_of_ble_eq_true rfl) ?_
        first | refine zn_iinc h 1 rfl rfl rfl ?_ | refine zi_iinc h rfl rfl ?_
        refine zi_goto h rfl ?_
        exact ih
  refine zn_iconst h 0 rfl rfl ?_
  refine zi_istore_n h rfl (Nat.le_of_ble_eq_true rfl) ?_
  refine zn_iconst h 0 rfl rfl ?_
  refine zi_istore_n h rfl (Nat.le_of_ble_eq_true rfl) ?_
  exact loop 8 0 (by omega)
set_option maxRecDepth 20000 in
theorem s_k_ofAll {fl : Bool} {d : Nat} {f : tw_S} {P : tw_S → Option tw_A → Prop} {x : Int32} (h1 : p_other (f 62) (f 63) x 5 = 0 → P f (some (tw_I 1))) (h2 : ¬ p_other (f 62) (f 63) x 5 = 0 → P f (some (tw_I 0))) : tS fl (d + 1) 144 [tw_R 61, tw_I x] f P := by
  refine tw_Sp_of rfl rfl (Nat.le_of_ble_eq_true rfl) (fun X h => ?_)
  have mono : ∀ n i, p_other (f 62) (f 63) x i ≤ p_other (f 62) (f 63) x (i + n) := by
    intro n
    induction n with
    | zero => intro i; exact Nat.le_refl _
    | succ n ih =>
      intro i
      have := ih i
      rw [show i + (n + 1) = i + n + 1 by omega]
      show _ ≤ p_other (f 62) (f 63) x (i + n) + _
      omega
  have loop : ∀ n i : Nat, i + n = 5 → p_other (f 62) (f 63) x i = 0 → X 2 [some (tw_R 61), some (tw_I x), some (tw_I (nI i))] [] tx_L0 f := by
    intro n
    induction n with
    | zero =>
      intro i hi hz
      obtain rfl : i = 5 := by omega
      refine zi_iload_n h rfl rfl ?_
      refine zn_iconst h 5 rfl rfl ?_
      first | refine zn_icmpge h rfl (by omega) (by omega) (fun hc => ?_) (fun hc => ?_) | refine zc_icmpge h rfl (fun hc => ?_) (fun hc => ?_)
      · refine zn_iconst h 1 rfl rfl ?_
        refine zi_zret h rfl (by first | exact Or.inl rfl | exact Or.inr rfl | exact tw_nz_01 _ | assumption) ?_
        exact h1 hz
      · omega
    | succ n ih =>
      intro i hi hz
      refine zi_iload_n h rfl rfl ?_
      refine zn_iconst h 5 rfl rfl ?_
      first | refine zn_icmpge h rfl (by omega) (by omega) (fun hc => ?_) (fun hc => ?_) | refine zc_icmpge h rfl (fun hc => ?_) (fun hc => ?_)
      · omega
      · refine zi_aload_n h rfl rfl ?_
        refine zg_ref h rfl (by first | rfl | assumption) (by decide) rfl rfl ?_
        refine zi_iload_n h rfl rfl ?_
        refine za_z h rfl (by first | rfl | assumption) rfl (by omega) (by decide) ?_
        first | refine zb_ifeq h rfl (fun hc => ?_) (fun hc => ?_) | refine zc_ifeq h rfl (fun hc => ?_) (fun hc => ?_)
        · have ih := ih (i + 1) (by omega) (by simp [p_other, hc, hz])
          first | refine zn_iinc h 1 rfl rfl rfl ?_ | refine zi_iinc h rfl rfl ?_
          refine zi_goto h rfl ?_
          exact ih
        · have c1 := hc
          refine zi_aload_n h rfl rfl ?_
          refine zg_ref h rfl (by first | rfl | assumption) (by decide) rfl rfl ?_
          refine zi_iload_n h rfl rfl ?_
          refine za_i h rfl (by first | rfl | assumption) rfl (by omega) (by decide) ?_
          refine zi_iload_n h rfl rfl ?_
          refine zc_icmpeq h rfl (fun hc => ?_) (fun hc => ?_)
          · have ih := ih (i + 1) (by omega) (by simp [p_other, hc, hz])
            first | refine zn_iinc h 1 rfl rfl rfl ?_ | refine zi_iinc h rfl rfl ?_
            refine zi_goto h rfl ?_
            exact ih
          · refine zn_iconst h 0 rfl rfl ?_
            refine zi_zret h rfl (by first | exact Or.inl rfl | exact Or.inr rfl | exact tw_nz_01 _ | assumption) ?_
            have e1 : p_other (f 62) (f 63) x (i + 1) = 1 := by simp [p_other, hc, c1, hz]
            have e2 := mono n (i + 1)
            rw [show i + 1 + n = 5 by omega] at e2
            exact h2 (by omega)
  refine zn_iconst h 0 rfl rfl ?_
  refine zi_istore_n h rfl (Nat.le_of_ble_eq_true rfl) ?_
  exact loop 5 0 (by omega) rfl
set_option maxRecDepth 20000 in
theorem s_k_quiet {fl : Bool} {d : Nat} {f : tw_S} {P : tw_S → Option tw_A → Prop} {c : Nat} (hc : c < 2) (h1 : k_quiet f c → P f (some (tw_I 1))) (h2 : ¬ k_quiet f c → P f (some (tw_I 0))) : tS fl (d + 3) 143 [tw_R 61, tw_I (nI c)] f P := by
  have hcc := hc
  have hcd := p_cd_le (fun j => f 73 (32 * c + j)) 8
  refine tw_Sp_of rfl rfl (Nat.le_of_ble_eq_true rfl) (fun X h => ?_)
  have no : ¬ k_quiet f c → X 32 [some (tw_R 61), some (tw_I (nI c))] [] tx_L0 f := by
    intro g
    refine zn_iconst h 0 rfl rfl ?_
    refine zi_zret h rfl (by first | exact Or.inl rfl | exact Or.inr rfl | exact tw_nz_01 _ | assumption) ?_
    exact h2 g
  refine zi_aload_n h rfl rfl ?_
  refine zg_ref h rfl (by first | rfl | assumption) (by decide) rfl rfl ?_
  refine zi_iload_n h rfl rfl ?_
  refine za_z h rfl (by first | rfl | assumption) rfl (by omega) (by decide) ?_
  first | refine zb_ifeq h rfl (fun hc => ?_) (fun hc => ?_) | refine zc_ifeq h rfl (fun hc => ?_) (fun hc => ?_)
  · exact no (fun g => g.1 hc)
  · have c1 := hc
    refine zi_aload_n h rfl rfl ?_
    refine zg_ref h rfl (by first | rfl | assumption) (by decide) rfl rfl ?_
    refine zi_iload_n h rfl rfl ?_
    refine za_z h rfl (by first | rfl | assumption) rfl (by omega) (by decide) ?_
    first | refine zb_ifne h rfl (fun hc => ?_) (fun hc => ?_) | refine zc_ifne h rfl (fun hc => ?_) (fun hc => ?_)
    · exact no (fun g => hc g.2.1)
    · have c2 := hc
      refine zi_aload_n h rfl rfl ?_
      refine zg_ref h rfl (by first | rfl | assumption) (by decide) rfl rfl ?_
      refine zi_iload_n h rfl rfl ?_
      refine za_i h rfl (by first | rfl | assumption) rfl (by omega) (by decide) ?_
      refine zc_ifge h rfl (fun hc => ?_) (fun hc => ?_)
      · exact no (fun g => g.2.2.1 hc)
      · have c3 := hc
        refine zi_aload_n h rfl rfl ?_
        refine zi_iload_n h rfl rfl ?_
        refine zk_V h [_] rfl (by first | rfl | assumption) rfl rfl (Nat.le_of_ble_eq_true rfl) (s_k_dirtyAll hcc ?_)
        refine zc_ifne h rfl (fun hc => ?_) (fun hc => ?_)
        · exact no (fun g => hc ((nI_zero (by omega)).mpr g.2.2.2.1))
        · have c4 := (nI_zero (by omega)).mp hc
          refine zi_aload_n h rfl rfl ?_
          refine zi_aload_n h rfl rfl ?_
          refine zg_ref h rfl (by first | rfl | assumption) (by decide) rfl rfl ?_
          refine zi_iload_n h rfl rfl ?_
          refine zk_V h [_, _] rfl (by first | rfl | assumption) rfl rfl (Nat.le_of_ble_eq_true rfl) (s_k_lowest hcc (Or.inl rfl) (fun g => ?_) (fun g => ?_))
          · refine zc_ifge h rfl (fun hc => ?_) (fun hc => ?_)
            · exact no (fun u => u.2.2.2.2.1 g)
            · exact absurd (nI_pos' (by omega)) hc
          · refine zc_ifge h rfl (fun hc => ?_) (fun hc => ?_)
            · exact absurd hc (by decide)
            · refine zi_aload_n h rfl rfl ?_
              refine zg_ref h rfl (by first | rfl | assumption) (by decide) rfl rfl ?_
              refine zi_iload_n h rfl rfl ?_
              refine za_i h rfl (by first | rfl | assumption) rfl (by omega) (by decide) ?_
              refine zc_ifge h rfl (fun hc => ?_) (fun hc => ?_)
              · exact no (fun u => u.2.2.2.2.2 hc)
              · refine zn_iconst h 1 rfl rfl ?_
                refine zi_goto h rfl ?_
                refine zi_zret h rfl (by first | exact Or.inl rfl | exact Or.inr rfl | exact tw_nz_01 _ | assumption) ?_
                exact h1 ⟨c1, c2, c3, c4, g, hc⟩
set_option maxRecDepth 20000 in
theorem s_k_one {fl : Bool} {d : Nat} {f : tw_S} {P : tw_S → Option tw_A → Prop} {x : Int32} (hP : P f (some (tw_I (tw_nz x)))) : tS fl (d + 1) 158 [tw_I (tw_nz x)] f P := by
  refine tw_Sp_of rfl rfl (Nat.le_of_ble_eq_true rfl) (fun X h => ?_)
  refine zi_iload_n h rfl rfl ?_
  first | refine zb_ifeq h rfl (fun hc => ?_) (fun hc => ?_) | refine zc_ifeq h rfl (fun hc => ?_) (fun hc => ?_)
  · refine zn_iconst h 0 rfl rfl ?_
    refine zi_iret h rfl ?_
    rw [tw_nz_f hc] at hP
    exact hP
  · refine zn_iconst h 1 rfl rfl ?_
    refine zi_iret h rfl ?_
    rw [tw_nz_t hc] at hP
    exact hP
set_option maxRecDepth 20000 in
theorem s_k_bits {fl : Bool} {d : Nat} {f : tw_S} {P : tw_S → Option tw_A → Prop} {c q : Nat} (hc : c < 2) (hq : q = 77 ∨ q = 78 ∨ q = 79) (hP : P f (some (tw_I (p_bits (fun s => f q (8 * c + s)) 8)))) : tS fl (d + 1) 159 [tw_R 61, tw_R q, tw_I (nI c)] f P := by
  have lq : tx_L0[q]? = some (101, 16, []) := by rcases hq with rfl | rfl | rfl <;> rfl
  refine tw_Sp_of rfl rfl (Nat.le_of_ble_eq_true rfl) (fun X h => ?_)
  have loop : ∀ n i : Nat, i + n = 8 → X 4 [some (tw_R 61), some (tw_R q), some (tw_I (nI c)), some (tw_I (p_bits (fun s => f q (8 * c + s)) i)), some (tw_I (nI i))] [] tx_L0 f := by
    intro n
    induction n with
    | zero =>
      intro i hi
      obtain rfl : i = 8 := by omega
      refine zi_iload h rfl rfl ?_
      refine zn_bipush h 8 rfl rfl ?_
      first | refine zn_icmpge h rfl (by omega) (by omega) (fun hc => ?_) (fun hc => ?_) | refine zc_icmpge h rfl (fun hc => ?_) (fun hc => ?_)
      · refine zi_iload_n h rfl rfl ?_
        refine zi_iret h rfl ?_
        exact hP
      · omega
    | succ n ih =>
      intro i hi
      have ih := ih (i + 1) (by omega)
      refine zi_iload h rfl rfl ?_
      refine zn_bipush h 8 rfl rfl ?_
      first | refine zn_icmpge h rfl (by omega) (by omega) (fun hc => ?_) (fun hc => ?_) | refine zc_icmpge h rfl (fun hc => ?_) (fun hc => ?_)
      · omega
      · refine zi_aload_n h rfl rfl ?_
        refine zn_bipush h 8 rfl rfl ?_
        refine zi_iload_n h rfl rfl ?_
        first | refine zn_imul h rfl ?_ | refine zi_imul h rfl ?_
        refine zi_iload h rfl rfl ?_
        first | refine zn_iadd h rfl ?_ | refine zi_iadd h rfl ?_
        refine za_z h rfl (by first | rfl | assumption) rfl (by omega) (by decide) ?_
        first | refine zb_ifeq h rfl (fun hc => ?_) (fun hc => ?_) | refine zc_ifeq h rfl (fun hc => ?_) (fun hc => ?_)
        · rw [show p_bits (fun s => f q (8 * c + s)) (i + 1) = p_bits (fun s => f q (8 * c + s)) i by simp [p_bits, hc]] at ih
          first | refine zn_iinc h 1 rfl rfl rfl ?_ | refine zi_iinc h rfl rfl ?_
          refine zi_goto h rfl ?_
          exact ih
        · rw [show p_bits (fun s => f q (8 * c + s)) (i + 1) = p_bits (fun s => f q (8 * c + s)) i ||| 1 <<< (nI i &&& 31) by simp [p_bits, hc]] at ih
          refine zi_iload_n h rfl rfl ?_
          refine zn_iconst h 1 rfl rfl ?_
          refine zi_iload h rfl rfl ?_
          refine zi_ishl h rfl ?_
          refine zi_ior h rfl ?_
          refine zi_istore_n h rfl (Nat.le_of_ble_eq_true rfl) ?_
          first | refine zn_iinc h 1 rfl rfl rfl ?_ | refine zi_iinc h rfl rfl ?_
          refine zi_goto h rfl ?_
          exact ih
  refine zn_iconst h 0 rfl rfl ?_
  refine zi_istore_n h rfl (Nat.le_of_ble_eq_true rfl) ?_
  refine zn_iconst h 0 rfl rfl ?_
  refine zi_istore h rfl (Nat.le_of_ble_eq_true rfl) ?_
  exact loop 8 0 (by omega)
end
section
/-! Pure words for the reference: going down, steps. -/
def k_late (f : tw_S) (c : Nat) : tw_S := if f 80 c < 0 ∨ ¬ (f 61 45).toNatClampNeg < 20 then f else tw_up (tw_up (tw_up (tw_up (tw_up f 104 (f 61 45).toNatClampNeg (f 80 c)) 105 (f 61 45).toNatClampNeg (f 81 c)) 106 (f 61 45).toNatClampNeg (f 82 c)) 107 (f 61 45).toNatClampNeg (f 83 c)) 61 45 (f 61 45 + 1)
def k_ref (f : tw_S) (x : Int32) (m : Nat) : tw_S := fun q j => if q = 99 ∧ j < m ∧ f 101 j = x ∧ f 99 j = 0 then 2 else f q j
def k_z3 (f : tw_S) (a b e lo n : Nat) : tw_S := fun q j => if (q = a ∨ q = b ∨ q = e) ∧ lo ≤ j ∧ j < lo + n then 0 else f q j
def k_flags (f : tw_S) (c : Nat) : tw_S := tw_up (tw_up (tw_up (tw_up (tw_up (tw_up (tw_up (tw_up (tw_up (tw_up f 66 c 0) 68 c 0) 80 c (-1)) 84 c 0) 87 c (-1)) 94 c 0) 95 c 0) 96 c 0) 69 (2 * c) 0) 69 (2 * c + 1) 0
def k_down (f : tw_S) (c : Nat) : tw_S := k_z3 (k_z3 (k_flags (k_ref (k_late f c) (nI c) (f 61 39).toNatClampNeg) c) 70 73 74 (32 * c) 32) 77 78 79 (8 * c) 8
theorem k_late_39 {f : tw_S} {c : Nat} : k_late f c 61 39 = f 61 39 := by
  unfold k_late
  split
  · rfl
  · rw [tw_off (by omega), tw_off (by omega), tw_off (by omega), tw_off (by omega), tw_off (by omega)]
/-- the reference's memory when the first i blocks of a mirror have been taken over -/
def k_tk (f : tw_S) (c g i : Nat) : tw_S := fun q x => if q = 96 ∧ x = c then nI (g + p_cnt (fun j => f 74 (32 * c + j)) i) else if (32 * c ≤ x ∧ x < 32 * c + i ∧ ¬ f 74 x = 0) ∧ (q = 70 ∨ q = 73) then 1 else if (32 * c ≤ x ∧ x < 32 * c + i ∧ ¬ f 74 x = 0) ∧ q = 71 then f 75 x else if (32 * c ≤ x ∧ x < 32 * c + i ∧ ¬ f 74 x = 0) ∧ q = 72 then nI (g + p_cnt (fun j => f 74 (32 * c + j)) (x - 32 * c + 1)) else if (32 * c ≤ x ∧ x < 32 * c + i ∧ ¬ f 74 x = 0) ∧ q = 74 then 0 else f q x
def k_rk (f : tw_S) (c i : Nat) : tw_S := fun q x => if (8 * c ≤ x ∧ x < 8 * c + i ∧ ¬ f 78 x = 0) ∧ (q = 77 ∨ q = 79) then 1 else if (8 * c ≤ x ∧ x < 8 * c + i ∧ ¬ f 78 x = 0) ∧ q = 78 then 0 else f q x
def k_can (f : tw_S) (c s k : Nat) : Int32 := if f 89 (4 * c + k) = 0 ∨ f 62 (p_dd s k) = 0 then 0 else 1
def k_fin (f : tw_S) (x y w : Int32) (m : Nat) : tw_S := fun q j => if q = 99 ∧ j < m ∧ f 101 j = x ∧ f 99 j = 0 ∧ f 102 j = y ∧ ¬ w < f 103 j then 1 else f q j
def k_rel (f : tw_S) (c b : Nat) (w : Int32) : tw_S := if f 68 c = 0 then k_fin (if ¬ f 70 (32 * c + b) = 0 ∧ ¬ f 73 (32 * c + b) = 0 ∧ f 72 (32 * c + b) = w then tw_up f 73 (32 * c + b) 0 else f) (nI c) (nI b) w (f 61 39).toNatClampNeg else if ¬ f 70 (32 * c + b) = 0 ∧ ¬ f 73 (32 * c + b) = 0 ∧ f 72 (32 * c + b) = w then k_send (tw_up f 73 (32 * c + b) 0) c 2 (nI b) w 0 0 else f
theorem k_send_off {f : tw_S} {c q j : Nat} {s a b v t : Int32} (h : q ≠ 97 ∧ q ≠ 98) : k_send f c s a b v t q j = f q j := by
  unfold k_send
  split
  · rw [tw_off (by omega), tw_off (by omega), tw_off (by omega), tw_off (by omega), tw_off (by omega), tw_off (by omega)]
  · rfl
theorem k_rel_off {f : tw_S} {c b q j : Nat} {w : Int32} (h : q ≠ 73 ∧ q ≠ 97 ∧ q ≠ 98 ∧ q ≠ 99) : k_rel f c b w q j = f q j := by
  unfold k_rel
  split
  · unfold k_fin
    rw [if_neg (by omega)]
    split
    · exact tw_off (by omega)
    · rfl
  · split
    · rw [k_send_off (by omega)]
      exact tw_off (by omega)
    · rfl
/-- messages to the other controller stay in range -/
def k_box (f : tw_S) (c : Nat) : Prop := ∃ m : Nat, f 98 (1 - c) = nI m ∧ m ≤ 40
theorem k_box_send {f : tw_S} {c : Nat} {s a b v t : Int32} (h : k_box f c) : k_box (k_send f c s a b v t) c := by
  obtain ⟨m, h1, h2⟩ := h
  unfold k_send
  split
  · rename_i hc
    have hm : m ≠ 40 := fun g => hc.2 (by rw [h1, g]; rfl)
    exact ⟨m + 1, by rw [h1, nI_1]; simp [tw_up], by omega⟩
  · exact ⟨m, h1, h2⟩
theorem k_box_rel {f : tw_S} {c b : Nat} {w : Int32} (h : k_box f c) : k_box (k_rel f c b w) c := by
  have h2 : k_box (tw_up f 73 (32 * c + b) 0) c := by
    obtain ⟨m, g1, g2⟩ := h
    exact ⟨m, by rw [tw_off (by omega)]; exact g1, g2⟩
  unfold k_rel
  split
  · have h3 : k_box (if ¬ f 70 (32 * c + b) = 0 ∧ ¬ f 73 (32 * c + b) = 0 ∧ f 72 (32 * c + b) = w then tw_up f 73 (32 * c + b) 0 else f) c := by
      split
      · exact h2
      · exact h
    obtain ⟨m, g1, g2⟩ := h3
    refine ⟨m, ?_, g2⟩
    unfold k_fin
    rw [if_neg (by omega)]
    exact g1
  · split
    · exact k_box_send h2
    · exact h
def k_fd (f : tw_S) (c s : Nat) : Nat → tw_S
  | 0 => f
  | i + 1 => if f 89 (4 * c + i) = 0 then k_fd f c s i else k_rel (k_fd f c s i) c (4 * s + i) (f 91 (4 * c + i))
theorem k_fd_off {f : tw_S} {c s q j : Nat} (h : q ≠ 73 ∧ q ≠ 97 ∧ q ≠ 98 ∧ q ≠ 99) : ∀ i, k_fd f c s i q j = f q j
  | 0 => rfl
  | i + 1 => by
    unfold k_fd
    split
    · exact k_fd_off h i
    · rw [k_rel_off h]
      exact k_fd_off h i
theorem k_fd_box {f : tw_S} {c s : Nat} (h : k_box f c) : ∀ i, k_box (k_fd f c s i) c
  | 0 => h
  | i + 1 => by
    unfold k_fd
    split
    · exact k_fd_box h i
    · exact k_box_rel (k_fd_box h i)
/-- a block is taken to be destaged, in the reference -/
noncomputable def k_td (f : tw_S) (c b i : Nat) : tw_S := if f 73 (32 * c + b) = 0 then tw_up (tw_up (tw_up f 89 (4 * c + i) 0) 93 c (p_ite (¬ f 93 c = 0 ∧ ¬ p_lost (f 65) b) 1 0)) 92 c (f 92 c ^^^ p_what (f 65) (f 64) b) else tw_up (tw_up (tw_up (tw_up f 89 (4 * c + i) 1) 90 (4 * c + i) (f 71 (32 * c + b))) 91 (4 * c + i) (f 72 (32 * c + b))) 92 c (f 92 c ^^^ f 71 (32 * c + b))
theorem k_td_off {f : tw_S} {c b i q j : Nat} (h : ¬ (89 ≤ q ∧ q ≤ 93)) : k_td f c b i q j = f q j := by
  unfold k_td
  split
  · rw [tw_off (by omega), tw_off (by omega), tw_off (by omega)]
  · rw [tw_off (by omega), tw_off (by omega), tw_off (by omega), tw_off (by omega)]
def k_bd0 (f : tw_S) (c s : Nat) : tw_S := tw_up (tw_up (tw_up f 87 c (nI s)) 88 c 0) 77 (8 * c + s) 1
noncomputable def k_bd (f : tw_S) (c s : Nat) : Nat → tw_S
  | 0 => tw_up (tw_up (if f 68 c = 0 then k_bd0 f c s else k_send (k_bd0 f c s) c 3 (nI s) 0 0 0) 92 c 0) 93 c 1
  | i + 1 => k_td (k_bd f c s i) c (4 * s + i) i
end
section
/-! The reference: going down, landing, taking over, repairs. -/
set_option maxRecDepth 20000 in
theorem s_k_down {fl : Bool} {d : Nat} {f : tw_S} {P : tw_S → Option tw_A → Prop} {c lm tm : Nat} (hc : c < 2) (hl : f 61 45 = nI lm) (hl2 : lm ≤ 20) (ht : f 61 39 = nI tm) (ht2 : tm ≤ 200) (hP : P (k_down f c) none) : tS fl (d + 1) 116 [tw_R 61, tw_I (nI c)] f P := by
  have hcc := hc
  have el : (f 61 45).toNatClampNeg = lm := by rw [hl]; exact nI_clamp (by omega)
  have et : (f 61 39).toNatClampNeg = tm := by rw [ht]; exact nI_clamp (by omega)
  refine tw_Sp_of rfl rfl (Nat.le_of_ble_eq_true rfl) (fun X h => ?_)
  have rest : X 51 [some (tw_R 61), some (tw_I (nI c)), none] [] tx_L0 (k_late f c) := by
    have e39 : k_late f c 61 39 = nI tm := by rw [k_late_39]; exact ht
    rw [k_down, et] at hP
    generalize k_late f c = g at e39 hP
    have loop3 : ∀ n i : Nat, i + n = 8 → X 167 [some (tw_R 61), some (tw_I (nI c)), some (tw_I (nI i))] [] tx_L0 (k_z3 (k_z3 (k_flags (k_ref g (nI c) tm) c) 70 73 74 (32 * c) 32) 77 78 79 (8 * c) i) := by
      intro n
      induction n with
      | zero =>
        intro i hi
        obtain rfl : i = 8 := by omega
        refine zi_iload_n h rfl rfl ?_
        refine zn_bipush h 8 rfl rfl ?_
        first | refine zn_icmpge h rfl (by omega) (by omega) (fun hc => ?_) (fun hc => ?_) | refine zc_icmpge h rfl (fun hc => ?_) (fun hc => ?_)
        · refine zi_vret h rfl ?_
          exact hP
        · omega
      | succ n ih =>
        intro i hi
        have ih := ih (i + 1) (by omega)
        refine zi_iload_n h rfl rfl ?_
        refine zn_bipush h 8 rfl rfl ?_
        first | refine zn_icmpge h rfl (by omega) (by omega) (fun hc => ?_) (fun hc => ?_) | refine zc_icmpge h rfl (fun hc => ?_) (fun hc => ?_)
        · omega
        · refine zi_aload_n h rfl rfl ?_
          refine zg_ref h rfl (by first | rfl | assumption) (by decide) rfl rfl ?_
          refine zn_bipush h 8 rfl rfl ?_
          refine zi_iload_n h rfl rfl ?_
          first | refine zn_imul h rfl ?_ | refine zi_imul h rfl ?_
          refine zi_iload_n h rfl rfl ?_
          first | refine zn_iadd h rfl ?_ | refine zi_iadd h rfl ?_
          refine zn_iconst h 0 rfl rfl ?_
          refine zs_z h rfl (by first | rfl | assumption) rfl (by omega) (by decide) (by first | exact Or.inl rfl | exact Or.inr rfl | exact tw_nz_01 _ | assumption) ?_
          refine zi_aload_n h rfl rfl ?_
          show X 180 _ _ _ _
          refine zg_ref h rfl (by first | rfl | assumption) (by decide) rfl rfl ?_
          refine zn_bipush h 8 rfl rfl ?_
          refine zi_iload_n h rfl rfl ?_
          first | refine zn_imul h rfl ?_ | refine zi_imul h rfl ?_
          refine zi_iload_n h rfl rfl ?_
          first | refine zn_iadd h rfl ?_ | refine zi_iadd h rfl ?_
          refine zn_iconst h 0 rfl rfl ?_
          refine zs_z h rfl (by first | rfl | assumption) rfl (by omega) (by decide) (by first | exact Or.inl rfl | exact Or.inr rfl | exact tw_nz_01 _ | assumption) ?_
          refine zi_aload_n h rfl rfl ?_
          refine zg_ref h rfl (by first | rfl | assumption) (by decide) rfl rfl ?_
          show X 190 _ _ _ _
          refine zn_bipush h 8 rfl rfl ?_
          refine zi_iload_n h rfl rfl ?_
          first | refine zn_imul h rfl ?_ | refine zi_imul h rfl ?_
          refine zi_iload_n h rfl rfl ?_
          first | refine zn_iadd h rfl ?_ | refine zi_iadd h rfl ?_
          refine zn_iconst h 0 rfl rfl ?_
          refine zs_z h rfl (by first | rfl | assumption) rfl (by omega) (by decide) (by first | exact Or.inl rfl | exact Or.inr rfl | exact tw_nz_01 _ | assumption) ?_
          first | refine zn_iinc h 1 rfl rfl rfl ?_ | refine zi_iinc h rfl rfl ?_
          refine zi_goto h rfl ?_
          refine tw_mem (fun q j => ?_) ih
          generalize k_z3 (k_flags (k_ref g (nI c) tm) c) 70 73 74 (32 * c) 32 = w
          simp only [tw_up, k_z3, tw_n0]
          (repeat' split) <;> first | rfl | omega
    have loop2 : ∀ n i : Nat, i + n = 32 → X 133 [some (tw_R 61), some (tw_I (nI c)), some (tw_I (nI i))] [] tx_L0 (k_z3 (k_flags (k_ref g (nI c) tm) c) 70 73 74 (32 * c) i) := by
      intro n
      induction n with
      | zero =>
        intro i hi
        obtain rfl : i = 32 := by omega
        refine zi_iload_n h rfl rfl ?_
        refine zn_bipush h 32 rfl rfl ?_
        first | refine zn_icmpge h rfl (by omega) (by omega) (fun hc => ?_) (fun hc => ?_) | refine zc_icmpge h rfl (fun hc => ?_) (fun hc => ?_)
        · refine zn_iconst h 0 rfl rfl ?_
          refine zi_istore_n h rfl (Nat.le_of_ble_eq_true rfl) ?_
          refine tw_mem (fun q j => ?_) (loop3 8 0 (by omega))
          generalize k_z3 (k_flags (k_ref g (nI c) tm) c) 70 73 74 (32 * c) 32 = w
          simp only [k_z3]
          rw [if_neg (by omega)]
        · omega
      | succ n ih =>
        intro i hi
        have ih := ih (i + 1) (by omega)
        refine zi_iload_n h rfl rfl ?_
        refine zn_bipush h 32 rfl rfl ?_
        first | refine zn_icmpge h rfl (by omega) (by omega) (fun hc => ?_) (fun hc => ?_) | refine zc_icmpge h rfl (fun hc => ?_) (fun hc => ?_)
        · omega
        · refine zi_aload_n h rfl rfl ?_
          refine zg_ref h rfl (by first | rfl | assumption) (by decide) rfl rfl ?_
          refine zn_bipush h 32 rfl rfl ?_
          refine zi_iload_n h rfl rfl ?_
          first | refine zn_imul h rfl ?_ | refine zi_imul h rfl ?_
          refine zi_iload_n h rfl rfl ?_
          first | refine zn_iadd h rfl ?_ | refine zi_iadd h rfl ?_
          refine zn_iconst h 0 rfl rfl ?_
          refine zs_z h rfl (by first | rfl | assumption) rfl (by omega) (by decide) (by first | exact Or.inl rfl | exact Or.inr rfl | exact tw_nz_01 _ | assumption) ?_
          refine zi_aload_n h rfl rfl ?_
          show X 146 _ _ _ _
          refine zg_ref h rfl (by first | rfl | assumption) (by decide) rfl rfl ?_
          refine zn_bipush h 32 rfl rfl ?_
          refine zi_iload_n h rfl rfl ?_
          first | refine zn_imul h rfl ?_ | refine zi_imul h rfl ?_
          refine zi_iload_n h rfl rfl ?_
          first | refine zn_iadd h rfl ?_ | refine zi_iadd h rfl ?_
          refine zn_iconst h 0 rfl rfl ?_
          refine zs_z h rfl (by first | rfl | assumption) rfl (by omega) (by decide) (by first | exact Or.inl rfl | exact Or.inr rfl | exact tw_nz_01 _ | assumption) ?_
          refine zi_aload_n h rfl rfl ?_
          refine zg_ref h rfl (by first | rfl | assumption) (by decide) rfl rfl ?_
          show X 156 _ _ _ _
          refine zn_bipush h 32 rfl rfl ?_
          refine zi_iload_n h rfl rfl ?_
          first | refine zn_imul h rfl ?_ | refine zi_imul h rfl ?_
          refine zi_iload_n h rfl rfl ?_
          first | refine zn_iadd h rfl ?_ | refine zi_iadd h rfl ?_
          refine zn_iconst h 0 rfl rfl ?_
          refine zs_z h rfl (by first | rfl | assumption) rfl (by omega) (by decide) (by first | exact Or.inl rfl | exact Or.inr rfl | exact tw_nz_01 _ | assumption) ?_
          first | refine zn_iinc h 1 rfl rfl rfl ?_ | refine zi_iinc h rfl rfl ?_
          refine zi_goto h rfl ?_
          refine tw_mem (fun q j => ?_) ih
          generalize k_flags (k_ref g (nI c) tm) c = w
          simp only [tw_up, k_z3, tw_n0]
          (repeat' split) <;> first | rfl | omega
    have loop1 : ∀ n i : Nat, i + n = tm → X 53 [some (tw_R 61), some (tw_I (nI c)), some (tw_I (nI i))] [] tx_L0 (k_ref g (nI c) i) := by
      intro n
      induction n with
      | zero =>
        intro i hi
        obtain rfl : i = tm := by omega
        refine zi_iload_n h rfl rfl ?_
        refine zi_aload_n h rfl rfl ?_
        refine zg_nat h i rfl (by first | rfl | assumption) (by decide) rfl e39 ?_
        first | refine zn_icmpge h rfl (by omega) (by omega) (fun hc => ?_) (fun hc => ?_) | refine zc_icmpge h rfl (fun hc => ?_) (fun hc => ?_)
        · refine zi_aload_n h rfl rfl ?_
          refine zg_ref h rfl (by first | rfl | assumption) (by decide) rfl rfl ?_
          refine zi_iload_n h rfl rfl ?_
          refine zn_iconst h 0 rfl rfl ?_
          refine zs_z h rfl (by first | rfl | assumption) rfl (by omega) (by decide) (by first | exact Or.inl rfl | exact Or.inr rfl | exact tw_nz_01 _ | assumption) ?_
          refine zi_aload_n h rfl rfl ?_
          refine zg_ref h rfl (by first | rfl | assumption) (by decide) rfl rfl ?_
          refine zi_iload_n h rfl rfl ?_
          refine zn_iconst h 0 rfl rfl ?_
          refine zs_z h rfl (by first | rfl | assumption) rfl (by omega) (by decide) (by first | exact Or.inl rfl | exact Or.inr rfl | exact tw_nz_01 _ | assumption) ?_
          show X 85 _ _ _ _
          refine zi_aload_n h rfl rfl ?_
          refine zg_ref h rfl (by first | rfl | assumption) (by decide) rfl rfl ?_
          refine zi_iload_n h rfl rfl ?_
          refine zi_iconst h rfl ?_
          refine zs_i h rfl (by first | rfl | assumption) rfl (by omega) (by decide) ?_
          refine zi_aload_n h rfl rfl ?_
          refine zg_ref h rfl (by first | rfl | assumption) (by decide) rfl rfl ?_
          refine zi_iload_n h rfl rfl ?_
          refine zn_iconst h 0 rfl rfl ?_
          refine zs_z h rfl (by first | rfl | assumption) rfl (by omega) (by decide) (by first | exact Or.inl rfl | exact Or.inr rfl | exact tw_nz_01 _ | assumption) ?_
          show X 95 _ _ _ _
          refine zi_aload_n h rfl rfl ?_
          refine zg_ref h rfl (by first | rfl | assumption) (by decide) rfl rfl ?_
          refine zi_iload_n h rfl rfl ?_
          refine zi_iconst h rfl ?_
          refine zs_i h rfl (by first | rfl | assumption) rfl (by omega) (by decide) ?_
          refine zi_aload_n h rfl rfl ?_
          refine zg_ref h rfl (by first | rfl | assumption) (by decide) rfl rfl ?_
          refine zi_iload_n h rfl rfl ?_
          refine zn_iconst h 0 rfl rfl ?_
          refine zs_z h rfl (by first | rfl | assumption) rfl (by omega) (by decide) (by first | exact Or.inl rfl | exact Or.inr rfl | exact tw_nz_01 _ | assumption) ?_
          show X 105 _ _ _ _
          refine zi_aload_n h rfl rfl ?_
          refine zg_ref h rfl (by first | rfl | assumption) (by decide) rfl rfl ?_
          refine zi_iload_n h rfl rfl ?_
          refine zn_iconst h 0 rfl rfl ?_
          refine zs_i h rfl (by first | rfl | assumption) rfl (by omega) (by decide) ?_
          refine zi_aload_n h rfl rfl ?_
          refine zg_ref h rfl (by first | rfl | assumption) (by decide) rfl rfl ?_
          refine zi_iload_n h rfl rfl ?_
          refine zn_iconst h 0 rfl rfl ?_
          refine zs_i h rfl (by first | rfl | assumption) rfl (by omega) (by decide) ?_
          show X 115 _ _ _ _
          refine zi_aload_n h rfl rfl ?_
          refine zg_ref h rfl (by first | rfl | assumption) (by decide) rfl rfl ?_
          refine zn_iconst h 2 rfl rfl ?_
          refine zi_iload_n h rfl rfl ?_
          first | refine zn_imul h rfl ?_ | refine zi_imul h rfl ?_
          refine zn_iconst h 0 rfl rfl ?_
          refine zs_z h rfl (by first | rfl | assumption) rfl (by omega) (by decide) (by first | exact Or.inl rfl | exact Or.inr rfl | exact tw_nz_01 _ | assumption) ?_
          refine zi_aload_n h rfl rfl ?_
          refine zg_ref h rfl (by first | rfl | assumption) (by decide) rfl rfl ?_
          refine zn_iconst h 2 rfl rfl ?_
          show X 125 _ _ _ _
          refine zi_iload_n h rfl rfl ?_
          first | refine zn_imul h rfl ?_ | refine zi_imul h rfl ?_
          refine zn_iconst h 1 rfl rfl ?_
          first | refine zn_iadd h rfl ?_ | refine zi_iadd h rfl ?_
          refine zn_iconst h 0 rfl rfl ?_
          refine zs_z h rfl (by first | rfl | assumption) rfl (by omega) (by decide) (by first | exact Or.inl rfl | exact Or.inr rfl | exact tw_nz_01 _ | assumption) ?_
          refine zn_iconst h 0 rfl rfl ?_
          refine zi_istore_n h rfl (Nat.le_of_ble_eq_true rfl) ?_
          refine tw_mem (fun q j => ?_) (loop2 32 0 (by omega))
          generalize k_ref g (nI c) i = w
          rw [k_z3, if_neg (by omega)]
          rfl
        · omega
      | succ n ih =>
        intro i hi
        have ih := ih (i + 1) (by omega)
        have skip : ¬ (g 101 i = nI c ∧ g 99 i = 0) → X 53 [some (tw_R 61), some (tw_I (nI c)), some (tw_I (nI (i + 1)))] [] tx_L0 (k_ref g (nI c) i) := by
          intro hn
          refine tw_mem (fun q j => ?_) ih
          unfold k_ref
          by_cases hj : j = i
          · subst hj
            rw [if_neg (by omega), if_neg (fun u => hn u.2.2)]
          · have e1 : (j < i + 1) = (j < i) := by apply propext; omega
            simp only [e1]
        have r101 : k_ref g (nI c) i 101 i = g 101 i := if_neg (by omega)
        have r99 : k_ref g (nI c) i 99 i = g 99 i := if_neg (by omega)
        refine zi_iload_n h rfl rfl ?_
        refine zi_aload_n h rfl rfl ?_
        refine zg_nat h tm rfl (by first | rfl | assumption) (by decide) rfl e39 ?_
        first | refine zn_icmpge h rfl (by omega) (by omega) (fun hc => ?_) (fun hc => ?_) | refine zc_icmpge h rfl (fun hc => ?_) (fun hc => ?_)
        · omega
        · refine zi_aload_n h rfl rfl ?_
          refine zg_ref h rfl (by first | rfl | assumption) (by decide) rfl rfl ?_
          refine zi_iload_n h rfl rfl ?_
          refine za_i h rfl (by first | rfl | assumption) rfl (by omega) (by decide) ?_
          refine zi_iload_n h rfl rfl ?_
          rw [r101]
          refine zc_icmpne h rfl (fun hc => ?_) (fun hc => ?_)
          · first | refine zn_iinc h 1 rfl rfl rfl ?_ | refine zi_iinc h rfl rfl ?_
            refine zi_goto h rfl ?_
            exact skip (fun u => hc u.1)
          · have c1 := hc
            refine zi_aload_n h rfl rfl ?_
            refine zg_ref h rfl (by first | rfl | assumption) (by decide) rfl rfl ?_
            refine zi_iload_n h rfl rfl ?_
            refine za_i h rfl (by first | rfl | assumption) rfl (by omega) (by decide) ?_
            rw [r99]
            refine zc_ifne h rfl (fun hc => ?_) (fun hc => ?_)
            · first | refine zn_iinc h 1 rfl rfl rfl ?_ | refine zi_iinc h rfl rfl ?_
              refine zi_goto h rfl ?_
              exact skip (fun u => hc u.2)
            · refine zi_aload_n h rfl rfl ?_
              refine zg_ref h rfl (by first | rfl | assumption) (by decide) rfl rfl ?_
              refine zi_iload_n h rfl rfl ?_
              refine zn_iconst h 2 rfl rfl ?_
              refine zs_i h rfl (by first | rfl | assumption) rfl (by omega) (by decide) ?_
              first | refine zn_iinc h 1 rfl rfl rfl ?_ | refine zi_iinc h rfl rfl ?_
              refine zi_goto h rfl ?_
              refine tw_mem (fun q j => ?_) ih
              unfold k_ref tw_up
              by_cases hj : j = i
              · subst hj
                by_cases hq : q = 99
                · subst hq
                  simp [c1, hc, tw_n2]
                · simp [hq]
              · have e1 : (j < i + 1) = (j < i) := by apply propext; omega
                simp [e1, hj]
    refine zn_iconst h 0 rfl rfl ?_
    refine zi_istore_n h rfl (Nat.le_of_ble_eq_true rfl) ?_
    refine tw_mem (fun q j => ?_) (loop1 tm 0 (by omega))
    rw [k_ref, if_neg (by omega)]
  refine zi_aload_n h rfl rfl ?_
  refine zg_ref h rfl (by first | rfl | assumption) (by decide) rfl rfl ?_
  refine zi_iload_n h rfl rfl ?_
  refine za_i h rfl (by first | rfl | assumption) rfl (by omega) (by decide) ?_
  refine zc_iflt h rfl (fun hc => ?_) (fun hc => ?_)
  · rw [k_late, if_pos (Or.inl hc)] at rest
    exact rest
  · have c80 := hc
    refine zi_aload_n h rfl rfl ?_
    refine zg_nat h lm rfl (by first | rfl | assumption) (by decide) rfl hl ?_
    refine zn_bipush h 20 rfl rfl ?_
    first | refine zn_icmpge h rfl (by omega) (by omega) (fun hc => ?_) (fun hc => ?_) | refine zc_icmpge h rfl (fun hc => ?_) (fun hc => ?_)
    · rw [k_late, if_pos (Or.inr (by omega))] at rest
      exact rest
    · rw [k_late, if_neg (fun u => u.elim c80 (fun v => v (by omega))), el, hl, nI_1] at rest
      refine zi_aload_n h rfl rfl ?_
      refine zg_ref h rfl (by first | rfl | assumption) (by decide) rfl rfl ?_
      refine zi_aload_n h rfl rfl ?_
      refine zg_nat h lm rfl (by first | rfl | assumption) (by decide) rfl hl ?_
      refine zi_aload_n h rfl rfl ?_
      refine zg_ref h rfl (by first | rfl | assumption) (by decide) rfl rfl ?_
      refine zi_iload_n h rfl rfl ?_
      refine za_i h rfl (by first | rfl | assumption) rfl (by omega) (by decide) ?_
      refine zs_i h rfl (by first | rfl | assumption) rfl (by omega) (by decide) ?_
      refine zi_aload_n h rfl rfl ?_
      refine zg_ref h rfl (by first | rfl | assumption) (by decide) rfl rfl ?_
      refine zi_aload_n h rfl rfl ?_
      refine zg_nat h lm rfl (by first | rfl | assumption) (by decide) rfl (by simp [tw_up, hl]) ?_
      refine zi_aload_n h rfl rfl ?_
      refine zg_ref h rfl (by first | rfl | assumption) (by decide) rfl rfl ?_
      refine zi_iload_n h rfl rfl ?_
      refine za_i h rfl (by first | rfl | assumption) rfl (by omega) (by decide) ?_
      refine zs_i h rfl (by first | rfl | assumption) rfl (by omega) (by decide) ?_
      refine zi_aload_n h rfl rfl ?_
      refine zg_ref h rfl (by first | rfl | assumption) (by decide) rfl rfl ?_
      refine zi_aload_n h rfl rfl ?_
      refine zg_nat h lm rfl (by first | rfl | assumption) (by decide) rfl (by simp [tw_up, hl]) ?_
      refine zi_aload_n h rfl rfl ?_
      refine zg_ref h rfl (by first | rfl | assumption) (by decide) rfl rfl ?_
      refine zi_iload_n h rfl rfl ?_
      refine za_i h rfl (by first | rfl | assumption) rfl (by omega) (by decide) ?_
      refine zs_i h rfl (by first | rfl | assumption) rfl (by omega) (by decide) ?_
      refine zi_aload_n h rfl rfl ?_
      refine zg_ref h rfl (by first | rfl | assumption) (by decide) rfl rfl ?_
      refine zi_aload_n h rfl rfl ?_
      refine zg_nat h lm rfl (by first | rfl | assumption) (by decide) rfl (by simp [tw_up, hl]) ?_
      refine zi_aload_n h rfl rfl ?_
      refine zg_ref h rfl (by first | rfl | assumption) (by decide) rfl rfl ?_
      refine zi_iload_n h rfl rfl ?_
      refine za_i h rfl (by first | rfl | assumption) rfl (by omega) (by decide) ?_
      refine zs_i h rfl (by first | rfl | assumption) rfl (by omega) (by decide) ?_
      refine zi_aload_n h rfl rfl ?_
      refine zi_dup h rfl rfl ?_
      refine zg_nat h lm rfl (by first | rfl | assumption) (by decide) rfl (by simp [tw_up, hl]) ?_
      refine zn_iconst h 1 rfl rfl ?_
      first | refine zn_iadd h rfl ?_ | refine zi_iadd h rfl ?_
      refine zp_int h rfl (by first | rfl | assumption) (by decide) rfl ?_
      refine tw_mem (fun q j => ?_) rest
      have e1 : tw_up f 104 lm (f 80 c) 81 c = f 81 c := tw_off (by omega)
      have e2 : tw_up (tw_up f 104 lm (f 80 c)) 105 lm (f 81 c) 82 c = f 82 c := by rw [tw_off (by omega), tw_off (by omega)]
      have e3 : tw_up (tw_up (tw_up f 104 lm (f 80 c)) 105 lm (f 81 c)) 106 lm (f 82 c) 83 c = f 83 c := by rw [tw_off (by omega), tw_off (by omega), tw_off (by omega)]
      rw [e1, e2, e3]
set_option maxRecDepth 20000 in
theorem s_k_lands_step {fl : Bool} {d : Nat} {f : tw_S} {P : tw_S → Option tw_A → Prop} {c lm tm i s : Nat} (hc : c < 2) (hl : f 61 45 = nI lm) (hl2 : lm ≤ 20) (ht : f 61 39 = nI tm) (ht2 : tm ≤ 200) (hi : f 80 c = nI i) (hi2 : i < 5) (hs : f 81 c = nI s) (hs2 : s < 8) (h1 : f 62 i = 0 → P (tw_up f 80 c (-1)) none) (h2 : ¬ f 62 i = 0 → f 63 i = f 83 c → P (k_put (tw_up f 80 c (-1)) i s (f 82 c)) none) (h3 : ¬ f 62 i = 0 → ¬ f 63 i = f 83 c → P (k_down (tw_up f 80 c (-1)) c) none) : tS fl (d + 2) 128 [tw_R 61, tw_I (nI c)] f P := by
  have hcc := hc
  have e2 : tw_up f 80 c (-1) 62 i = f 62 i := tw_off (by omega)
  have e3 : tw_up f 80 c (-1) 63 i = f 63 i := tw_off (by omega)
  have e4 : tw_up f 80 c (-1) 83 c = f 83 c := tw_off (by omega)
  have e5 : tw_up f 80 c (-1) 82 c = f 82 c := tw_off (by omega)
  refine tw_Sp_of rfl rfl (Nat.le_of_ble_eq_true rfl) (fun X h => ?_)
  refine zi_aload_n h rfl rfl ?_
  refine zg_ref h rfl (by first | rfl | assumption) (by decide) rfl rfl ?_
  refine zi_iload_n h rfl rfl ?_
  refine za_n h i rfl (by first | rfl | assumption) rfl (by omega) (by decide) hi ?_
  refine zi_istore_n h rfl (Nat.le_of_ble_eq_true rfl) ?_
  refine zi_aload_n h rfl rfl ?_
  refine zg_ref h rfl (by first | rfl | assumption) (by decide) rfl rfl ?_
  refine zi_iload_n h rfl rfl ?_
  refine zi_iconst h rfl ?_
  refine zs_i h rfl (by first | rfl | assumption) rfl (by omega) (by decide) ?_
  refine zi_aload_n h rfl rfl ?_
  refine zg_ref h rfl (by first | rfl | assumption) (by decide) rfl rfl ?_
  refine zi_iload_n h rfl rfl ?_
  refine za_z h rfl (by first | rfl | assumption) rfl (by omega) (by decide) ?_
  show X 14 _ _ _ _
  first | refine zb_ifne h rfl (fun hc => ?_) (fun hc => ?_) | refine zc_ifne h rfl (fun hc => ?_) (fun hc => ?_)
  · have c1 : ¬ f 62 i = 0 := fun g => hc (e2.trans g)
    refine zi_aload_n h rfl rfl ?_
    refine zg_ref h rfl (by first | rfl | assumption) (by decide) rfl rfl ?_
    refine zi_iload_n h rfl rfl ?_
    refine za_i h rfl (by first | rfl | assumption) rfl (by omega) (by decide) ?_
    refine zi_aload_n h rfl rfl ?_
    refine zg_ref h rfl (by first | rfl | assumption) (by decide) rfl rfl ?_
    refine zi_iload_n h rfl rfl ?_
    refine za_i h rfl (by first | rfl | assumption) rfl (by omega) (by decide) ?_
    rw [e3, e4]
    refine zc_icmpne h rfl (fun hc => ?_) (fun hc => ?_)
    · refine zi_aload_n h rfl rfl ?_
      refine zi_iload_n h rfl rfl ?_
      refine zk_V h [_] rfl (by first | rfl | assumption) rfl rfl (Nat.le_of_ble_eq_true rfl) (s_k_down hcc (by rw [tw_off (by omega)]; exact hl) hl2 (by rw [tw_off (by omega)]; exact ht) ht2 ?_)
      refine zi_vret h rfl ?_
      exact h3 c1 hc
    · refine zi_aload_n h rfl rfl ?_
      refine zi_iload_n h rfl rfl ?_
      refine zi_aload_n h rfl rfl ?_
      refine zg_ref h rfl (by first | rfl | assumption) (by decide) rfl rfl ?_
      refine zi_iload_n h rfl rfl ?_
      refine za_n h s rfl (by first | rfl | assumption) rfl (by omega) (by decide) (by rw [tw_off (by omega)]; exact hs) ?_
      refine zi_aload_n h rfl rfl ?_
      refine zg_ref h rfl (by first | rfl | assumption) (by decide) rfl rfl ?_
      refine zi_iload_n h rfl rfl ?_
      refine za_i h rfl (by first | rfl | assumption) rfl (by omega) (by decide) ?_
      refine zk_V h [_, _, _] rfl (by first | rfl | assumption) rfl rfl (Nat.le_of_ble_eq_true rfl) (s_k_lands hi2 hs2 ?_)
      refine zi_goto h rfl ?_
      refine zi_vret h rfl ?_
      have h2 := h2 c1 hc
      rw [← e5] at h2
      exact h2
  · refine zi_vret h rfl ?_
    exact h1 (e2.symm.trans hc)
set_option maxRecDepth 20000 in
theorem s_k_takes {fl : Bool} {d : Nat} {f : tw_S} {P : tw_S → Option tw_A → Prop} {c lm tm i n g : Nat} (hc : c < 2) (hl : f 61 45 = nI lm) (hl2 : lm ≤ 20) (ht : f 61 39 = nI tm) (ht2 : tm ≤ 200) (hi : f 85 c = nI i) (hn : i + n = 5) (hg : f 96 c = nI g) (h1 : p_ft (f 62) n i < 5 → P (tw_up (tw_up (tw_up f 63 (p_ft (f 62) n i) (f 67 c)) 85 c (nI (p_ft (f 62) n i + 1))) 86 c (f 86 c + 1)) none) (h2 : ¬ p_ft (f 62) n i < 5 → ¬ 4 ≤ f 86 c → P (k_down (tw_up (tw_up f 85 c (nI 5)) 84 c 0) c) none) (h3 : ¬ p_ft (f 62) n i < 5 → 4 ≤ f 86 c → P (k_rk (k_tk (tw_up (tw_up (tw_up (tw_up f 85 c (nI 5)) 84 c 0) 69 (2 * c) 1) 69 (2 * c + 1) 1) c g 32) c 8) none) : tS fl (d + 2) 129 [tw_R 61, tw_I (nI c)] f P := by
  have hcc := hc
  refine tw_Sp_of rfl rfl (Nat.le_of_ble_eq_true rfl) (fun X h => ?_)
  have off : ∀ (a b : Nat) (x : Int32), a ≠ 85 → tw_up f 85 c x a b = f a b := fun a b x u => tw_off (by omega)
  have done : ∀ k : Nat, k = p_ft (f 62) n i → k ≤ 5 → X 23 [some (tw_R 61), some (tw_I (nI c)), none] [] tx_L0 (tw_up f 85 c (nI k)) := by
    intro k hk hk5
    refine zi_aload_n h rfl rfl ?_
    refine zg_ref h rfl (by first | rfl | assumption) (by decide) rfl rfl ?_
    refine zi_iload_n h rfl rfl ?_
    refine za_n h k rfl (by first | rfl | assumption) rfl (by omega) (by decide) (by simp [tw_up]) ?_
    refine zn_iconst h 5 rfl rfl ?_
    first | refine zn_icmpge h rfl (by omega) (by omega) (fun hc => ?_) (fun hc => ?_) | refine zc_icmpge h rfl (fun hc => ?_) (fun hc => ?_)
    · obtain rfl : k = 5 := by omega
      have hlast : ¬ p_ft (f 62) n i < 5 := by omega
      have e86 : tw_up (tw_up f 85 c (nI 5)) 84 c (nI 0) 86 c = f 86 c := by rw [tw_off (by omega), off _ _ _ (by omega)]
      refine zi_aload_n h rfl rfl ?_
      refine zg_ref h rfl (by first | rfl | assumption) (by decide) rfl rfl ?_
      refine zi_iload_n h rfl rfl ?_
      refine zn_iconst h 0 rfl rfl ?_
      refine zs_z h rfl (by first | rfl | assumption) rfl (by omega) (by decide) (by first | exact Or.inl rfl | exact Or.inr rfl | exact tw_nz_01 _ | assumption) ?_
      refine zi_aload_n h rfl rfl ?_
      refine zg_ref h rfl (by first | rfl | assumption) (by decide) rfl rfl ?_
      refine zi_iload_n h rfl rfl ?_
      refine za_i h rfl (by first | rfl | assumption) rfl (by omega) (by decide) ?_
      rw [e86]
      refine zn_iconst h 4 rfl rfl ?_
      refine zc_icmpge h rfl (fun hc => ?_) (fun hc => ?_)
      · have h3 := h3 hlast hc
        have e96 : tw_up (tw_up (tw_up (tw_up f 85 c (nI 5)) 84 c 0) 69 (2 * c) 1) 69 (2 * c + 1) 1 96 c = nI g := by rw [tw_off (by omega), tw_off (by omega), tw_off (by omega), off _ _ _ (by omega)]; exact hg
        refine zi_aload_n h rfl rfl ?_
        refine zg_ref h rfl (by first | rfl | assumption) (by decide) rfl rfl ?_
        refine zn_iconst h 2 rfl rfl ?_
        refine zi_iload_n h rfl rfl ?_
        first | refine zn_imul h rfl ?_ | refine zi_imul h rfl ?_
        refine zn_iconst h 1 rfl rfl ?_
        refine zs_z h rfl (by first | rfl | assumption) rfl (by omega) (by decide) (by first | exact Or.inl rfl | exact Or.inr rfl | exact tw_nz_01 _ | assumption) ?_
        refine zi_aload_n h rfl rfl ?_
        refine zg_ref h rfl (by first | rfl | assumption) (by decide) rfl rfl ?_
        refine zn_iconst h 2 rfl rfl ?_
        show X 82 _ _ _ _
        refine zi_iload_n h rfl rfl ?_
        first | refine zn_imul h rfl ?_ | refine zi_imul h rfl ?_
        refine zn_iconst h 1 rfl rfl ?_
        first | refine zn_iadd h rfl ?_ | refine zi_iadd h rfl ?_
        refine zn_iconst h 1 rfl rfl ?_
        refine zs_z h rfl (by first | rfl | assumption) rfl (by omega) (by decide) (by first | exact Or.inl rfl | exact Or.inr rfl | exact tw_nz_01 _ | assumption) ?_
        refine zn_iconst h 0 rfl rfl ?_
        refine zi_istore_n h rfl (Nat.le_of_ble_eq_true rfl) ?_
        refine tw_mem (g := tw_up (tw_up (tw_up (tw_up f 85 c (nI 5)) 84 c 0) 69 (2 * c) 1) 69 (2 * c + 1) 1) (fun _ _ => rfl) ?_
        generalize tw_up (tw_up (tw_up (tw_up f 85 c (nI 5)) 84 c 0) 69 (2 * c) 1) 69 (2 * c + 1) 1 = w at e96 h3 ⊢
        have loop2 : ∀ n i : Nat, i + n = 8 → X 129 [some (tw_R 61), some (tw_I (nI c)), some (tw_I (nI i))] [] tx_L0 (k_rk (k_tk w c g 32) c i) := by
          generalize k_tk w c g 32 = z at h3
          intro n
          induction n with
          | zero =>
            intro i hi
            obtain rfl : i = 8 := by omega
            refine zi_iload_n h rfl rfl ?_
            refine zn_bipush h 8 rfl rfl ?_
            first | refine zn_icmpge h rfl (by omega) (by omega) (fun hc => ?_) (fun hc => ?_) | refine zc_icmpge h rfl (fun hc => ?_) (fun hc => ?_)
            · refine zi_vret h rfl ?_
              exact h3
            · omega
          | succ n ih =>
            intro i hi
            have ih := ih (i + 1) (by omega)
            have r78 : k_rk z c i 78 (8 * c + i) = z 78 (8 * c + i) := by
              unfold k_rk
              rw [if_neg (by omega), if_neg (by omega)]
            refine zi_iload_n h rfl rfl ?_
            refine zn_bipush h 8 rfl rfl ?_
            first | refine zn_icmpge h rfl (by omega) (by omega) (fun hc => ?_) (fun hc => ?_) | refine zc_icmpge h rfl (fun hc => ?_) (fun hc => ?_)
            · omega
            · refine zi_aload_n h rfl rfl ?_
              refine zg_ref h rfl (by first | rfl | assumption) (by decide) rfl rfl ?_
              refine zn_bipush h 8 rfl rfl ?_
              refine zi_iload_n h rfl rfl ?_
              first | refine zn_imul h rfl ?_ | refine zi_imul h rfl ?_
              refine zi_iload_n h rfl rfl ?_
              first | refine zn_iadd h rfl ?_ | refine zi_iadd h rfl ?_
              refine za_z h rfl (by first | rfl | assumption) rfl (by omega) (by decide) ?_
              rw [r78]
              refine zb_ifne h rfl (fun hc => ?_) (fun hc => ?_)
              · refine zi_aload_n h rfl rfl ?_
                refine zg_ref h rfl (by first | rfl | assumption) (by decide) rfl rfl ?_
                refine zn_bipush h 8 rfl rfl ?_
                refine zi_iload_n h rfl rfl ?_
                first | refine zn_imul h rfl ?_ | refine zi_imul h rfl ?_
                refine zi_iload_n h rfl rfl ?_
                first | refine zn_iadd h rfl ?_ | refine zi_iadd h rfl ?_
                refine zn_iconst h 1 rfl rfl ?_
                refine zs_z h rfl (by first | rfl | assumption) rfl (by omega) (by decide) (by first | exact Or.inl rfl | exact Or.inr rfl | exact tw_nz_01 _ | assumption) ?_
                refine zi_aload_n h rfl rfl ?_
                show X 152 _ _ _ _
                refine zg_ref h rfl (by first | rfl | assumption) (by decide) rfl rfl ?_
                refine zn_bipush h 8 rfl rfl ?_
                refine zi_iload_n h rfl rfl ?_
                first | refine zn_imul h rfl ?_ | refine zi_imul h rfl ?_
                refine zi_iload_n h rfl rfl ?_
                first | refine zn_iadd h rfl ?_ | refine zi_iadd h rfl ?_
                refine zn_iconst h 1 rfl rfl ?_
                refine zs_z h rfl (by first | rfl | assumption) rfl (by omega) (by decide) (by first | exact Or.inl rfl | exact Or.inr rfl | exact tw_nz_01 _ | assumption) ?_
                refine zi_aload_n h rfl rfl ?_
                refine zg_ref h rfl (by first | rfl | assumption) (by decide) rfl rfl ?_
                show X 162 _ _ _ _
                refine zn_bipush h 8 rfl rfl ?_
                refine zi_iload_n h rfl rfl ?_
                first | refine zn_imul h rfl ?_ | refine zi_imul h rfl ?_
                refine zi_iload_n h rfl rfl ?_
                first | refine zn_iadd h rfl ?_ | refine zi_iadd h rfl ?_
                refine zn_iconst h 0 rfl rfl ?_
                refine zs_z h rfl (by first | rfl | assumption) rfl (by omega) (by decide) (by first | exact Or.inl rfl | exact Or.inr rfl | exact tw_nz_01 _ | assumption) ?_
                first | refine zn_iinc h 1 rfl rfl rfl ?_ | refine zi_iinc h rfl rfl ?_
                refine zi_goto h rfl ?_
                refine tw_mem (fun q j => ?_) ih
                unfold k_rk tw_up
                by_cases hj : j = 8 * c + i
                · subst hj
                  by_cases k0 : q = 77 ∨ q = 78 ∨ q = 79
                  · rcases k0 with rfl | rfl | rfl <;> simp [hc, tw_n0, tw_n1]
                  · simp only [not_or] at k0
                    simp [k0]
                · have e1 : (j < 8 * c + (i + 1)) = (j < 8 * c + i) := by apply propext; omega
                  simp [e1, hj]
              · refine zi_goto h rfl ?_
                first | refine zn_iinc h 1 rfl rfl rfl ?_ | refine zi_iinc h rfl rfl ?_
                refine zi_goto h rfl ?_
                refine tw_mem (fun q j => ?_) ih
                unfold k_rk
                by_cases hj : j = 8 * c + i
                · subst hj
                  simp [hc]
                · have e1 : (j < 8 * c + (i + 1)) = (j < 8 * c + i) := by apply propext; omega
                  simp only [e1]
        have loop1 : ∀ n i : Nat, i + n = 32 → X 90 [some (tw_R 61), some (tw_I (nI c)), some (tw_I (nI i))] [] tx_L0 (k_tk w c g i) := by
          intro n
          induction n with
          | zero =>
            intro i hi
            obtain rfl : i = 32 := by omega
            refine zi_iload_n h rfl rfl ?_
            refine zn_bipush h 32 rfl rfl ?_
            first | refine zn_icmpge h rfl (by omega) (by omega) (fun hc => ?_) (fun hc => ?_) | refine zc_icmpge h rfl (fun hc => ?_) (fun hc => ?_)
            · refine zn_iconst h 0 rfl rfl ?_
              refine zi_istore_n h rfl (Nat.le_of_ble_eq_true rfl) ?_
              refine tw_mem (fun q j => ?_) (loop2 8 0 (by omega))
              generalize k_tk w c g 32 = z
              unfold k_rk
              rw [if_neg (by omega), if_neg (by omega)]
            · omega
          | succ n ih =>
            intro i hi
            have ih := ih (i + 1) (by omega)
            have r74 : k_tk w c g i 74 (32 * c + i) = w 74 (32 * c + i) := by
              unfold k_tk
              rw [if_neg (by omega), if_neg (by omega), if_neg (by omega), if_neg (by omega), if_neg (by omega)]
            have r75 : k_tk w c g i 75 (32 * c + i) = w 75 (32 * c + i) := by
              unfold k_tk
              rw [if_neg (by omega), if_neg (by omega), if_neg (by omega), if_neg (by omega), if_neg (by omega)]
            have r96 : k_tk w c g i 96 c = nI (g + p_cnt (fun j => w 74 (32 * c + j)) i) := if_pos ⟨rfl, rfl⟩
            refine zi_iload_n h rfl rfl ?_
            refine zn_bipush h 32 rfl rfl ?_
            first | refine zn_icmpge h rfl (by omega) (by omega) (fun hc => ?_) (fun hc => ?_) | refine zc_icmpge h rfl (fun hc => ?_) (fun hc => ?_)
            · omega
            · refine zi_aload_n h rfl rfl ?_
              refine zg_ref h rfl (by first | rfl | assumption) (by decide) rfl rfl ?_
              refine zn_bipush h 32 rfl rfl ?_
              refine zi_iload_n h rfl rfl ?_
              first | refine zn_imul h rfl ?_ | refine zi_imul h rfl ?_
              refine zi_iload_n h rfl rfl ?_
              first | refine zn_iadd h rfl ?_ | refine zi_iadd h rfl ?_
              refine za_z h rfl (by first | rfl | assumption) rfl (by omega) (by decide) ?_
              rw [r74]
              refine zb_ifne h rfl (fun hc => ?_) (fun hc => ?_)
              · have ec : p_cnt (fun j => w 74 (32 * c + j)) (i + 1) = p_cnt (fun j => w 74 (32 * c + j)) i + 1 := by simp [p_cnt, hc]
                refine zi_aload_n h rfl rfl ?_
                refine zi_iload_n h rfl rfl ?_
                refine zi_iload_n h rfl rfl ?_
                refine zi_aload_n h rfl rfl ?_
                refine zg_ref h rfl (by first | rfl | assumption) (by decide) rfl rfl ?_
                refine zn_bipush h 32 rfl rfl ?_
                refine zi_iload_n h rfl rfl ?_
                first | refine zn_imul h rfl ?_ | refine zi_imul h rfl ?_
                refine zi_iload_n h rfl rfl ?_
                first | refine zn_iadd h rfl ?_ | refine zi_iadd h rfl ?_
                show X 113 _ _ _ _
                refine za_i h rfl (by first | rfl | assumption) rfl (by omega) (by decide) ?_
                rw [r75]
                refine zn_iconst h 1 rfl rfl ?_
                refine zk_V h [_, _, _, _] rfl (by first | rfl | assumption) rfl rfl (Nat.le_of_ble_eq_true rfl) (s_k_keep1 hcc (by omega) ?_)
                refine zi_aload_n h rfl rfl ?_
                refine zg_ref h rfl (by first | rfl | assumption) (by decide) rfl rfl ?_
                refine zn_bipush h 32 rfl rfl ?_
                refine zi_iload_n h rfl rfl ?_
                first | refine zn_imul h rfl ?_ | refine zi_imul h rfl ?_
                refine zi_iload_n h rfl rfl ?_
                first | refine zn_iadd h rfl ?_ | refine zi_iadd h rfl ?_
                refine zn_iconst h 0 rfl rfl ?_
                refine zs_z h rfl (by first | rfl | assumption) rfl (by omega) (by decide) (by first | exact Or.inl rfl | exact Or.inr rfl | exact tw_nz_01 _ | assumption) ?_
                first | refine zn_iinc h 1 rfl rfl rfl ?_ | refine zi_iinc h rfl rfl ?_
                show X 126 _ _ _ _
                refine zi_goto h rfl ?_
                refine tw_mem (fun q j => ?_) ih
                have hv : k_tk w c g i 96 c + 1 = nI (g + p_cnt (fun j => w 74 (32 * c + j)) (i + 1)) := by
                  rw [r96, ec, nI_1]
                  rfl
                unfold k_keep1
                rw [hv]
                simp only [tw_up]
                by_cases hj : j = 32 * c + i
                · subst hj
                  have ex : 32 * c + i - 32 * c + 1 = i + 1 := by omega
                  by_cases k0 : q = 70 ∨ q = 71 ∨ q = 72 ∨ q = 73 ∨ q = 74 ∨ q = 96
                  · rcases k0 with rfl | rfl | rfl | rfl | rfl | rfl <;> simp [k_tk, hc, ex, tw_n0, tw_n1] <;> ((repeat' split) <;> first | rfl | omega)
                  · simp only [not_or] at k0
                    simp [k_tk, k0]
                · have e1 : (j < 32 * c + (i + 1)) = (j < 32 * c + i) := by apply propext; omega
                  by_cases k0 : q = 96 ∧ j = c
                  · obtain ⟨rfl, rfl⟩ := k0
                    simp [k_tk]
                  · simp [k_tk, e1, hj, k0]
              · have ec : p_cnt (fun j => w 74 (32 * c + j)) (i + 1) = p_cnt (fun j => w 74 (32 * c + j)) i := by simp [p_cnt, hc]
                refine zi_goto h rfl ?_
                first | refine zn_iinc h 1 rfl rfl rfl ?_ | refine zi_iinc h rfl rfl ?_
                refine zi_goto h rfl ?_
                refine tw_mem (fun q j => ?_) ih
                unfold k_tk
                rw [ec]
                by_cases hj : j = 32 * c + i
                · subst hj
                  simp [hc]
                · have e1 : (j < 32 * c + (i + 1)) = (j < 32 * c + i) := by apply propext; omega
                  simp only [e1]
        refine tw_mem (fun q j => ?_) (loop1 32 0 (by omega))
        unfold k_tk
        split
        · rename_i u
          rw [u.1, u.2, e96]
          rfl
        · rw [if_neg (by omega), if_neg (by omega), if_neg (by omega), if_neg (by omega)]
      · refine zi_aload_n h rfl rfl ?_
        refine zi_iload_n h rfl rfl ?_
        refine zk_V h [_] rfl (by first | rfl | assumption) rfl rfl (Nat.le_of_ble_eq_true rfl) (s_k_down hcc (by rw [tw_off (by omega), off _ _ _ (by omega)]; exact hl) hl2 (by rw [tw_off (by omega), off _ _ _ (by omega)]; exact ht) ht2 ?_)
        refine zi_vret h rfl ?_
        exact h2 hlast hc
    · have h1 := h1 (by omega)
      rw [← hk] at h1
      have e67 : tw_up f 85 c (nI k) 67 c = f 67 c := off _ _ _ (by omega)
      refine zi_aload_n h rfl rfl ?_
      refine zg_ref h rfl (by first | rfl | assumption) (by decide) rfl rfl ?_
      refine zi_aload_n h rfl rfl ?_
      refine zg_ref h rfl (by first | rfl | assumption) (by decide) rfl rfl ?_
      refine zi_iload_n h rfl rfl ?_
      refine za_n h k rfl (by first | rfl | assumption) rfl (by omega) (by decide) (by simp [tw_up]) ?_
      refine zi_aload_n h rfl rfl ?_
      refine zg_ref h rfl (by first | rfl | assumption) (by decide) rfl rfl ?_
      refine zi_iload_n h rfl rfl ?_
      refine za_i h rfl (by first | rfl | assumption) rfl (by omega) (by decide) ?_
      rw [e67]
      refine zs_i h rfl (by first | rfl | assumption) rfl (by omega) (by decide) ?_
      refine zi_aload_n h rfl rfl ?_
      refine zg_ref h rfl (by first | rfl | assumption) (by decide) rfl rfl ?_
      refine zi_iload_n h rfl rfl ?_
      refine zi_dup2 h rfl rfl rfl ?_
      refine za_n h k rfl (by first | rfl | assumption) rfl (by omega) (by decide) (by rw [tw_off (by omega)]; simp [tw_up]) ?_
      refine zn_iconst h 1 rfl rfl ?_
      first | refine zn_iadd h rfl ?_ | refine zi_iadd h rfl ?_
      refine zs_i h rfl (by first | rfl | assumption) rfl (by omega) (by decide) ?_
      refine zi_aload_n h rfl rfl ?_
      refine zg_ref h rfl (by first | rfl | assumption) (by decide) rfl rfl ?_
      refine zi_iload_n h rfl rfl ?_
      refine zi_dup2 h rfl rfl rfl ?_
      refine za_i h rfl (by first | rfl | assumption) rfl (by omega) (by decide) ?_
      have e86 : tw_up (tw_up (tw_up f 85 c (nI k)) 63 k (f 67 c)) 85 c (nI (k + 1)) 86 c = f 86 c := by rw [tw_off (by omega), tw_off (by omega), off _ _ _ (by omega)]
      rw [e86]
      refine zn_iconst h 1 rfl rfl ?_
      first | refine zn_iadd h rfl ?_ | refine zi_iadd h rfl ?_
      refine zs_i h rfl (by first | rfl | assumption) rfl (by omega) (by decide) ?_
      refine zi_vret h rfl ?_
      refine tw_memP (fun q j => ?_) h1
      unfold tw_up
      (repeat' split) <;> first | rfl | omega
  have loop : ∀ m k : Nat, k + m = 5 → p_ft (f 62) m k = p_ft (f 62) n i → X 0 [some (tw_R 61), some (tw_I (nI c)), none] [] tx_L0 (tw_up f 85 c (nI k)) := by
    intro m
    induction m with
    | zero =>
      intro k hk he
      obtain rfl : k = 5 := by omega
      have he : 5 = p_ft (f 62) n i := he
      refine zi_aload_n h rfl rfl ?_
      refine zg_ref h rfl (by first | rfl | assumption) (by decide) rfl rfl ?_
      refine zi_iload_n h rfl rfl ?_
      refine za_n h 5 rfl (by first | rfl | assumption) rfl (by omega) (by decide) (by simp [tw_up]) ?_
      refine zn_iconst h 5 rfl rfl ?_
      first | refine zn_icmpge h rfl (by omega) (by omega) (fun hc => ?_) (fun hc => ?_) | refine zc_icmpge h rfl (fun hc => ?_) (fun hc => ?_)
      · exact done 5 he (by omega)
      · omega
    | succ m ih =>
      intro k hk he
      have e62 : tw_up f 85 c (nI k) 62 k = f 62 k := off _ _ _ (by omega)
      refine zi_aload_n h rfl rfl ?_
      refine zg_ref h rfl (by first | rfl | assumption) (by decide) rfl rfl ?_
      refine zi_iload_n h rfl rfl ?_
      refine za_n h k rfl (by first | rfl | assumption) rfl (by omega) (by decide) (by simp [tw_up]) ?_
      refine zn_iconst h 5 rfl rfl ?_
      first | refine zn_icmpge h rfl (by omega) (by omega) (fun hc => ?_) (fun hc => ?_) | refine zc_icmpge h rfl (fun hc => ?_) (fun hc => ?_)
      · omega
      · refine zi_aload_n h rfl rfl ?_
        refine zg_ref h rfl (by first | rfl | assumption) (by decide) rfl rfl ?_
        refine zi_aload_n h rfl rfl ?_
        refine zg_ref h rfl (by first | rfl | assumption) (by decide) rfl rfl ?_
        refine zi_iload_n h rfl rfl ?_
        refine za_n h k rfl (by first | rfl | assumption) rfl (by omega) (by decide) (by simp [tw_up]) ?_
        refine za_z h rfl (by first | rfl | assumption) rfl (by omega) (by decide) ?_
        rw [e62]
        refine zb_ifne h rfl (fun hc => ?_) (fun hc => ?_)
        · have he : k = p_ft (f 62) n i := by rw [← he]; simp [p_ft, hc]
          exact done k he (by omega)
        · have ih := ih (k + 1) (by omega) (by rw [← he]; simp [p_ft, hc])
          refine zi_aload_n h rfl rfl ?_
          refine zg_ref h rfl (by first | rfl | assumption) (by decide) rfl rfl ?_
          refine zi_iload_n h rfl rfl ?_
          refine zi_dup2 h rfl rfl rfl ?_
          refine za_n h k rfl (by first | rfl | assumption) rfl (by omega) (by decide) (by simp [tw_up]) ?_
          refine zn_iconst h 1 rfl rfl ?_
          first | refine zn_iadd h rfl ?_ | refine zi_iadd h rfl ?_
          refine zs_i h rfl (by first | rfl | assumption) rfl (by omega) (by decide) ?_
          refine zi_goto h rfl ?_
          refine tw_mem (fun q j => ?_) ih
          unfold tw_up
          split <;> rfl
  refine tw_mem (fun q j => ?_) (loop n i hn rfl)
  unfold tw_up
  split
  · rename_i u
    rw [u.1, u.2, hi]
  · rfl
set_option maxRecDepth 20000 in
theorem s_k_repairs {fl : Bool} {d : Nat} {f : tw_S} {P : tw_S → Option tw_A → Prop} {c : Nat} (hc : c < 2) (hs : p_ft (fun s => f 79 (8 * c + s)) 8 0 < 8) (h1 : p_om (f 65) 5 (p_ft (fun s => f 79 (8 * c + s)) 8 0) 5 → P (tw_up f 79 (8 * c + p_ft (fun s => f 79 (8 * c + s)) 8 0) 0) none) (h2 : ¬ p_om (f 65) 5 (p_ft (fun s => f 79 (8 * c + s)) 8 0) 5 → P (k_begins (tw_up f 79 (8 * c + p_ft (fun s => f 79 (8 * c + s)) 8 0) 0) c (nI (p_pd (p_ft (fun s => f 79 (8 * c + s)) 8 0))) (nI (p_ft (fun s => f 79 (8 * c + s)) 8 0)) (p_xor (f 64) (p_pd (p_ft (fun s => f 79 (8 * c + s)) 8 0)) (p_ft (fun s => f 79 (8 * c + s)) 8 0) 5)) none) : tS fl (d + 3) 132 [tw_R 61, tw_I (nI c)] f P := by
  have hcc := hc
  refine tw_Sp_of rfl rfl (Nat.le_of_ble_eq_true rfl) (fun X h => ?_)
  refine zi_aload_n h rfl rfl ?_
  refine zi_aload_n h rfl rfl ?_
  refine zg_ref h rfl (by first | rfl | assumption) (by decide) rfl rfl ?_
  refine zi_iload_n h rfl rfl ?_
  refine zk_V h [_, _] rfl (by first | rfl | assumption) rfl rfl (Nat.le_of_ble_eq_true rfl) (s_k_lowest hcc (Or.inr (Or.inr rfl)) (fun g => ?_) (fun g => absurd hs g))
  show X 5 _ [tw_I (nI (p_ft (fun s => f 79 (8 * c + s)) 8 0))] _ _
  generalize p_ft (fun s => f 79 (8 * c + s)) 8 0 = s at hs h1 h2 ⊢
  have hp : p_pd s < 5 := by unfold p_pd; omega
  have e65 : tw_up f 79 (8 * c + s) (nI 0) 65 = f 65 := by funext j; exact tw_off (by omega)
  have e64 : tw_up f 79 (8 * c + s) (nI 0) 64 = f 64 := by funext j; exact tw_off (by omega)
  have ex : p_om (f 65) 5 s 5 ↔ (¬ f 65 (p_pd s * 8 + s) = 0 ∨ p_om (f 65) (p_pd s) s 5) := by
    constructor
    · rintro ⟨o, g1, g2, g3⟩
      by_cases ho : o = p_pd s
      · rw [← ho]; exact Or.inl g3
      · exact Or.inr ⟨o, g1, ho, g3⟩
    · rintro (g | ⟨o, g1, g2, g3⟩)
      · exact ⟨p_pd s, hp, by omega, g⟩
      · exact ⟨o, g1, by omega, g3⟩
  refine zi_istore_n h rfl (Nat.le_of_ble_eq_true rfl) ?_
  refine zi_aload_n h rfl rfl ?_
  refine zg_ref h rfl (by first | rfl | assumption) (by decide) rfl rfl ?_
  refine zn_bipush h 8 rfl rfl ?_
  refine zi_iload_n h rfl rfl ?_
  first | refine zn_imul h rfl ?_ | refine zi_imul h rfl ?_
  refine zi_iload_n h rfl rfl ?_
  first | refine zn_iadd h rfl ?_ | refine zi_iadd h rfl ?_
  refine zn_iconst h 0 rfl rfl ?_
  refine zs_z h rfl (by first | rfl | assumption) rfl (by omega) (by decide) (by first | exact Or.inl rfl | exact Or.inr rfl | exact tw_nz_01 _ | assumption) ?_
  show X 15 _ _ _ _
  refine zi_iload_n h rfl rfl ?_
  refine zk_S h [_] rfl rfl rfl (Nat.le_of_ble_eq_true rfl) (s_k_parityDisk hs ?_)
  refine zi_istore_n h rfl (Nat.le_of_ble_eq_true rfl) ?_
  refine zi_aload_n h rfl rfl ?_
  refine zi_iload_n h rfl rfl ?_
  refine zi_iload_n h rfl rfl ?_
  refine zk_V h [_, _] rfl (by first | rfl | assumption) rfl rfl (Nat.le_of_ble_eq_true rfl) (s_k_isMissing hp hs ?_)
  rw [e65]
  first | refine zb_ifne h rfl (fun hc => ?_) (fun hc => ?_) | refine zc_ifne h rfl (fun hc => ?_) (fun hc => ?_)
  · refine zi_vret h rfl ?_
    exact h1 (ex.mpr (Or.inl hc))
  · have c1 := hc
    refine zi_aload_n h rfl rfl ?_
    refine zi_iload_n h rfl rfl ?_
    refine zi_iload_n h rfl rfl ?_
    refine zk_V h [_, _] rfl (by first | rfl | assumption) rfl rfl (Nat.le_of_ble_eq_true rfl) (s_k_othersThere hs (by omega) (fun u => ?_) (fun u => ?_))
    · rw [e65] at u
      first | refine zb_ifeq h rfl (fun hc => ?_) (fun hc => ?_) | refine zc_ifeq h rfl (fun hc => ?_) (fun hc => ?_)
      · exact absurd hc (by decide)
      · refine zi_aload_n h rfl rfl ?_
        refine zi_iload_n h rfl rfl ?_
        refine zi_iload_n h rfl rfl ?_
        refine zi_iload_n h rfl rfl ?_
        refine zi_aload_n h rfl rfl ?_
        refine zi_iload_n h rfl rfl ?_
        refine zi_iload_n h rfl rfl ?_
        refine zk_V h [_, _] rfl (by first | rfl | assumption) rfl rfl (Nat.le_of_ble_eq_true rfl) (s_k_others (by omega) hs ?_)
        rw [e64]
        refine zk_V h [_, _, _, _] rfl (by first | rfl | assumption) rfl rfl (Nat.le_of_ble_eq_true rfl) (s_k_begins hcc ?_)
        refine zi_vret h rfl ?_
        exact h2 (fun v => (ex.mp v).elim (fun z => z c1) u)
    · rw [e65] at u
      first | refine zb_ifeq h rfl (fun hc => ?_) (fun hc => ?_) | refine zc_ifeq h rfl (fun hc => ?_) (fun hc => ?_)
      · refine zi_vret h rfl ?_
        exact h1 (ex.mpr (Or.inr u))
      · exact absurd rfl hc
end
