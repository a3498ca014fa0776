section
-- ===== PART A: goes FIRST, ahead of the names: the tables' words, and 'selects' of the private methods out of them =====
/-- a private method of a class that the tables say can be made, by its rows of tables_1 -/
def lw_okq (q : MethodName × Nat) : Prop := (q.1.cls ≠ "java/lang/invoke/MethodHandle" ∧ q.1.cls ≠ "java/lang/invoke/VarHandle") ∧ Cond.instantiable q.1.cls q.2 ∈ tables_1 ∧ Cond.privateMethod q.1 ∈ tables_1 ∧ Cond.instanceMethod q.1 ∈ tables_1
theorem lw_p0 : lw_okq (⟨"PouredForLeaving", "refuse", "(I)I"⟩, 11) := ⟨⟨by decide +kernel, by decide +kernel⟩, List.mem_of_getElem? (i := 16) (by decide +kernel), List.mem_of_getElem? (i := 226) (by decide +kernel), List.mem_of_getElem? (i := 227) (by decide +kernel)⟩
theorem lw_p1 : lw_okq (⟨"PouredForLeaving$Afternoon", "passFor", "(I)V"⟩, 11) := ⟨⟨by decide +kernel, by decide +kernel⟩, List.mem_of_getElem? (i := 24) (by decide +kernel), List.mem_of_getElem? (i := 333) (by decide +kernel), List.mem_of_getElem? (i := 334) (by decide +kernel)⟩
theorem lw_p2 : lw_okq (⟨"PouredForLeaving$Afternoon", "isAhead", "(II)Z"⟩, 11) := ⟨⟨by decide +kernel, by decide +kernel⟩, List.mem_of_getElem? (i := 24) (by decide +kernel), List.mem_of_getElem? (i := 358) (by decide +kernel), List.mem_of_getElem? (i := 359) (by decide +kernel)⟩
theorem lw_p3 : lw_okq (⟨"PouredForLeaving$Outlook", "lookOn", "(I)V"⟩, 2) := ⟨⟨by decide +kernel, by decide +kernel⟩, List.mem_of_getElem? (i := 143) (by decide +kernel), List.mem_of_getElem? (i := 442) (by decide +kernel), List.mem_of_getElem? (i := 443) (by decide +kernel)⟩
theorem lw_p4 : lw_okq (⟨"PouredForLeaving$Choices", "whenGoneRisingBehind", "(II)I"⟩, 3) := ⟨⟨by decide +kernel, by decide +kernel⟩, List.mem_of_getElem? (i := 156) (by decide +kernel), List.mem_of_getElem? (i := 568) (by decide +kernel), List.mem_of_getElem? (i := 569) (by decide +kernel)⟩
theorem lw_p5 : lw_okq (⟨"PouredForLeaving$Choices", "noteLeaving", "(I)V"⟩, 3) := ⟨⟨by decide +kernel, by decide +kernel⟩, List.mem_of_getElem? (i := 156) (by decide +kernel), List.mem_of_getElem? (i := 589) (by decide +kernel), List.mem_of_getElem? (i := 590) (by decide +kernel)⟩
theorem lw_p6 : lw_okq (⟨"PouredForLeaving$Choices", "isAtRest", "(II)Z"⟩, 3) := ⟨⟨by decide +kernel, by decide +kernel⟩, List.mem_of_getElem? (i := 156) (by decide +kernel), List.mem_of_getElem? (i := 597) (by decide +kernel), List.mem_of_getElem? (i := 598) (by decide +kernel)⟩
theorem lw_p7 : lw_okq (⟨"PouredForLeaving", "refuseLoudly", "(I)I"⟩, 11) := ⟨⟨by decide +kernel, by decide +kernel⟩, List.mem_of_getElem? (i := 16) (by decide +kernel), List.mem_of_getElem? (i := 613) (by decide +kernel), List.mem_of_getElem? (i := 614) (by decide +kernel)⟩
theorem lw_p8 : lw_okq (⟨"PouredForLeaving$Choices", "whenOthersGone", "(I)I"⟩, 3) := ⟨⟨by decide +kernel, by decide +kernel⟩, List.mem_of_getElem? (i := 156) (by decide +kernel), List.mem_of_getElem? (i := 622) (by decide +kernel), List.mem_of_getElem? (i := 623) (by decide +kernel)⟩
theorem lw_p9 : lw_okq (⟨"PouredForLeaving$Guesses", "goesAsTold", "(ILPouredForLeaving$Numbers;)Z"⟩, 3) := ⟨⟨by decide +kernel, by decide +kernel⟩, List.mem_of_getElem? (i := 172) (by decide +kernel), List.mem_of_getElem? (i := 649) (by decide +kernel), List.mem_of_getElem? (i := 650) (by decide +kernel)⟩
theorem lw_p10 : lw_okq (⟨"PouredForLeaving$Guesses", "noteStates", "(II)V"⟩, 3) := ⟨⟨by decide +kernel, by decide +kernel⟩, List.mem_of_getElem? (i := 172) (by decide +kernel), List.mem_of_getElem? (i := 669) (by decide +kernel), List.mem_of_getElem? (i := 670) (by decide +kernel)⟩
theorem lw_p11 : lw_okq (⟨"PouredForLeaving", "refuseLong", "(I)J"⟩, 11) := ⟨⟨by decide +kernel, by decide +kernel⟩, List.mem_of_getElem? (i := 16) (by decide +kernel), List.mem_of_getElem? (i := 678) (by decide +kernel), List.mem_of_getElem? (i := 679) (by decide +kernel)⟩
theorem lw_p12 : lw_okq (⟨"PouredForLeaving$Guesses", "passAway", "(III)J"⟩, 3) := ⟨⟨by decide +kernel, by decide +kernel⟩, List.mem_of_getElem? (i := 172) (by decide +kernel), List.mem_of_getElem? (i := 687) (by decide +kernel), List.mem_of_getElem? (i := 688) (by decide +kernel)⟩
theorem lw_p13 : lw_okq (⟨"PouredForLeaving$Outlook", "minutesStoodBy", "(II)I"⟩, 2) := ⟨⟨by decide +kernel, by decide +kernel⟩, List.mem_of_getElem? (i := 143) (by decide +kernel), List.mem_of_getElem? (i := 732) (by decide +kernel), List.mem_of_getElem? (i := 733) (by decide +kernel)⟩
theorem lw_p14 : lw_okq (⟨"PouredForLeavingModel", "no", "(I)I"⟩, 30) := ⟨⟨by decide +kernel, by decide +kernel⟩, List.mem_of_getElem? (i := 850) (by decide +kernel), List.mem_of_getElem? (i := 954) (by decide +kernel), List.mem_of_getElem? (i := 955) (by decide +kernel)⟩
theorem lw_p15 : lw_okq (⟨"PouredForLeavingModel", "statement", "()Z"⟩, 30) := ⟨⟨by decide +kernel, by decide +kernel⟩, List.mem_of_getElem? (i := 850) (by decide +kernel), List.mem_of_getElem? (i := 962) (by decide +kernel), List.mem_of_getElem? (i := 963) (by decide +kernel)⟩
def lw_privs_1 : List (MethodName × Nat) := [(⟨"PouredForLeaving", "refuse", "(I)I"⟩, 11), (⟨"PouredForLeaving$Afternoon", "passFor", "(I)V"⟩, 11), (⟨"PouredForLeaving$Afternoon", "isAhead", "(II)Z"⟩, 11), (⟨"PouredForLeaving$Outlook", "lookOn", "(I)V"⟩, 2), (⟨"PouredForLeaving$Choices", "whenGoneRisingBehind", "(II)I"⟩, 3), (⟨"PouredForLeaving$Choices", "noteLeaving", "(I)V"⟩, 3), (⟨"PouredForLeaving$Choices", "isAtRest", "(II)Z"⟩, 3), (⟨"PouredForLeaving", "refuseLoudly", "(I)I"⟩, 11), (⟨"PouredForLeaving$Choices", "whenOthersGone", "(I)I"⟩, 3), (⟨"PouredForLeaving$Guesses", "goesAsTold", "(ILPouredForLeaving$Numbers;)Z"⟩, 3), (⟨"PouredForLeaving$Guesses", "noteStates", "(II)V"⟩, 3), (⟨"PouredForLeaving", "refuseLong", "(I)J"⟩, 11), (⟨"PouredForLeaving$Guesses", "passAway", "(III)J"⟩, 3), (⟨"PouredForLeaving$Outlook", "minutesStoodBy", "(II)I"⟩, 2), (⟨"PouredForLeavingModel", "no", "(I)I"⟩, 30), (⟨"PouredForLeavingModel", "statement", "()Z"⟩, 30)]
theorem lw_r1 : ∀ q ∈ lw_privs_1, lw_okq q := List.forall_mem_cons.mpr ⟨lw_p0, List.forall_mem_cons.mpr ⟨lw_p1, List.forall_mem_cons.mpr ⟨lw_p2, List.forall_mem_cons.mpr ⟨lw_p3, List.forall_mem_cons.mpr ⟨lw_p4, List.forall_mem_cons.mpr ⟨lw_p5, List.forall_mem_cons.mpr ⟨lw_p6, List.forall_mem_cons.mpr ⟨lw_p7, List.forall_mem_cons.mpr ⟨lw_p8, List.forall_mem_cons.mpr ⟨lw_p9, List.forall_mem_cons.mpr ⟨lw_p10, List.forall_mem_cons.mpr ⟨lw_p11, List.forall_mem_cons.mpr ⟨lw_p12, List.forall_mem_cons.mpr ⟨lw_p13, List.forall_mem_cons.mpr ⟨lw_p14, List.forall_mem_cons.mpr ⟨lw_p15, fun _ h => absurd h List.not_mem_nil⟩⟩⟩⟩⟩⟩⟩⟩⟩⟩⟩⟩⟩⟩⟩⟩
theorem lw_p16 : lw_okq (⟨"PouredForLeavingModel", "next", "()I"⟩, 30) := ⟨⟨by decide +kernel, by decide +kernel⟩, List.mem_of_getElem? (i := 850) (by decide +kernel), List.mem_of_getElem? (i := 966) (by decide +kernel), List.mem_of_getElem? (i := 967) (by decide +kernel)⟩
theorem lw_p17 : lw_okq (⟨"PouredForLeavingModel", "readsDigits", "(II)Z"⟩, 30) := ⟨⟨by decide +kernel, by decide +kernel⟩, List.mem_of_getElem? (i := 850) (by decide +kernel), List.mem_of_getElem? (i := 970) (by decide +kernel), List.mem_of_getElem? (i := 971) (by decide +kernel)⟩
theorem lw_p18 : lw_okq (⟨"PouredForLeavingModel", "passesAll", "(IZ)V"⟩, 30) := ⟨⟨by decide +kernel, by decide +kernel⟩, List.mem_of_getElem? (i := 850) (by decide +kernel), List.mem_of_getElem? (i := 977) (by decide +kernel), List.mem_of_getElem? (i := 978) (by decide +kernel)⟩
theorem lw_p19 : lw_okq (⟨"PouredForLeavingModel", "passes", "([I)V"⟩, 30) := ⟨⟨by decide +kernel, by decide +kernel⟩, List.mem_of_getElem? (i := 850) (by decide +kernel), List.mem_of_getElem? (i := 981) (by decide +kernel), List.mem_of_getElem? (i := 982) (by decide +kernel)⟩
theorem lw_p20 : lw_okq (⟨"PouredForLeavingModel", "passOne", "(I)I"⟩, 30) := ⟨⟨by decide +kernel, by decide +kernel⟩, List.mem_of_getElem? (i := 850) (by decide +kernel), List.mem_of_getElem? (i := 985) (by decide +kernel), List.mem_of_getElem? (i := 986) (by decide +kernel)⟩
theorem lw_p21 : lw_okq (⟨"PouredForLeavingModel", "comes", "(I)Z"⟩, 30) := ⟨⟨by decide +kernel, by decide +kernel⟩, List.mem_of_getElem? (i := 850) (by decide +kernel), List.mem_of_getElem? (i := 989) (by decide +kernel), List.mem_of_getElem? (i := 990) (by decide +kernel)⟩
theorem lw_p22 : lw_okq (⟨"PouredForLeavingModel", "comesGuest", "(III)Z"⟩, 30) := ⟨⟨by decide +kernel, by decide +kernel⟩, List.mem_of_getElem? (i := 850) (by decide +kernel), List.mem_of_getElem? (i := 993) (by decide +kernel), List.mem_of_getElem? (i := 994) (by decide +kernel)⟩
theorem lw_p23 : lw_okq (⟨"PouredForLeavingModel", "adds", "(III)V"⟩, 30) := ⟨⟨by decide +kernel, by decide +kernel⟩, List.mem_of_getElem? (i := 850) (by decide +kernel), List.mem_of_getElem? (i := 997) (by decide +kernel), List.mem_of_getElem? (i := 998) (by decide +kernel)⟩
theorem lw_p24 : lw_okq (⟨"PouredForLeavingModel", "comesCups", "(I)Z"⟩, 30) := ⟨⟨by decide +kernel, by decide +kernel⟩, List.mem_of_getElem? (i := 850) (by decide +kernel), List.mem_of_getElem? (i := 1001) (by decide +kernel), List.mem_of_getElem? (i := 1002) (by decide +kernel)⟩
theorem lw_p25 : lw_okq (⟨"PouredForLeavingModel", "manyIn", "(I)I"⟩, 30) := ⟨⟨by decide +kernel, by decide +kernel⟩, List.mem_of_getElem? (i := 850) (by decide +kernel), List.mem_of_getElem? (i := 1005) (by decide +kernel), List.mem_of_getElem? (i := 1006) (by decide +kernel)⟩
theorem lw_p26 : lw_okq (⟨"PouredForLeavingModel", "comesMinutes", "(I)Z"⟩, 30) := ⟨⟨by decide +kernel, by decide +kernel⟩, List.mem_of_getElem? (i := 850) (by decide +kernel), List.mem_of_getElem? (i := 1009) (by decide +kernel), List.mem_of_getElem? (i := 1010) (by decide +kernel)⟩
theorem lw_p27 : lw_okq (⟨"PouredForLeavingModel", "goes", "(I)V"⟩, 30) := ⟨⟨by decide +kernel, by decide +kernel⟩, List.mem_of_getElem? (i := 850) (by decide +kernel), List.mem_of_getElem? (i := 1013) (by decide +kernel), List.mem_of_getElem? (i := 1014) (by decide +kernel)⟩
theorem lw_p28 : lw_okq (⟨"PouredForLeavingModel", "goesMinute", "(Z)V"⟩, 30) := ⟨⟨by decide +kernel, by decide +kernel⟩, List.mem_of_getElem? (i := 850) (by decide +kernel), List.mem_of_getElem? (i := 1017) (by decide +kernel), List.mem_of_getElem? (i := 1018) (by decide +kernel)⟩
theorem lw_p29 : lw_okq (⟨"PouredForLeavingModel", "goesOne", "(I)V"⟩, 30) := ⟨⟨by decide +kernel, by decide +kernel⟩, List.mem_of_getElem? (i := 850) (by decide +kernel), List.mem_of_getElem? (i := 1021) (by decide +kernel), List.mem_of_getElem? (i := 1022) (by decide +kernel)⟩
theorem lw_p30 : lw_okq (⟨"PouredForLeavingModel", "limitOf", "(I)I"⟩, 30) := ⟨⟨by decide +kernel, by decide +kernel⟩, List.mem_of_getElem? (i := 850) (by decide +kernel), List.mem_of_getElem? (i := 1025) (by decide +kernel), List.mem_of_getElem? (i := 1026) (by decide +kernel)⟩
theorem lw_p31 : lw_okq (⟨"PouredForLeavingModel", "standsUp", "(I)V"⟩, 30) := ⟨⟨by decide +kernel, by decide +kernel⟩, List.mem_of_getElem? (i := 850) (by decide +kernel), List.mem_of_getElem? (i := 1029) (by decide +kernel), List.mem_of_getElem? (i := 1030) (by decide +kernel)⟩
def lw_privs_2 : List (MethodName × Nat) := [(⟨"PouredForLeavingModel", "next", "()I"⟩, 30), (⟨"PouredForLeavingModel", "readsDigits", "(II)Z"⟩, 30), (⟨"PouredForLeavingModel", "passesAll", "(IZ)V"⟩, 30), (⟨"PouredForLeavingModel", "passes", "([I)V"⟩, 30), (⟨"PouredForLeavingModel", "passOne", "(I)I"⟩, 30), (⟨"PouredForLeavingModel", "comes", "(I)Z"⟩, 30), (⟨"PouredForLeavingModel", "comesGuest", "(III)Z"⟩, 30), (⟨"PouredForLeavingModel", "adds", "(III)V"⟩, 30), (⟨"PouredForLeavingModel", "comesCups", "(I)Z"⟩, 30), (⟨"PouredForLeavingModel", "manyIn", "(I)I"⟩, 30), (⟨"PouredForLeavingModel", "comesMinutes", "(I)Z"⟩, 30), (⟨"PouredForLeavingModel", "goes", "(I)V"⟩, 30), (⟨"PouredForLeavingModel", "goesMinute", "(Z)V"⟩, 30), (⟨"PouredForLeavingModel", "goesOne", "(I)V"⟩, 30), (⟨"PouredForLeavingModel", "limitOf", "(I)I"⟩, 30), (⟨"PouredForLeavingModel", "standsUp", "(I)V"⟩, 30)]
theorem lw_r2 : ∀ q ∈ lw_privs_2, lw_okq q := List.forall_mem_cons.mpr ⟨lw_p16, List.forall_mem_cons.mpr ⟨lw_p17, List.forall_mem_cons.mpr ⟨lw_p18, List.forall_mem_cons.mpr ⟨lw_p19, List.forall_mem_cons.mpr ⟨lw_p20, List.forall_mem_cons.mpr ⟨lw_p21, List.forall_mem_cons.mpr ⟨lw_p22, List.forall_mem_cons.mpr ⟨lw_p23, List.forall_mem_cons.mpr ⟨lw_p24, List.forall_mem_cons.mpr ⟨lw_p25, List.forall_mem_cons.mpr ⟨lw_p26, List.forall_mem_cons.mpr ⟨lw_p27, List.forall_mem_cons.mpr ⟨lw_p28, List.forall_mem_cons.mpr ⟨lw_p29, List.forall_mem_cons.mpr ⟨lw_p30, List.forall_mem_cons.mpr ⟨lw_p31, fun _ h => absurd h List.not_mem_nil⟩⟩⟩⟩⟩⟩⟩⟩⟩⟩⟩⟩⟩⟩⟩⟩
theorem lw_p32 : lw_okq (⟨"PouredForLeavingModel", "patienceOf", "(I)I"⟩, 30) := ⟨⟨by decide +kernel, by decide +kernel⟩, List.mem_of_getElem? (i := 850) (by decide +kernel), List.mem_of_getElem? (i := 1033) (by decide +kernel), List.mem_of_getElem? (i := 1034) (by decide +kernel)⟩
theorem lw_p33 : lw_okq (⟨"PouredForLeavingModel", "drinksOn", "(I)V"⟩, 30) := ⟨⟨by decide +kernel, by decide +kernel⟩, List.mem_of_getElem? (i := 850) (by decide +kernel), List.mem_of_getElem? (i := 1037) (by decide +kernel), List.mem_of_getElem? (i := 1038) (by decide +kernel)⟩
theorem lw_p34 : lw_okq (⟨"PouredForLeavingModel", "sipOf", "(I)I"⟩, 30) := ⟨⟨by decide +kernel, by decide +kernel⟩, List.mem_of_getElem? (i := 850) (by decide +kernel), List.mem_of_getElem? (i := 1041) (by decide +kernel), List.mem_of_getElem? (i := 1042) (by decide +kernel)⟩
theorem lw_p35 : lw_okq (⟨"PouredForLeavingModel", "enoughOf", "(I)I"⟩, 30) := ⟨⟨by decide +kernel, by decide +kernel⟩, List.mem_of_getElem? (i := 850) (by decide +kernel), List.mem_of_getElem? (i := 1045) (by decide +kernel), List.mem_of_getElem? (i := 1046) (by decide +kernel)⟩
theorem lw_p36 : lw_okq (⟨"PouredForLeavingModel", "pours", "()V"⟩, 30) := ⟨⟨by decide +kernel, by decide +kernel⟩, List.mem_of_getElem? (i := 850) (by decide +kernel), List.mem_of_getElem? (i := 1049) (by decide +kernel), List.mem_of_getElem? (i := 1050) (by decide +kernel)⟩
theorem lw_p37 : lw_okq (⟨"PouredForLeavingModel", "nextServed", "()I"⟩, 30) := ⟨⟨by decide +kernel, by decide +kernel⟩, List.mem_of_getElem? (i := 850) (by decide +kernel), List.mem_of_getElem? (i := 1053) (by decide +kernel), List.mem_of_getElem? (i := 1054) (by decide +kernel)⟩
theorem lw_p38 : lw_okq (⟨"PouredForLeavingModel", "isAhead", "(II)Z"⟩, 30) := ⟨⟨by decide +kernel, by decide +kernel⟩, List.mem_of_getElem? (i := 850) (by decide +kernel), List.mem_of_getElem? (i := 1057) (by decide +kernel), List.mem_of_getElem? (i := 1058) (by decide +kernel)⟩
theorem lw_p39 : lw_okq (⟨"PouredForLeavingModel", "comesTo", "(II)Z"⟩, 30) := ⟨⟨by decide +kernel, by decide +kernel⟩, List.mem_of_getElem? (i := 850) (by decide +kernel), List.mem_of_getElem? (i := 1061) (by decide +kernel), List.mem_of_getElem? (i := 1062) (by decide +kernel)⟩
theorem lw_p40 : lw_okq (⟨"PouredForLeavingModel", "isGuest", "(I)Z"⟩, 30) := ⟨⟨by decide +kernel, by decide +kernel⟩, List.mem_of_getElem? (i := 850) (by decide +kernel), List.mem_of_getElem? (i := 1065) (by decide +kernel), List.mem_of_getElem? (i := 1066) (by decide +kernel)⟩
theorem lw_p41 : lw_okq (⟨"PouredForLeavingModel", "keepsBack", "()V"⟩, 30) := ⟨⟨by decide +kernel, by decide +kernel⟩, List.mem_of_getElem? (i := 850) (by decide +kernel), List.mem_of_getElem? (i := 1093) (by decide +kernel), List.mem_of_getElem? (i := 1094) (by decide +kernel)⟩
theorem lw_p42 : lw_okq (⟨"PouredForLeavingModel", "thinks", "()V"⟩, 30) := ⟨⟨by decide +kernel, by decide +kernel⟩, List.mem_of_getElem? (i := 850) (by decide +kernel), List.mem_of_getElem? (i := 1120) (by decide +kernel), List.mem_of_getElem? (i := 1121) (by decide +kernel)⟩
theorem lw_p43 : lw_okq (⟨"PouredForLeavingModel", "forgets", "()V"⟩, 30) := ⟨⟨by decide +kernel, by decide +kernel⟩, List.mem_of_getElem? (i := 850) (by decide +kernel), List.mem_of_getElem? (i := 1124) (by decide +kernel), List.mem_of_getElem? (i := 1125) (by decide +kernel)⟩
theorem lw_p44 : lw_okq (⟨"PouredForLeavingModel", "allThirst", "()I"⟩, 30) := ⟨⟨by decide +kernel, by decide +kernel⟩, List.mem_of_getElem? (i := 850) (by decide +kernel), List.mem_of_getElem? (i := 1132) (by decide +kernel), List.mem_of_getElem? (i := 1133) (by decide +kernel)⟩
theorem lw_p45 : lw_okq (⟨"PouredForLeavingModel", "goneBy", "(I)I"⟩, 30) := ⟨⟨by decide +kernel, by decide +kernel⟩, List.mem_of_getElem? (i := 850) (by decide +kernel), List.mem_of_getElem? (i := 1140) (by decide +kernel), List.mem_of_getElem? (i := 1141) (by decide +kernel)⟩
theorem lw_p46 : lw_okq (⟨"PouredForLeavingModel", "areGone", "(I)Z"⟩, 30) := ⟨⟨by decide +kernel, by decide +kernel⟩, List.mem_of_getElem? (i := 850) (by decide +kernel), List.mem_of_getElem? (i := 1144) (by decide +kernel), List.mem_of_getElem? (i := 1145) (by decide +kernel)⟩
theorem lw_p47 : lw_okq (⟨"PouredForLeavingModel", "everybody", "()I"⟩, 30) := ⟨⟨by decide +kernel, by decide +kernel⟩, List.mem_of_getElem? (i := 850) (by decide +kernel), List.mem_of_getElem? (i := 1158) (by decide +kernel), List.mem_of_getElem? (i := 1159) (by decide +kernel)⟩
def lw_privs_3 : List (MethodName × Nat) := [(⟨"PouredForLeavingModel", "patienceOf", "(I)I"⟩, 30), (⟨"PouredForLeavingModel", "drinksOn", "(I)V"⟩, 30), (⟨"PouredForLeavingModel", "sipOf", "(I)I"⟩, 30), (⟨"PouredForLeavingModel", "enoughOf", "(I)I"⟩, 30), (⟨"PouredForLeavingModel", "pours", "()V"⟩, 30), (⟨"PouredForLeavingModel", "nextServed", "()I"⟩, 30), (⟨"PouredForLeavingModel", "isAhead", "(II)Z"⟩, 30), (⟨"PouredForLeavingModel", "comesTo", "(II)Z"⟩, 30), (⟨"PouredForLeavingModel", "isGuest", "(I)Z"⟩, 30), (⟨"PouredForLeavingModel", "keepsBack", "()V"⟩, 30), (⟨"PouredForLeavingModel", "thinks", "()V"⟩, 30), (⟨"PouredForLeavingModel", "forgets", "()V"⟩, 30), (⟨"PouredForLeavingModel", "allThirst", "()I"⟩, 30), (⟨"PouredForLeavingModel", "goneBy", "(I)I"⟩, 30), (⟨"PouredForLeavingModel", "areGone", "(I)Z"⟩, 30), (⟨"PouredForLeavingModel", "everybody", "()I"⟩, 30)]
theorem lw_r3 : ∀ q ∈ lw_privs_3, lw_okq q := List.forall_mem_cons.mpr ⟨lw_p32, List.forall_mem_cons.mpr ⟨lw_p33, List.forall_mem_cons.mpr ⟨lw_p34, List.forall_mem_cons.mpr ⟨lw_p35, List.forall_mem_cons.mpr ⟨lw_p36, List.forall_mem_cons.mpr ⟨lw_p37, List.forall_mem_cons.mpr ⟨lw_p38, List.forall_mem_cons.mpr ⟨lw_p39, List.forall_mem_cons.mpr ⟨lw_p40, List.forall_mem_cons.mpr ⟨lw_p41, List.forall_mem_cons.mpr ⟨lw_p42, List.forall_mem_cons.mpr ⟨lw_p43, List.forall_mem_cons.mpr ⟨lw_p44, List.forall_mem_cons.mpr ⟨lw_p45, List.forall_mem_cons.mpr ⟨lw_p46, List.forall_mem_cons.mpr ⟨lw_p47, fun _ h => absurd h List.not_mem_nil⟩⟩⟩⟩⟩⟩⟩⟩⟩⟩⟩⟩⟩⟩⟩⟩
theorem lw_p48 : lw_okq (⟨"PouredForLeavingModel", "tasteOf", "(I)I"⟩, 30) := ⟨⟨by decide +kernel, by decide +kernel⟩, List.mem_of_getElem? (i := 850) (by decide +kernel), List.mem_of_getElem? (i := 1166) (by decide +kernel), List.mem_of_getElem? (i := 1167) (by decide +kernel)⟩
theorem lw_p49 : lw_okq (⟨"PouredForLeavingModel", "pouredIn", "(I)I"⟩, 30) := ⟨⟨by decide +kernel, by decide +kernel⟩, List.mem_of_getElem? (i := 850) (by decide +kernel), List.mem_of_getElem? (i := 1182) (by decide +kernel), List.mem_of_getElem? (i := 1183) (by decide +kernel)⟩
theorem lw_p50 : lw_okq (⟨"PouredForLeavingModel", "whoSit", "()I"⟩, 30) := ⟨⟨by decide +kernel, by decide +kernel⟩, List.mem_of_getElem? (i := 850) (by decide +kernel), List.mem_of_getElem? (i := 1190) (by decide +kernel), List.mem_of_getElem? (i := 1191) (by decide +kernel)⟩
theorem lw_p51 : lw_okq (⟨"PouredForLeavingModel", "goneRising", "(II)I"⟩, 30) := ⟨⟨by decide +kernel, by decide +kernel⟩, List.mem_of_getElem? (i := 850) (by decide +kernel), List.mem_of_getElem? (i := 1194) (by decide +kernel), List.mem_of_getElem? (i := 1195) (by decide +kernel)⟩
theorem lw_p52 : lw_okq (⟨"PouredForLeavingModel", "goneRisingIn", "(II)I"⟩, 30) := ⟨⟨by decide +kernel, by decide +kernel⟩, List.mem_of_getElem? (i := 850) (by decide +kernel), List.mem_of_getElem? (i := 1202) (by decide +kernel), List.mem_of_getElem? (i := 1203) (by decide +kernel)⟩
theorem lw_p53 : lw_okq (⟨"PouredForLeavingModel", "isSooner", "(III)Z"⟩, 30) := ⟨⟨by decide +kernel, by decide +kernel⟩, List.mem_of_getElem? (i := 850) (by decide +kernel), List.mem_of_getElem? (i := 1210) (by decide +kernel), List.mem_of_getElem? (i := 1211) (by decide +kernel)⟩
theorem lw_p54 : lw_okq (⟨"PouredForLeavingModel", "isAtRest", "(II)Z"⟩, 30) := ⟨⟨by decide +kernel, by decide +kernel⟩, List.mem_of_getElem? (i := 850) (by decide +kernel), List.mem_of_getElem? (i := 1218) (by decide +kernel), List.mem_of_getElem? (i := 1219) (by decide +kernel)⟩
theorem lw_p55 : lw_okq (⟨"PouredForLeavingModel", "lower", "(I)I"⟩, 30) := ⟨⟨by decide +kernel, by decide +kernel⟩, List.mem_of_getElem? (i := 850) (by decide +kernel), List.mem_of_getElem? (i := 1226) (by decide +kernel), List.mem_of_getElem? (i := 1227) (by decide +kernel)⟩
theorem lw_p56 : lw_okq (⟨"PouredForLeavingModel", "bitsFor", "([III)I"⟩, 30) := ⟨⟨by decide +kernel, by decide +kernel⟩, List.mem_of_getElem? (i := 850) (by decide +kernel), List.mem_of_getElem? (i := 1239) (by decide +kernel), List.mem_of_getElem? (i := 1240) (by decide +kernel)⟩
theorem lw_p57 : lw_okq (⟨"PouredForLeavingModel", "isSo", "(I)Z"⟩, 30) := ⟨⟨by decide +kernel, by decide +kernel⟩, List.mem_of_getElem? (i := 850) (by decide +kernel), List.mem_of_getElem? (i := 1243) (by decide +kernel), List.mem_of_getElem? (i := 1244) (by decide +kernel)⟩
theorem lw_p58 : lw_okq (⟨"PouredForLeavingModel", "thirstsFor", "(I)I"⟩, 30) := ⟨⟨by decide +kernel, by decide +kernel⟩, List.mem_of_getElem? (i := 850) (by decide +kernel), List.mem_of_getElem? (i := 1247) (by decide +kernel), List.mem_of_getElem? (i := 1248) (by decide +kernel)⟩
theorem lw_p59 : lw_okq (⟨"PouredForLeavingModel", "lowest", "(I)J"⟩, 30) := ⟨⟨by decide +kernel, by decide +kernel⟩, List.mem_of_getElem? (i := 850) (by decide +kernel), List.mem_of_getElem? (i := 1262) (by decide +kernel), List.mem_of_getElem? (i := 1263) (by decide +kernel)⟩
theorem lw_p60 : lw_okq (⟨"PouredForLeavingModel", "goneAs", "(I)I"⟩, 30) := ⟨⟨by decide +kernel, by decide +kernel⟩, List.mem_of_getElem? (i := 850) (by decide +kernel), List.mem_of_getElem? (i := 1278) (by decide +kernel), List.mem_of_getElem? (i := 1279) (by decide +kernel)⟩
theorem lw_p61 : lw_okq (⟨"PouredForLeavingModel", "whoAre", "(I)I"⟩, 30) := ⟨⟨by decide +kernel, by decide +kernel⟩, List.mem_of_getElem? (i := 850) (by decide +kernel), List.mem_of_getElem? (i := 1294) (by decide +kernel), List.mem_of_getElem? (i := 1295) (by decide +kernel)⟩
theorem lw_p62 : lw_okq (⟨"PouredForLeavingModel", "bestIn", "([III)I"⟩, 30) := ⟨⟨by decide +kernel, by decide +kernel⟩, List.mem_of_getElem? (i := 850) (by decide +kernel), List.mem_of_getElem? (i := 1306) (by decide +kernel), List.mem_of_getElem? (i := 1307) (by decide +kernel)⟩
theorem lw_p63 : lw_okq (⟨"PouredForLeavingModel", "thirstIn", "(I)I"⟩, 30) := ⟨⟨by decide +kernel, by decide +kernel⟩, List.mem_of_getElem? (i := 850) (by decide +kernel), List.mem_of_getElem? (i := 1330) (by decide +kernel), List.mem_of_getElem? (i := 1331) (by decide +kernel)⟩
def lw_privs_4 : List (MethodName × Nat) := [(⟨"PouredForLeavingModel", "tasteOf", "(I)I"⟩, 30), (⟨"PouredForLeavingModel", "pouredIn", "(I)I"⟩, 30), (⟨"PouredForLeavingModel", "whoSit", "()I"⟩, 30), (⟨"PouredForLeavingModel", "goneRising", "(II)I"⟩, 30), (⟨"PouredForLeavingModel", "goneRisingIn", "(II)I"⟩, 30), (⟨"PouredForLeavingModel", "isSooner", "(III)Z"⟩, 30), (⟨"PouredForLeavingModel", "isAtRest", "(II)Z"⟩, 30), (⟨"PouredForLeavingModel", "lower", "(I)I"⟩, 30), (⟨"PouredForLeavingModel", "bitsFor", "([III)I"⟩, 30), (⟨"PouredForLeavingModel", "isSo", "(I)Z"⟩, 30), (⟨"PouredForLeavingModel", "thirstsFor", "(I)I"⟩, 30), (⟨"PouredForLeavingModel", "lowest", "(I)J"⟩, 30), (⟨"PouredForLeavingModel", "goneAs", "(I)I"⟩, 30), (⟨"PouredForLeavingModel", "whoAre", "(I)I"⟩, 30), (⟨"PouredForLeavingModel", "bestIn", "([III)I"⟩, 30), (⟨"PouredForLeavingModel", "thirstIn", "(I)I"⟩, 30)]
theorem lw_r4 : ∀ q ∈ lw_privs_4, lw_okq q := List.forall_mem_cons.mpr ⟨lw_p48, List.forall_mem_cons.mpr ⟨lw_p49, List.forall_mem_cons.mpr ⟨lw_p50, List.forall_mem_cons.mpr ⟨lw_p51, List.forall_mem_cons.mpr ⟨lw_p52, List.forall_mem_cons.mpr ⟨lw_p53, List.forall_mem_cons.mpr ⟨lw_p54, List.forall_mem_cons.mpr ⟨lw_p55, List.forall_mem_cons.mpr ⟨lw_p56, List.forall_mem_cons.mpr ⟨lw_p57, List.forall_mem_cons.mpr ⟨lw_p58, List.forall_mem_cons.mpr ⟨lw_p59, List.forall_mem_cons.mpr ⟨lw_p60, List.forall_mem_cons.mpr ⟨lw_p61, List.forall_mem_cons.mpr ⟨lw_p62, List.forall_mem_cons.mpr ⟨lw_p63, fun _ h => absurd h List.not_mem_nil⟩⟩⟩⟩⟩⟩⟩⟩⟩⟩⟩⟩⟩⟩⟩⟩
def lw_privs : List (MethodName × Nat) := lw_privs_1 ++ (lw_privs_2 ++ (lw_privs_3 ++ (lw_privs_4)))
def lw_tbl : List Cond := k2_sels lw_privs ++ tables_1
theorem lw_privs_ok : ∀ q ∈ lw_privs, lw_okq q := by
  show ∀ q ∈ lw_privs_1 ++ (lw_privs_2 ++ (lw_privs_3 ++ (lw_privs_4))), lw_okq q
  exact List.forall_mem_append.mpr ⟨lw_r1, List.forall_mem_append.mpr ⟨lw_r2, List.forall_mem_append.mpr ⟨lw_r3, lw_r4⟩⟩⟩
end
section
def RX0 : String := "PouredForLeaving$Afternoon"
def TX0 : u_T := fun k => match k with
  | 0 => ("PouredForLeaving$Afternoon", "kind", "[I", true)
  | 1 => ("PouredForLeaving$Afternoon", "figure", "[I", true)
  | 2 => ("PouredForLeaving$Afternoon", "thirst", "[I", true)
  | 3 => ("PouredForLeaving$Afternoon", "state", "[I", true)
  | 4 => ("PouredForLeaving$Afternoon", "stood", "[I", true)
  | 5 => ("PouredForLeaving$Afternoon", "had", "[I", true)
  | 6 => ("PouredForLeaving$Afternoon", "guests", "I", false)
  | 7 => ("PouredForLeaving$Afternoon", "cups", "I", false)
  | 8 => ("PouredForLeaving$Afternoon", "rule", "I", false)
  | 9 => ("PouredForLeaving$Afternoon", "minute", "I", false)
  | _ => ("PouredForLeaving$Afternoon", "poured", "I", false)
def tyX0 : Nat → FieldType := fun k => match k with
  | 0 => .array .int
  | 1 => .array .int
  | 2 => .array .int
  | 3 => .array .int
  | 4 => .array .int
  | 5 => .array .int
  | 6 => .int
  | 7 => .int
  | 8 => .int
  | 9 => .int
  | _ => .int
abbrev wsX00 : List Cond := u_ws RX0 TX0 11
theorem nmX0 : ∀ a, a < 11 → ∀ b, b < 11 → a ≠ b → (TX0 a).2.1 ≠ (TX0 b).2.1 := by decide +kernel
theorem tyX0_ok : ∀ k, k < 11 → parseFieldDescriptor (TX0 k).2.2.1 = some (tyX0 k) := by decide +kernel
abbrev cX0_init : ByteArray := prog_2_method_1_code
def yX0_init : MethodName := ⟨RX0, "<init>", "()V"⟩
abbrev cX0_copyFrom : ByteArray := prog_2_method_2_code
def yX0_copyFrom : MethodName := ⟨RX0, "copyFrom", "(LPouredForLeaving$Afternoon;)V"⟩
abbrev cX0_has : ByteArray := prog_2_method_3_code
def yX0_has : MethodName := ⟨RX0, "has", "(I)Z"⟩
abbrev cX0_areTwo : ByteArray := prog_2_method_4_code
def yX0_areTwo : MethodName := ⟨RX0, "areTwo", "(II)Z"⟩
abbrev cX0_whyNotCome : ByteArray := prog_2_method_5_code
def yX0_whyNotCome : MethodName := ⟨RX0, "whyNotCome", "(III)I"⟩
abbrev cX0_whyNotRise : ByteArray := prog_2_method_6_code
def yX0_whyNotRise : MethodName := ⟨RX0, "whyNotRise", "(I)I"⟩
abbrev cX0_whyNotSlip : ByteArray := prog_2_method_7_code
def yX0_whyNotSlip : MethodName := ⟨RX0, "whyNotSlip", "(I)I"⟩
abbrev cX0_whyNotCups : ByteArray := prog_2_method_8_code
def yX0_whyNotCups : MethodName := ⟨RX0, "whyNotCups", "(I)I"⟩
abbrev cX0_whyNotPass : ByteArray := prog_2_method_9_code
def yX0_whyNotPass : MethodName := ⟨RX0, "whyNotPass", "(I)I"⟩
abbrev cX0_come : ByteArray := prog_2_method_10_code
def yX0_come : MethodName := ⟨RX0, "come", "(III)I"⟩
abbrev cX0_rise : ByteArray := prog_2_method_11_code
def yX0_rise : MethodName := ⟨RX0, "rise", "(I)V"⟩
abbrev cX0_riseAll : ByteArray := prog_2_method_12_code
def yX0_riseAll : MethodName := ⟨RX0, "riseAll", "(I)V"⟩
abbrev cX0_remake : ByteArray := prog_2_method_13_code
def yX0_remake : MethodName := ⟨RX0, "remake", "(III)V"⟩
abbrev cX0_tellOf : ByteArray := prog_2_method_14_code
def yX0_tellOf : MethodName := ⟨RX0, "tellOf", "(II)I"⟩
abbrev cX0_howMany : ByteArray := prog_2_method_15_code
def yX0_howMany : MethodName := ⟨RX0, "howMany", "(I)I"⟩
abbrev cX0_setOf : ByteArray := prog_2_method_16_code
def yX0_setOf : MethodName := ⟨RX0, "setOf", "(I)I"⟩
abbrev cX0_wholeThirst : ByteArray := prog_2_method_17_code
def yX0_wholeThirst : MethodName := ⟨RX0, "wholeThirst", "()I"⟩
abbrev cX0_allGoneBut : ByteArray := prog_2_method_18_code
def yX0_allGoneBut : MethodName := ⟨RX0, "allGoneBut", "(I)Z"⟩
abbrev cX0_pass : ByteArray := prog_2_method_19_code
def yX0_pass : MethodName := ⟨RX0, "pass", "(I)V"⟩
abbrev cX0_passOne : ByteArray := prog_2_method_20_code
def yX0_passOne : MethodName := ⟨RX0, "passOne", "()V"⟩
abbrev cX0_passUnserved : ByteArray := prog_2_method_21_code
def yX0_passUnserved : MethodName := ⟨RX0, "passUnserved", "()V"⟩
abbrev cX0_passFor : ByteArray := prog_2_method_22_code
def yX0_passFor : MethodName := ⟨RX0, "passFor", "(I)V"⟩
abbrev cX0_pourOne : ByteArray := prog_2_method_23_code
def yX0_pourOne : MethodName := ⟨RX0, "pourOne", "()I"⟩
abbrev cX0_isAhead : ByteArray := prog_2_method_24_code
def yX0_isAhead : MethodName := ⟨RX0, "isAhead", "(II)Z"⟩
abbrev cX0_passTillGone : ByteArray := prog_2_method_25_code
def yX0_passTillGone : MethodName := ⟨RX0, "passTillGone", "(I)I"⟩
abbrev cX0_passTillAllGoneBut : ByteArray := prog_2_method_26_code
def yX0_passTillAllGoneBut : MethodName := ⟨RX0, "passTillAllGoneBut", "(I)I"⟩
def RX1 : String := "PouredForLeaving$Changes"
def TX1 : u_T := fun k => match k with
  | 0 => ("PouredForLeaving$Changes", "guest", "[I", true)
  | 1 => ("PouredForLeaving$Changes", "state", "[I", true)
  | 2 => ("PouredForLeaving$Changes", "stood", "[I", true)
  | 3 => ("PouredForLeaving$Changes", "cups", "[I", true)
  | 4 => ("PouredForLeaving$Changes", "rule", "[I", true)
  | 5 => ("PouredForLeaving$Changes", "next", "I", false)
  | _ => ("PouredForLeaving$Changes", "size", "I", false)
def tyX1 : Nat → FieldType := fun k => match k with
  | 0 => .array .int
  | 1 => .array .int
  | 2 => .array .int
  | 3 => .array .int
  | 4 => .array .int
  | 5 => .int
  | _ => .int
abbrev wsX10 : List Cond := u_ws RX1 TX1 7
theorem nmX1 : ∀ a, a < 7 → ∀ b, b < 7 → a ≠ b → (TX1 a).2.1 ≠ (TX1 b).2.1 := by decide +kernel
theorem tyX1_ok : ∀ k, k < 7 → parseFieldDescriptor (TX1 k).2.2.1 = some (tyX1 k) := by decide +kernel
abbrev cX1_init : ByteArray := prog_3_method_1_code
def yX1_init : MethodName := ⟨RX1, "<init>", "()V"⟩
abbrev cX1_keep : ByteArray := prog_3_method_2_code
def yX1_keep : MethodName := ⟨RX1, "keep", "(LPouredForLeaving$Afternoon;I)V"⟩
abbrev cX1_takeBack : ByteArray := prog_3_method_3_code
def yX1_takeBack : MethodName := ⟨RX1, "takeBack", "(LPouredForLeaving$Afternoon;)I"⟩
abbrev cX1_forget : ByteArray := prog_3_method_4_code
def yX1_forget : MethodName := ⟨RX1, "forget", "()V"⟩
def RX2 : String := "PouredForLeaving$Choices"
def TX2 : u_T := fun k => match k with
  | 0 => ("PouredForLeaving$Choices", "now", "LPouredForLeaving$Afternoon;", true)
  | 1 => ("PouredForLeaving$Choices", "then", "LPouredForLeaving$Afternoon;", true)
  | _ => ("PouredForLeaving$Choices", "leaving", "[I", true)
def tyX2 : Nat → FieldType := fun k => match k with
  | 0 => .object "PouredForLeaving$Afternoon"
  | 1 => .object "PouredForLeaving$Afternoon"
  | _ => .array .int
abbrev wsX20 : List Cond := u_ws RX2 TX2 3
theorem nmX2 : ∀ a, a < 3 → ∀ b, b < 3 → a ≠ b → (TX2 a).2.1 ≠ (TX2 b).2.1 := by decide +kernel
theorem tyX2_ok : ∀ k, k < 3 → parseFieldDescriptor (TX2 k).2.2.1 = some (tyX2 k) := by decide +kernel
abbrev cX2_init : ByteArray := prog_4_method_1_code
def yX2_init : MethodName := ⟨RX2, "<init>", "(LPouredForLeaving$Afternoon;LPouredForLeaving$Afternoon;)V"⟩
abbrev cX2_fewestCups : ByteArray := prog_4_method_2_code
def yX2_fewestCups : MethodName := ⟨RX2, "fewestCups", "(I)I"⟩
abbrev cX2_soonestRule : ByteArray := prog_4_method_3_code
def yX2_soonestRule : MethodName := ⟨RX2, "soonestRule", "()I"⟩
abbrev cX2_mostPouredRule : ByteArray := prog_4_method_4_code
def yX2_mostPouredRule : MethodName := ⟨RX2, "mostPouredRule", "()I"⟩
abbrev cX2_soonestRising : ByteArray := prog_4_method_5_code
def yX2_soonestRising : MethodName := ⟨RX2, "soonestRising", "(I)I"⟩
abbrev cX2_soonestRiseOf : ByteArray := prog_4_method_6_code
def yX2_soonestRiseOf : MethodName := ⟨RX2, "soonestRiseOf", "(II)I"⟩
abbrev cX2_whenGoneRisingBehind : ByteArray := prog_4_method_7_code
def yX2_whenGoneRisingBehind : MethodName := ⟨RX2, "whenGoneRisingBehind", "(II)I"⟩
abbrev cX2_noteLeaving : ByteArray := prog_4_method_8_code
def yX2_noteLeaving : MethodName := ⟨RX2, "noteLeaving", "(I)V"⟩
abbrev cX2_placeOf : ByteArray := prog_4_method_9_code
def yX2_placeOf : MethodName := ⟨RX2, "placeOf", "(II)I"⟩
abbrev cX2_isAtRest : ByteArray := prog_4_method_10_code
def yX2_isAtRest : MethodName := ⟨RX2, "isAtRest", "(II)Z"⟩
abbrev cX2_balanceOf : ByteArray := prog_4_method_11_code
def yX2_balanceOf : MethodName := ⟨RX2, "balanceOf", "(II)I"⟩
abbrev cX2_setOfPair : ByteArray := prog_4_method_12_code
def yX2_setOfPair : MethodName := ⟨RX2, "setOfPair", "(III)I"⟩
abbrev cX2_atRest : ByteArray := prog_4_method_13_code
def yX2_atRest : MethodName := ⟨RX2, "atRest", "(I)I"⟩
abbrev cX2_gainWithout : ByteArray := prog_4_method_14_code
def yX2_gainWithout : MethodName := ⟨RX2, "gainWithout", "(I)I"⟩
abbrev cX2_gainWithCray : ByteArray := prog_4_method_15_code
def yX2_gainWithCray : MethodName := ⟨RX2, "gainWithCray", "(I)I"⟩
abbrev cX2_whenOthersGone : ByteArray := prog_4_method_16_code
def yX2_whenOthersGone : MethodName := ⟨RX2, "whenOthersGone", "(I)I"⟩
abbrev cX2_soonestCaller : ByteArray := prog_4_method_17_code
def yX2_soonestCaller : MethodName := ⟨RX2, "soonestCaller", "(I)I"⟩
abbrev cX2_soonestAs : ByteArray := prog_4_method_18_code
def yX2_soonestAs : MethodName := ⟨RX2, "soonestAs", "(III)I"⟩
abbrev cX2_leastThirst : ByteArray := prog_4_method_19_code
def yX2_leastThirst : MethodName := ⟨RX2, "leastThirst", "(I)I"⟩
def RX3 : String := "PouredForLeaving$Fractions"
def TX3 : u_T := fun k => match k with
  | _ => ("", "", "", false)
def tyX3 : Nat → FieldType := fun k => match k with
  | _ => .int
abbrev wsX30 : List Cond := u_ws RX3 TX3 0
theorem nmX3 : ∀ a, a < 0 → ∀ b, b < 0 → a ≠ b → (TX3 a).2.1 ≠ (TX3 b).2.1 := by decide +kernel
theorem tyX3_ok : ∀ k, k < 0 → parseFieldDescriptor (TX3 k).2.2.1 = some (tyX3 k) := by decide +kernel
abbrev cX3_part : ByteArray := prog_5_method_2_code
def yX3_part : MethodName := ⟨RX3, "part", "(JJI)J"⟩
abbrev cX3_commonDivisor : ByteArray := prog_5_method_3_code
def yX3_commonDivisor : MethodName := ⟨RX3, "commonDivisor", "(JJ)J"⟩
def RX4 : String := "PouredForLeaving$Guesses"
def TX4 : u_T := fun k => match k with
  | 0 => ("PouredForLeaving$Guesses", "now", "LPouredForLeaving$Afternoon;", true)
  | 1 => ("PouredForLeaving$Guesses", "then", "LPouredForLeaving$Afternoon;", true)
  | _ => ("PouredForLeaving$Guesses", "seen", "[I", true)
def tyX4 : Nat → FieldType := fun k => match k with
  | 0 => .object "PouredForLeaving$Afternoon"
  | 1 => .object "PouredForLeaving$Afternoon"
  | _ => .array .int
abbrev wsX40 : List Cond := u_ws RX4 TX4 3
theorem nmX4 : ∀ a, a < 3 → ∀ b, b < 3 → a ≠ b → (TX4 a).2.1 ≠ (TX4 b).2.1 := by decide +kernel
theorem tyX4_ok : ∀ k, k < 3 → parseFieldDescriptor (TX4 k).2.2.1 = some (tyX4 k) := by decide +kernel
abbrev cX4_init : ByteArray := prog_6_method_1_code
def yX4_init : MethodName := ⟨RX4, "<init>", "(LPouredForLeaving$Afternoon;LPouredForLeaving$Afternoon;)V"⟩
abbrev cX4_fitting : ByteArray := prog_6_method_2_code
def yX4_fitting : MethodName := ⟨RX4, "fitting", "(IILPouredForLeaving$Numbers;)I"⟩
abbrev cX4_goesAsTold : ByteArray := prog_6_method_3_code
def yX4_goesAsTold : MethodName := ⟨RX4, "goesAsTold", "(ILPouredForLeaving$Numbers;)Z"⟩
abbrev cX4_mostUnlike : ByteArray := prog_6_method_4_code
def yX4_mostUnlike : MethodName := ⟨RX4, "mostUnlike", "(II)I"⟩
abbrev cX4_noteStates : ByteArray := prog_6_method_5_code
def yX4_noteStates : MethodName := ⟨RX4, "noteStates", "(II)V"⟩
abbrev cX4_likelyServed : ByteArray := prog_6_method_6_code
def yX4_likelyServed : MethodName := ⟨RX4, "likelyServed", "(IIII)J"⟩
abbrev cX4_passAway : ByteArray := prog_6_method_7_code
def yX4_passAway : MethodName := ⟨RX4, "passAway", "(III)J"⟩
abbrev cX4_firstWrongThirst : ByteArray := prog_6_method_8_code
def yX4_firstWrongThirst : MethodName := ⟨RX4, "firstWrongThirst", "(ILPouredForLeaving$Numbers;)I"⟩
abbrev cX4_drawn : ByteArray := prog_6_method_9_code
def yX4_drawn : MethodName := ⟨RX4, "drawn", "(III)I"⟩
def RX5 : String := "PouredForLeaving$Kinds"
def TX5 : u_T := fun k => match k with
  | _ => ("", "", "", false)
def tyX5 : Nat → FieldType := fun k => match k with
  | _ => .int
abbrev wsX50 : List Cond := u_ws RX5 TX5 0
theorem nmX5 : ∀ a, a < 0 → ∀ b, b < 0 → a ≠ b → (TX5 a).2.1 ≠ (TX5 b).2.1 := by decide +kernel
theorem tyX5_ok : ∀ k, k < 0 → parseFieldDescriptor (TX5 k).2.2.1 = some (tyX5 k) := by decide +kernel
abbrev cX5_limit : ByteArray := prog_7_method_2_code
def yX5_limit : MethodName := ⟨RX5, "limit", "(II)I"⟩
abbrev cX5_patience : ByteArray := prog_7_method_3_code
def yX5_patience : MethodName := ⟨RX5, "patience", "(II)I"⟩
abbrev cX5_sip : ByteArray := prog_7_method_4_code
def yX5_sip : MethodName := ⟨RX5, "sip", "(I)I"⟩
abbrev cX5_enough : ByteArray := prog_7_method_5_code
def yX5_enough : MethodName := ⟨RX5, "enough", "(II)I"⟩
def RX6 : String := "PouredForLeaving$Numbers"
def TX6 : u_T := fun k => match k with
  | 0 => ("PouredForLeaving$Numbers", "numbers", "[I", true)
  | _ => ("PouredForLeaving$Numbers", "size", "I", false)
def tyX6 : Nat → FieldType := fun k => match k with
  | 0 => .array .int
  | _ => .int
abbrev wsX60 : List Cond := u_ws RX6 TX6 2
theorem nmX6 : ∀ a, a < 2 → ∀ b, b < 2 → a ≠ b → (TX6 a).2.1 ≠ (TX6 b).2.1 := by decide +kernel
theorem tyX6_ok : ∀ k, k < 2 → parseFieldDescriptor (TX6 k).2.2.1 = some (tyX6 k) := by decide +kernel
abbrev cX6_init : ByteArray := prog_8_method_1_code
def yX6_init : MethodName := ⟨RX6, "<init>", "(I)V"⟩
abbrev cX6_isFull : ByteArray := prog_8_method_2_code
def yX6_isFull : MethodName := ⟨RX6, "isFull", "()Z"⟩
abbrev cX6_add : ByteArray := prog_8_method_3_code
def yX6_add : MethodName := ⟨RX6, "add", "(I)I"⟩
abbrev cX6_at : ByteArray := prog_8_method_4_code
def yX6_at : MethodName := ⟨RX6, "at", "(I)I"⟩
abbrev cX6_empty : ByteArray := prog_8_method_5_code
def yX6_empty : MethodName := ⟨RX6, "empty", "()V"⟩
def RX7 : String := "PouredForLeaving$Outlook"
def TX7 : u_T := fun k => match k with
  | 0 => ("PouredForLeaving$Outlook", "now", "LPouredForLeaving$Afternoon;", true)
  | _ => ("PouredForLeaving$Outlook", "then", "LPouredForLeaving$Afternoon;", true)
def tyX7 : Nat → FieldType := fun k => match k with
  | 0 => .object "PouredForLeaving$Afternoon"
  | _ => .object "PouredForLeaving$Afternoon"
abbrev wsX70 : List Cond := u_ws RX7 TX7 2
theorem nmX7 : ∀ a, a < 2 → ∀ b, b < 2 → a ≠ b → (TX7 a).2.1 ≠ (TX7 b).2.1 := by decide +kernel
theorem tyX7_ok : ∀ k, k < 2 → parseFieldDescriptor (TX7 k).2.2.1 = some (tyX7 k) := by decide +kernel
abbrev cX7_init : ByteArray := prog_9_method_1_code
def yX7_init : MethodName := ⟨RX7, "<init>", "(LPouredForLeaving$Afternoon;LPouredForLeaving$Afternoon;)V"⟩
abbrev cX7_lookOn : ByteArray := prog_9_method_2_code
def yX7_lookOn : MethodName := ⟨RX7, "lookOn", "(I)V"⟩
abbrev cX7_ofOne : ByteArray := prog_9_method_3_code
def yX7_ofOne : MethodName := ⟨RX7, "ofOne", "(III)I"⟩
abbrev cX7_ofAll : ByteArray := prog_9_method_4_code
def yX7_ofAll : MethodName := ⟨RX7, "ofAll", "(II)I"⟩
abbrev cX7_whenGone : ByteArray := prog_9_method_5_code
def yX7_whenGone : MethodName := ⟨RX7, "whenGone", "(I)I"⟩
abbrev cX7_whenAllGone : ByteArray := prog_9_method_6_code
def yX7_whenAllGone : MethodName := ⟨RX7, "whenAllGone", "()I"⟩
abbrev cX7_firstGone : ByteArray := prog_9_method_7_code
def yX7_firstGone : MethodName := ⟨RX7, "firstGone", "()I"⟩
abbrev cX7_whenDrinking : ByteArray := prog_9_method_8_code
def yX7_whenDrinking : MethodName := ⟨RX7, "whenDrinking", "(I)I"⟩
abbrev cX7_neverServed : ByteArray := prog_9_method_9_code
def yX7_neverServed : MethodName := ⟨RX7, "neverServed", "()I"⟩
abbrev cX7_staying : ByteArray := prog_9_method_10_code
def yX7_staying : MethodName := ⟨RX7, "staying", "()I"⟩
abbrev cX7_servedAs : ByteArray := prog_9_method_11_code
def yX7_servedAs : MethodName := ⟨RX7, "servedAs", "(I)I"⟩
abbrev cX7_mostStanding : ByteArray := prog_9_method_12_code
def yX7_mostStanding : MethodName := ⟨RX7, "mostStanding", "(II)I"⟩
abbrev cX7_isStuck : ByteArray := prog_9_method_13_code
def yX7_isStuck : MethodName := ⟨RX7, "isStuck", "()Z"⟩
abbrev cX7_longestStanding : ByteArray := prog_9_method_14_code
def yX7_longestStanding : MethodName := ⟨RX7, "longestStanding", "(II)I"⟩
abbrev cX7_minutesStoodBy : ByteArray := prog_9_method_15_code
def yX7_minutesStoodBy : MethodName := ⟨RX7, "minutesStoodBy", "(II)I"⟩
abbrev cX7_leaverAt : ByteArray := prog_9_method_16_code
def yX7_leaverAt : MethodName := ⟨RX7, "leaverAt", "(I)I"⟩
abbrev cX7_minutesStood : ByteArray := prog_9_method_17_code
def yX7_minutesStood : MethodName := ⟨RX7, "minutesStood", "(I)I"⟩
abbrev cX7_cupsIdle : ByteArray := prog_9_method_18_code
def yX7_cupsIdle : MethodName := ⟨RX7, "cupsIdle", "(I)I"⟩
abbrev cX7_goneWithoutTea : ByteArray := prog_9_method_19_code
def yX7_goneWithoutTea : MethodName := ⟨RX7, "goneWithoutTea", "(I)I"⟩
abbrev cX7_bothDrinking : ByteArray := prog_9_method_20_code
def yX7_bothDrinking : MethodName := ⟨RX7, "bothDrinking", "(III)I"⟩
abbrev cX7_meanOfLeaving : ByteArray := prog_9_method_21_code
def yX7_meanOfLeaving : MethodName := ⟨RX7, "meanOfLeaving", "(I)J"⟩
def RX8 : String := "PouredForLeaving$Telling"
def TX8 : u_T := fun k => match k with
  | _ => ("", "", "", false)
def tyX8 : Nat → FieldType := fun k => match k with
  | _ => .int
abbrev wsX80 : List Cond := u_ws RX8 TX8 0
theorem nmX8 : ∀ a, a < 0 → ∀ b, b < 0 → a ≠ b → (TX8 a).2.1 ≠ (TX8 b).2.1 := by decide +kernel
theorem tyX8_ok : ∀ k, k < 0 → parseFieldDescriptor (TX8 k).2.2.1 = some (tyX8 k) := by decide +kernel
abbrev cX8_follow : ByteArray := prog_10_method_2_code
def yX8_follow : MethodName := ⟨RX8, "follow", "(LPouredForLeaving$Numbers;LPouredForLeaving$Afternoon;LPouredForLeaving$Afternoon;)I"⟩
abbrev cX8_placeOfWrongLetter : ByteArray := prog_10_method_3_code
def yX8_placeOfWrongLetter : MethodName := ⟨RX8, "placeOfWrongLetter", "(LPouredForLeaving$Numbers;)I"⟩
abbrev cX8_placeOfWrongLetterFrom : ByteArray := prog_10_method_4_code
def yX8_placeOfWrongLetterFrom : MethodName := ⟨RX8, "placeOfWrongLetterFrom", "(LPouredForLeaving$Numbers;I)I"⟩
abbrev cX8_lengthOf : ByteArray := prog_10_method_5_code
def yX8_lengthOf : MethodName := ⟨RX8, "lengthOf", "(I)I"⟩
abbrev cX8_isDigit : ByteArray := prog_10_method_6_code
def yX8_isDigit : MethodName := ⟨RX8, "isDigit", "(I)Z"⟩
abbrev cX8_digitAt : ByteArray := prog_10_method_7_code
def yX8_digitAt : MethodName := ⟨RX8, "digitAt", "(LPouredForLeaving$Numbers;I)I"⟩
abbrev cX8_twoDigitsAt : ByteArray := prog_10_method_8_code
def yX8_twoDigitsAt : MethodName := ⟨RX8, "twoDigitsAt", "(LPouredForLeaving$Numbers;I)I"⟩
abbrev cX8_comesTrue : ByteArray := prog_10_method_9_code
def yX8_comesTrue : MethodName := ⟨RX8, "comesTrue", "(LPouredForLeaving$Numbers;ILPouredForLeaving$Afternoon;)Z"⟩
abbrev cX8_guestComes : ByteArray := prog_10_method_10_code
def yX8_guestComes : MethodName := ⟨RX8, "guestComes", "(LPouredForLeaving$Numbers;ILPouredForLeaving$Afternoon;)Z"⟩
def RX9 : String := "PouredForLeaving"
def TX9 : u_T := fun k => match k with
  | 0 => ("PouredForLeaving", "now", "LPouredForLeaving$Afternoon;", true)
  | 1 => ("PouredForLeaving", "then", "LPouredForLeaving$Afternoon;", true)
  | 2 => ("PouredForLeaving", "picture", "LPouredForLeaving$Afternoon;", true)
  | 3 => ("PouredForLeaving", "letters", "LPouredForLeaving$Numbers;", true)
  | 4 => ("PouredForLeaving", "told", "LPouredForLeaving$Numbers;", true)
  | 5 => ("PouredForLeaving", "changes", "LPouredForLeaving$Changes;", true)
  | 6 => ("PouredForLeaving", "outlook", "LPouredForLeaving$Outlook;", true)
  | 7 => ("PouredForLeaving", "choices", "LPouredForLeaving$Choices;", true)
  | 8 => ("PouredForLeaving", "guesses", "LPouredForLeaving$Guesses;", true)
  | 9 => ("PouredForLeaving", "refusals", "[I", true)
  | _ => ("PouredForLeaving", "pictured", "Z", false)
def tyX9 : Nat → FieldType := fun k => match k with
  | 0 => .object "PouredForLeaving$Afternoon"
  | 1 => .object "PouredForLeaving$Afternoon"
  | 2 => .object "PouredForLeaving$Afternoon"
  | 3 => .object "PouredForLeaving$Numbers"
  | 4 => .object "PouredForLeaving$Numbers"
  | 5 => .object "PouredForLeaving$Changes"
  | 6 => .object "PouredForLeaving$Outlook"
  | 7 => .object "PouredForLeaving$Choices"
  | 8 => .object "PouredForLeaving$Guesses"
  | 9 => .array .int
  | _ => .boolean
abbrev wsX90 : List Cond := u_ws RX9 TX9 11
theorem nmX9 : ∀ a, a < 11 → ∀ b, b < 11 → a ≠ b → (TX9 a).2.1 ≠ (TX9 b).2.1 := by decide +kernel
theorem tyX9_ok : ∀ k, k < 11 → parseFieldDescriptor (TX9 k).2.2.1 = some (tyX9 k) := by decide +kernel
abbrev cX9_init : ByteArray := prog_1_method_1_code
def yX9_init : MethodName := ⟨RX9, "<init>", "()V"⟩
abbrev cX9_feed : ByteArray := prog_1_method_2_code
def yX9_feed : MethodName := ⟨RX9, "feed", "(I)I"⟩
abbrev cX9_house : ByteArray := prog_1_method_3_code
def yX9_house : MethodName := ⟨RX9, "house", "()I"⟩
abbrev cX9_guestOf : ByteArray := prog_1_method_4_code
def yX9_guestOf : MethodName := ⟨RX9, "guestOf", "(II)I"⟩
abbrev cX9_guest : ByteArray := prog_1_method_5_code
def yX9_guest : MethodName := ⟨RX9, "guest", "(III)I"⟩
abbrev cX9_rises : ByteArray := prog_1_method_6_code
def yX9_rises : MethodName := ⟨RX9, "rises", "(I)I"⟩
abbrev cX9_slips : ByteArray := prog_1_method_7_code
def yX9_slips : MethodName := ⟨RX9, "slips", "(I)I"⟩
abbrev cX9_cups : ByteArray := prog_1_method_8_code
def yX9_cups : MethodName := ⟨RX9, "cups", "(I)I"⟩
abbrev cX9_rule : ByteArray := prog_1_method_9_code
def yX9_rule : MethodName := ⟨RX9, "rule", "(I)I"⟩
abbrev cX9_minutes : ByteArray := prog_1_method_10_code
def yX9_minutes : MethodName := ⟨RX9, "minutes", "(I)I"⟩
abbrev cX9_back : ByteArray := prog_1_method_11_code
def yX9_back : MethodName := ⟨RX9, "back", "()I"⟩
abbrev cX9_behind : ByteArray := prog_1_method_12_code
def yX9_behind : MethodName := ⟨RX9, "behind", "(III)I"⟩
abbrev cX9_all : ByteArray := prog_1_method_13_code
def yX9_all : MethodName := ⟨RX9, "all", "(II)I"⟩
abbrev cX9_leaves : ByteArray := prog_1_method_14_code
def yX9_leaves : MethodName := ⟨RX9, "leaves", "(I)I"⟩
abbrev cX9_gone : ByteArray := prog_1_method_15_code
def yX9_gone : MethodName := ⟨RX9, "gone", "(I)I"⟩
abbrev cX9_tastes : ByteArray := prog_1_method_16_code
def yX9_tastes : MethodName := ⟨RX9, "tastes", "(I)I"⟩
abbrev cX9_thirsty : ByteArray := prog_1_method_17_code
def yX9_thirsty : MethodName := ⟨RX9, "thirsty", "(I)I"⟩
abbrev cX9_cupsWanted : ByteArray := prog_1_method_18_code
def yX9_cupsWanted : MethodName := ⟨RX9, "cupsWanted", "(I)I"⟩
abbrev cX9_bestRule : ByteArray := prog_1_method_19_code
def yX9_bestRule : MethodName := ⟨RX9, "bestRule", "(I)I"⟩
abbrev cX9_rising : ByteArray := prog_1_method_20_code
def yX9_rising : MethodName := ⟨RX9, "rising", "(I)I"⟩
abbrev cX9_bestRise : ByteArray := prog_1_method_21_code
def yX9_bestRise : MethodName := ⟨RX9, "bestRise", "(II)I"⟩
abbrev cX9_two : ByteArray := prog_1_method_22_code
def yX9_two : MethodName := ⟨RX9, "two", "(II)I"⟩
abbrev cX9_rest : ByteArray := prog_1_method_23_code
def yX9_rest : MethodName := ⟨RX9, "rest", "(I)I"⟩
abbrev cX9_garden : ByteArray := prog_1_method_24_code
def yX9_garden : MethodName := ⟨RX9, "garden", "(I)I"⟩
abbrev cX9_served : ByteArray := prog_1_method_25_code
def yX9_served : MethodName := ⟨RX9, "served", "(I)I"⟩
abbrev cX9_who : ByteArray := prog_1_method_26_code
def yX9_who : MethodName := ⟨RX9, "who", "(II)I"⟩
abbrev cX9_look : ByteArray := prog_1_method_27_code
def yX9_look : MethodName := ⟨RX9, "look", "(II)I"⟩
abbrev cX9_away : ByteArray := prog_1_method_28_code
def yX9_away : MethodName := ⟨RX9, "away", "(IIII)J"⟩
abbrev cX9_crowd : ByteArray := prog_1_method_29_code
def yX9_crowd : MethodName := ⟨RX9, "crowd", "(II)I"⟩
abbrev cX9_caller : ByteArray := prog_1_method_30_code
def yX9_caller : MethodName := ⟨RX9, "caller", "(I)I"⟩
abbrev cX9_stuck : ByteArray := prog_1_method_31_code
def yX9_stuck : MethodName := ⟨RX9, "stuck", "()I"⟩
abbrev cX9_longest : ByteArray := prog_1_method_32_code
def yX9_longest : MethodName := ⟨RX9, "longest", "(II)I"⟩
abbrev cX9_leaver : ByteArray := prog_1_method_33_code
def yX9_leaver : MethodName := ⟨RX9, "leaver", "(I)I"⟩
abbrev cX9_waited : ByteArray := prog_1_method_34_code
def yX9_waited : MethodName := ⟨RX9, "waited", "(II)I"⟩
abbrev cX9_bestOf : ByteArray := prog_1_method_35_code
def yX9_bestOf : MethodName := ⟨RX9, "bestOf", "(II)I"⟩
abbrev cX9_kept : ByteArray := prog_1_method_36_code
def yX9_kept : MethodName := ⟨RX9, "kept", "(I)I"⟩
abbrev cX9_dry : ByteArray := prog_1_method_37_code
def yX9_dry : MethodName := ⟨RX9, "dry", "(I)I"⟩
abbrev cX9_company : ByteArray := prog_1_method_38_code
def yX9_company : MethodName := ⟨RX9, "company", "(III)I"⟩
abbrev cX9_mean : ByteArray := prog_1_method_39_code
def yX9_mean : MethodName := ⟨RX9, "mean", "(I)J"⟩
abbrev cX9_hostess : ByteArray := prog_1_method_40_code
def yX9_hostess : MethodName := ⟨RX9, "hostess", "(I)I"⟩
abbrev cX9_row : ByteArray := prog_1_method_41_code
def yX9_row : MethodName := ⟨RX9, "row", "(I)I"⟩
abbrev cX9_judge : ByteArray := prog_1_method_42_code
def yX9_judge : MethodName := ⟨RX9, "judge", "(I)I"⟩
abbrev cX9_clear : ByteArray := prog_1_method_43_code
def yX9_clear : MethodName := ⟨RX9, "clear", "()I"⟩
abbrev cX9_lots : ByteArray := prog_1_method_44_code
def yX9_lots : MethodName := ⟨RX9, "lots", "(III)I"⟩
abbrev cX9_image : ByteArray := prog_1_method_45_code
def yX9_image : MethodName := ⟨RX9, "image", "()I"⟩
abbrev cX9_restore : ByteArray := prog_1_method_46_code
def yX9_restore : MethodName := ⟨RX9, "restore", "()I"⟩
abbrev cX9_count : ByteArray := prog_1_method_47_code
def yX9_count : MethodName := ⟨RX9, "count", "(I)I"⟩
abbrev cX9_refuse : ByteArray := prog_1_method_48_code
def yX9_refuse : MethodName := ⟨RX9, "refuse", "(I)I"⟩
abbrev cX9_refuseLoudly : ByteArray := prog_1_method_49_code
def yX9_refuseLoudly : MethodName := ⟨RX9, "refuseLoudly", "(I)I"⟩
abbrev cX9_refuseLong : ByteArray := prog_1_method_50_code
def yX9_refuseLong : MethodName := ⟨RX9, "refuseLong", "(I)J"⟩
abbrev cX9_isOther : ByteArray := prog_1_method_51_code
def yX9_isOther : MethodName := ⟨RX9, "isOther", "(II)Z"⟩
abbrev cX9_whyNotFar : ByteArray := prog_1_method_52_code
def yX9_whyNotFar : MethodName := ⟨RX9, "whyNotFar", "(I)I"⟩
abbrev cX9_whyNotFar_ : ByteArray := prog_1_method_53_code
def yX9_whyNotFar_ : MethodName := ⟨RX9, "whyNotFar", "(III)I"⟩
abbrev cX9_noneIfNever : ByteArray := prog_1_method_54_code
def yX9_noneIfNever : MethodName := ⟨RX9, "noneIfNever", "(I)I"⟩
def RX10 : String := "PouredForLeavingModel"
def TX10 : u_T := fun k => match k with
  | 0 => ("PouredForLeavingModel", "refused", "[I", true)
  | 1 => ("PouredForLeavingModel", "kind", "[I", true)
  | 2 => ("PouredForLeavingModel", "figure", "[I", true)
  | 3 => ("PouredForLeavingModel", "thirst", "[I", true)
  | 4 => ("PouredForLeavingModel", "state", "[I", true)
  | 5 => ("PouredForLeavingModel", "stood", "[I", true)
  | 6 => ("PouredForLeavingModel", "had", "[I", true)
  | 7 => ("PouredForLeavingModel", "guests", "I", false)
  | 8 => ("PouredForLeavingModel", "cups", "I", false)
  | 9 => ("PouredForLeavingModel", "rule", "I", false)
  | 10 => ("PouredForLeavingModel", "minute", "I", false)
  | 11 => ("PouredForLeavingModel", "poured", "I", false)
  | 12 => ("PouredForLeavingModel", "tape", "[I", true)
  | 13 => ("PouredForLeavingModel", "letter", "[I", true)
  | 14 => ("PouredForLeavingModel", "letterAt", "[I", true)
  | 15 => ("PouredForLeavingModel", "told", "[I", true)
  | 16 => ("PouredForLeavingModel", "taped", "I", false)
  | 17 => ("PouredForLeavingModel", "at", "I", false)
  | 18 => ("PouredForLeavingModel", "statements", "I", false)
  | 19 => ("PouredForLeavingModel", "kept", "[I", true)
  | 20 => ("PouredForLeavingModel", "hasImage", "Z", false)
  | 21 => ("PouredForLeavingModel", "isKeeping", "Z", false)
  | 22 => ("PouredForLeavingModel", "cursor", "I", false)
  | 23 => ("PouredForLeavingModel", "backs", "I", false)
  | 24 => ("PouredForLeavingModel", "servedRow", "[I", true)
  | 25 => ("PouredForLeavingModel", "servedMany", "I", false)
  | 26 => ("PouredForLeavingModel", "row", "[I", true)
  | 27 => ("PouredForLeavingModel", "rowMany", "I", false)
  | 28 => ("PouredForLeavingModel", "statesAt", "[I", true)
  | _ => ("PouredForLeavingModel", "standing", "[I", true)
def tyX10 : Nat → FieldType := fun k => match k with
  | 0 => .array .int
  | 1 => .array .int
  | 2 => .array .int
  | 3 => .array .int
  | 4 => .array .int
  | 5 => .array .int
  | 6 => .array .int
  | 7 => .int
  | 8 => .int
  | 9 => .int
  | 10 => .int
  | 11 => .int
  | 12 => .array .int
  | 13 => .array .int
  | 14 => .array .int
  | 15 => .array .int
  | 16 => .int
  | 17 => .int
  | 18 => .int
  | 19 => .array .int
  | 20 => .boolean
  | 21 => .boolean
  | 22 => .int
  | 23 => .int
  | 24 => .array .int
  | 25 => .int
  | 26 => .array .int
  | 27 => .int
  | 28 => .array .int
  | _ => .array .int
abbrev wsX100 : List Cond := u_ws RX10 TX10 30
theorem nmX10 : ∀ a, a < 30 → ∀ b, b < 30 → a ≠ b → (TX10 a).2.1 ≠ (TX10 b).2.1 := by decide +kernel
theorem tyX10_ok : ∀ k, k < 30 → parseFieldDescriptor (TX10 k).2.2.1 = some (tyX10 k) := by decide +kernel
abbrev cX10_init : ByteArray := prog_12_method_1_code
def yX10_init : MethodName := ⟨RX10, "<init>", "()V"⟩
abbrev cX10_no : ByteArray := prog_12_method_2_code
def yX10_no : MethodName := ⟨RX10, "no", "(I)I"⟩
abbrev cX10_lower : ByteArray := prog_12_method_3_code
def yX10_lower : MethodName := ⟨RX10, "lower", "(I)I"⟩
abbrev cX10_lowest : ByteArray := prog_12_method_4_code
def yX10_lowest : MethodName := ⟨RX10, "lowest", "(I)J"⟩
abbrev cX10_isIn : ByteArray := prog_12_method_5_code
def yX10_isIn : MethodName := ⟨RX10, "isIn", "(III)Z"⟩
abbrev cX10_bound : ByteArray := prog_12_method_6_code
def yX10_bound : MethodName := ⟨RX10, "bound", "(III)I"⟩
abbrev cX10_has : ByteArray := prog_12_method_7_code
def yX10_has : MethodName := ⟨RX10, "has", "(II)Z"⟩
abbrev cX10_bits : ByteArray := prog_12_method_8_code
def yX10_bits : MethodName := ⟨RX10, "bits", "(I)I"⟩
abbrev cX10_isGuest : ByteArray := prog_12_method_9_code
def yX10_isGuest : MethodName := ⟨RX10, "isGuest", "(I)Z"⟩
abbrev cX10_feed : ByteArray := prog_12_method_10_code
def yX10_feed : MethodName := ⟨RX10, "feed", "(I)I"⟩
abbrev cX10_next : ByteArray := prog_12_method_11_code
def yX10_next : MethodName := ⟨RX10, "next", "()I"⟩
abbrev cX10_readsDigits : ByteArray := prog_12_method_12_code
def yX10_readsDigits : MethodName := ⟨RX10, "readsDigits", "(II)Z"⟩
abbrev cX10_statement : ByteArray := prog_12_method_13_code
def yX10_statement : MethodName := ⟨RX10, "statement", "()Z"⟩
abbrev cX10_comesGuest : ByteArray := prog_12_method_14_code
def yX10_comesGuest : MethodName := ⟨RX10, "comesGuest", "(III)Z"⟩
abbrev cX10_comesCups : ByteArray := prog_12_method_15_code
def yX10_comesCups : MethodName := ⟨RX10, "comesCups", "(I)Z"⟩
abbrev cX10_comesMinutes : ByteArray := prog_12_method_16_code
def yX10_comesMinutes : MethodName := ⟨RX10, "comesMinutes", "(I)Z"⟩
abbrev cX10_comesTo : ByteArray := prog_12_method_17_code
def yX10_comesTo : MethodName := ⟨RX10, "comesTo", "(II)Z"⟩
abbrev cX10_comes : ByteArray := prog_12_method_18_code
def yX10_comes : MethodName := ⟨RX10, "comes", "(I)Z"⟩
abbrev cX10_house : ByteArray := prog_12_method_19_code
def yX10_house : MethodName := ⟨RX10, "house", "()I"⟩
abbrev cX10_passes : ByteArray := prog_12_method_20_code
def yX10_passes : MethodName := ⟨RX10, "passes", "([I)V"⟩
abbrev cX10_passOne : ByteArray := prog_12_method_21_code
def yX10_passOne : MethodName := ⟨RX10, "passOne", "(I)I"⟩
abbrev cX10_passesAll : ByteArray := prog_12_method_22_code
def yX10_passesAll : MethodName := ⟨RX10, "passesAll", "(IZ)V"⟩
abbrev cX10_thinks : ByteArray := prog_12_method_23_code
def yX10_thinks : MethodName := ⟨RX10, "thinks", "()V"⟩
abbrev cX10_forgets : ByteArray := prog_12_method_24_code
def yX10_forgets : MethodName := ⟨RX10, "forgets", "()V"⟩
abbrev cX10_keepsBack : ByteArray := prog_12_method_25_code
def yX10_keepsBack : MethodName := ⟨RX10, "keepsBack", "()V"⟩
abbrev cX10_back : ByteArray := prog_12_method_26_code
def yX10_back : MethodName := ⟨RX10, "back", "()I"⟩
abbrev cX10_image : ByteArray := prog_12_method_27_code
def yX10_image : MethodName := ⟨RX10, "image", "()I"⟩
abbrev cX10_restore : ByteArray := prog_12_method_28_code
def yX10_restore : MethodName := ⟨RX10, "restore", "()I"⟩
abbrev cX10_adds : ByteArray := prog_12_method_29_code
def yX10_adds : MethodName := ⟨RX10, "adds", "(III)V"⟩
abbrev cX10_limitOf : ByteArray := prog_12_method_30_code
def yX10_limitOf : MethodName := ⟨RX10, "limitOf", "(I)I"⟩
abbrev cX10_patienceOf : ByteArray := prog_12_method_31_code
def yX10_patienceOf : MethodName := ⟨RX10, "patienceOf", "(I)I"⟩
abbrev cX10_sipOf : ByteArray := prog_12_method_32_code
def yX10_sipOf : MethodName := ⟨RX10, "sipOf", "(I)I"⟩
abbrev cX10_enoughOf : ByteArray := prog_12_method_33_code
def yX10_enoughOf : MethodName := ⟨RX10, "enoughOf", "(I)I"⟩
abbrev cX10_manyIn : ByteArray := prog_12_method_34_code
def yX10_manyIn : MethodName := ⟨RX10, "manyIn", "(I)I"⟩
abbrev cX10_standsUp : ByteArray := prog_12_method_35_code
def yX10_standsUp : MethodName := ⟨RX10, "standsUp", "(I)V"⟩
abbrev cX10_drinksOn : ByteArray := prog_12_method_36_code
def yX10_drinksOn : MethodName := ⟨RX10, "drinksOn", "(I)V"⟩
abbrev cX10_goesOne : ByteArray := prog_12_method_37_code
def yX10_goesOne : MethodName := ⟨RX10, "goesOne", "(I)V"⟩
abbrev cX10_isAhead : ByteArray := prog_12_method_38_code
def yX10_isAhead : MethodName := ⟨RX10, "isAhead", "(II)Z"⟩
abbrev cX10_nextServed : ByteArray := prog_12_method_39_code
def yX10_nextServed : MethodName := ⟨RX10, "nextServed", "()I"⟩
abbrev cX10_pours : ByteArray := prog_12_method_40_code
def yX10_pours : MethodName := ⟨RX10, "pours", "()V"⟩
abbrev cX10_goesMinute : ByteArray := prog_12_method_41_code
def yX10_goesMinute : MethodName := ⟨RX10, "goesMinute", "(Z)V"⟩
abbrev cX10_goes : ByteArray := prog_12_method_42_code
def yX10_goes : MethodName := ⟨RX10, "goes", "(I)V"⟩
abbrev cX10_guestOf : ByteArray := prog_12_method_43_code
def yX10_guestOf : MethodName := ⟨RX10, "guestOf", "(II)I"⟩
abbrev cX10_guest : ByteArray := prog_12_method_44_code
def yX10_guest : MethodName := ⟨RX10, "guest", "(III)I"⟩
abbrev cX10_rises : ByteArray := prog_12_method_45_code
def yX10_rises : MethodName := ⟨RX10, "rises", "(I)I"⟩
abbrev cX10_slips : ByteArray := prog_12_method_46_code
def yX10_slips : MethodName := ⟨RX10, "slips", "(I)I"⟩
abbrev cX10_cups : ByteArray := prog_12_method_47_code
def yX10_cups : MethodName := ⟨RX10, "cups", "(I)I"⟩
abbrev cX10_rule : ByteArray := prog_12_method_48_code
def yX10_rule : MethodName := ⟨RX10, "rule", "(I)I"⟩
abbrev cX10_minutes : ByteArray := prog_12_method_49_code
def yX10_minutes : MethodName := ⟨RX10, "minutes", "(I)I"⟩
abbrev cX10_notMinutes : ByteArray := prog_12_method_50_code
def yX10_notMinutes : MethodName := ⟨RX10, "notMinutes", "(I)I"⟩
abbrev cX10_behind : ByteArray := prog_12_method_51_code
def yX10_behind : MethodName := ⟨RX10, "behind", "(III)I"⟩
abbrev cX10_allThirst : ByteArray := prog_12_method_52_code
def yX10_allThirst : MethodName := ⟨RX10, "allThirst", "()I"⟩
abbrev cX10_all : ByteArray := prog_12_method_53_code
def yX10_all : MethodName := ⟨RX10, "all", "(II)I"⟩
abbrev cX10_areGone : ByteArray := prog_12_method_54_code
def yX10_areGone : MethodName := ⟨RX10, "areGone", "(I)Z"⟩
abbrev cX10_goneBy : ByteArray := prog_12_method_55_code
def yX10_goneBy : MethodName := ⟨RX10, "goneBy", "(I)I"⟩
abbrev cX10_orNone : ByteArray := prog_12_method_56_code
def yX10_orNone : MethodName := ⟨RX10, "orNone", "(I)I"⟩
abbrev cX10_everybody : ByteArray := prog_12_method_57_code
def yX10_everybody : MethodName := ⟨RX10, "everybody", "()I"⟩
abbrev cX10_leaves : ByteArray := prog_12_method_58_code
def yX10_leaves : MethodName := ⟨RX10, "leaves", "(I)I"⟩
abbrev cX10_gone : ByteArray := prog_12_method_59_code
def yX10_gone : MethodName := ⟨RX10, "gone", "(I)I"⟩
abbrev cX10_tasteOf : ByteArray := prog_12_method_60_code
def yX10_tasteOf : MethodName := ⟨RX10, "tasteOf", "(I)I"⟩
abbrev cX10_tastes : ByteArray := prog_12_method_61_code
def yX10_tastes : MethodName := ⟨RX10, "tastes", "(I)I"⟩
abbrev cX10_thirsty : ByteArray := prog_12_method_62_code
def yX10_thirsty : MethodName := ⟨RX10, "thirsty", "(I)I"⟩
abbrev cX10_cupsWanted : ByteArray := prog_12_method_63_code
def yX10_cupsWanted : MethodName := ⟨RX10, "cupsWanted", "(I)I"⟩
abbrev cX10_pouredIn : ByteArray := prog_12_method_64_code
def yX10_pouredIn : MethodName := ⟨RX10, "pouredIn", "(I)I"⟩
abbrev cX10_bestRule : ByteArray := prog_12_method_65_code
def yX10_bestRule : MethodName := ⟨RX10, "bestRule", "(I)I"⟩
abbrev cX10_whoSit : ByteArray := prog_12_method_66_code
def yX10_whoSit : MethodName := ⟨RX10, "whoSit", "()I"⟩
abbrev cX10_goneRising : ByteArray := prog_12_method_67_code
def yX10_goneRising : MethodName := ⟨RX10, "goneRising", "(II)I"⟩
abbrev cX10_rising : ByteArray := prog_12_method_68_code
def yX10_rising : MethodName := ⟨RX10, "rising", "(I)I"⟩
abbrev cX10_goneRisingIn : ByteArray := prog_12_method_69_code
def yX10_goneRisingIn : MethodName := ⟨RX10, "goneRisingIn", "(II)I"⟩
abbrev cX10_bestRise : ByteArray := prog_12_method_70_code
def yX10_bestRise : MethodName := ⟨RX10, "bestRise", "(II)I"⟩
abbrev cX10_isSooner : ByteArray := prog_12_method_71_code
def yX10_isSooner : MethodName := ⟨RX10, "isSooner", "(III)Z"⟩
abbrev cX10_two : ByteArray := prog_12_method_72_code
def yX10_two : MethodName := ⟨RX10, "two", "(II)I"⟩
abbrev cX10_isAtRest : ByteArray := prog_12_method_73_code
def yX10_isAtRest : MethodName := ⟨RX10, "isAtRest", "(II)Z"⟩
abbrev cX10_rest : ByteArray := prog_12_method_74_code
def yX10_rest : MethodName := ⟨RX10, "rest", "(I)I"⟩
abbrev cX10_garden : ByteArray := prog_12_method_75_code
def yX10_garden : MethodName := ⟨RX10, "garden", "(I)I"⟩
abbrev cX10_served : ByteArray := prog_12_method_76_code
def yX10_served : MethodName := ⟨RX10, "served", "(I)I"⟩
abbrev cX10_isSo : ByteArray := prog_12_method_77_code
def yX10_isSo : MethodName := ⟨RX10, "isSo", "(I)Z"⟩
abbrev cX10_bitsFor : ByteArray := prog_12_method_78_code
def yX10_bitsFor : MethodName := ⟨RX10, "bitsFor", "([III)I"⟩
abbrev cX10_thirstsFor : ByteArray := prog_12_method_79_code
def yX10_thirstsFor : MethodName := ⟨RX10, "thirstsFor", "(I)I"⟩
abbrev cX10_who : ByteArray := prog_12_method_80_code
def yX10_who : MethodName := ⟨RX10, "who", "(II)I"⟩
abbrev cX10_look : ByteArray := prog_12_method_81_code
def yX10_look : MethodName := ⟨RX10, "look", "(II)I"⟩
abbrev cX10_divisor : ByteArray := prog_12_method_82_code
def yX10_divisor : MethodName := ⟨RX10, "divisor", "(JJ)J"⟩
abbrev cX10_away : ByteArray := prog_12_method_83_code
def yX10_away : MethodName := ⟨RX10, "away", "(IIII)J"⟩
abbrev cX10_crowd : ByteArray := prog_12_method_84_code
def yX10_crowd : MethodName := ⟨RX10, "crowd", "(II)I"⟩
abbrev cX10_goneAs : ByteArray := prog_12_method_85_code
def yX10_goneAs : MethodName := ⟨RX10, "goneAs", "(I)I"⟩
abbrev cX10_caller : ByteArray := prog_12_method_86_code
def yX10_caller : MethodName := ⟨RX10, "caller", "(I)I"⟩
abbrev cX10_stuck : ByteArray := prog_12_method_87_code
def yX10_stuck : MethodName := ⟨RX10, "stuck", "()I"⟩
abbrev cX10_longest : ByteArray := prog_12_method_88_code
def yX10_longest : MethodName := ⟨RX10, "longest", "(II)I"⟩
abbrev cX10_leaver : ByteArray := prog_12_method_89_code
def yX10_leaver : MethodName := ⟨RX10, "leaver", "(I)I"⟩
abbrev cX10_whoAre : ByteArray := prog_12_method_90_code
def yX10_whoAre : MethodName := ⟨RX10, "whoAre", "(I)I"⟩
abbrev cX10_waited : ByteArray := prog_12_method_91_code
def yX10_waited : MethodName := ⟨RX10, "waited", "(II)I"⟩
abbrev cX10_bestIn : ByteArray := prog_12_method_92_code
def yX10_bestIn : MethodName := ⟨RX10, "bestIn", "([III)I"⟩
abbrev cX10_bestOf : ByteArray := prog_12_method_93_code
def yX10_bestOf : MethodName := ⟨RX10, "bestOf", "(II)I"⟩
abbrev cX10_kept : ByteArray := prog_12_method_94_code
def yX10_kept : MethodName := ⟨RX10, "kept", "(I)I"⟩
abbrev cX10_dry : ByteArray := prog_12_method_95_code
def yX10_dry : MethodName := ⟨RX10, "dry", "(I)I"⟩
abbrev cX10_company : ByteArray := prog_12_method_96_code
def yX10_company : MethodName := ⟨RX10, "company", "(III)I"⟩
abbrev cX10_mean : ByteArray := prog_12_method_97_code
def yX10_mean : MethodName := ⟨RX10, "mean", "(I)J"⟩
abbrev cX10_thirstIn : ByteArray := prog_12_method_98_code
def yX10_thirstIn : MethodName := ⟨RX10, "thirstIn", "(I)I"⟩
abbrev cX10_hostess : ByteArray := prog_12_method_99_code
def yX10_hostess : MethodName := ⟨RX10, "hostess", "(I)I"⟩
abbrev cX10_row : ByteArray := prog_12_method_100_code
def yX10_row : MethodName := ⟨RX10, "row", "(I)I"⟩
abbrev cX10_judge : ByteArray := prog_12_method_101_code
def yX10_judge : MethodName := ⟨RX10, "judge", "(I)I"⟩
abbrev cX10_clear : ByteArray := prog_12_method_102_code
def yX10_clear : MethodName := ⟨RX10, "clear", "()I"⟩
abbrev cX10_lots : ByteArray := prog_12_method_103_code
def yX10_lots : MethodName := ⟨RX10, "lots", "(III)I"⟩
abbrev cX10_count : ByteArray := prog_12_method_104_code
def yX10_count : MethodName := ⟨RX10, "count", "(I)I"⟩
def RJ6 : String := "java/lang/Integer"
def TJ6 : u_T := fun k => match k with
  | _ => ("", "", "", false)
def tyJ6 : Nat → FieldType := fun k => match k with
  | _ => .int
abbrev wsJ60 : List Cond := u_ws RJ6 TJ6 0
theorem nmJ6 : ∀ a, a < 0 → ∀ b, b < 0 → a ≠ b → (TJ6 a).2.1 ≠ (TJ6 b).2.1 := by decide +kernel
theorem tyJ6_ok : ∀ k, k < 0 → parseFieldDescriptor (TJ6 k).2.2.1 = some (tyJ6 k) := by decide +kernel
abbrev cJ6_bitCount_0f7a4 : ByteArray := prog_13_method_49_code
def yJ6_bitCount_0f7a4 : MethodName := ⟨RJ6, "bitCount", "(I)I"⟩
def RJ9 : String := "java/lang/Math"
def TJ9 : u_T := fun k => match k with
  | _ => ("", "", "", false)
def tyJ9 : Nat → FieldType := fun k => match k with
  | _ => .int
abbrev wsJ90 : List Cond := u_ws RJ9 TJ9 0
theorem nmJ9 : ∀ a, a < 0 → ∀ b, b < 0 → a ≠ b → (TJ9 a).2.1 ≠ (TJ9 b).2.1 := by decide +kernel
theorem tyJ9_ok : ∀ k, k < 0 → parseFieldDescriptor (TJ9 k).2.2.1 = some (tyJ9 k) := by decide +kernel
abbrev cJ9_max_7cf53 : ByteArray := prog_14_method_65_code
def yJ9_max_7cf53 : MethodName := ⟨RJ9, "max", "(II)I"⟩
abbrev cJ9_min_7cf53 : ByteArray := prog_14_method_69_code
def yJ9_min_7cf53 : MethodName := ⟨RJ9, "min", "(II)I"⟩
def RJ10 : String := "java/lang/System"
def TJ10 : u_T := fun k => match k with
  | _ => ("", "", "", false)
def tyJ10 : Nat → FieldType := fun k => match k with
  | _ => .int
abbrev wsJ100 : List Cond := u_ws RJ10 TJ10 0
theorem nmJ10 : ∀ a, a < 0 → ∀ b, b < 0 → a ≠ b → (TJ10 a).2.1 ≠ (TJ10 b).2.1 := by decide +kernel
theorem tyJ10_ok : ∀ k, k < 0 → parseFieldDescriptor (TJ10 k).2.2.1 = some (tyJ10 k) := by decide +kernel
def RL : String := "PouredForLeavingLaw"
abbrev cL_law : ByteArray := code
def yL_law : MethodName := ⟨RL, "law", "([I)Z"⟩
abbrev vwCl : List vw_C := [(RX0, TX0, 11), (RX1, TX1, 7), (RX2, TX2, 3), (RX4, TX4, 3), (RX6, TX6, 2), (RX7, TX7, 2), (RX9, TX9, 11), (RX10, TX10, 30)]
abbrev zMD : Type := MethodName × ByteArray × Nat × Option FieldType
def kX0_init : zMD := (yX0_init, cX0_init, 1, none)
def kX0_copyFrom : zMD := (yX0_copyFrom, cX0_copyFrom, 2, none)
def kX0_has : zMD := (yX0_has, cX0_has, 2, (some .boolean))
def kX0_areTwo : zMD := (yX0_areTwo, cX0_areTwo, 3, (some .boolean))
def kX0_whyNotCome : zMD := (yX0_whyNotCome, cX0_whyNotCome, 4, (some .int))
def kX0_whyNotRise : zMD := (yX0_whyNotRise, cX0_whyNotRise, 2, (some .int))
def kX0_whyNotSlip : zMD := (yX0_whyNotSlip, cX0_whyNotSlip, 2, (some .int))
def kX0_whyNotCups : zMD := (yX0_whyNotCups, cX0_whyNotCups, 2, (some .int))
def kX0_whyNotPass : zMD := (yX0_whyNotPass, cX0_whyNotPass, 2, (some .int))
def kX0_come : zMD := (yX0_come, cX0_come, 5, (some .int))
def kX0_rise : zMD := (yX0_rise, cX0_rise, 2, none)
def kX0_riseAll : zMD := (yX0_riseAll, cX0_riseAll, 3, none)
def kX0_remake : zMD := (yX0_remake, cX0_remake, 4, none)
def kX0_tellOf : zMD := (yX0_tellOf, cX0_tellOf, 3, (some .int))
def kX0_howMany : zMD := (yX0_howMany, cX0_howMany, 4, (some .int))
def kX0_setOf : zMD := (yX0_setOf, cX0_setOf, 4, (some .int))
def kX0_wholeThirst : zMD := (yX0_wholeThirst, cX0_wholeThirst, 3, (some .int))
def kX0_allGoneBut : zMD := (yX0_allGoneBut, cX0_allGoneBut, 3, (some .boolean))
def kX0_pass : zMD := (yX0_pass, cX0_pass, 3, none)
def kX0_passOne : zMD := (yX0_passOne, cX0_passOne, 2, none)
def kX0_passUnserved : zMD := (yX0_passUnserved, cX0_passUnserved, 2, none)
def kX0_passFor : zMD := (yX0_passFor, cX0_passFor, 2, none)
def kX0_pourOne : zMD := (yX0_pourOne, cX0_pourOne, 3, (some .int))
def kX0_isAhead : zMD := (yX0_isAhead, cX0_isAhead, 3, (some .boolean))
def kX0_passTillGone : zMD := (yX0_passTillGone, cX0_passTillGone, 3, (some .int))
def kX0_passTillAllGoneBut : zMD := (yX0_passTillAllGoneBut, cX0_passTillAllGoneBut, 3, (some .int))
def kX1_init : zMD := (yX1_init, cX1_init, 1, none)
def kX1_keep : zMD := (yX1_keep, cX1_keep, 3, none)
def kX1_takeBack : zMD := (yX1_takeBack, cX1_takeBack, 3, (some .int))
def kX1_forget : zMD := (yX1_forget, cX1_forget, 1, none)
def kX2_init : zMD := (yX2_init, cX2_init, 3, none)
def kX2_fewestCups : zMD := (yX2_fewestCups, cX2_fewestCups, 3, (some .int))
def kX2_soonestRule : zMD := (yX2_soonestRule, cX2_soonestRule, 5, (some .int))
def kX2_mostPouredRule : zMD := (yX2_mostPouredRule, cX2_mostPouredRule, 4, (some .int))
def kX2_soonestRising : zMD := (yX2_soonestRising, cX2_soonestRising, 7, (some .int))
def kX2_soonestRiseOf : zMD := (yX2_soonestRiseOf, cX2_soonestRiseOf, 7, (some .int))
def kX2_whenGoneRisingBehind : zMD := (yX2_whenGoneRisingBehind, cX2_whenGoneRisingBehind, 4, (some .int))
def kX2_noteLeaving : zMD := (yX2_noteLeaving, cX2_noteLeaving, 5, none)
def kX2_placeOf : zMD := (yX2_placeOf, cX2_placeOf, 2, (some .int))
def kX2_isAtRest : zMD := (yX2_isAtRest, cX2_isAtRest, 5, (some .boolean))
def kX2_balanceOf : zMD := (yX2_balanceOf, cX2_balanceOf, 5, (some .int))
def kX2_setOfPair : zMD := (yX2_setOfPair, cX2_setOfPair, 3, (some .int))
def kX2_atRest : zMD := (yX2_atRest, cX2_atRest, 6, (some .int))
def kX2_gainWithout : zMD := (yX2_gainWithout, cX2_gainWithout, 3, (some .int))
def kX2_gainWithCray : zMD := (yX2_gainWithCray, cX2_gainWithCray, 3, (some .int))
def kX2_whenOthersGone : zMD := (yX2_whenOthersGone, cX2_whenOthersGone, 2, (some .int))
def kX2_soonestCaller : zMD := (yX2_soonestCaller, cX2_soonestCaller, 6, (some .int))
def kX2_soonestAs : zMD := (yX2_soonestAs, cX2_soonestAs, 8, (some .int))
def kX2_leastThirst : zMD := (yX2_leastThirst, cX2_leastThirst, 6, (some .int))
def kX3_part : zMD := (yX3_part, cX3_part, 7, (some .long))
def kX3_commonDivisor : zMD := (yX3_commonDivisor, cX3_commonDivisor, 11, (some .long))
def kX4_init : zMD := (yX4_init, cX4_init, 3, none)
def kX4_fitting : zMD := (yX4_fitting, cX4_fitting, 7, (some .int))
def kX4_goesAsTold : zMD := (yX4_goesAsTold, cX4_goesAsTold, 4, (some .boolean))
def kX4_mostUnlike : zMD := (yX4_mostUnlike, cX4_mostUnlike, 5, (some .int))
def kX4_noteStates : zMD := (yX4_noteStates, cX4_noteStates, 4, none)
def kX4_likelyServed : zMD := (yX4_likelyServed, cX4_likelyServed, 12, (some .long))
def kX4_passAway : zMD := (yX4_passAway, cX4_passAway, 7, (some .long))
def kX4_firstWrongThirst : zMD := (yX4_firstWrongThirst, cX4_firstWrongThirst, 4, (some .int))
def kX4_drawn : zMD := (yX4_drawn, cX4_drawn, 9, (some .int))
def kX5_limit : zMD := (yX5_limit, cX5_limit, 3, (some .int))
def kX5_patience : zMD := (yX5_patience, cX5_patience, 2, (some .int))
def kX5_sip : zMD := (yX5_sip, cX5_sip, 1, (some .int))
def kX5_enough : zMD := (yX5_enough, cX5_enough, 2, (some .int))
def kX6_init : zMD := (yX6_init, cX6_init, 2, none)
def kX6_isFull : zMD := (yX6_isFull, cX6_isFull, 1, (some .boolean))
def kX6_add : zMD := (yX6_add, cX6_add, 2, (some .int))
def kX6_at : zMD := (yX6_at, cX6_at, 2, (some .int))
def kX6_empty : zMD := (yX6_empty, cX6_empty, 1, none)
def kX7_init : zMD := (yX7_init, cX7_init, 3, none)
def kX7_lookOn : zMD := (yX7_lookOn, cX7_lookOn, 2, none)
def kX7_ofOne : zMD := (yX7_ofOne, cX7_ofOne, 4, (some .int))
def kX7_ofAll : zMD := (yX7_ofAll, cX7_ofAll, 3, (some .int))
def kX7_whenGone : zMD := (yX7_whenGone, cX7_whenGone, 2, (some .int))
def kX7_whenAllGone : zMD := (yX7_whenAllGone, cX7_whenAllGone, 1, (some .int))
def kX7_firstGone : zMD := (yX7_firstGone, cX7_firstGone, 3, (some .int))
def kX7_whenDrinking : zMD := (yX7_whenDrinking, cX7_whenDrinking, 3, (some .int))
def kX7_neverServed : zMD := (yX7_neverServed, cX7_neverServed, 3, (some .int))
def kX7_staying : zMD := (yX7_staying, cX7_staying, 1, (some .int))
def kX7_servedAs : zMD := (yX7_servedAs, cX7_servedAs, 6, (some .int))
def kX7_mostStanding : zMD := (yX7_mostStanding, cX7_mostStanding, 7, (some .int))
def kX7_isStuck : zMD := (yX7_isStuck, cX7_isStuck, 1, (some .boolean))
def kX7_longestStanding : zMD := (yX7_longestStanding, cX7_longestStanding, 7, (some .int))
def kX7_minutesStoodBy : zMD := (yX7_minutesStoodBy, cX7_minutesStoodBy, 5, (some .int))
def kX7_leaverAt : zMD := (yX7_leaverAt, cX7_leaverAt, 7, (some .int))
def kX7_minutesStood : zMD := (yX7_minutesStood, cX7_minutesStood, 4, (some .int))
def kX7_cupsIdle : zMD := (yX7_cupsIdle, cX7_cupsIdle, 4, (some .int))
def kX7_goneWithoutTea : zMD := (yX7_goneWithoutTea, cX7_goneWithoutTea, 4, (some .int))
def kX7_bothDrinking : zMD := (yX7_bothDrinking, cX7_bothDrinking, 6, (some .int))
def kX7_meanOfLeaving : zMD := (yX7_meanOfLeaving, cX7_meanOfLeaving, 6, (some .long))
def kX8_follow : zMD := (yX8_follow, cX8_follow, 6, (some .int))
def kX8_placeOfWrongLetter : zMD := (yX8_placeOfWrongLetter, cX8_placeOfWrongLetter, 3, (some .int))
def kX8_placeOfWrongLetterFrom : zMD := (yX8_placeOfWrongLetterFrom, cX8_placeOfWrongLetterFrom, 4, (some .int))
def kX8_lengthOf : zMD := (yX8_lengthOf, cX8_lengthOf, 1, (some .int))
def kX8_isDigit : zMD := (yX8_isDigit, cX8_isDigit, 1, (some .boolean))
def kX8_digitAt : zMD := (yX8_digitAt, cX8_digitAt, 2, (some .int))
def kX8_twoDigitsAt : zMD := (yX8_twoDigitsAt, cX8_twoDigitsAt, 2, (some .int))
def kX8_comesTrue : zMD := (yX8_comesTrue, cX8_comesTrue, 5, (some .boolean))
def kX8_guestComes : zMD := (yX8_guestComes, cX8_guestComes, 6, (some .boolean))
def kX9_init : zMD := (yX9_init, cX9_init, 1, none)
def kX9_feed : zMD := (yX9_feed, cX9_feed, 2, (some .int))
def kX9_house : zMD := (yX9_house, cX9_house, 2, (some .int))
def kX9_guestOf : zMD := (yX9_guestOf, cX9_guestOf, 3, (some .int))
def kX9_guest : zMD := (yX9_guest, cX9_guest, 5, (some .int))
def kX9_rises : zMD := (yX9_rises, cX9_rises, 3, (some .int))
def kX9_slips : zMD := (yX9_slips, cX9_slips, 3, (some .int))
def kX9_cups : zMD := (yX9_cups, cX9_cups, 4, (some .int))
def kX9_rule : zMD := (yX9_rule, cX9_rule, 3, (some .int))
def kX9_minutes : zMD := (yX9_minutes, cX9_minutes, 3, (some .int))
def kX9_back : zMD := (yX9_back, cX9_back, 1, (some .int))
def kX9_behind : zMD := (yX9_behind, cX9_behind, 5, (some .int))
def kX9_all : zMD := (yX9_all, cX9_all, 4, (some .int))
def kX9_leaves : zMD := (yX9_leaves, cX9_leaves, 2, (some .int))
def kX9_gone : zMD := (yX9_gone, cX9_gone, 2, (some .int))
def kX9_tastes : zMD := (yX9_tastes, cX9_tastes, 2, (some .int))
def kX9_thirsty : zMD := (yX9_thirsty, cX9_thirsty, 2, (some .int))
def kX9_cupsWanted : zMD := (yX9_cupsWanted, cX9_cupsWanted, 3, (some .int))
def kX9_bestRule : zMD := (yX9_bestRule, cX9_bestRule, 2, (some .int))
def kX9_rising : zMD := (yX9_rising, cX9_rising, 2, (some .int))
def kX9_bestRise : zMD := (yX9_bestRise, cX9_bestRise, 3, (some .int))
def kX9_two : zMD := (yX9_two, cX9_two, 3, (some .int))
def kX9_rest : zMD := (yX9_rest, cX9_rest, 2, (some .int))
def kX9_garden : zMD := (yX9_garden, cX9_garden, 2, (some .int))
def kX9_served : zMD := (yX9_served, cX9_served, 2, (some .int))
def kX9_who : zMD := (yX9_who, cX9_who, 4, (some .int))
def kX9_look : zMD := (yX9_look, cX9_look, 3, (some .int))
def kX9_away : zMD := (yX9_away, cX9_away, 5, (some .long))
def kX9_crowd : zMD := (yX9_crowd, cX9_crowd, 4, (some .int))
def kX9_caller : zMD := (yX9_caller, cX9_caller, 2, (some .int))
def kX9_stuck : zMD := (yX9_stuck, cX9_stuck, 1, (some .int))
def kX9_longest : zMD := (yX9_longest, cX9_longest, 4, (some .int))
def kX9_leaver : zMD := (yX9_leaver, cX9_leaver, 2, (some .int))
def kX9_waited : zMD := (yX9_waited, cX9_waited, 4, (some .int))
def kX9_bestOf : zMD := (yX9_bestOf, cX9_bestOf, 3, (some .int))
def kX9_kept : zMD := (yX9_kept, cX9_kept, 3, (some .int))
def kX9_dry : zMD := (yX9_dry, cX9_dry, 3, (some .int))
def kX9_company : zMD := (yX9_company, cX9_company, 5, (some .int))
def kX9_mean : zMD := (yX9_mean, cX9_mean, 2, (some .long))
def kX9_hostess : zMD := (yX9_hostess, cX9_hostess, 3, (some .int))
def kX9_row : zMD := (yX9_row, cX9_row, 2, (some .int))
def kX9_judge : zMD := (yX9_judge, cX9_judge, 3, (some .int))
def kX9_clear : zMD := (yX9_clear, cX9_clear, 2, (some .int))
def kX9_lots : zMD := (yX9_lots, cX9_lots, 4, (some .int))
def kX9_image : zMD := (yX9_image, cX9_image, 1, (some .int))
def kX9_restore : zMD := (yX9_restore, cX9_restore, 1, (some .int))
def kX9_count : zMD := (yX9_count, cX9_count, 2, (some .int))
def kX9_refuse : zMD := (yX9_refuse, cX9_refuse, 3, (some .int))
def kX9_refuseLoudly : zMD := (yX9_refuseLoudly, cX9_refuseLoudly, 2, (some .int))
def kX9_refuseLong : zMD := (yX9_refuseLong, cX9_refuseLong, 2, (some .long))
def kX9_isOther : zMD := (yX9_isOther, cX9_isOther, 2, (some .boolean))
def kX9_whyNotFar : zMD := (yX9_whyNotFar, cX9_whyNotFar, 1, (some .int))
def kX9_whyNotFar_ : zMD := (yX9_whyNotFar_, cX9_whyNotFar_, 4, (some .int))
def kX9_noneIfNever : zMD := (yX9_noneIfNever, cX9_noneIfNever, 1, (some .int))
def kX10_init : zMD := (yX10_init, cX10_init, 1, none)
def kX10_no : zMD := (yX10_no, cX10_no, 2, (some .int))
def kX10_lower : zMD := (yX10_lower, cX10_lower, 2, (some .int))
def kX10_lowest : zMD := (yX10_lowest, cX10_lowest, 2, (some .long))
def kX10_isIn : zMD := (yX10_isIn, cX10_isIn, 3, (some .boolean))
def kX10_bound : zMD := (yX10_bound, cX10_bound, 3, (some .int))
def kX10_has : zMD := (yX10_has, cX10_has, 2, (some .boolean))
def kX10_bits : zMD := (yX10_bits, cX10_bits, 3, (some .int))
def kX10_isGuest : zMD := (yX10_isGuest, cX10_isGuest, 2, (some .boolean))
def kX10_feed : zMD := (yX10_feed, cX10_feed, 3, (some .int))
def kX10_next : zMD := (yX10_next, cX10_next, 1, (some .int))
def kX10_readsDigits : zMD := (yX10_readsDigits, cX10_readsDigits, 5, (some .boolean))
def kX10_statement : zMD := (yX10_statement, cX10_statement, 4, (some .boolean))
def kX10_comesGuest : zMD := (yX10_comesGuest, cX10_comesGuest, 4, (some .boolean))
def kX10_comesCups : zMD := (yX10_comesCups, cX10_comesCups, 2, (some .boolean))
def kX10_comesMinutes : zMD := (yX10_comesMinutes, cX10_comesMinutes, 2, (some .boolean))
def kX10_comesTo : zMD := (yX10_comesTo, cX10_comesTo, 3, (some .boolean))
def kX10_comes : zMD := (yX10_comes, cX10_comes, 3, (some .boolean))
def kX10_house : zMD := (yX10_house, cX10_house, 3, (some .int))
def kX10_passes : zMD := (yX10_passes, cX10_passes, 3, none)
def kX10_passOne : zMD := (yX10_passOne, cX10_passOne, 3, (some .int))
def kX10_passesAll : zMD := (yX10_passesAll, cX10_passesAll, 3, none)
def kX10_thinks : zMD := (yX10_thinks, cX10_thinks, 1, none)
def kX10_forgets : zMD := (yX10_forgets, cX10_forgets, 1, none)
def kX10_keepsBack : zMD := (yX10_keepsBack, cX10_keepsBack, 2, none)
def kX10_back : zMD := (yX10_back, cX10_back, 1, (some .int))
def kX10_image : zMD := (yX10_image, cX10_image, 1, (some .int))
def kX10_restore : zMD := (yX10_restore, cX10_restore, 1, (some .int))
def kX10_adds : zMD := (yX10_adds, cX10_adds, 4, none)
def kX10_limitOf : zMD := (yX10_limitOf, cX10_limitOf, 3, (some .int))
def kX10_patienceOf : zMD := (yX10_patienceOf, cX10_patienceOf, 2, (some .int))
def kX10_sipOf : zMD := (yX10_sipOf, cX10_sipOf, 2, (some .int))
def kX10_enoughOf : zMD := (yX10_enoughOf, cX10_enoughOf, 2, (some .int))
def kX10_manyIn : zMD := (yX10_manyIn, cX10_manyIn, 4, (some .int))
def kX10_standsUp : zMD := (yX10_standsUp, cX10_standsUp, 2, none)
def kX10_drinksOn : zMD := (yX10_drinksOn, cX10_drinksOn, 3, none)
def kX10_goesOne : zMD := (yX10_goesOne, cX10_goesOne, 2, none)
def kX10_isAhead : zMD := (yX10_isAhead, cX10_isAhead, 3, (some .boolean))
def kX10_nextServed : zMD := (yX10_nextServed, cX10_nextServed, 3, (some .int))
def kX10_pours : zMD := (yX10_pours, cX10_pours, 2, none)
def kX10_goesMinute : zMD := (yX10_goesMinute, cX10_goesMinute, 3, none)
def kX10_goes : zMD := (yX10_goes, cX10_goes, 3, none)
def kX10_guestOf : zMD := (yX10_guestOf, cX10_guestOf, 3, (some .int))
def kX10_guest : zMD := (yX10_guest, cX10_guest, 5, (some .int))
def kX10_rises : zMD := (yX10_rises, cX10_rises, 3, (some .int))
def kX10_slips : zMD := (yX10_slips, cX10_slips, 3, (some .int))
def kX10_cups : zMD := (yX10_cups, cX10_cups, 4, (some .int))
def kX10_rule : zMD := (yX10_rule, cX10_rule, 3, (some .int))
def kX10_minutes : zMD := (yX10_minutes, cX10_minutes, 3, (some .int))
def kX10_notMinutes : zMD := (yX10_notMinutes, cX10_notMinutes, 1, (some .int))
def kX10_behind : zMD := (yX10_behind, cX10_behind, 6, (some .int))
def kX10_allThirst : zMD := (yX10_allThirst, cX10_allThirst, 3, (some .int))
def kX10_all : zMD := (yX10_all, cX10_all, 6, (some .int))
def kX10_areGone : zMD := (yX10_areGone, cX10_areGone, 3, (some .boolean))
def kX10_goneBy : zMD := (yX10_goneBy, cX10_goneBy, 4, (some .int))
def kX10_orNone : zMD := (yX10_orNone, cX10_orNone, 1, (some .int))
def kX10_everybody : zMD := (yX10_everybody, cX10_everybody, 1, (some .int))
def kX10_leaves : zMD := (yX10_leaves, cX10_leaves, 2, (some .int))
def kX10_gone : zMD := (yX10_gone, cX10_gone, 6, (some .int))
def kX10_tasteOf : zMD := (yX10_tasteOf, cX10_tasteOf, 4, (some .int))
def kX10_tastes : zMD := (yX10_tastes, cX10_tastes, 2, (some .int))
def kX10_thirsty : zMD := (yX10_thirsty, cX10_thirsty, 5, (some .int))
def kX10_cupsWanted : zMD := (yX10_cupsWanted, cX10_cupsWanted, 6, (some .int))
def kX10_pouredIn : zMD := (yX10_pouredIn, cX10_pouredIn, 4, (some .int))
def kX10_bestRule : zMD := (yX10_bestRule, cX10_bestRule, 7, (some .int))
def kX10_whoSit : zMD := (yX10_whoSit, cX10_whoSit, 3, (some .int))
def kX10_goneRising : zMD := (yX10_goneRising, cX10_goneRising, 4, (some .int))
def kX10_rising : zMD := (yX10_rising, cX10_rising, 7, (some .int))
def kX10_goneRisingIn : zMD := (yX10_goneRisingIn, cX10_goneRisingIn, 5, (some .int))
def kX10_bestRise : zMD := (yX10_bestRise, cX10_bestRise, 8, (some .int))
def kX10_isSooner : zMD := (yX10_isSooner, cX10_isSooner, 4, (some .boolean))
def kX10_two : zMD := (yX10_two, cX10_two, 6, (some .int))
def kX10_isAtRest : zMD := (yX10_isAtRest, cX10_isAtRest, 4, (some .boolean))
def kX10_rest : zMD := (yX10_rest, cX10_rest, 6, (some .int))
def kX10_garden : zMD := (yX10_garden, cX10_garden, 7, (some .int))
def kX10_served : zMD := (yX10_served, cX10_served, 2, (some .int))
def kX10_isSo : zMD := (yX10_isSo, cX10_isSo, 4, (some .boolean))
def kX10_bitsFor : zMD := (yX10_bitsFor, cX10_bitsFor, 7, (some .int))
def kX10_thirstsFor : zMD := (yX10_thirstsFor, cX10_thirstsFor, 5, (some .int))
def kX10_who : zMD := (yX10_who, cX10_who, 4, (some .int))
def kX10_look : zMD := (yX10_look, cX10_look, 7, (some .int))
def kX10_divisor : zMD := (yX10_divisor, cX10_divisor, 10, (some .long))
def kX10_away : zMD := (yX10_away, cX10_away, 15, (some .long))
def kX10_crowd : zMD := (yX10_crowd, cX10_crowd, 7, (some .int))
def kX10_goneAs : zMD := (yX10_goneAs, cX10_goneAs, 3, (some .int))
def kX10_caller : zMD := (yX10_caller, cX10_caller, 7, (some .int))
def kX10_stuck : zMD := (yX10_stuck, cX10_stuck, 2, (some .int))
def kX10_longest : zMD := (yX10_longest, cX10_longest, 6, (some .int))
def kX10_leaver : zMD := (yX10_leaver, cX10_leaver, 7, (some .int))
def kX10_whoAre : zMD := (yX10_whoAre, cX10_whoAre, 4, (some .int))
def kX10_waited : zMD := (yX10_waited, cX10_waited, 6, (some .int))
def kX10_bestIn : zMD := (yX10_bestIn, cX10_bestIn, 9, (some .int))
def kX10_bestOf : zMD := (yX10_bestOf, cX10_bestOf, 4, (some .int))
def kX10_kept : zMD := (yX10_kept, cX10_kept, 6, (some .int))
def kX10_dry : zMD := (yX10_dry, cX10_dry, 5, (some .int))
def kX10_company : zMD := (yX10_company, cX10_company, 7, (some .int))
def kX10_mean : zMD := (yX10_mean, cX10_mean, 8, (some .long))
def kX10_thirstIn : zMD := (yX10_thirstIn, cX10_thirstIn, 3, (some .int))
def kX10_hostess : zMD := (yX10_hostess, cX10_hostess, 9, (some .int))
def kX10_row : zMD := (yX10_row, cX10_row, 3, (some .int))
def kX10_judge : zMD := (yX10_judge, cX10_judge, 5, (some .int))
def kX10_clear : zMD := (yX10_clear, cX10_clear, 2, (some .int))
def kX10_lots : zMD := (yX10_lots, cX10_lots, 10, (some .int))
def kX10_count : zMD := (yX10_count, cX10_count, 2, (some .int))
def kJ6_bitCount_0f7a4 : zMD := (yJ6_bitCount_0f7a4, cJ6_bitCount_0f7a4, 1, (some .int))
def kJ9_max_7cf53 : zMD := (yJ9_max_7cf53, cJ9_max_7cf53, 2, (some .int))
def kJ9_min_7cf53 : zMD := (yJ9_min_7cf53, cJ9_min_7cf53, 2, (some .int))
end
section
/-! THE WORLD: what the class and the reference hold, at fixed places; whole numbers in place of ints -/
def zt : List Cond := lw_tbl.filter goodWord
def zNest : Cond → Bool
  | .fieldLinkNest .. => true
  | .methodLinkNest .. => true
  | _ => false
def zn : List Cond := lw_tbl.filter zNest
theorem zt_in {w : Cond} (i : Nat) (h : (lw_tbl[i]?).map (fun v => decide (v = w) && goodWord v) = some true) : w ∈ zt := by
  cases hw : lw_tbl[i]? with
  | none => rw [hw] at h; cases h
  | some v =>
    rw [hw] at h
    simp only [Option.map_some, Option.some.injEq, Bool.and_eq_true, decide_eq_true_eq] at h
    obtain ⟨rfl, g⟩ := h
    exact List.mem_filter.mpr ⟨List.mem_of_getElem? hw, g⟩
theorem zn_in {w : Cond} (i : Nat) (h : (lw_tbl[i]?).map (fun v => decide (v = w) && zNest v) = some true) : w ∈ zn := by
  cases hw : lw_tbl[i]? with
  | none => rw [hw] at h; cases h
  | some v =>
    rw [hw] at h
    simp only [Option.map_some, Option.some.injEq, Bool.and_eq_true, decide_eq_true_eq] at h
    obtain ⟨rfl, g⟩ := h
    exact List.mem_filter.mpr ⟨List.mem_of_getElem? hw, g⟩
theorem zn_warm {w : Cond} (h : w ∈ zn) {s U : State} (hW : s.WarmedH U.vm) (hZ : va_Nw w s) : va_Nw w U := by
  have h2 := (List.mem_filter.mp h).2
  cases w <;> first | (exact va_Nw.warmF hW hZ) | (exact va_Nw.warmM hW hZ) | (simp [zNest] at h2)
theorem zn_same {w : Cond} (h : w ∈ zn) {u U : State} (hv : u.vm = U.vm) (hZ : va_Nw w u) : va_Nw w U := by
  have h2 := (List.mem_filter.mp h).2
  cases w <;> first | (exact va_Nw.same rfl hv hZ) | (simp [zNest] at h2)
theorem zn_use {w : Cond} (h : w ∈ zn) {A : Array Value} {U : State} (hZ : va_Nw w U) : w.before A U = true := by
  have h2 := (List.mem_filter.mp h).2
  cases w <;> first | (exact va_Nw.use rfl hZ) | (simp [zNest] at h2)
theorem zn_of {w : Cond} (h : w ∈ zn) {A : Array Value} {U : State} (hZ : w.before A U = true) : va_Nw w U := by
  have h2 := (List.mem_filter.mp h).2
  cases w <;> first | (exact va_Nw.of rfl hZ) | (simp [zNest] at h2)
def zii (x : Int) : Int32 := Int32.ofInt x
def zll (x : Int) : Int64 := Int64.ofInt x
abbrev zMem : Type := Nat → Nat → Int → Int
abbrev zF : Type := Nat ⊕ (Nat × Nat × Int)
abbrev zSh : Type := (Nat × List zF) ⊕ (Nat × Nat × Nat)
def zfv (ad : Nat → Nat) (M : zMem) (f : zF) : Value := match f with
  | .inl p => .ref (ad p)
  | .inr q => .int (zii (M q.1 q.2.1 q.2.2))
def zcell (ad : Nat → Nat) (cA : ClassId) (M : zMem) (e : zSh) : va_E := match e with
  | .inl o => .inr (o.1, o.2.map (zfv ad M))
  | .inr a => .inl (cA, a.1, .inl (fun j => zii (M a.2.1 a.2.2 j)))
def zwl : List zSh := [.inl (0, [.inl 1, .inl 2, .inl 3, .inl 4, .inl 5, .inl 6, .inr (0, 6, 0), .inr (0, 6, 1), .inr (0, 6, 2), .inr (0, 6, 3), .inr (0, 6, 4)]),
  .inr (6, 0, 0),
  .inr (6, 0, 1),
  .inr (6, 0, 2),
  .inr (6, 0, 3),
  .inr (6, 0, 4),
  .inr (6, 0, 5),
  .inl (0, [.inl 8, .inl 9, .inl 10, .inl 11, .inl 12, .inl 13, .inr (1, 6, 0), .inr (1, 6, 1), .inr (1, 6, 2), .inr (1, 6, 3), .inr (1, 6, 4)]),
  .inr (6, 1, 0),
  .inr (6, 1, 1),
  .inr (6, 1, 2),
  .inr (6, 1, 3),
  .inr (6, 1, 4),
  .inr (6, 1, 5),
  .inl (0, [.inl 15, .inl 16, .inl 17, .inl 18, .inl 19, .inl 20, .inr (2, 6, 0), .inr (2, 6, 1), .inr (2, 6, 2), .inr (2, 6, 3), .inr (2, 6, 4)]),
  .inr (6, 2, 0),
  .inr (6, 2, 1),
  .inr (6, 2, 2),
  .inr (6, 2, 3),
  .inr (6, 2, 4),
  .inr (6, 2, 5),
  .inl (4, [.inl 22, .inr (4, 1, 0)]),
  .inr (96, 4, 0),
  .inl (4, [.inl 24, .inr (5, 1, 0)]),
  .inr (12, 5, 0),
  .inl (1, [.inl 26, .inl 27, .inl 28, .inl 29, .inl 30, .inr (6, 5, 0), .inr (6, 5, 1)]),
  .inr (8, 6, 0),
  .inr (8, 6, 1),
  .inr (8, 6, 2),
  .inr (8, 6, 3),
  .inr (8, 6, 4),
  .inl (5, [.inl 0, .inl 7]),
  .inl (2, [.inl 0, .inl 7, .inl 33]),
  .inr (384, 7, 0),
  .inl (3, [.inl 0, .inl 7, .inl 35]),
  .inr (31, 8, 0),
  .inl (6, [.inl 0, .inl 7, .inl 14, .inl 21, .inl 23, .inl 25, .inl 31, .inl 32, .inl 34, .inl 37, .inr (9, 1, 0)]),
  .inr (6, 9, 0),
  .inl (7, [.inl 39, .inl 40, .inl 41, .inl 42, .inl 43, .inl 44, .inl 45, .inr (3, 6, 0), .inr (3, 6, 1), .inr (3, 6, 2), .inr (3, 6, 3), .inr (3, 6, 4), .inl 46, .inl 47, .inl 48, .inl 49, .inr (11, 1, 0), .inr (12, 3, 0), .inr (12, 3, 1), .inl 50, .inr (13, 1, 0), .inr (13, 1, 1), .inr (13, 1, 2), .inr (13, 1, 3), .inl 51, .inr (14, 1, 0), .inl 52, .inr (15, 1, 0), .inl 53, .inl 54]),
  .inr (7, 10, 0),
  .inr (6, 3, 0),
  .inr (6, 3, 1),
  .inr (6, 3, 2),
  .inr (6, 3, 3),
  .inr (6, 3, 4),
  .inr (6, 3, 5),
  .inr (96, 11, 0),
  .inr (48, 12, 0),
  .inr (48, 12, 1),
  .inr (144, 12, 2),
  .inr (462, 13, 0),
  .inr (200, 14, 0),
  .inr (12, 15, 0),
  .inr (31, 16, 0),
  .inr (6, 17, 0)]
def zws (ad : Nat → Nat) (cA : ClassId) (M : zMem) : va_W := zwl.mapIdx (fun p e => (ad p, zcell ad cA M e))
theorem zws_at {ad : Nat → Nat} {cA : ClassId} {M : zMem} {p : Nat} {e : zSh} (h : zwl[p]? = some e) : (zws ad cA M)[p]? = some (ad p, zcell ad cA M e) := by
  simp [zws, List.getElem?_mapIdx, h]
theorem zws_of {ad : Nat → Nat} {cA : ClassId} {M : zMem} {p : Nat} {q : Nat × va_E} (h : (zws ad cA M)[p]? = some q) : ∃ e, zwl[p]? = some e ∧ q = (ad p, zcell ad cA M e) := by
  simp only [zws, List.getElem?_mapIdx, Option.map_eq_some_iff] at h
  obtain ⟨e, h1, h2⟩ := h
  exact ⟨e, h1, h2.symm⟩
def zN : Nat := 55
theorem zN_len : zwl.length = zN := by decide +kernel
theorem zN_lt {p : Nat} {e : zSh} (h : zwl[p]? = some e) : p < zN := by
  rw [← zN_len]; exact (List.getElem?_eq_some_iff.mp h).1
def zInj (ad : Nat → Nat) : Prop := ∀ p q, p < zN → q < zN → ad p = ad q → p = q
def zA (ad : Nat → Nat) : Nat → Prop := fun q => ∃ p, p < zN ∧ q = ad p
theorem zD {ad : Nat → Nat} {cA : ClassId} {M : zMem} (hi : zInj ad) : va_D (zA ad) (zws ad cA M) := by
  refine ⟨fun i j x y hx hy hxy => ?_, fun k q hq => ?_⟩
  · obtain ⟨e, h1, rfl⟩ := zws_of hx
    obtain ⟨e2, h3, rfl⟩ := zws_of hy
    exact hi i j (zN_lt h1) (zN_lt h3) hxy
  · obtain ⟨e, h1, rfl⟩ := zws_of hq
    exact ⟨k, zN_lt h1, rfl⟩
/-- where the whole numbers lie: no two places share one -/
def zFl (f : zF) : List (Nat × Nat × Int) := match f with | .inl _ => [] | .inr q => [q]
def zup (M : zMem) (m r : Nat) (i v : Int) : zMem := fun m' r' i' => if m' = m ∧ r' = r ∧ i' = i then v else M m' r' i'
/-- an object's field k of place p: which whole number -/
def zfld (p ci k : Nat) : Option zF := match zwl[p]? with
  | some (.inl o) => if o.1 = ci then o.2[k]? else none
  | _ => none
def zarr (p : Nat) : Option (Nat × Nat × Nat) := match zwl[p]? with
  | some (.inr a) => some a
  | _ => none
theorem zfld_of {p ci k : Nat} {f : zF} (h : zfld p ci k = some f) : ∃ fs, zwl[p]? = some (.inl (ci, fs)) ∧ fs[k]? = some f := by
  unfold zfld at h
  split at h
  next o ho =>
    split at h
    next hc => exact ⟨o.2, by rw [ho, ← hc], h⟩
    next => cases h
  next => cases h
theorem zarr_of {p : Nat} {a : Nat × Nat × Nat} (h : zarr p = some a) : zwl[p]? = some (.inr a) := by
  unfold zarr at h
  split at h
  next b hb => cases h; exact hb
  next => cases h
/-- rows of arrays and whole numbers of fields are apart -/
def zOkA : Bool := (List.range zN).all fun p => (List.range zN).all fun q => match zwl[p]?, zwl[q]? with
  | some (.inr a), some (.inr b) => decide (p = q) || !(decide (a.2 = b.2))
  | some (.inr a), some (.inl o) => o.2.all fun f => match f with | .inl _ => true | .inr x => !(decide (a.2.1 = x.1 ∧ a.2.2 = x.2.1))
  | some (.inl o), some (.inl o2) => (List.range o.2.length).all fun j => (List.range o2.2.length).all fun k => match o.2[j]?, o2.2[k]? with
    | some (.inr x), some (.inr y) => decide (p = q ∧ j = k) || !(decide (x = y))
    | _, _ => true
  | _, _ => true
theorem zOkA_true : zOkA = true := by decide +kernel
theorem zok_aa {p q : Nat} {a b : Nat × Nat × Nat} (hp : zwl[p]? = some (.inr a)) (hq : zwl[q]? = some (.inr b)) (h : a.2 = b.2) : p = q := by
  have h1 := List.all_eq_true.mp (List.all_eq_true.mp zOkA_true p (List.mem_range.mpr (zN_lt hp))) q (List.mem_range.mpr (zN_lt hq))
  simp only [hp, hq, h, decide_true, Bool.not_true, Bool.or_false, decide_eq_true_eq] at h1
  exact h1
theorem zok_af {p q k : Nat} {a : Nat × Nat × Nat} {ci : Nat} {fs : List zF} {x : Nat × Nat × Int} (hp : zwl[p]? = some (.inr a)) (hq : zwl[q]? = some (.inl (ci, fs))) (hk : fs[k]? = some (.inr x)) : ¬ (a.2.1 = x.1 ∧ a.2.2 = x.2.1) := by
  have h1 := List.all_eq_true.mp (List.all_eq_true.mp zOkA_true p (List.mem_range.mpr (zN_lt hp))) q (List.mem_range.mpr (zN_lt hq))
  simp only [hp, hq] at h1
  have h2 := List.all_eq_true.mp h1 _ (List.mem_of_getElem? hk)
  intro h3
  simp [h3.1, h3.2] at h2
theorem zok_ff {p q j k : Nat} {ci cj : Nat} {fs gs : List zF} {x y : Nat × Nat × Int} (hp : zwl[p]? = some (.inl (ci, fs))) (hj : fs[j]? = some (.inr x)) (hq : zwl[q]? = some (.inl (cj, gs))) (hk : gs[k]? = some (.inr y)) (h : x = y) : p = q ∧ j = k := by
  have h1 := List.all_eq_true.mp (List.all_eq_true.mp zOkA_true p (List.mem_range.mpr (zN_lt hp))) q (List.mem_range.mpr (zN_lt hq))
  simp only [hp, hq] at h1
  have h2 := List.all_eq_true.mp (List.all_eq_true.mp h1 j (List.mem_range.mpr (List.getElem?_eq_some_iff.mp hj).1)) k (List.mem_range.mpr (List.getElem?_eq_some_iff.mp hk).1)
  simp only [hj, hk, h, decide_true, Bool.not_true, Bool.or_false, decide_eq_true_eq] at h2
  exact h2
/-- a field is written -/
theorem zws_fld {ad : Nat → Nat} {cA : ClassId} {M : zMem} {p ci k : Nat} {fs : List zF} {x : Nat × Nat × Int} (hp : zwl[p]? = some (.inl (ci, fs))) (hk : fs[k]? = some (.inr x)) (v : Int) :
    (zws ad cA M).set p (ad p, .inr (ci, (fs.map (zfv ad M)).set k (.int (zii v)))) = zws ad cA (zup M x.1 x.2.1 x.2.2 v) := by
  have hpl : p < (zws ad cA M).length := by
    have := (List.getElem?_eq_some_iff.mp hp).1
    simpa [zws] using this
  apply List.ext_getElem?
  intro q
  by_cases hq : q = p
  · subst hq
    rw [List.getElem?_set_self hpl, zws_at hp]
    congr 2
    show Sum.inr _ = Sum.inr _
    congr 2
    apply List.ext_getElem?
    intro j
    by_cases hj : j = k
    · subst hj
      rw [List.getElem?_set_self (by rw [List.length_map]; exact (List.getElem?_eq_some_iff.mp hk).1), List.getElem?_map, hk]
      simp [zfv, zup]
    · rw [List.getElem?_set_ne (Ne.symm hj), List.getElem?_map, List.getElem?_map]
      cases hfj : fs[j]? with
      | none => rfl
      | some f =>
        cases f with
        | inl r => rfl
        | inr y =>
          have hne : ¬ (y.1 = x.1 ∧ y.2.1 = x.2.1 ∧ y.2.2 = x.2.2) := by
            intro h
            obtain ⟨y1, y2, y3⟩ := y
            obtain ⟨x1, x2, x3⟩ := x
            obtain ⟨rfl, rfl, rfl⟩ := h
            exact hj (zok_ff hp hfj hp hk rfl).2
          simp [zfv, zup, hne]
  · rw [List.getElem?_set_ne (Ne.symm hq)]
    cases he : zwl[q]? with
    | none => simp [zws, List.getElem?_mapIdx, he]
    | some e =>
      rw [zws_at he, zws_at he]
      congr 2
      cases e with
      | inl o =>
        obtain ⟨cj, gs⟩ := o
        show Sum.inr _ = Sum.inr _
        congr 2
        apply List.map_congr_left
        intro f hf
        cases f with
        | inl r => rfl
        | inr y =>
          obtain ⟨j, hj⟩ := List.getElem?_of_mem hf
          have hne : ¬ (y.1 = x.1 ∧ y.2.1 = x.2.1 ∧ y.2.2 = x.2.2) := by
            intro h
            obtain ⟨y1, y2, y3⟩ := y
            obtain ⟨x1, x2, x3⟩ := x
            obtain ⟨rfl, rfl, rfl⟩ := h
            exact hq (zok_ff he hj hp hk rfl).1
          simp [zfv, zup, hne]
      | inr a =>
        have hne := zok_af he hp hk
        show Sum.inl _ = Sum.inl _
        congr 4
        funext j
        have : ¬ (a.2.1 = x.1 ∧ a.2.2 = x.2.1 ∧ (j : Int) = x.2.2) := fun h => hne ⟨h.1, h.2.1⟩
        simp [zup, this]
/-- an element of an array is written -/
theorem zws_arr {ad : Nat → Nat} {cA : ClassId} {M : zMem} {p : Nat} {a : Nat × Nat × Nat} (hp : zwl[p]? = some (.inr a)) (g : Nat → Int32) (M' : zMem) (h1 : ∀ m r i, ¬ (m = a.2.1 ∧ r = a.2.2) → M' m r i = M m r i) (h2 : ∀ j : Nat, g j = zii (M' a.2.1 a.2.2 j)) :
    (zws ad cA M).set p (ad p, .inl (cA, a.1, .inl g)) = zws ad cA M' := by
  have hpl : p < (zws ad cA M).length := by
    have := (List.getElem?_eq_some_iff.mp hp).1
    simpa [zws] using this
  apply List.ext_getElem?
  intro q
  by_cases hq : q = p
  · subst hq
    rw [List.getElem?_set_self hpl, zws_at hp]
    congr 2
    show Sum.inl _ = Sum.inl _
    congr 4
    funext j
    exact h2 j
  · rw [List.getElem?_set_ne (Ne.symm hq)]
    cases he : zwl[q]? with
    | none => simp [zws, List.getElem?_mapIdx, he]
    | some e =>
      rw [zws_at he, zws_at he]
      congr 2
      cases e with
      | inl o =>
        obtain ⟨cj, gs⟩ := o
        show Sum.inr _ = Sum.inr _
        congr 2
        apply List.map_congr_left
        intro f hf
        cases f with
        | inl r => rfl
        | inr y =>
          obtain ⟨j, hj⟩ := List.getElem?_of_mem hf
          have hne := zok_af hp he hj
          simp only [zfv]
          rw [h1 _ _ _ (fun h => hne ⟨h.1.symm, h.2.symm⟩)]
      | inr b =>
        have hne : ¬ (b.2.1 = a.2.1 ∧ b.2.2 = a.2.2) := by
          intro h
          refine hq (zok_aa he hp ?_)
          exact Prod.ext h.1 h.2
        show Sum.inl _ = Sum.inl _
        congr 4
        funext j
        rw [h1 _ _ _ hne]
end
section
/-! THE JUDGEMENT: from a frame of method k at pc, with whole numbers in place of ints, the method ends, and what it leaves is Q -/
def zR (a : Int) : Prop := -2147483648 ≤ a ∧ a < 2147483648
theorem zii_toInt {a : Int} (h : zR a) : (zii a).toInt = a := Int32.toInt_ofInt_of_le (by have := h.1; omega) (by have := h.2; omega)
theorem zii_lt {a b : Int} (ha : zR a) (hb : zR b) : zii a < zii b ↔ a < b := by rw [Int32.lt_iff_toInt_lt, zii_toInt ha, zii_toInt hb]
theorem zii_le {a b : Int} (ha : zR a) (hb : zR b) : zii a ≤ zii b ↔ a ≤ b := by rw [Int32.le_iff_toInt_le, zii_toInt ha, zii_toInt hb]
theorem zii_eq {a b : Int} (ha : zR a) (hb : zR b) : zii a = zii b ↔ a = b := by rw [← Int32.toInt_inj, zii_toInt ha, zii_toInt hb]
theorem zii_0 : zii 0 = 0 := rfl
theorem zR_0 : zR 0 := by unfold zR; omega
theorem zii_eq0 {a : Int} (ha : zR a) : zii a = 0 ↔ a = 0 := zii_eq ha zR_0
theorem zii_lt0 {a : Int} (ha : zR a) : zii a < 0 ↔ a < 0 := zii_lt ha zR_0
theorem zii_le0 {a : Int} (ha : zR a) : zii a ≤ 0 ↔ a ≤ 0 := zii_le ha zR_0
theorem zii_gt0 {a : Int} (ha : zR a) : 0 < zii a ↔ 0 < a := zii_lt zR_0 ha
theorem zii_ge0 {a : Int} (ha : zR a) : 0 ≤ zii a ↔ 0 ≤ a := zii_le zR_0 ha
theorem zii_of (x : Int32) : x = zii x.toInt := (Int32.ofInt_toInt x).symm
theorem zR_toInt (x : Int32) : zR x.toInt := ⟨by have := Int32.le_toInt x; omega, by have := Int32.toInt_lt x; omega⟩
def zRL (a : Int) : Prop := -9223372036854775808 ≤ a ∧ a < 9223372036854775808
theorem zll_toInt {a : Int} (h : zRL a) : (zll a).toInt = a := Int64.toInt_ofInt_of_le (by have := h.1; omega) (by have := h.2; omega)
theorem zll_of (x : Int64) : x = zll x.toInt := (Int64.ofInt_toInt x).symm
theorem zidx {a : Int} {n : Nat} (h0 : 0 ≤ a) (h1 : a < n) (hn : n < 2147483648) : vp_in (zii a) n ∧ (((zii a).toNatClampNeg : Nat) : Int) = a := by
  have hr : zR a := ⟨by omega, by omega⟩
  refine ⟨vp_in_iff.mpr (by rw [zii_toInt hr]; omega), ?_⟩
  show ((zii a).toInt.toNat : Int) = a
  rw [zii_toInt hr]
  omega
def zand (a b : Int) : Int := (zii a &&& zii b).toInt
def zor (a b : Int) : Int := (zii a ||| zii b).toInt
def zxor (a b : Int) : Int := (zii a ^^^ zii b).toInt
def zshl (a b : Int) : Int := (zii a <<< (zii b &&& 31)).toInt
def zshr (a b : Int) : Int := (zii a >>> (zii b &&& 31)).toInt
def zushr (a b : Int) : Int := ((zii a).toUInt32 >>> ((zii b).toUInt32 &&& Int32.toUInt32 31)).toInt32.toInt
def zdiv (a b : Int) : Int := (zii a / zii b).toInt
def zrem (a b : Int) : Int := (zii a - zii a / zii b * zii b).toInt
def zldiv (a b : Int) : Int := (zll a / zll b).toInt
def zlrem (a b : Int) : Int := (zll a - zll a / zll b * zll b).toInt
def zcmp (a b : Int) : Int := (lg_cmp (zll a) (zll b)).toInt
def zrv (ad : Nat → Nat) : Value → Value
  | .ref p => .ref (ad p)
  | v => v
theorem zrv_cat (ad : Nat → Nat) (v : Value) : (zrv ad v).category = v.category := by cases v <;> rfl
def zrm (d : Nat) : Room := { frames := d, cells := 0, slots := 0, locals := 36 * d }
def zL (ad : Nat → Nat) (ls : Array Slot) (nL : Nat) (lo : List (Option Value)) : Prop := ls.size = nL ∧ lv_wf ls ∧ ∀ (i : Nat) (v : Value), lo[i]? = some (some v) → ls[i]? = some (Slot.val (zrv ad v))
def zC (ad : Nat → Nat) (dC : Nat → ClassId) (dI : Nat → Nat → Nat) (cA : ClassId) (k : zMD) (p : Program) (s : State) (m : MethodId) (args : Array Value) (meth : Method) (c : Code) : Prop :=
  p.tables.exec = Jvm.exec ∧ c.code = k.2.1 ∧ meth.sig.returnType = k.2.2.2 ∧ c.maxLocals = k.2.2.1 ∧ s.vm.findClass k.1.cls = some m.cls ∧ (∀ w ∈ zt, w.before args s = true) ∧ meth.locks = false ∧ va_K (dC, dI) vwCl [(cA, .int)] s ∧ zInj ad ∧ (∀ w ∈ zn, va_Nw w s)
def zQ (ad : Nat → Nat) (dC : Nat → ClassId) (dI : Nat → Nat → Nat) (cA : ClassId) (Q : Option Value → zMem → Prop) : Array Value → State → Outcome → State → Prop := fun _ st o t =>
  (∃ (r : Option Value) (M' : zMem), o = .returned (r.map (zrv ad)) ∧ Q r M' ∧ va_P (dC, dI) vwCl (zws ad cA M') t.heap) ∧ va_F (zA ad) st t
def zX (k : zMD) (d pc : Nat) (lo : List (Option Value)) (st : List Value) (M : zMem) (Q : Option Value → zMem → Prop) : Prop :=
  ∀ (ad : Nat → Nat) (dC : Nat → ClassId) (dI : Nat → Nat → Nat) (cA : ClassId) (p : Program) (l : Launch) (e : Env) (s : State) (m : MethodId) (args : Array Value) (below : List Frame) (meth : Method) (c : Code) (H : Heap) (locs : List Loc) (ls : Array Slot),
    zC ad dC dI cA k p s m args meth c → va_P (dC, dI) vwCl (zws ad cA M) H → va_S (zA ad) s.heap H locs → zL ad ls k.2.2.1 lo →
    W p l e (zrm d) s m args below meth c H locs 0 0 (MQ below (zQ ad dC dI cA Q) args s 0 0 (zA ad)) (F0 m pc ls (st.map (zrv ad)))
/-- an instruction of k at pc, n bytes long; the next is at nx -/
def zI (k : zMD) (pc : Nat) (i : Instr) (n nx : Nat) : Prop := decode k.2.1 pc = .ok (i, n) ∧ nx = pc + n
def zRet (v : Value) (M0 : zMem) : Option Value → zMem → Prop := fun r M' => r = some v ∧ M' = M0
def zVoid (M0 : zMem) : Option Value → zMem → Prop := fun r M' => r = none ∧ M' = M0
section ZX
variable {k : zMD} {d pc nx : Nat} {lo : List (Option Value)} {st : List Value} {M : zMem} {Q : Option Value → zMem → Prop}
theorem X_weak {lo' : List (Option Value)} (hw : ∀ (i : Nat) (v : Value), lo'[i]? = some (some v) → lo[i]? = some (some v)) (h : zX k d pc lo' st M Q) : zX k d pc lo st M Q := fun ad dC dI cA p l e s m args below meth c H locs ls hC hP hS hL => h ad dC dI cA p l e s m args below meth c H locs ls hC hP hS ⟨hL.1, hL.2.1, fun i v hv => hL.2.2 i v (hw i v hv)⟩
theorem X_eq {lo' : List (Option Value)} {st' : List Value} {M' : zMem} (h : zX k d pc lo' st' M' Q) (e1 : lo' = lo) (e2 : st' = st) (e3 : M' = M) : zX k d pc lo st M Q := by subst e1; subst e2; subst e3; exact h
theorem X_post {Q' : Option Value → zMem → Prop} (h : zX k d pc lo st M Q') (hq : ∀ r M', Q' r M' → Q r M') : zX k d pc lo st M Q := by
  intro ad dC dI cA p l e s m args below meth c H locs ls hC hP hS hL T hT X
  obtain ⟨t, a, o, b1, b2, b3, b4⟩ := h ad dC dI cA p l e s m args below meth c H locs ls hC hP hS hL T hT X
  obtain ⟨⟨r, M', c1, c2, c3⟩, c4⟩ := b3
  exact ⟨t, a, o, b1, b2, ⟨⟨r, M', c1, hq r M' c2, c3⟩, c4⟩, b4⟩

theorem X_iadd {a b : Int} (hi : zI k pc .iadd 1 nx) (h : zX k d nx lo (.int (zii (a + b)) :: st) M Q) : zX k d pc lo (.int (zii b) :: .int (zii a) :: st) M Q := by
  intro ad dC dI cA p l e s m args below meth c H locs ls hC hP hS hL
  have kk := h ad dC dI cA p l e s m args below meth c H locs ls hC hP hS hL
  obtain ⟨hd, rfl⟩ := hi
  obtain ⟨hx, hb, hr, hml, hown, hts, hlk, hK, hinj, hnw⟩ := hC
  refine lv_iadd hx hb hd ?_
  rw [show zii a + zii b = zii (a + b) from (Int32.ofInt_add a b).symm]
  exact kk
theorem X_isub {a b : Int} (hi : zI k pc .isub 1 nx) (h : zX k d nx lo (.int (zii (a - b)) :: st) M Q) : zX k d pc lo (.int (zii b) :: .int (zii a) :: st) M Q := by
  intro ad dC dI cA p l e s m args below meth c H locs ls hC hP hS hL
  have kk := h ad dC dI cA p l e s m args below meth c H locs ls hC hP hS hL
  obtain ⟨hd, rfl⟩ := hi
  obtain ⟨hx, hb, hr, hml, hown, hts, hlk, hK, hinj, hnw⟩ := hC
  refine lv_isub hx hb hd ?_
  rw [show zii a - zii b = zii (a - b) from (Int32.ofInt_sub a b).symm]
  exact kk
theorem X_imul {a b : Int} (hi : zI k pc .imul 1 nx) (h : zX k d nx lo (.int (zii (a * b)) :: st) M Q) : zX k d pc lo (.int (zii b) :: .int (zii a) :: st) M Q := by
  intro ad dC dI cA p l e s m args below meth c H locs ls hC hP hS hL
  have kk := h ad dC dI cA p l e s m args below meth c H locs ls hC hP hS hL
  obtain ⟨hd, rfl⟩ := hi
  obtain ⟨hx, hb, hr, hml, hown, hts, hlk, hK, hinj, hnw⟩ := hC
  refine lv_imul hx hb hd ?_
  rw [show zii a * zii b = zii (a * b) from (Int32.ofInt_mul a b).symm]
  exact kk
theorem X_iand {a b : Int} (hi : zI k pc .iand 1 nx) (h : zX k d nx lo (.int (zii (zand a b)) :: st) M Q) : zX k d pc lo (.int (zii b) :: .int (zii a) :: st) M Q := by
  intro ad dC dI cA p l e s m args below meth c H locs ls hC hP hS hL
  have kk := h ad dC dI cA p l e s m args below meth c H locs ls hC hP hS hL
  obtain ⟨hd, rfl⟩ := hi
  obtain ⟨hx, hb, hr, hml, hown, hts, hlk, hK, hinj, hnw⟩ := hC
  refine lv_iand hx hb hd ?_
  rw [show zii a &&& zii b = zii (zand a b) from zii_of _]
  exact kk
theorem X_ior {a b : Int} (hi : zI k pc .ior 1 nx) (h : zX k d nx lo (.int (zii (zor a b)) :: st) M Q) : zX k d pc lo (.int (zii b) :: .int (zii a) :: st) M Q := by
  intro ad dC dI cA p l e s m args below meth c H locs ls hC hP hS hL
  have kk := h ad dC dI cA p l e s m args below meth c H locs ls hC hP hS hL
  obtain ⟨hd, rfl⟩ := hi
  obtain ⟨hx, hb, hr, hml, hown, hts, hlk, hK, hinj, hnw⟩ := hC
  refine lv_ior hx hb hd ?_
  rw [show zii a ||| zii b = zii (zor a b) from zii_of _]
  exact kk
theorem X_ixor {a b : Int} (hi : zI k pc .ixor 1 nx) (h : zX k d nx lo (.int (zii (zxor a b)) :: st) M Q) : zX k d pc lo (.int (zii b) :: .int (zii a) :: st) M Q := by
  intro ad dC dI cA p l e s m args below meth c H locs ls hC hP hS hL
  have kk := h ad dC dI cA p l e s m args below meth c H locs ls hC hP hS hL
  obtain ⟨hd, rfl⟩ := hi
  obtain ⟨hx, hb, hr, hml, hown, hts, hlk, hK, hinj, hnw⟩ := hC
  refine lv_ixor hx hb hd ?_
  rw [show zii a ^^^ zii b = zii (zxor a b) from zii_of _]
  exact kk
theorem X_ishl {a b : Int} (hi : zI k pc .ishl 1 nx) (h : zX k d nx lo (.int (zii (zshl a b)) :: st) M Q) : zX k d pc lo (.int (zii b) :: .int (zii a) :: st) M Q := by
  intro ad dC dI cA p l e s m args below meth c H locs ls hC hP hS hL
  have kk := h ad dC dI cA p l e s m args below meth c H locs ls hC hP hS hL
  obtain ⟨hd, rfl⟩ := hi
  obtain ⟨hx, hb, hr, hml, hown, hts, hlk, hK, hinj, hnw⟩ := hC
  refine lv_ishl hx hb hd ?_
  rw [show zii a <<< (zii b &&& 31) = zii (zshl a b) from zii_of _]
  exact kk
theorem X_ishr {a b : Int} (hi : zI k pc .ishr 1 nx) (h : zX k d nx lo (.int (zii (zshr a b)) :: st) M Q) : zX k d pc lo (.int (zii b) :: .int (zii a) :: st) M Q := by
  intro ad dC dI cA p l e s m args below meth c H locs ls hC hP hS hL
  have kk := h ad dC dI cA p l e s m args below meth c H locs ls hC hP hS hL
  obtain ⟨hd, rfl⟩ := hi
  obtain ⟨hx, hb, hr, hml, hown, hts, hlk, hK, hinj, hnw⟩ := hC
  refine lv_ishr hx hb hd ?_
  rw [show zii a >>> (zii b &&& 31) = zii (zshr a b) from zii_of _]
  exact kk
theorem X_iushr {a b : Int} (hi : zI k pc .iushr 1 nx) (h : zX k d nx lo (.int (zii (zushr a b)) :: st) M Q) : zX k d pc lo (.int (zii b) :: .int (zii a) :: st) M Q := by
  intro ad dC dI cA p l e s m args below meth c H locs ls hC hP hS hL
  have kk := h ad dC dI cA p l e s m args below meth c H locs ls hC hP hS hL
  obtain ⟨hd, rfl⟩ := hi
  obtain ⟨hx, hb, hr, hml, hown, hts, hlk, hK, hinj, hnw⟩ := hC
  refine lv_iushr hx hb hd (v := zii (zushr a b)) (zii_of _) ?_
  
  exact kk
theorem X_idiv {a b : Int} (hi : zI k pc .idiv 1 nx) (hb0 : zR b) (hne : b ≠ 0) (h : zX k d nx lo (.int (zii (zdiv a b)) :: st) M Q) : zX k d pc lo (.int (zii b) :: .int (zii a) :: st) M Q := by
  intro ad dC dI cA p l e s m args below meth c H locs ls hC hP hS hL
  have kk := h ad dC dI cA p l e s m args below meth c H locs ls hC hP hS hL
  obtain ⟨hd, rfl⟩ := hi
  obtain ⟨hx, hb, hr, hml, hown, hts, hlk, hK, hinj, hnw⟩ := hC
  refine lv_idiv hx hb hd (fun z => hne ((zii_eq0 hb0).mp z)) ?_
  rw [show zii a / zii b = zii (zdiv a b) from zii_of _]
  exact kk
theorem X_irem {a b : Int} (hi : zI k pc .irem 1 nx) (hb0 : zR b) (hne : b ≠ 0) (h : zX k d nx lo (.int (zii (zrem a b)) :: st) M Q) : zX k d pc lo (.int (zii b) :: .int (zii a) :: st) M Q := by
  intro ad dC dI cA p l e s m args below meth c H locs ls hC hP hS hL
  have kk := h ad dC dI cA p l e s m args below meth c H locs ls hC hP hS hL
  obtain ⟨hd, rfl⟩ := hi
  obtain ⟨hx, hb, hr, hml, hown, hts, hlk, hK, hinj, hnw⟩ := hC
  refine lv_irem hx hb hd (fun z => hne ((zii_eq0 hb0).mp z)) ?_
  rw [show zii a - zii a / zii b * zii b = zii (zrem a b) from zii_of _]
  exact kk
theorem X_ladd {a b : Int} (hi : zI k pc .ladd 1 nx) (h : zX k d nx lo (.long (zll (a + b)) :: st) M Q) : zX k d pc lo (.long (zll b) :: .long (zll a) :: st) M Q := by
  intro ad dC dI cA p l e s m args below meth c H locs ls hC hP hS hL
  have kk := h ad dC dI cA p l e s m args below meth c H locs ls hC hP hS hL
  obtain ⟨hd, rfl⟩ := hi
  obtain ⟨hx, hb, hr, hml, hown, hts, hlk, hK, hinj, hnw⟩ := hC
  refine lv_ladd hx hb hd ?_
  rw [show zll a + zll b = zll (a + b) from (Int64.ofInt_add a b).symm]
  exact kk
theorem X_lsub {a b : Int} (hi : zI k pc .lsub 1 nx) (h : zX k d nx lo (.long (zll (a - b)) :: st) M Q) : zX k d pc lo (.long (zll b) :: .long (zll a) :: st) M Q := by
  intro ad dC dI cA p l e s m args below meth c H locs ls hC hP hS hL
  have kk := h ad dC dI cA p l e s m args below meth c H locs ls hC hP hS hL
  obtain ⟨hd, rfl⟩ := hi
  obtain ⟨hx, hb, hr, hml, hown, hts, hlk, hK, hinj, hnw⟩ := hC
  refine lv_lsub hx hb hd ?_
  rw [show zll a - zll b = zll (a - b) from (Int64.ofInt_sub a b).symm]
  exact kk
theorem X_lmul {a b : Int} (hi : zI k pc .lmul 1 nx) (h : zX k d nx lo (.long (zll (a * b)) :: st) M Q) : zX k d pc lo (.long (zll b) :: .long (zll a) :: st) M Q := by
  intro ad dC dI cA p l e s m args below meth c H locs ls hC hP hS hL
  have kk := h ad dC dI cA p l e s m args below meth c H locs ls hC hP hS hL
  obtain ⟨hd, rfl⟩ := hi
  obtain ⟨hx, hb, hr, hml, hown, hts, hlk, hK, hinj, hnw⟩ := hC
  refine lv_lmul hx hb hd ?_
  rw [show zll a * zll b = zll (a * b) from (Int64.ofInt_mul a b).symm]
  exact kk
theorem X_ldiv {a b : Int} (hi : zI k pc .ldiv 1 nx) (hb0 : zRL b) (hne : b ≠ 0) (h : zX k d nx lo (.long (zll (zldiv a b)) :: st) M Q) : zX k d pc lo (.long (zll b) :: .long (zll a) :: st) M Q := by
  intro ad dC dI cA p l e s m args below meth c H locs ls hC hP hS hL
  have kk := h ad dC dI cA p l e s m args below meth c H locs ls hC hP hS hL
  obtain ⟨hd, rfl⟩ := hi
  obtain ⟨hx, hb, hr, hml, hown, hts, hlk, hK, hinj, hnw⟩ := hC
  refine lv_ldiv hx hb hd (fun z => hne (by have := congrArg Int64.toInt z; rw [zll_toInt hb0] at this; exact this)) ?_
  rw [show zll a / zll b = zll (zldiv a b) from zll_of _]
  exact kk
theorem X_lrem {a b : Int} (hi : zI k pc .lrem 1 nx) (hb0 : zRL b) (hne : b ≠ 0) (h : zX k d nx lo (.long (zll (zlrem a b)) :: st) M Q) : zX k d pc lo (.long (zll b) :: .long (zll a) :: st) M Q := by
  intro ad dC dI cA p l e s m args below meth c H locs ls hC hP hS hL
  have kk := h ad dC dI cA p l e s m args below meth c H locs ls hC hP hS hL
  obtain ⟨hd, rfl⟩ := hi
  obtain ⟨hx, hb, hr, hml, hown, hts, hlk, hK, hinj, hnw⟩ := hC
  refine lv_lrem hx hb hd (fun z => hne (by have := congrArg Int64.toInt z; rw [zll_toInt hb0] at this; exact this)) ?_
  rw [show zll a - zll a / zll b * zll b = zll (zlrem a b) from zll_of _]
  exact kk
theorem X_lcmp {a b : Int} (hi : zI k pc .lcmp 1 nx) (h : zX k d nx lo (.int (zii (zcmp a b)) :: st) M Q) : zX k d pc lo (.long (zll b) :: .long (zll a) :: st) M Q := by
  intro ad dC dI cA p l e s m args below meth c H locs ls hC hP hS hL
  have kk := h ad dC dI cA p l e s m args below meth c H locs ls hC hP hS hL
  obtain ⟨hd, rfl⟩ := hi
  obtain ⟨hx, hb, hr, hml, hown, hts, hlk, hK, hinj, hnw⟩ := hC
  refine W.lcmp hx hb hd ?_
  rw [show lg_cmp (zll a) (zll b) = zii (zcmp a b) from zii_of _]
  exact kk
theorem X_ineg {a : Int} (hi : zI k pc .ineg 1 nx) (h : zX k d nx lo (.int (zii (-a)) :: st) M Q) : zX k d pc lo (.int (zii a) :: st) M Q := by
  intro ad dC dI cA p l e s m args below meth c H locs ls hC hP hS hL
  have kk := h ad dC dI cA p l e s m args below meth c H locs ls hC hP hS hL
  obtain ⟨hd, rfl⟩ := hi
  obtain ⟨hx, hb, hr, hml, hown, hts, hlk, hK, hinj, hnw⟩ := hC
  refine lv_ineg hx hb hd ?_
  rw [show -zii a = zii (-a) from (Int32.ofInt_neg a).symm]
  exact kk
theorem X_i2l {a : Int} (hi : zI k pc .i2l 1 nx) (ha : zR a) (h : zX k d nx lo (.long (zll a) :: st) M Q) : zX k d pc lo (.int (zii a) :: st) M Q := by
  intro ad dC dI cA p l e s m args below meth c H locs ls hC hP hS hL
  have kk := h ad dC dI cA p l e s m args below meth c H locs ls hC hP hS hL
  obtain ⟨hd, rfl⟩ := hi
  obtain ⟨hx, hb, hr, hml, hown, hts, hlk, hK, hinj, hnw⟩ := hC
  exact lv_i2l hx hb hd (v := zll a) (Int64.toInt_inj.mp (by rw [Int32.toInt_toInt64, zii_toInt ha, zll_toInt ⟨by have := ha.1; omega, by have := ha.2; omega⟩])) kk
theorem X_iconst {n : Int} (hi : zI k pc (.iconst n) 1 nx) (h : zX k d nx lo (.int (zii n) :: st) M Q) : zX k d pc lo st M Q := by
  intro ad dC dI cA p l e s m args below meth c H locs ls hC hP hS hL
  have kk := h ad dC dI cA p l e s m args below meth c H locs ls hC hP hS hL
  obtain ⟨hd, rfl⟩ := hi
  obtain ⟨hx, hb, hr, hml, hown, hts, hlk, hK, hinj, hnw⟩ := hC
  exact lv_iconst hx hb hd rfl kk
theorem X_bipush {n : Int} (hi : zI k pc (.bipush n) 2 nx) (hn : (Int8.ofInt n).toInt32 = zii n) (h : zX k d nx lo (.int (zii n) :: st) M Q) : zX k d pc lo st M Q := by
  intro ad dC dI cA p l e s m args below meth c H locs ls hC hP hS hL
  have kk := h ad dC dI cA p l e s m args below meth c H locs ls hC hP hS hL
  obtain ⟨hd, rfl⟩ := hi
  obtain ⟨hx, hb, hr, hml, hown, hts, hlk, hK, hinj, hnw⟩ := hC
  exact lv_bipush hx hb hd hn kk
theorem X_sipush {n : Int} (hi : zI k pc (.sipush n) 3 nx) (hn : (Int16.ofInt n).toInt32 = zii n) (h : zX k d nx lo (.int (zii n) :: st) M Q) : zX k d pc lo st M Q := by
  intro ad dC dI cA p l e s m args below meth c H locs ls hC hP hS hL
  have kk := h ad dC dI cA p l e s m args below meth c H locs ls hC hP hS hL
  obtain ⟨hd, rfl⟩ := hi
  obtain ⟨hx, hb, hr, hml, hown, hts, hlk, hK, hinj, hnw⟩ := hC
  exact lv_sipush hx hb hd hn kk
theorem X_lconst {n : Fin 2} {x : Int} (hi : zI k pc (.lconst n) 1 nx) (hn : Int64.ofNat (n : Nat) = zll x) (h : zX k d nx lo (.long (zll x) :: st) M Q) : zX k d pc lo st M Q := by
  intro ad dC dI cA p l e s m args below meth c H locs ls hC hP hS hL
  have kk := h ad dC dI cA p l e s m args below meth c H locs ls hC hP hS hL
  obtain ⟨hd, rfl⟩ := hi
  obtain ⟨hx, hb, hr, hml, hown, hts, hlk, hK, hinj, hnw⟩ := hC
  exact lv_lconst hx hb hd hn kk
theorem X_ldc {j : Nat} {v : Int32} {x : Int} (hi : zI k pc (.ldc j) 2 nx) (hw : Cond.constant k.1.cls j v ∈ zt) (hn : v = zii x) (h : zX k d nx lo (.int (zii x) :: st) M Q) : zX k d pc lo st M Q := by
  subst hn
  intro ad dC dI cA p l e s m args below meth c H locs ls hC hP hS hL
  have kk := h ad dC dI cA p l e s m args below meth c H locs ls hC hP hS hL
  obtain ⟨hd, rfl⟩ := hi
  obtain ⟨hx, hb, hr, hml, hown, hts, hlk, hK, hinj, hnw⟩ := hC
  exact lv_ldc hx hb hown (hts _ hw) hd kk
theorem X_ldcw {j : Nat} {v : Int32} {x : Int} (hi : zI k pc (.ldc_w j) 3 nx) (hw : Cond.constant k.1.cls j v ∈ zt) (hn : v = zii x) (h : zX k d nx lo (.int (zii x) :: st) M Q) : zX k d pc lo st M Q := by
  subst hn
  intro ad dC dI cA p l e s m args below meth c H locs ls hC hP hS hL
  have kk := h ad dC dI cA p l e s m args below meth c H locs ls hC hP hS hL
  obtain ⟨hd, rfl⟩ := hi
  obtain ⟨hx, hb, hr, hml, hown, hts, hlk, hK, hinj, hnw⟩ := hC
  exact lv_ldcw hx hb hown (hts _ hw) hd kk
theorem X_ldc2 {j : Nat} {v : Int64} {x : Int} (hi : zI k pc (.ldc2_w j) 3 nx) (hw : Cond.constantLong k.1.cls j v ∈ zt) (hn : v = zll x) (h : zX k d nx lo (.long (zll x) :: st) M Q) : zX k d pc lo st M Q := by
  subst hn
  intro ad dC dI cA p l e s m args below meth c H locs ls hC hP hS hL
  have kk := h ad dC dI cA p l e s m args below meth c H locs ls hC hP hS hL
  obtain ⟨hd, rfl⟩ := hi
  obtain ⟨hx, hb, hr, hml, hown, hts, hlk, hK, hinj, hnw⟩ := hC
  exact lv_ldc2 hx hb hown (hts _ hw) hd kk
theorem X_dup {v : Value} (hi : zI k pc .dup 1 nx) (hv : v.category = 1) (h : zX k d nx lo (v :: v :: st) M Q) : zX k d pc lo (v :: st) M Q := by
  intro ad dC dI cA p l e s m args below meth c H locs ls hC hP hS hL
  have kk := h ad dC dI cA p l e s m args below meth c H locs ls hC hP hS hL
  obtain ⟨hd, rfl⟩ := hi
  obtain ⟨hx, hb, hr, hml, hown, hts, hlk, hK, hinj, hnw⟩ := hC
  exact lv_dup hx hb hd (by rw [zrv_cat]; exact hv) kk
theorem X_pop {v : Value} (hi : zI k pc .pop 1 nx) (hv : v.category = 1) (h : zX k d nx lo st M Q) : zX k d pc lo (v :: st) M Q := by
  intro ad dC dI cA p l e s m args below meth c H locs ls hC hP hS hL
  have kk := h ad dC dI cA p l e s m args below meth c H locs ls hC hP hS hL
  obtain ⟨hd, rfl⟩ := hi
  obtain ⟨hx, hb, hr, hml, hown, hts, hlk, hK, hinj, hnw⟩ := hC
  exact lv_pop hx hb hd (by rw [zrv_cat]; exact hv) kk
theorem X_dup2 {v w : Value} (hi : zI k pc .dup2 1 nx) (hv : v.category = 1) (hw : w.category = 1) (h : zX k d nx lo (v :: w :: v :: w :: st) M Q) : zX k d pc lo (v :: w :: st) M Q := by
  intro ad dC dI cA p l e s m args below meth c H locs ls hC hP hS hL
  have kk := h ad dC dI cA p l e s m args below meth c H locs ls hC hP hS hL
  obtain ⟨hd, rfl⟩ := hi
  obtain ⟨hx, hb, hr, hml, hown, hts, hlk, hK, hinj, hnw⟩ := hC
  exact lv_dup2_11 hx hb hd (by rw [zrv_cat]; exact hv) (by rw [zrv_cat]; exact hw) kk
theorem X_goto {off : Int} {tgt : Nat} (hi : zI k pc (.goto off) 3 nx) (ht : (pc : Int) + off = (tgt : Int)) (h : zX k d tgt lo st M Q) : zX k d pc lo st M Q := by
  intro ad dC dI cA p l e s m args below meth c H locs ls hC hP hS hL
  have kk := h ad dC dI cA p l e s m args below meth c H locs ls hC hP hS hL
  obtain ⟨hd, rfl⟩ := hi
  obtain ⟨hx, hb, hr, hml, hown, hts, hlk, hK, hinj, hnw⟩ := hC
  exact lv_goto hx hb hd ht kk
theorem X_icmp_eq {a b off : Int} {tgt : Nat} (hi : zI k pc (.if_icmp .eq off) 3 nx) (hj : (pc : Int) + off = (tgt : Int)) (ha : zR a) (hb9 : zR b) (ht : a = b → zX k d tgt lo st M Q) (hf : ¬ (a = b) → zX k d nx lo st M Q) : zX k d pc lo (.int (zii b) :: .int (zii a) :: st) M Q := by
  intro ad dC dI cA p l e s m args below meth c H locs ls hC hP hS hL
  obtain ⟨hd, rfl⟩ := hi
  have hC2 := hC
  obtain ⟨hx, hb, hr, hml, hown, hts, hlk, hK, hinj, hnw⟩ := hC
  exact lv_icmp_eq hx hb hd hj (fun z => ht ((zii_eq ha hb9).mp z) ad dC dI cA p l e s m args below meth c H locs ls hC2 hP hS hL) (fun z => hf (fun q => z ((zii_eq ha hb9).mpr q)) ad dC dI cA p l e s m args below meth c H locs ls hC2 hP hS hL)
theorem X_if_eq {a off : Int} {tgt : Nat} (hi : zI k pc (.ifCond .eq off) 3 nx) (hj : (pc : Int) + off = (tgt : Int)) (ha : zR a) (ht : a = 0 → zX k d tgt lo st M Q) (hf : ¬ (a = 0) → zX k d nx lo st M Q) : zX k d pc lo (.int (zii a) :: st) M Q := by
  intro ad dC dI cA p l e s m args below meth c H locs ls hC hP hS hL
  obtain ⟨hd, rfl⟩ := hi
  have hC2 := hC
  obtain ⟨hx, hb, hr, hml, hown, hts, hlk, hK, hinj, hnw⟩ := hC
  exact lv_if_eq hx hb hd hj (fun z => ht ((zii_eq0 ha).mp z) ad dC dI cA p l e s m args below meth c H locs ls hC2 hP hS hL) (fun z => hf (fun q => z ((zii_eq0 ha).mpr q)) ad dC dI cA p l e s m args below meth c H locs ls hC2 hP hS hL)
theorem X_icmp_ne {a b off : Int} {tgt : Nat} (hi : zI k pc (.if_icmp .ne off) 3 nx) (hj : (pc : Int) + off = (tgt : Int)) (ha : zR a) (hb9 : zR b) (ht : ¬ a = b → zX k d tgt lo st M Q) (hf : ¬ (¬ a = b) → zX k d nx lo st M Q) : zX k d pc lo (.int (zii b) :: .int (zii a) :: st) M Q := by
  intro ad dC dI cA p l e s m args below meth c H locs ls hC hP hS hL
  obtain ⟨hd, rfl⟩ := hi
  have hC2 := hC
  obtain ⟨hx, hb, hr, hml, hown, hts, hlk, hK, hinj, hnw⟩ := hC
  exact lv_icmp_ne hx hb hd hj (fun z => ht (fun q => z ((zii_eq ha hb9).mpr q)) ad dC dI cA p l e s m args below meth c H locs ls hC2 hP hS hL) (fun z => hf (fun q => q ((zii_eq ha hb9).mp z)) ad dC dI cA p l e s m args below meth c H locs ls hC2 hP hS hL)
theorem X_if_ne {a off : Int} {tgt : Nat} (hi : zI k pc (.ifCond .ne off) 3 nx) (hj : (pc : Int) + off = (tgt : Int)) (ha : zR a) (ht : ¬ a = 0 → zX k d tgt lo st M Q) (hf : ¬ (¬ a = 0) → zX k d nx lo st M Q) : zX k d pc lo (.int (zii a) :: st) M Q := by
  intro ad dC dI cA p l e s m args below meth c H locs ls hC hP hS hL
  obtain ⟨hd, rfl⟩ := hi
  have hC2 := hC
  obtain ⟨hx, hb, hr, hml, hown, hts, hlk, hK, hinj, hnw⟩ := hC
  exact lv_if_ne hx hb hd hj (fun z => ht (fun q => z ((zii_eq0 ha).mpr q)) ad dC dI cA p l e s m args below meth c H locs ls hC2 hP hS hL) (fun z => hf (fun q => q ((zii_eq0 ha).mp z)) ad dC dI cA p l e s m args below meth c H locs ls hC2 hP hS hL)
theorem X_icmp_lt {a b off : Int} {tgt : Nat} (hi : zI k pc (.if_icmp .lt off) 3 nx) (hj : (pc : Int) + off = (tgt : Int)) (ha : zR a) (hb9 : zR b) (ht : a < b → zX k d tgt lo st M Q) (hf : ¬ (a < b) → zX k d nx lo st M Q) : zX k d pc lo (.int (zii b) :: .int (zii a) :: st) M Q := by
  intro ad dC dI cA p l e s m args below meth c H locs ls hC hP hS hL
  obtain ⟨hd, rfl⟩ := hi
  have hC2 := hC
  obtain ⟨hx, hb, hr, hml, hown, hts, hlk, hK, hinj, hnw⟩ := hC
  exact lv_icmp_lt hx hb hd hj (fun z => ht ((zii_lt ha hb9).mp z) ad dC dI cA p l e s m args below meth c H locs ls hC2 hP hS hL) (fun z => hf (fun q => z ((zii_lt ha hb9).mpr q)) ad dC dI cA p l e s m args below meth c H locs ls hC2 hP hS hL)
theorem X_if_lt {a off : Int} {tgt : Nat} (hi : zI k pc (.ifCond .lt off) 3 nx) (hj : (pc : Int) + off = (tgt : Int)) (ha : zR a) (ht : a < 0 → zX k d tgt lo st M Q) (hf : ¬ (a < 0) → zX k d nx lo st M Q) : zX k d pc lo (.int (zii a) :: st) M Q := by
  intro ad dC dI cA p l e s m args below meth c H locs ls hC hP hS hL
  obtain ⟨hd, rfl⟩ := hi
  have hC2 := hC
  obtain ⟨hx, hb, hr, hml, hown, hts, hlk, hK, hinj, hnw⟩ := hC
  exact lv_if_lt hx hb hd hj (fun z => ht ((zii_lt0 ha).mp z) ad dC dI cA p l e s m args below meth c H locs ls hC2 hP hS hL) (fun z => hf (fun q => z ((zii_lt0 ha).mpr q)) ad dC dI cA p l e s m args below meth c H locs ls hC2 hP hS hL)
theorem X_icmp_ge {a b off : Int} {tgt : Nat} (hi : zI k pc (.if_icmp .ge off) 3 nx) (hj : (pc : Int) + off = (tgt : Int)) (ha : zR a) (hb9 : zR b) (ht : b ≤ a → zX k d tgt lo st M Q) (hf : ¬ (b ≤ a) → zX k d nx lo st M Q) : zX k d pc lo (.int (zii b) :: .int (zii a) :: st) M Q := by
  intro ad dC dI cA p l e s m args below meth c H locs ls hC hP hS hL
  obtain ⟨hd, rfl⟩ := hi
  have hC2 := hC
  obtain ⟨hx, hb, hr, hml, hown, hts, hlk, hK, hinj, hnw⟩ := hC
  exact lv_icmp_ge hx hb hd hj (fun z => ht ((zii_le hb9 ha).mp z) ad dC dI cA p l e s m args below meth c H locs ls hC2 hP hS hL) (fun z => hf (fun q => z ((zii_le hb9 ha).mpr q)) ad dC dI cA p l e s m args below meth c H locs ls hC2 hP hS hL)
theorem X_if_ge {a off : Int} {tgt : Nat} (hi : zI k pc (.ifCond .ge off) 3 nx) (hj : (pc : Int) + off = (tgt : Int)) (ha : zR a) (ht : 0 ≤ a → zX k d tgt lo st M Q) (hf : ¬ (0 ≤ a) → zX k d nx lo st M Q) : zX k d pc lo (.int (zii a) :: st) M Q := by
  intro ad dC dI cA p l e s m args below meth c H locs ls hC hP hS hL
  obtain ⟨hd, rfl⟩ := hi
  have hC2 := hC
  obtain ⟨hx, hb, hr, hml, hown, hts, hlk, hK, hinj, hnw⟩ := hC
  exact lv_if_ge hx hb hd hj (fun z => ht ((zii_ge0 ha).mp z) ad dC dI cA p l e s m args below meth c H locs ls hC2 hP hS hL) (fun z => hf (fun q => z ((zii_ge0 ha).mpr q)) ad dC dI cA p l e s m args below meth c H locs ls hC2 hP hS hL)
theorem X_icmp_gt {a b off : Int} {tgt : Nat} (hi : zI k pc (.if_icmp .gt off) 3 nx) (hj : (pc : Int) + off = (tgt : Int)) (ha : zR a) (hb9 : zR b) (ht : b < a → zX k d tgt lo st M Q) (hf : ¬ (b < a) → zX k d nx lo st M Q) : zX k d pc lo (.int (zii b) :: .int (zii a) :: st) M Q := by
  intro ad dC dI cA p l e s m args below meth c H locs ls hC hP hS hL
  obtain ⟨hd, rfl⟩ := hi
  have hC2 := hC
  obtain ⟨hx, hb, hr, hml, hown, hts, hlk, hK, hinj, hnw⟩ := hC
  exact lv_icmp_gt hx hb hd hj (fun z => ht ((zii_lt hb9 ha).mp z) ad dC dI cA p l e s m args below meth c H locs ls hC2 hP hS hL) (fun z => hf (fun q => z ((zii_lt hb9 ha).mpr q)) ad dC dI cA p l e s m args below meth c H locs ls hC2 hP hS hL)
theorem X_if_gt {a off : Int} {tgt : Nat} (hi : zI k pc (.ifCond .gt off) 3 nx) (hj : (pc : Int) + off = (tgt : Int)) (ha : zR a) (ht : 0 < a → zX k d tgt lo st M Q) (hf : ¬ (0 < a) → zX k d nx lo st M Q) : zX k d pc lo (.int (zii a) :: st) M Q := by
  intro ad dC dI cA p l e s m args below meth c H locs ls hC hP hS hL
  obtain ⟨hd, rfl⟩ := hi
  have hC2 := hC
  obtain ⟨hx, hb, hr, hml, hown, hts, hlk, hK, hinj, hnw⟩ := hC
  exact lv_if_gt hx hb hd hj (fun z => ht ((zii_gt0 ha).mp z) ad dC dI cA p l e s m args below meth c H locs ls hC2 hP hS hL) (fun z => hf (fun q => z ((zii_gt0 ha).mpr q)) ad dC dI cA p l e s m args below meth c H locs ls hC2 hP hS hL)
theorem X_icmp_le {a b off : Int} {tgt : Nat} (hi : zI k pc (.if_icmp .le off) 3 nx) (hj : (pc : Int) + off = (tgt : Int)) (ha : zR a) (hb9 : zR b) (ht : a ≤ b → zX k d tgt lo st M Q) (hf : ¬ (a ≤ b) → zX k d nx lo st M Q) : zX k d pc lo (.int (zii b) :: .int (zii a) :: st) M Q := by
  intro ad dC dI cA p l e s m args below meth c H locs ls hC hP hS hL
  obtain ⟨hd, rfl⟩ := hi
  have hC2 := hC
  obtain ⟨hx, hb, hr, hml, hown, hts, hlk, hK, hinj, hnw⟩ := hC
  exact lv_icmp_le hx hb hd hj (fun z => ht ((zii_le ha hb9).mp z) ad dC dI cA p l e s m args below meth c H locs ls hC2 hP hS hL) (fun z => hf (fun q => z ((zii_le ha hb9).mpr q)) ad dC dI cA p l e s m args below meth c H locs ls hC2 hP hS hL)
theorem X_if_le {a off : Int} {tgt : Nat} (hi : zI k pc (.ifCond .le off) 3 nx) (hj : (pc : Int) + off = (tgt : Int)) (ha : zR a) (ht : a ≤ 0 → zX k d tgt lo st M Q) (hf : ¬ (a ≤ 0) → zX k d nx lo st M Q) : zX k d pc lo (.int (zii a) :: st) M Q := by
  intro ad dC dI cA p l e s m args below meth c H locs ls hC hP hS hL
  obtain ⟨hd, rfl⟩ := hi
  have hC2 := hC
  obtain ⟨hx, hb, hr, hml, hown, hts, hlk, hK, hinj, hnw⟩ := hC
  exact lv_if_le hx hb hd hj (fun z => ht ((zii_le0 ha).mp z) ad dC dI cA p l e s m args below meth c H locs ls hC2 hP hS hL) (fun z => hf (fun q => z ((zii_le0 ha).mpr q)) ad dC dI cA p l e s m args below meth c H locs ls hC2 hP hS hL)
theorem X_tabIn {a dflt lw hw off : Int} {offs : Array Int} {len tgt : Nat} (hi : zI k pc (.tableswitch dflt lw hw offs) len nx) (ha : zR a) (h1 : lw ≤ a) (h2 : a ≤ hw) (ho : offs[(a - lw).toNat]? = some off) (hj : (pc : Int) + off = (tgt : Int)) (h : zX k d tgt lo st M Q) : zX k d pc lo (.int (zii a) :: st) M Q := by
  intro ad dC dI cA p l e s m args below meth c H locs ls hC hP hS hL
  have kk := h ad dC dI cA p l e s m args below meth c H locs ls hC hP hS hL
  obtain ⟨hd, rfl⟩ := hi
  obtain ⟨hx, hb, hr, hml, hown, hts, hlk, hK, hinj, hnw⟩ := hC
  exact lv_tableIn hx hb hd (by rw [zii_toInt ha]; omega) (by rw [zii_toInt ha]; omega) (by rw [zii_toInt ha]; exact ho) hj kk
theorem X_tabOut {a dflt lw hw : Int} {offs : Array Int} {len tgt : Nat} (hi : zI k pc (.tableswitch dflt lw hw offs) len nx) (ha : zR a) (h1 : a < lw ∨ hw < a) (hj : (pc : Int) + dflt = (tgt : Int)) (h : zX k d tgt lo st M Q) : zX k d pc lo (.int (zii a) :: st) M Q := by
  intro ad dC dI cA p l e s m args below meth c H locs ls hC hP hS hL
  have kk := h ad dC dI cA p l e s m args below meth c H locs ls hC hP hS hL
  obtain ⟨hd, rfl⟩ := hi
  obtain ⟨hx, hb, hr, hml, hown, hts, hlk, hK, hinj, hnw⟩ := hC
  exact lv_tableOut hx hb hd (by rw [zii_toInt ha]; exact h1) hj kk
theorem X_look {a dflt off : Int} {ps : Array (Int × Int)} {len tgt : Nat} (hi : zI k pc (.lookupswitch dflt ps) len nx) (hp : (ps.toList.zip (ps.toList.drop 1)).all (fun (a, next) => a.1 < next.1) = true) (ha : zR a) (ho : Op.lookupswitch.offset ps.toList dflt a = off) (hj : (pc : Int) + off = (tgt : Int)) (h : zX k d tgt lo st M Q) : zX k d pc lo (.int (zii a) :: st) M Q := by
  intro ad dC dI cA p l e s m args below meth c H locs ls hC hP hS hL
  have kk := h ad dC dI cA p l e s m args below meth c H locs ls hC hP hS hL
  obtain ⟨hd, rfl⟩ := hi
  obtain ⟨hx, hb, hr, hml, hown, hts, hlk, hK, hinj, hnw⟩ := hC
  exact lv_lookup hx hb hd hp (by rw [zii_toInt ha]; exact ho) hj kk
theorem X_end {v : Option Value} {H : Heap} {ad : Nat → Nat} {dC : Nat → ClassId} {dI : Nat → Nat → Nat} {cA : ClassId} {s t : State} {locs : List Loc} {args : Array Value} (hS : va_S (zA ad) s.heap H locs) (hP : va_P (dC, dI) vwCl (zws ad cA M) H) (hq : Q v M) (ht : t.heap = H) : zQ ad dC dI cA Q args s (.returned (v.map (zrv ad))) t := by
  subst ht
  exact ⟨⟨v, M, rfl, hq, hP⟩, hS.1, hS.2.1⟩
theorem X_iret {a : Int} (hi : zI k pc .ireturn 1 nx) (hr : k.2.2.2 = some .int) (hq : Q (some (.int (zii a))) M) : zX k d pc lo [.int (zii a)] M Q := by
  intro ad dC dI cA p l e s m args below meth c H locs ls hC hP hS hL
  obtain ⟨hd, -⟩ := hi
  obtain ⟨hx, hb, hr2, hml, hown, hts, hlk, hK, hinj, hnw⟩ := hC
  exact W.iret hx hb (hr2.trans hr) (fun t ht _ => X_end (v := some (.int (zii a))) hS hP hq ht) hS.2.2 hd hlk
theorem X_zret {a : Int} (hi : zI k pc .ireturn 1 nx) (hr : k.2.2.2 = some .boolean) (ha : a = 0 ∨ a = 1) (hq : Q (some (.int (zii a))) M) : zX k d pc lo [.int (zii a)] M Q := by
  intro ad dC dI cA p l e s m args below meth c H locs ls hC hP hS hL
  obtain ⟨hd, -⟩ := hi
  obtain ⟨hx, hb, hr2, hml, hown, hts, hlk, hK, hinj, hnw⟩ := hC
  exact W.zret hx hb (hr2.trans hr) (by rcases ha with rfl | rfl <;> rfl) (fun t ht _ => X_end (v := some (.int (zii a))) hS hP hq ht) hS.2.2 hd hlk
theorem X_lret {a : Int} (hi : zI k pc .lreturn 1 nx) (hr : k.2.2.2 = some .long) (hq : Q (some (.long (zll a))) M) : zX k d pc lo [.long (zll a)] M Q := by
  intro ad dC dI cA p l e s m args below meth c H locs ls hC hP hS hL
  obtain ⟨hd, -⟩ := hi
  obtain ⟨hx, hb, hr2, hml, hown, hts, hlk, hK, hinj, hnw⟩ := hC
  exact W.lret hx hb (hr2.trans hr) (fun t ht _ => X_end (v := some (.long (zll a))) hS hP hq ht) hS.2.2 hd hlk
theorem X_vret (hi : zI k pc .return_ 1 nx) (hr : k.2.2.2 = none) (hq : Q none M) : zX k d pc lo [] M Q := by
  intro ad dC dI cA p l e s m args below meth c H locs ls hC hP hS hL
  obtain ⟨hd, -⟩ := hi
  obtain ⟨hx, hb, hr2, hml, hown, hts, hlk, hK, hinj, hnw⟩ := hC
  exact W.vret hx hb (hr2.trans hr) (fun t ht _ => X_end (v := none) hS hP hq ht) hS.2.2 hd hlk

def zkill : Option Value → Option Value
  | some (.long _) => none
  | some (.double _) => none
  | x => x
def zone : Option Value → Bool
  | some (.long _) => false
  | some (.double _) => false
  | _ => true
theorem zone_cat {v : Value} (h : zone (some v) = true) : ¬ v.category = 2 := by cases v <;> simp [zone, Value.category] at h ⊢
theorem zL_pairs {ad : Nat → Nat} {ls : Array Slot} {nL : Nat} {lo : List (Option Value)} (h : zL ad ls nL lo) : ∃ l, lv_has ls nL l ∧ ∀ (i : Nat) (v : Value), lo[i]? = some (some v) → (i, zrv ad v) ∈ l := by
  refine ⟨(List.range lo.length).filterMap (fun i => match lo[i]? with | some (some v) => some (i, zrv ad v) | _ => none), ⟨h.1, h.2.1, fun q hq => ?_⟩, fun i v hv => ?_⟩
  · obtain ⟨i, -, hi⟩ := List.mem_filterMap.mp hq
    cases h9 : lo[i]? with
    | none => rw [h9] at hi; cases hi
    | some x =>
      cases x with
      | none => rw [h9] at hi; cases hi
      | some v => rw [h9] at hi; cases hi; exact h.2.2 i v h9
  · refine List.mem_filterMap.mpr ⟨i, List.mem_range.mpr (List.getElem?_eq_some_iff.mp hv).1, ?_⟩
    rw [hv]
theorem zL_store1 {ad : Nat → Nat} {ls : Array Slot} {nL i : Nat} {lo lo' : List (Option Value)} {v : Value} (h : zL ad ls nL lo) (hi : i < nL) (hc : v.category = 1) (hs : ∀ (j : Nat) (w : Value), lo'[j]? = some (some w) → (j = i ∧ w = v) ∨ (j ≠ i ∧ lo[j]? = some (some w) ∧ (j + 1 = i → ¬ w.category = 2))) : ∃ ls', storeLocals ls i (zrv ad v) = some ls' ∧ zL ad ls' nL lo' := by
  obtain ⟨l, h1, h2⟩ := zL_pairs h
  obtain ⟨ls', e, h3⟩ := lv_store1 (v := zrv ad v) h1 hi (by rw [zrv_cat]; exact hc)
  refine ⟨ls', e, h3.1, h3.2.1, fun j w hw => ?_⟩
  rcases hs j w hw with ⟨rfl, rfl⟩ | ⟨hj, hl, hk⟩
  · exact h3.2.2 (j, zrv ad w) List.mem_cons_self
  · refine h3.2.2 (j, zrv ad w) (List.mem_cons_of_mem _ (List.mem_filter.mpr ⟨h2 j w hl, ?_⟩))
    simp only [zrv_cat]
    by_cases hj1 : j + 1 = i
    · simp [hj, hk hj1]
    · simp [hj, hj1]
theorem zL_store2 {ad : Nat → Nat} {ls : Array Slot} {nL i : Nat} {lo lo' : List (Option Value)} {v : Value} (h : zL ad ls nL lo) (hi : i + 1 < nL) (hc : v.category = 2) (hs : ∀ (j : Nat) (w : Value), lo'[j]? = some (some w) → (j = i ∧ w = v) ∨ (j ≠ i ∧ j ≠ i + 1 ∧ lo[j]? = some (some w) ∧ (j + 1 = i → ¬ w.category = 2))) : ∃ ls', storeLocals ls i (zrv ad v) = some ls' ∧ zL ad ls' nL lo' := by
  obtain ⟨l, h1, h2⟩ := zL_pairs h
  obtain ⟨ls', e, h3⟩ := lv_store2 (v := zrv ad v) h1 hi (by rw [zrv_cat]; exact hc)
  refine ⟨ls', e, h3.1, h3.2.1, fun j w hw => ?_⟩
  rcases hs j w hw with ⟨rfl, rfl⟩ | ⟨hj, hj2, hl, hk⟩
  · exact h3.2.2 (j, zrv ad w) List.mem_cons_self
  · refine h3.2.2 (j, zrv ad w) (List.mem_cons_of_mem _ (List.mem_filter.mpr ⟨h2 j w hl, ?_⟩))
    simp only [zrv_cat]
    by_cases hj1 : j + 1 = i
    · simp [hj, hj2, hk hj1]
    · simp [hj, hj2, hj1]
/-- the new list of locals, as a check -/
def zst1 (i : Nat) (v : Value) : List (Option Value) → List (Option Value)
  | [] => []
  | x :: t => match i with
    | 0 => some v :: t
    | 1 => (if zone x then x else none) :: zst1 0 v t
    | i + 2 => x :: zst1 (i + 1) v t
def zst2 (i : Nat) (v : Value) : List (Option Value) → List (Option Value)
  | [] => []
  | x :: t => match i with
    | 0 => some v :: (match t with | [] => [] | _ :: u => none :: u)
    | 1 => (if zone x then x else none) :: zst2 0 v t
    | i + 2 => x :: zst2 (i + 1) v t
theorem zst1_at (v : Value) : ∀ (lo : List (Option Value)) (i j : Nat) (w : Value), (zst1 i v lo)[j]? = some (some w) → (j = i ∧ w = v) ∨ (j ≠ i ∧ lo[j]? = some (some w) ∧ (j + 1 = i → ¬ w.category = 2)) := by
  intro lo
  induction lo with
  | nil => intro i j w h; simp [zst1] at h
  | cons x t ih =>
    intro i j w h
    match i with
    | 0 =>
      cases j with
      | zero => simp [zst1] at h; exact Or.inl ⟨rfl, h.symm⟩
      | succ j => simp [zst1] at h; exact Or.inr ⟨by omega, by simpa using h, by omega⟩
    | 1 =>
      cases j with
      | zero =>
        simp only [zst1, List.getElem?_cons_zero, Option.some.injEq] at h
        by_cases hz : zone x = true
        · rw [if_pos hz] at h; subst h; exact Or.inr ⟨by omega, rfl, fun _ => zone_cat hz⟩
        · rw [if_neg hz] at h; cases h
      | succ j =>
        simp only [zst1, List.getElem?_cons_succ] at h
        rcases ih 0 j w h with ⟨a, b⟩ | ⟨a, b, c⟩
        · exact Or.inl ⟨by omega, b⟩
        · exact Or.inr ⟨by omega, by simpa using b, fun z => by omega⟩
    | i + 2 =>
      cases j with
      | zero => simp only [zst1, List.getElem?_cons_zero, Option.some.injEq] at h; exact Or.inr ⟨by omega, by simp [h], by omega⟩
      | succ j =>
        simp only [zst1, List.getElem?_cons_succ] at h
        rcases ih (i + 1) j w h with ⟨a, b⟩ | ⟨a, b, c⟩
        · exact Or.inl ⟨by omega, b⟩
        · exact Or.inr ⟨by omega, by simpa using b, fun z => c (by omega)⟩
theorem zst2_at (v : Value) : ∀ (lo : List (Option Value)) (i j : Nat) (w : Value), (zst2 i v lo)[j]? = some (some w) → (j = i ∧ w = v) ∨ (j ≠ i ∧ j ≠ i + 1 ∧ lo[j]? = some (some w) ∧ (j + 1 = i → ¬ w.category = 2)) := by
  intro lo
  induction lo with
  | nil => intro i j w h; simp [zst2] at h
  | cons x t ih =>
    intro i j w h
    match i with
    | 0 =>
      cases j with
      | zero => simp [zst2] at h; exact Or.inl ⟨rfl, h.symm⟩
      | succ j =>
        cases t with
        | nil => simp [zst2] at h
        | cons y u =>
          cases j with
          | zero => simp [zst2] at h
          | succ j => simp [zst2] at h; exact Or.inr ⟨by omega, by omega, by simpa using h, by omega⟩
    | 1 =>
      cases j with
      | zero =>
        simp only [zst2, List.getElem?_cons_zero, Option.some.injEq] at h
        by_cases hz : zone x = true
        · rw [if_pos hz] at h; subst h; exact Or.inr ⟨by omega, by omega, rfl, fun _ => zone_cat hz⟩
        · rw [if_neg hz] at h; cases h
      | succ j =>
        simp only [zst2, List.getElem?_cons_succ] at h
        rcases ih 0 j w h with ⟨a, b⟩ | ⟨a, a2, b, c⟩
        · exact Or.inl ⟨by omega, b⟩
        · exact Or.inr ⟨by omega, by omega, by simpa using b, fun z => by omega⟩
    | i + 2 =>
      cases j with
      | zero => simp only [zst2, List.getElem?_cons_zero, Option.some.injEq] at h; exact Or.inr ⟨by omega, by omega, by simp [h], by omega⟩
      | succ j =>
        simp only [zst2, List.getElem?_cons_succ] at h
        rcases ih (i + 1) j w h with ⟨a, b⟩ | ⟨a, a2, b, c⟩
        · exact Or.inl ⟨by omega, b⟩
        · exact Or.inr ⟨by omega, by omega, by simpa using b, fun z => c (by omega)⟩

theorem XG_iload {i : Nat} {a : Int} (hi : zI k pc (.iload i) 2 nx) (hl : lo[i]? = some (some (.int (zii a)))) (h : zX k d nx lo (.int (zii a) :: st) M Q) : zX k d pc lo st M Q := by
  intro ad dC dI cA p l e s m args below meth c H locs ls hC hP hS hL
  have kk := h ad dC dI cA p l e s m args below meth c H locs ls hC hP hS hL
  obtain ⟨hd, rfl⟩ := hi
  obtain ⟨hx, hb, hr, hml, hown, hts, hlk, hK, hinj, hnw⟩ := hC
  exact lv_iload hx hb hd (hL.2.2 _ _ hl) kk
theorem XG_iload_n {i : Fin 4} {a : Int} (hi : zI k pc (.iload_n i) 1 nx) (hl : lo[(i : Nat)]? = some (some (.int (zii a)))) (h : zX k d nx lo (.int (zii a) :: st) M Q) : zX k d pc lo st M Q := by
  intro ad dC dI cA p l e s m args below meth c H locs ls hC hP hS hL
  have kk := h ad dC dI cA p l e s m args below meth c H locs ls hC hP hS hL
  obtain ⟨hd, rfl⟩ := hi
  obtain ⟨hx, hb, hr, hml, hown, hts, hlk, hK, hinj, hnw⟩ := hC
  exact lv_iload_n hx hb hd rfl (hL.2.2 _ _ hl) kk
theorem XG_lload {i : Nat} {a : Int} (hi : zI k pc (.lload i) 2 nx) (hl : lo[i]? = some (some (.long (zll a)))) (h : zX k d nx lo (.long (zll a) :: st) M Q) : zX k d pc lo st M Q := by
  intro ad dC dI cA p l e s m args below meth c H locs ls hC hP hS hL
  have kk := h ad dC dI cA p l e s m args below meth c H locs ls hC hP hS hL
  obtain ⟨hd, rfl⟩ := hi
  obtain ⟨hx, hb, hr, hml, hown, hts, hlk, hK, hinj, hnw⟩ := hC
  exact lv_lload hx hb hd (hL.2.2 _ _ hl) kk
theorem XG_lload_n {i : Fin 4} {a : Int} (hi : zI k pc (.lload_n i) 1 nx) (hl : lo[(i : Nat)]? = some (some (.long (zll a)))) (h : zX k d nx lo (.long (zll a) :: st) M Q) : zX k d pc lo st M Q := by
  intro ad dC dI cA p l e s m args below meth c H locs ls hC hP hS hL
  have kk := h ad dC dI cA p l e s m args below meth c H locs ls hC hP hS hL
  obtain ⟨hd, rfl⟩ := hi
  obtain ⟨hx, hb, hr, hml, hown, hts, hlk, hK, hinj, hnw⟩ := hC
  exact lv_lload_n hx hb hd rfl (hL.2.2 _ _ hl) kk
theorem XG_aload {i : Nat} {a : Nat} (hi : zI k pc (.aload i) 2 nx) (hl : lo[i]? = some (some (.ref a))) (h : zX k d nx lo (.ref a :: st) M Q) : zX k d pc lo st M Q := by
  intro ad dC dI cA p l e s m args below meth c H locs ls hC hP hS hL
  have kk := h ad dC dI cA p l e s m args below meth c H locs ls hC hP hS hL
  obtain ⟨hd, rfl⟩ := hi
  obtain ⟨hx, hb, hr, hml, hown, hts, hlk, hK, hinj, hnw⟩ := hC
  exact lv_aload hx hb hd (hL.2.2 _ _ hl) kk
theorem XG_aload_n {i : Fin 4} {a : Nat} (hi : zI k pc (.aload_n i) 1 nx) (hl : lo[(i : Nat)]? = some (some (.ref a))) (h : zX k d nx lo (.ref a :: st) M Q) : zX k d pc lo st M Q := by
  intro ad dC dI cA p l e s m args below meth c H locs ls hC hP hS hL
  have kk := h ad dC dI cA p l e s m args below meth c H locs ls hC hP hS hL
  obtain ⟨hd, rfl⟩ := hi
  obtain ⟨hx, hb, hr, hml, hown, hts, hlk, hK, hinj, hnw⟩ := hC
  exact lv_aload_n hx hb hd rfl (hL.2.2 _ _ hl) kk
theorem XG_istore {i : Nat} {a : Int} (hi : zI k pc (.istore i) 2 nx) (hn : i < k.2.2.1) (h : zX k d nx (zst1 i (.int (zii a)) lo) st M Q) : zX k d pc lo (.int (zii a) :: st) M Q := by
  intro ad dC dI cA p l e s m args below meth c H locs ls hC hP hS hL
  obtain ⟨hd, rfl⟩ := hi
  have hC2 := hC
  obtain ⟨hx, hb, hr, hml, hown, hts, hlk, hK, hinj, hnw⟩ := hC
  obtain ⟨ls2, e2, h2⟩ := zL_store1 (v := .int (zii a)) hL hn rfl (zst1_at _ lo i)
  intro T hT X
  obtain ⟨t, a9, b9⟩ := h ad dC dI cA p l e s m args below meth c H locs ls2 hC2 hP hS h2 T hT X
  refine ⟨t, ?_, b9⟩
  simp only [zrv] at e2
  jvm_step X.here [X.here.top, ↓top_set X.here.top, hx, hb, hd, e2, zrv]
  exact a9
theorem XG_istore_n {i : Fin 4} {a : Int} (hi : zI k pc (.istore_n i) 1 nx) (hn : (i : Nat) < k.2.2.1) (h : zX k d nx (zst1 (i : Nat) (.int (zii a)) lo) st M Q) : zX k d pc lo (.int (zii a) :: st) M Q := by
  intro ad dC dI cA p l e s m args below meth c H locs ls hC hP hS hL
  obtain ⟨hd, rfl⟩ := hi
  have hC2 := hC
  obtain ⟨hx, hb, hr, hml, hown, hts, hlk, hK, hinj, hnw⟩ := hC
  obtain ⟨ls2, e2, h2⟩ := zL_store1 (v := .int (zii a)) hL hn rfl (zst1_at _ lo (i : Nat))
  intro T hT X
  obtain ⟨t, a9, b9⟩ := h ad dC dI cA p l e s m args below meth c H locs ls2 hC2 hP hS h2 T hT X
  refine ⟨t, ?_, b9⟩
  simp only [zrv] at e2
  jvm_step X.here [X.here.top, ↓top_set X.here.top, hx, hb, hd, e2, zrv]
  exact a9
theorem XG_lstore {i : Nat} {a : Int} (hi : zI k pc (.lstore i) 2 nx) (hn : i + 1 < k.2.2.1) (h : zX k d nx (zst2 i (.long (zll a)) lo) st M Q) : zX k d pc lo (.long (zll a) :: st) M Q := by
  intro ad dC dI cA p l e s m args below meth c H locs ls hC hP hS hL
  obtain ⟨hd, rfl⟩ := hi
  have hC2 := hC
  obtain ⟨hx, hb, hr, hml, hown, hts, hlk, hK, hinj, hnw⟩ := hC
  obtain ⟨ls2, e2, h2⟩ := zL_store2 (v := .long (zll a)) hL hn rfl (zst2_at _ lo i)
  intro T hT X
  obtain ⟨t, a9, b9⟩ := h ad dC dI cA p l e s m args below meth c H locs ls2 hC2 hP hS h2 T hT X
  refine ⟨t, ?_, b9⟩
  simp only [zrv] at e2
  jvm_step X.here [X.here.top, ↓top_set X.here.top, hx, hb, hd, e2, zrv]
  exact a9
theorem XG_lstore_n {i : Fin 4} {a : Int} (hi : zI k pc (.lstore_n i) 1 nx) (hn : (i : Nat) + 1 < k.2.2.1) (h : zX k d nx (zst2 (i : Nat) (.long (zll a)) lo) st M Q) : zX k d pc lo (.long (zll a) :: st) M Q := by
  intro ad dC dI cA p l e s m args below meth c H locs ls hC hP hS hL
  obtain ⟨hd, rfl⟩ := hi
  have hC2 := hC
  obtain ⟨hx, hb, hr, hml, hown, hts, hlk, hK, hinj, hnw⟩ := hC
  obtain ⟨ls2, e2, h2⟩ := zL_store2 (v := .long (zll a)) hL hn rfl (zst2_at _ lo (i : Nat))
  intro T hT X
  obtain ⟨t, a9, b9⟩ := h ad dC dI cA p l e s m args below meth c H locs ls2 hC2 hP hS h2 T hT X
  refine ⟨t, ?_, b9⟩
  simp only [zrv] at e2
  jvm_step X.here [X.here.top, ↓top_set X.here.top, hx, hb, hd, e2, zrv]
  exact a9
theorem XG_astore {i : Nat} {a : Nat} (hi : zI k pc (.astore i) 2 nx) (hn : i < k.2.2.1) (h : zX k d nx (zst1 i (.ref a) lo) st M Q) : zX k d pc lo (.ref a :: st) M Q := by
  intro ad dC dI cA p l e s m args below meth c H locs ls hC hP hS hL
  obtain ⟨hd, rfl⟩ := hi
  have hC2 := hC
  obtain ⟨hx, hb, hr, hml, hown, hts, hlk, hK, hinj, hnw⟩ := hC
  obtain ⟨ls2, e2, h2⟩ := zL_store1 (v := .ref a) hL hn rfl (zst1_at _ lo i)
  intro T hT X
  obtain ⟨t, a9, b9⟩ := h ad dC dI cA p l e s m args below meth c H locs ls2 hC2 hP hS h2 T hT X
  refine ⟨t, ?_, b9⟩
  simp only [zrv] at e2
  jvm_step X.here [X.here.top, ↓top_set X.here.top, hx, hb, hd, e2, zrv, Value.isRef]
  exact a9
theorem XG_astore_n {i : Fin 4} {a : Nat} (hi : zI k pc (.astore_n i) 1 nx) (hn : (i : Nat) < k.2.2.1) (h : zX k d nx (zst1 (i : Nat) (.ref a) lo) st M Q) : zX k d pc lo (.ref a :: st) M Q := by
  intro ad dC dI cA p l e s m args below meth c H locs ls hC hP hS hL
  obtain ⟨hd, rfl⟩ := hi
  have hC2 := hC
  obtain ⟨hx, hb, hr, hml, hown, hts, hlk, hK, hinj, hnw⟩ := hC
  obtain ⟨ls2, e2, h2⟩ := zL_store1 (v := .ref a) hL hn rfl (zst1_at _ lo (i : Nat))
  intro T hT X
  obtain ⟨t, a9, b9⟩ := h ad dC dI cA p l e s m args below meth c H locs ls2 hC2 hP hS h2 T hT X
  refine ⟨t, ?_, b9⟩
  simp only [zrv] at e2
  jvm_step X.here [X.here.top, ↓top_set X.here.top, hx, hb, hd, e2, zrv, Value.isRef]
  exact a9
theorem XG_iinc {i : Nat} {n a : Int} (hi : zI k pc (.iinc i n) 3 nx) (hn : i < k.2.2.1) (hl : lo[i]? = some (some (.int (zii a)))) (h : zX k d nx (zst1 i (.int (zii (a + n))) lo) st M Q) : zX k d pc lo st M Q := by
  intro ad dC dI cA p l e s m args below meth c H locs ls hC hP hS hL
  obtain ⟨hd, rfl⟩ := hi
  have hC2 := hC
  obtain ⟨hx, hb, hr, hml, hown, hts, hlk, hK, hinj, hnw⟩ := hC
  obtain ⟨ls2, e2, h2⟩ := zL_store1 (v := .int (zii (a + n))) hL hn rfl (zst1_at _ lo i)
  have hg := hL.2.2 _ _ hl
  intro T hT X
  obtain ⟨t, a9, b9⟩ := h ad dC dI cA p l e s m args below meth c H locs ls2 hC2 hP hS h2 T hT X
  refine ⟨t, ?_, b9⟩
  have e3 : zii a + Int32.ofInt n = zii (a + n) := (Int32.ofInt_add a n).symm
  simp only [zrv] at e2 hg
  jvm_step X.here [X.here.top, ↓top_set X.here.top, hx, hb, hd, hg, e3, e2, zrv]
  exact a9
end ZX
end
section
/-! fields, arrays, calls -/
def zK (ci : Nat) (C : String) (T : u_T) (N : Nat) : Prop := vwCl[ci]? = some (C, T, N) ∧ (∀ w ∈ u_ws C T N, w ∈ zt) ∧ (∃ ty0 : Nat → FieldType, ∀ k, k < N → parseFieldDescriptor (T k).2.2.1 = some (ty0 k)) ∧ (∀ a, a < N → ∀ b, b < N → a ≠ b → (T a).2.1 ≠ (T b).2.1)
theorem zt_all {ws : List Cond} (h : ws.all (fun w => decide (w ∈ lw_tbl) && goodWord w) = true) : ∀ w ∈ ws, w ∈ zt := by
  intro w hw
  have h1 := List.all_eq_true.mp h w hw
  simp only [Bool.and_eq_true, decide_eq_true_eq] at h1
  exact List.mem_filter.mpr ⟨h1.1, h1.2⟩
theorem zK0 : zK 0 RX0 TX0 11 := ⟨rfl, zt_all (by decide +kernel), ⟨tyX0, tyX0_ok⟩, nmX0⟩
theorem zK1 : zK 1 RX1 TX1 7 := ⟨rfl, zt_all (by decide +kernel), ⟨tyX1, tyX1_ok⟩, nmX1⟩
theorem zK2 : zK 2 RX2 TX2 3 := ⟨rfl, zt_all (by decide +kernel), ⟨tyX2, tyX2_ok⟩, nmX2⟩
theorem zK3 : zK 3 RX4 TX4 3 := ⟨rfl, zt_all (by decide +kernel), ⟨tyX4, tyX4_ok⟩, nmX4⟩
theorem zK4 : zK 4 RX6 TX6 2 := ⟨rfl, zt_all (by decide +kernel), ⟨tyX6, tyX6_ok⟩, nmX6⟩
theorem zK5 : zK 5 RX7 TX7 2 := ⟨rfl, zt_all (by decide +kernel), ⟨tyX7, tyX7_ok⟩, nmX7⟩
theorem zK6 : zK 6 RX9 TX9 11 := ⟨rfl, zt_all (by decide +kernel), ⟨tyX9, tyX9_ok⟩, nmX9⟩
theorem zK7 : zK 7 RX10 TX10 30 := ⟨rfl, zt_all (by decide +kernel), ⟨tyX10, tyX10_ok⟩, nmX10⟩
def zFL (own : String) (idx ci j : Nat) : Prop := ∃ (C : String) (T : u_T) (N : Nat), zK ci C T N ∧ j < N ∧ (Cond.fieldLink own idx (T j).1 (T j).2.1 (T j).2.2.1 ∈ zt ∨ ∃ host, Cond.fieldLinkNest own idx (T j).1 (T j).2.1 (T j).2.2.1 host ∈ zn)
def zFT (ci j : Nat) (ty : FieldType) : Prop := ∀ (C : String) (T : u_T) (N : Nat), vwCl[ci]? = some (C, T, N) → (T j).2.2.2 = false ∧ parseFieldDescriptor (T j).2.2.1 = some ty
section ZM
variable {k : zMD} {d pc nx : Nat} {lo : List (Option Value)} {st : List Value} {M : zMem} {Q : Option Value → zMem → Prop}
theorem X_get {idx ci j p : Nat} {f : zF} (hi : zI k pc (.getfield idx) 3 nx) (hf : zFL k.1.cls idx ci j) (hs : zfld p ci j = some f) (h : ∀ ad : Nat → Nat, ∀ (dC : Nat → ClassId) (dI : Nat → Nat → Nat) (cA : ClassId) (p9 : Program) (l : Launch) (e : Env) (s : State) (m : MethodId) (args : Array Value) (below : List Frame) (meth : Method) (c : Code) (H : Heap) (locs : List Loc) (ls : Array Slot),
    zC ad dC dI cA k p9 s m args meth c → va_P (dC, dI) vwCl (zws ad cA M) H → va_S (zA ad) s.heap H locs → zL ad ls k.2.2.1 lo →
    W p9 l e (zrm d) s m args below meth c H locs 0 0 (MQ below (zQ ad dC dI cA Q) args s 0 0 (zA ad)) (F0 m nx ls (zfv ad M f :: st.map (zrv ad)))) : zX k d pc lo (.ref p :: st) M Q := by
  intro ad dC dI cA p9 l e s m args below meth c H locs ls hC hP hS hL
  have kk := h ad dC dI cA p9 l e s m args below meth c H locs ls hC hP hS hL
  obtain ⟨hd, rfl⟩ := hi
  obtain ⟨hx, hb, hr, hml, hown, hts, hlk, hK, hinj, hnw⟩ := hC
  obtain ⟨C, T, N, ⟨hc, hin, -, -⟩, hj, hlink⟩ := hf
  obtain ⟨fs, hw, hfs⟩ := zfld_of hs
  have hv : (fs.map (zfv ad M))[j]? = some (zfv ad M f) := by rw [List.getElem?_map, hfs]; rfl
  rcases hlink with hl | ⟨host, hl⟩
  · exact va_get hx hb hts hin hown hK hP p (zws_at hw) hc j hj (hts _ hl) (fun _ h9 => h9) hv hd kk
  · exact va_getN hx hb hts hin hown hK hP p (zws_at hw) hc j hj (zn_use hl (hnw _ hl)) (fun _ h9 => h9) hv hd kk
theorem X_getR {idx ci j p q : Nat} (hi : zI k pc (.getfield idx) 3 nx) (hf : zFL k.1.cls idx ci j) (hs : zfld p ci j = some (.inl q)) (h : zX k d nx lo (.ref q :: st) M Q) : zX k d pc lo (.ref p :: st) M Q :=
  X_get hi hf hs h
theorem X_getI {idx ci j p : Nat} {x : Nat × Nat × Int} (hi : zI k pc (.getfield idx) 3 nx) (hf : zFL k.1.cls idx ci j) (hs : zfld p ci j = some (.inr x)) (h : zX k d nx lo (.int (zii (M x.1 x.2.1 x.2.2)) :: st) M Q) : zX k d pc lo (.ref p :: st) M Q :=
  X_get hi hf hs h
theorem X_putT {idx ci j p : Nat} {x : Nat × Nat × Int} {a : Int} {ty : FieldType} (hi : zI k pc (.putfield idx) 3 nx) (hf : zFL k.1.cls idx ci j) (hs : zfld p ci j = some (.inr x)) (hty : zFT ci j ty) (hn : narrow ty (.int (zii a)) = .int (zii a)) (hfit : fits ty (.int (zii a)) = true) (h : zX k d nx lo st (zup M x.1 x.2.1 x.2.2 a) Q) : zX k d pc lo (.int (zii a) :: .ref p :: st) M Q := by
  intro ad dC dI cA p9 l e s m args below meth c H locs ls hC hP hS hL
  have h9 := h ad dC dI cA p9 l e s m args below meth c
  obtain ⟨hd, rfl⟩ := hi
  have hC2 := hC
  obtain ⟨hx, hb, hr, hml, hown, hts, hlk, hK, hinj, hnw⟩ := hC
  obtain ⟨C, T, N, ⟨hc, hin, ⟨ty0, ht0⟩, hnm⟩, hj, hlink⟩ := hf
  obtain ⟨hfin, hparse⟩ := hty C T N hc
  obtain ⟨fs, hw, hfs⟩ := zfld_of hs
  have hlen : j < (fs.map (zfv ad M)).length := by rw [List.length_map]; exact (List.getElem?_eq_some_iff.mp hfs).1
  have he := zws_fld (ad := ad) (cA := cA) (M := M) hw hfs a
  rcases hlink with hl | ⟨host, hl⟩
  · exact va_put hx hb hts hin ty0 ht0 hnm hown hK hP (zD hinj) hS p (zws_at hw) hc j hj (hts _ hl) (fun _ h9 => h9) hfin hparse hn hfit hlen hd (fun H1 locs1 hP1 _ hS1 => h9 H1 locs1 ls hC2 (by rw [← he]; exact hP1) hS1 hL)
  · exact va_putN hx hb hts hin ty0 ht0 hnm hown hK hP (zD hinj) hS p (zws_at hw) hc j hj (zn_use hl (hnw _ hl)) (fun _ h9 => h9) hfin hparse hn hfit hlen hd (fun H1 locs1 hP1 _ hS1 => h9 H1 locs1 ls hC2 (by rw [← he]; exact hP1) hS1 hL)
theorem X_putI {idx ci j p : Nat} {x : Nat × Nat × Int} {a : Int} (hi : zI k pc (.putfield idx) 3 nx) (hf : zFL k.1.cls idx ci j) (hs : zfld p ci j = some (.inr x)) (hty : zFT ci j .int) (h : zX k d nx lo st (zup M x.1 x.2.1 x.2.2 a) Q) : zX k d pc lo (.int (zii a) :: .ref p :: st) M Q :=
  X_putT hi hf hs hty rfl rfl h
theorem X_putZ {idx ci j p : Nat} {x : Nat × Nat × Int} {a : Int} (hi : zI k pc (.putfield idx) 3 nx) (hf : zFL k.1.cls idx ci j) (hs : zfld p ci j = some (.inr x)) (hty : zFT ci j .boolean) (ha : a = 0 ∨ a = 1) (h : zX k d nx lo st (zup M x.1 x.2.1 x.2.2 a) Q) : zX k d pc lo (.int (zii a) :: .ref p :: st) M Q :=
  X_putT hi hf hs hty (by rcases ha with rfl | rfl <;> rfl) (by rcases ha with rfl | rfl <;> rfl) h
theorem X_iald {p n mm r : Nat} {a : Int} (hi : zI k pc .iaload 1 nx) (hs : zarr p = some (n, mm, r)) (h0 : 0 ≤ a ∧ a < n) (hn : n < 2147483648) (h : zX k d nx lo (.int (zii (M mm r a)) :: st) M Q) : zX k d pc lo (.int (zii a) :: .ref p :: st) M Q := by
  intro ad dC dI cA p9 l e s m args below meth c H locs ls hC hP hS hL
  have kk := h ad dC dI cA p9 l e s m args below meth c H locs ls hC hP hS hL
  obtain ⟨hd, rfl⟩ := hi
  obtain ⟨hx, hb, hr, hml, hown, hts, hlk, hK, hinj, hnw⟩ := hC
  obtain ⟨h3, h4⟩ := zidx h0.1 h0.2 hn
  refine va_iald (f := fun j => zii (M mm r j)) hx hb hK hP p 0 (zws_at (zarr_of hs)) rfl h3 hd ?_
  simp only [h4]
  exact kk
theorem X_iast {p n mm r : Nat} {a v : Int} (hi : zI k pc .iastore 1 nx) (hs : zarr p = some (n, mm, r)) (h0 : 0 ≤ a ∧ a < n) (hn : n < 2147483648) (h : zX k d nx lo st (zup M mm r a v) Q) : zX k d pc lo (.int (zii v) :: .int (zii a) :: .ref p :: st) M Q := by
  intro ad dC dI cA p9 l e s m args below meth c H locs ls hC hP hS hL
  have h9 := h ad dC dI cA p9 l e s m args below meth c
  obtain ⟨hd, rfl⟩ := hi
  have hC2 := hC
  obtain ⟨hx, hb, hr, hml, hown, hts, hlk, hK, hinj, hnw⟩ := hC
  obtain ⟨h3, h4⟩ := zidx h0.1 h0.2 hn
  refine va_iast (f := fun j => zii (M mm r j)) (x := zii v) hx hb hK hP (zD hinj) hS p 0 (zws_at (zarr_of hs)) rfl h3 hd (fun H1 locs1 hP1 _ hS1 => h9 H1 locs1 ls hC2 ?_ hS1 hL)
  rw [← zws_arr (ad := ad) (cA := cA) (M := M) (zarr_of hs) (upd (fun j => zii (M mm r j)) (zii a).toNatClampNeg (zii v)) (zup M mm r a v) (fun m9 r9 i h => by
    have : ¬ (m9 = mm ∧ r9 = r ∧ i = a) := fun z => h ⟨z.1, z.2.1⟩
    simp [zup, this]) (fun j => by
    by_cases hj : (j : Int) = a
    · have e : j = (zii a).toNatClampNeg := by omega
      simp [upd, zup, hj, ← e]
    · have e : ¬ j = (zii a).toNatClampNeg := by omega
      simp [upd, zup, hj, e])]
  exact hP1
theorem X_alen {p n mm r : Nat} {a : Int} (hi : zI k pc .arraylength 1 nx) (hs : zarr p = some (n, mm, r)) (ha : Int32.ofNat n = zii a) (h : zX k d nx lo (.int (zii a) :: st) M Q) : zX k d pc lo (.ref p :: st) M Q := by
  intro ad dC dI cA p9 l e s m args below meth c H locs ls hC hP hS hL
  have kk := h ad dC dI cA p9 l e s m args below meth c H locs ls hC hP hS hL
  obtain ⟨hd, rfl⟩ := hi
  obtain ⟨hx, hb, hr, hml, hown, hts, hlk, hK, hinj, hnw⟩ := hC
  exact va_alen hx hb hK hP p 0 (zws_at (zarr_of hs)) rfl (v := zii a) ha hd kk
/-- six elements of one array over another's -/
def zcpy (M : zMem) (m1 r1 m2 r2 : Nat) (n : Int) : zMem := fun m r i => if m = m1 ∧ r = r1 ∧ 0 ≤ i ∧ i < n then M m2 r2 i else M m r i
theorem X_copy {idx p q n1 m1 r1 n2 m2 r2 : Nat} {a : Int} (hi : zI k pc (.invokestatic idx) 3 nx) (hl : Cond.methodLink k.1.cls idx arraycopyName ∈ zt) (hw : Cond.native arraycopyName ∈ zt ∧ Cond.static arraycopyName ∈ zt ∧ Cond.initialized "java/lang/System" ∈ zt) (hp : zarr p = some (n1, m1, r1)) (hq : zarr q = some (n2, m2, r2)) (h0 : 0 ≤ a ∧ a ≤ n1 ∧ a ≤ n2) (hn : n1 < 2147483648) (hd1 : 1 ≤ d) (hst : st = []) (h : zX k d nx lo st (zcpy M m1 r1 m2 r2 a) Q) : zX k d pc lo (.int (zii a) :: .int (zii 0) :: .ref p :: .int (zii 0) :: .ref q :: st) M Q := by
  subst hst
  intro ad dC dI cA p9 l e s m args below meth c H locs ls hC hP hS hL
  have h9 := h ad dC dI cA p9 l e s m args below meth c
  obtain ⟨hd, rfl⟩ := hi
  have hC2 := hC
  obtain ⟨hx, hb, hr, hml, hown, hts, hlk, hK, hinj, hnw⟩ := hC
  have hz : zR a := ⟨by omega, by omega⟩
  have ea : ((zii a).toNatClampNeg : Int) = a := by
    show ((zii a).toInt.toNat : Int) = a
    rw [zii_toInt hz]; omega
  have e0 : (zii 0).toNatClampNeg = 0 := rfl
  refine va_copyi hx hb (hml.trans hL.1.symm) hown (hts _ hl) (hts _ hw.1) (hts _ hw.2.1) (hts _ hw.2.2) hK hP (zD hinj) hS q p 0 0 (f := fun j => zii (M m2 r2 j)) (g := fun j => zii (M m1 r1 j)) (ty := .int) (zws_at (zarr_of hq)) (zws_at (zarr_of hp)) rfl rfl rfl (sp := zii 0) (dp := zii 0) (n := zii a) (by decide) (by decide) (by rw [zii_lt0 hz]; omega) (by rw [e0]; show _ ≤ n2; omega) (by rw [e0]; show _ ≤ n1; omega) (fun _ _ => rfl) hd1 (by
      have e9 : (([] : List Value).map fun v => v.category).sum + (nativeFrameWords "java/lang/System" "arraycopy" 5 + 11) ≤ 36 := by decide +kernel
      show _ ≤ 36 * d
      exact Nat.le_trans e9 (by omega)) hd (fun H1 locs1 hP1 _ hS1 => h9 H1 locs1 ls hC2 ?_ hS1 hL)
  rw [← zws_arr (ad := ad) (cA := cA) (M := M) (zarr_of hp) (va_cpy (fun j => zii (M m2 r2 j)) (fun j => zii (M m1 r1 j)) (zii 0).toNatClampNeg (zii 0).toNatClampNeg (zii a).toNatClampNeg) (zcpy M m1 r1 m2 r2 a) (fun m9 r9 i h => by
    have : ¬ (m9 = m1 ∧ r9 = r1 ∧ 0 ≤ i ∧ i < a) := fun z => h ⟨z.1, z.2.1⟩
    simp [zcpy, this]) (fun j => by
    rw [e0]
    by_cases hj : (j : Int) < a
    · have e : j < (zii a).toNatClampNeg := by omega
      simp [va_cpy, zcpy, hj, e]
    · have e : ¬ j < (zii a).toNatClampNeg := by omega
      simp [va_cpy, zcpy, hj, e])]
  exact hP1
end ZM
/-! contracts and calls -/
def zw (k : zMD) : List Cond := Cond.code k.1 k.2.1 k.2.2.1 k.2.2.2 :: zt
def zPc (ad : Nat → Nat) (dC : Nat → ClassId) (dI : Nat → Nat → Nat) (cA : ClassId) (vs : List Value) (M : zMem) : Array Value → State → Prop := fun v U =>
  v = (vs.map (zrv ad)).toArray ∧ va_P (dC, dI) vwCl (zws ad cA M) U.heap ∧ va_K (dC, dI) vwCl [(cA, .int)] U ∧ zInj ad ∧ ∀ w ∈ zn, va_Nw w U
def zCt (k : zMD) (d : Nat) (vs : List Value) (M : zMem) (Q : Option Value → zMem → Prop) : Prop := ∀ (l : Launch) (ad : Nat → Nat) (dC : Nat → ClassId) (dI : Nat → Nat → Nat) (cA : ClassId), Met l k.1 (zw k) (zrm d) (zPc ad dC dI cA vs M) (zQ ad dC dI cA Q) 0 0 (zA ad)
def zla : List Value → List (Option Value)
  | [] => []
  | v :: t => if v.category = 2 then some v :: none :: zla t else some v :: zla t
def zpad (n : Nat) (l : List (Option Value)) : List (Option Value) := l ++ List.replicate (n - l.length) none
theorem zla_args (ad : Nat → Nat) : ∀ (vs : List Value) (i0 j : Nat) (v : Value), (zla vs)[j]? = some (some v) → (i0 + j, zrv ad v) ∈ lv_args i0 (vs.map (zrv ad)) := by
  intro vs
  induction vs with
  | nil => intro i0 j v h; simp [zla] at h
  | cons w t ih =>
    intro i0 j v h
    simp only [zla] at h
    simp only [List.map_cons, lv_args, zrv_cat]
    by_cases hc : w.category = 2
    · rw [if_pos hc] at h
      rw [if_pos hc]
      match j with
      | 0 => simp at h; subst h; exact List.mem_cons_self
      | 1 => simp at h
      | j + 2 =>
        simp only [List.getElem?_cons_succ] at h
        have := ih (i0 + 2) j v h
        rw [show i0 + 2 + j = i0 + (j + 2) by omega] at this
        exact List.mem_cons_of_mem _ this
    · rw [if_neg hc] at h
      rw [if_neg hc]
      match j with
      | 0 => simp at h; subst h; exact List.mem_cons_self
      | j + 1 =>
        simp only [List.getElem?_cons_succ] at h
        have := ih (i0 + 1) j v h
        rw [show i0 + 1 + j = i0 + (j + 1) by omega] at this
        exact List.mem_cons_of_mem _ this
theorem zla_len (ad : Nat → Nat) (vs : List Value) : (lg_sl (vs.map (zrv ad))).length = (zla vs).length := by
  induction vs with
  | nil => rfl
  | cons w t ih =>
    simp only [lg_sl, List.map_cons, List.flatMap_cons, zrv_cat, zla, List.length_append] at ih ⊢
    by_cases hc : w.category = 2 <;> simp [hc, ih] <;> omega
/-- a method's walk from its entry is its contract -/
theorem zMet {k : zMD} {d : Nat} {vs : List Value} {M : zMem} {Q : Option Value → zMem → Prop} (hy : plainName k.1.cls = true) (hn : (zla vs).length ≤ k.2.2.1) (h : zX k d 0 (zpad k.2.2.1 (zla vs)) [] M Q) : zCt k d vs M Q := by
  intro l ad dC dI cA
  refine Met.ofW (cc := k.2.1) (maxL := k.2.2.1) (ret := k.2.2.2) (ws' := zt) hy rfl ?_
  intro p e s m args below meth c s₁ B hml hv
  obtain ⟨rfl, hP, hK, hinj, hnw⟩ := hv
  have hts := atoms_spec (ws := zw k) B.pre
  rw [lg_entry_eq]
  have hl := lv_entry (vs.map (zrv ad)) (n := k.2.2.1) (by rw [zla_len]; exact hn)
  refine h ad dC dI cA p l e s m _ below meth c s.heap [] _ ⟨B.exec, B.bytes, B.returns, hml, findClass_of_methodNamed B.named, fun w hw => hts w (List.mem_cons_of_mem _ hw), B.notSynchronized, hK, hinj, hnw⟩ hP va_S.rf ⟨hl.1, hl.2.1, fun i v hv => ?_⟩
  unfold zpad at hv
  by_cases hi : i < (zla vs).length
  · rw [List.getElem?_append_left hi] at hv
    have := zla_args ad vs 0 i v hv
    rw [Nat.zero_add] at this
    exact hl.2.2 _ this
  · rw [List.getElem?_append_right (by omega)] at hv
    have := List.eq_of_mem_replicate (List.mem_of_getElem? hv)
    cases this
def zMC (k : zMD) (n : Nat) : Prop := Cond.code k.1 k.2.1 k.2.2.1 k.2.2.2 ∈ zt ∧ Cond.initialized k.1.cls ∈ zt ∧ (k.1.cls ≠ "java/lang/invoke/MethodHandle" ∧ k.1.cls ≠ "java/lang/invoke/VarHandle" ∧ (parseMethodDescriptor k.1.desc).map (fun d => d.parameters.length) = some n) ∧ k.2.2.1 ≤ 17
def zMV (k : zMD) (ci n : Nat) : Prop := zMC k n ∧ Cond.instanceMethod k.1 ∈ zt ∧ Cond.selects k.1.cls k.1 k.1 ∈ zt ∧ (vwCl[ci]?).map (fun r => r.1) = some k.1.cls
def zMS (k : zMD) (n : Nat) : Prop := zMC k n ∧ Cond.static k.1 ∈ zt
def zML (own : String) (idx : Nat) (y : MethodName) : Prop := Cond.methodLink own idx y ∈ zt ∨ ∃ host, Cond.methodLinkNest own idx y host ∈ zn
theorem zGood {k : zMD} (h : Cond.code k.1 k.2.1 k.2.2.1 k.2.2.2 ∈ zt) : GoodIn zt (zw k) := by
  intro w hw
  have hz : w ∈ zt := by
    rcases List.mem_cons.mp hw with rfl | h1
    · exact h
    · exact h1
  exact ⟨hz, good_of_word (List.mem_filter.mp hz).2⟩
def zob (p : Nat) : Option Nat := match zwl[p]? with
  | some (.inl o) => some o.1
  | _ => none
theorem zblind (ad : Nat → Nat) (dC : Nat → ClassId) (dI : Nat → Nat → Nat) (cA : ClassId) (vs : List Value) (M : zMem) : FrameBlind (zPc ad dC dI cA vs M) := fun a U g mk q => ⟨q.1, q.2.1, va_K.moved (u := U) (U := U.calling g mk a) (Vm.Alike.refl U.vm) q.2.2.1, q.2.2.2.1, fun w hw => zn_same (u := U) (U := U.calling g mk a) hw rfl (q.2.2.2.2 w hw)⟩
section ZCALL
variable {k k' : zMD} {d d' pc nx : Nat} {lo : List (Option Value)} {st stk : List Value} {M : zMem} {Q Q' : Option Value → zMem → Prop}
theorem X_back {vs : List Value} {ad : Nat → Nat} {dC : Nat → ClassId} {dI : Nat → Nat → Nat} {cA : ClassId} {p : Program} {l : Launch} {e : Env} {s : State} {m : MethodId} {args : Array Value} {below : List Frame} {meth : Method} {c : Code} {H : Heap} {locs : List Loc} {ls : Array Slot} {av : Array Value}
    (hr : va_Run p l e (zrm d) s m args below meth c H locs 0 0 0 0 (F0 m pc ls vs) (st.map (zrv ad)) (zQ ad dC dI cA Q' av) (zA ad)) (hnx : nx = pc + 3)
    (hC : zC ad dC dI cA k p s m args meth c) (hS : va_S (zA ad) s.heap H locs) (hL : zL ad ls k.2.2.1 lo) (kk : ∀ r M', Q' r M' → zX k d nx lo (r.toList ++ st) M' Q) :
    W p l e (zrm d) s m args below meth c H locs 0 0 (MQ below (zQ ad dC dI cA Q) args s 0 0 (zA ad)) (F0 m pc ls vs) := by
  subst hnx
  intro T hT X
  obtain ⟨v, st₀, t, T', L, h0, X', hL9, e1, e2, ⟨⟨r, M', hv, hq, hP⟩, hz, hk⟩, go⟩ := hr T hT X
  cases hv
  rw [h0] at hz hk
  obtain ⟨t2, a1, b1⟩ := kk r M' hq ad dC dI cA p l e s m args below meth c T'.heap (locs ++ L) ls hC (by rw [e1]; exact hP)
    ⟨Nat.le_trans hS.1 (by rw [e1]; exact hz), fun q h1 h2 => by rw [e1, hk q (Nat.lt_of_lt_of_le h1 hS.1) h2]; exact hS.2.1 q h1 h2, fun q hq => by
      rcases List.mem_append.mp hq with h | h
      · exact hS.2.2 q h
      · exact hL9 q h⟩ hL T' rfl X'
  refine ⟨t2, go t2 ?_, b1⟩
  have e9 : (r.map (zrv ad)).toList ++ st.map (zrv ad) = (r.toList ++ st).map (zrv ad) := by cases r <;> simp
  show Steps p.tables e below (T'.setTop (F0 m (pc + 3) ls ((r.map (zrv ad)).toList ++ st.map (zrv ad)))) t2
  rw [e9]
  exact a1
theorem X_callV {idx ci n q : Nat} {as : List Value} (hi : zI k pc (.invokevirtual idx) 3 nx) (hl : zML k.1.cls idx k'.1) (hm : zMV k' ci n) (hq : zob q = some ci) (hct : zCt k' d' (.ref q :: as) M Q') (hs : stk = as.reverse ++ .ref q :: st) (hn : as.length = n) (hd' : d' + 1 ≤ d) (hst : (st.map fun v => v.category).sum ≤ 8)
    (kk : ∀ r M', Q' r M' → zX k d nx lo (r.toList ++ st) M' Q) : zX k d pc lo stk M Q := by
  subst hs
  intro ad dC dI cA p l e s m args below meth c H locs ls hC hP hS hL
  obtain ⟨hd, rfl⟩ := hi
  have hC2 := hC
  obtain ⟨hx, hb, hr, hml, hown, hts, hlk, hK, hinj, hnw⟩ := hC
  obtain ⟨⟨hcode, hini, hcl, hmx⟩, hinst, hsel, hci⟩ := hm
  have hst' : ((st.map (zrv ad)).map fun v => v.category).sum ≤ 8 := by
    rw [List.map_map]
    have : ((fun v : Value => v.category) ∘ zrv ad) = fun v => v.category := funext fun v => zrv_cat ad v
    rw [this]; exact hst
  have hstk : (as.reverse ++ Value.ref q :: st).map (zrv ad) = (as.map (zrv ad)).reverse ++ Value.ref (ad q) :: st.map (zrv ad) := by simp [zrv]
  have hrecv : ∃ cell : Cell, H[ad q]? = some cell ∧ cell.vm.isStatics = false ∧ s.vm.findClass k'.1.cls = some cell.cls := by
    unfold zob at hq
    split at hq
    next o ho =>
      cases hq
      cases hv9 : vwCl[o.1]? with
      | none => rw [hv9] at hci; cases hci
      | some r =>
        rw [hv9] at hci
        obtain ⟨cell, c1, c2, c3⟩ := va_recv (a := ad q) hK hP hv9 (zws_at ho)
        exact ⟨cell, c1, c2, by rw [← Option.some.inj hci]; exact c3⟩
    next => cases hq
  have hroom : (zrm d').frames + 1 ≤ (zrm d).frames ∧ 8 + (k'.2.2.1 + 11) + (zrm d').locals ≤ (zrm d).locals := ⟨hd', by show 8 + (k'.2.2.1 + 11) + 36 * d' ≤ 36 * d; omega⟩
  have hpre : PreV s H k'.1.cls (ad q) (zPc ad dC dI cA (.ref q :: as) M) (as.map (zrv ad)) := ⟨zblind _ _ _ _ _ _, hrecv, fun U hU hW => ⟨rfl, by rw [hU]; exact hP, va_K.moved hW.alike hK, hinj, fun w hw => zn_warm hw hW (hnw w hw)⟩⟩
  rw [hstk]
  rcases hl with hl | ⟨host, hl⟩
  · exact X_back (va_runV ⟨hx, hb, hml, hown, hts⟩ (hct l ad dC dI cA) ⟨callB_of n hts (zGood hcode) rfl rfl rfl (hts _ hini) (hts _ hl) hcl hroom, hts _ hinst, hts _ hsel⟩ hpre rfl (by rw [List.length_map]; exact hn) hL.1 rfl (lv_room hst') hd ⟨Nat.le_refl _, Nat.le_refl _⟩) rfl hC2 hS hL kk
  · exact X_back (va_runVN ⟨hx, hb, hml, hown, hts⟩ (hct l ad dC dI cA) ⟨va_cnB n hts (zGood hcode) rfl rfl rfl (hnw _ hl) (hts _ hini) hcl hroom, hts _ hinst, hts _ hsel⟩ hpre rfl (by rw [List.length_map]; exact hn) hL.1 rfl (lv_room hst') hd ⟨Nat.le_refl _, Nat.le_refl _⟩) rfl hC2 hS hL kk
theorem X_callS {idx n : Nat} {as : List Value} (hi : zI k pc (.invokestatic idx) 3 nx) (hl : zML k.1.cls idx k'.1) (hm : zMS k' n) (hct : zCt k' d' as M Q') (hs : stk = as.reverse ++ st) (hn : as.length = n) (hd' : d' + 1 ≤ d) (hst : (st.map fun v => v.category).sum ≤ 8)
    (kk : ∀ r M', Q' r M' → zX k d nx lo (r.toList ++ st) M' Q) : zX k d pc lo stk M Q := by
  subst hs
  intro ad dC dI cA p l e s m args below meth c H locs ls hC hP hS hL
  obtain ⟨hd, rfl⟩ := hi
  have hC2 := hC
  obtain ⟨hx, hb, hr, hml, hown, hts, hlk, hK, hinj, hnw⟩ := hC
  obtain ⟨⟨hcode, hini, hcl, hmx⟩, hstat⟩ := hm
  have hst' : ((st.map (zrv ad)).map fun v => v.category).sum ≤ 8 := by
    rw [List.map_map]
    have : ((fun v : Value => v.category) ∘ zrv ad) = fun v => v.category := funext fun v => zrv_cat ad v
    rw [this]; exact hst
  have hstk : (as.reverse ++ st).map (zrv ad) = (as.map (zrv ad)).reverse ++ st.map (zrv ad) := by simp
  have hroom : (zrm d').frames + 1 ≤ (zrm d).frames ∧ 8 + (k'.2.2.1 + 11) + (zrm d').locals ≤ (zrm d).locals := ⟨hd', by show 8 + (k'.2.2.1 + 11) + 36 * d' ≤ 36 * d; omega⟩
  have hpre : PreS s H (zPc ad dC dI cA as M) (as.map (zrv ad)) := ⟨zblind _ _ _ _ _ _, fun U hU hW => ⟨rfl, by rw [hU]; exact hP, va_K.moved hW.alike hK, hinj, fun w hw => zn_warm hw hW (hnw w hw)⟩⟩
  rw [hstk]
  rcases hl with hl | ⟨host, hl⟩
  · exact X_back (va_runS ⟨hx, hb, hml, hown, hts⟩ (hct l ad dC dI cA) ⟨callB_of n hts (zGood hcode) rfl rfl rfl (hts _ hini) (hts _ hl) hcl hroom, hts _ hstat⟩ hpre rfl (by rw [List.length_map]; exact hn) hL.1 rfl (lv_room hst') hd ⟨Nat.le_refl _, Nat.le_refl _⟩) rfl hC2 hS hL kk
  · exact X_back (va_runSN ⟨hx, hb, hml, hown, hts⟩ (hct l ad dC dI cA) ⟨va_cnB n hts (zGood hcode) rfl rfl rfl (hnw _ hl) (hts _ hini) hcl hroom, hts _ hstat, trivial⟩ hpre rfl (by rw [List.length_map]; exact hn) hL.1 rfl (lv_room hst') hd ⟨Nat.le_refl _, Nat.le_refl _⟩) rfl hC2 hS hL kk
end ZCALL
end
