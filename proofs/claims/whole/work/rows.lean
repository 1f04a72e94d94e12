section
-- ===== PART A: goes FIRST, ahead of the names: the tables' words, and 'selects' of the private methods out of them =====
/-- a private method of a class that the tables say can be made, by its rows of tables_1 -/
def lw_okq (q : MethodName × Nat) : Prop := (q.1.cls ≠ "java/lang/invoke/MethodHandle" ∧ q.1.cls ≠ "java/lang/invoke/VarHandle") ∧ Cond.instantiable q.1.cls q.2 ∈ tables_1 ∧ Cond.privateMethod q.1 ∈ tables_1 ∧ Cond.instanceMethod q.1 ∈ tables_1
theorem lw_p0 : lw_okq (⟨"ServesWhatOneDreamt", "rowRefusal", "(I)I"⟩, 7) := ⟨⟨by decide +kernel, by decide +kernel⟩, List.mem_of_getElem? (i := 18) (by decide +kernel), List.mem_of_getElem? (i := 166) (by decide +kernel), List.mem_of_getElem? (i := 167) (by decide +kernel)⟩
theorem lw_p1 : lw_okq (⟨"ServesWhatOneDreamt", "refusalUnless", "(II)I"⟩, 7) := ⟨⟨by decide +kernel, by decide +kernel⟩, List.mem_of_getElem? (i := 18) (by decide +kernel), List.mem_of_getElem? (i := 170) (by decide +kernel), List.mem_of_getElem? (i := 171) (by decide +kernel)⟩
theorem lw_p2 : lw_okq (⟨"ServesWhatOneDreamt", "inMind", "()LServesWhatOneDreamt$Inn;"⟩, 7) := ⟨⟨by decide +kernel, by decide +kernel⟩, List.mem_of_getElem? (i := 18) (by decide +kernel), List.mem_of_getElem? (i := 189) (by decide +kernel), List.mem_of_getElem? (i := 190) (by decide +kernel)⟩
theorem lw_p3 : lw_okq (⟨"ServesWhatOneDreamt$Inn", "dream", "(II)I"⟩, 13) := ⟨⟨by decide +kernel, by decide +kernel⟩, List.mem_of_getElem? (i := 26) (by decide +kernel), List.mem_of_getElem? (i := 266) (by decide +kernel), List.mem_of_getElem? (i := 267) (by decide +kernel)⟩
theorem lw_p4 : lw_okq (⟨"ServesWhatOneDreamt$Inn", "breakfast", "(II)V"⟩, 13) := ⟨⟨by decide +kernel, by decide +kernel⟩, List.mem_of_getElem? (i := 26) (by decide +kernel), List.mem_of_getElem? (i := 276) (by decide +kernel), List.mem_of_getElem? (i := 277) (by decide +kernel)⟩
theorem lw_p5 : lw_okq (⟨"ServesWhatOneDreamt$Inn", "changeHealth", "(II)V"⟩, 13) := ⟨⟨by decide +kernel, by decide +kernel⟩, List.mem_of_getElem? (i := 26) (by decide +kernel), List.mem_of_getElem? (i := 283) (by decide +kernel), List.mem_of_getElem? (i := 284) (by decide +kernel)⟩
theorem lw_p6 : lw_okq (⟨"ServesWhatOneDreamt", "kindRefusal", "(I)I"⟩, 7) := ⟨⟨by decide +kernel, by decide +kernel⟩, List.mem_of_getElem? (i := 18) (by decide +kernel), List.mem_of_getElem? (i := 313) (by decide +kernel), List.mem_of_getElem? (i := 314) (by decide +kernel)⟩
theorem lw_p7 : lw_okq (⟨"ServesWhatOneDreamt", "firstToLeave", "()I"⟩, 7) := ⟨⟨by decide +kernel, by decide +kernel⟩, List.mem_of_getElem? (i := 18) (by decide +kernel), List.mem_of_getElem? (i := 360) (by decide +kernel), List.mem_of_getElem? (i := 361) (by decide +kernel)⟩
theorem lw_p8 : lw_okq (⟨"ServesWhatOneDreamt", "suffices", "(III)Z"⟩, 7) := ⟨⟨by decide +kernel, by decide +kernel⟩, List.mem_of_getElem? (i := 18) (by decide +kernel), List.mem_of_getElem? (i := 392) (by decide +kernel), List.mem_of_getElem? (i := 393) (by decide +kernel)⟩
theorem lw_p9 : lw_okq (⟨"ServesWhatOneDreamt", "healthThen", "(III)I"⟩, 7) := ⟨⟨by decide +kernel, by decide +kernel⟩, List.mem_of_getElem? (i := 18) (by decide +kernel), List.mem_of_getElem? (i := 404) (by decide +kernel), List.mem_of_getElem? (i := 405) (by decide +kernel)⟩
theorem lw_p10 : lw_okq (⟨"ServesWhatOneDreamt$Seating", "seatRest", "(II)Z"⟩, 2) := ⟨⟨by decide +kernel, by decide +kernel⟩, List.mem_of_getElem? (i := 127) (by decide +kernel), List.mem_of_getElem? (i := 422) (by decide +kernel), List.mem_of_getElem? (i := 423) (by decide +kernel)⟩
theorem lw_p11 : lw_okq (⟨"ServesWhatOneDreamt$Seating", "fits", "(II)Z"⟩, 2) := ⟨⟨by decide +kernel, by decide +kernel⟩, List.mem_of_getElem? (i := 127) (by decide +kernel), List.mem_of_getElem? (i := 426) (by decide +kernel), List.mem_of_getElem? (i := 427) (by decide +kernel)⟩
theorem lw_p12 : lw_okq (⟨"ServesWhatOneDreamt$Shelf", "leastNumber", "()I"⟩, 6) := ⟨⟨by decide +kernel, by decide +kernel⟩, List.mem_of_getElem? (i := 94) (by decide +kernel), List.mem_of_getElem? (i := 470) (by decide +kernel), List.mem_of_getElem? (i := 471) (by decide +kernel)⟩
theorem lw_p13 : lw_okq (⟨"ServesWhatOneDreamt", "choose", "(IIII)V"⟩, 7) := ⟨⟨by decide +kernel, by decide +kernel⟩, List.mem_of_getElem? (i := 18) (by decide +kernel), List.mem_of_getElem? (i := 486) (by decide +kernel), List.mem_of_getElem? (i := 487) (by decide +kernel)⟩
theorem lw_p14 : lw_okq (⟨"java/lang/Throwable", "fillInStackTrace", "(I)Ljava/lang/Throwable;"⟩, 6) := ⟨⟨by decide +kernel, by decide +kernel⟩, List.mem_of_getElem? (i := 636) (by decide +kernel), List.mem_of_getElem? (i := 634) (by decide +kernel), List.mem_of_getElem? (i := 635) (by decide +kernel)⟩
theorem lw_p15 : lw_okq (⟨"ServesWhatOneDreamtModel", "wrongRow", "(I)I"⟩, 39) := ⟨⟨by decide +kernel, by decide +kernel⟩, List.mem_of_getElem? (i := 712) (by decide +kernel), List.mem_of_getElem? (i := 846) (by decide +kernel), List.mem_of_getElem? (i := 847) (by decide +kernel)⟩
def lw_privs_1 : List (MethodName × Nat) := [(⟨"ServesWhatOneDreamt", "rowRefusal", "(I)I"⟩, 7), (⟨"ServesWhatOneDreamt", "refusalUnless", "(II)I"⟩, 7), (⟨"ServesWhatOneDreamt", "inMind", "()LServesWhatOneDreamt$Inn;"⟩, 7), (⟨"ServesWhatOneDreamt$Inn", "dream", "(II)I"⟩, 13), (⟨"ServesWhatOneDreamt$Inn", "breakfast", "(II)V"⟩, 13), (⟨"ServesWhatOneDreamt$Inn", "changeHealth", "(II)V"⟩, 13), (⟨"ServesWhatOneDreamt", "kindRefusal", "(I)I"⟩, 7), (⟨"ServesWhatOneDreamt", "firstToLeave", "()I"⟩, 7), (⟨"ServesWhatOneDreamt", "suffices", "(III)Z"⟩, 7), (⟨"ServesWhatOneDreamt", "healthThen", "(III)I"⟩, 7), (⟨"ServesWhatOneDreamt$Seating", "seatRest", "(II)Z"⟩, 2), (⟨"ServesWhatOneDreamt$Seating", "fits", "(II)Z"⟩, 2), (⟨"ServesWhatOneDreamt$Shelf", "leastNumber", "()I"⟩, 6), (⟨"ServesWhatOneDreamt", "choose", "(IIII)V"⟩, 7), (⟨"java/lang/Throwable", "fillInStackTrace", "(I)Ljava/lang/Throwable;"⟩, 6), (⟨"ServesWhatOneDreamtModel", "wrongRow", "(I)I"⟩, 39)]
theorem lw_r1 : ∀ q ∈ lw_privs_1, lw_okq q := List.forall_mem_cons.mpr ⟨lw_p0, List.forall_mem_cons.mpr ⟨lw_p1, List.forall_mem_cons.mpr ⟨lw_p2, List.forall_mem_cons.mpr ⟨lw_p3, List.forall_mem_cons.mpr ⟨lw_p4, List.forall_mem_cons.mpr ⟨lw_p5, List.forall_mem_cons.mpr ⟨lw_p6, List.forall_mem_cons.mpr ⟨lw_p7, List.forall_mem_cons.mpr ⟨lw_p8, List.forall_mem_cons.mpr ⟨lw_p9, List.forall_mem_cons.mpr ⟨lw_p10, List.forall_mem_cons.mpr ⟨lw_p11, List.forall_mem_cons.mpr ⟨lw_p12, List.forall_mem_cons.mpr ⟨lw_p13, List.forall_mem_cons.mpr ⟨lw_p14, List.forall_mem_cons.mpr ⟨lw_p15, fun _ h => absurd h List.not_mem_nil⟩⟩⟩⟩⟩⟩⟩⟩⟩⟩⟩⟩⟩⟩⟩⟩
theorem lw_p16 : lw_okq (⟨"ServesWhatOneDreamtModel", "readStatement", "()V"⟩, 39) := ⟨⟨by decide +kernel, by decide +kernel⟩, List.mem_of_getElem? (i := 712) (by decide +kernel), List.mem_of_getElem? (i := 854) (by decide +kernel), List.mem_of_getElem? (i := 855) (by decide +kernel)⟩
theorem lw_p17 : lw_okq (⟨"ServesWhatOneDreamtModel", "here", "()I"⟩, 39) := ⟨⟨by decide +kernel, by decide +kernel⟩, List.mem_of_getElem? (i := 712) (by decide +kernel), List.mem_of_getElem? (i := 858) (by decide +kernel), List.mem_of_getElem? (i := 859) (by decide +kernel)⟩
theorem lw_p18 : lw_okq (⟨"ServesWhatOneDreamtModel", "readNumbers", "(II)V"⟩, 39) := ⟨⟨by decide +kernel, by decide +kernel⟩, List.mem_of_getElem? (i := 712) (by decide +kernel), List.mem_of_getElem? (i := 865) (by decide +kernel), List.mem_of_getElem? (i := 866) (by decide +kernel)⟩
theorem lw_p19 : lw_okq (⟨"ServesWhatOneDreamtModel", "readDigits", "(I)I"⟩, 39) := ⟨⟨by decide +kernel, by decide +kernel⟩, List.mem_of_getElem? (i := 712) (by decide +kernel), List.mem_of_getElem? (i := 869) (by decide +kernel), List.mem_of_getElem? (i := 870) (by decide +kernel)⟩
theorem lw_p20 : lw_okq (⟨"ServesWhatOneDreamtModel", "think", "()V"⟩, 39) := ⟨⟨by decide +kernel, by decide +kernel⟩, List.mem_of_getElem? (i := 712) (by decide +kernel), List.mem_of_getElem? (i := 875) (by decide +kernel), List.mem_of_getElem? (i := 876) (by decide +kernel)⟩
theorem lw_p21 : lw_okq (⟨"ServesWhatOneDreamtModel", "carryAll", "([IZ)V"⟩, 39) := ⟨⟨by decide +kernel, by decide +kernel⟩, List.mem_of_getElem? (i := 712) (by decide +kernel), List.mem_of_getElem? (i := 879) (by decide +kernel), List.mem_of_getElem? (i := 880) (by decide +kernel)⟩
theorem lw_p22 : lw_okq (⟨"ServesWhatOneDreamtModel", "carry", "(I)I"⟩, 39) := ⟨⟨by decide +kernel, by decide +kernel⟩, List.mem_of_getElem? (i := 712) (by decide +kernel), List.mem_of_getElem? (i := 883) (by decide +kernel), List.mem_of_getElem? (i := 884) (by decide +kernel)⟩
theorem lw_p23 : lw_okq (⟨"ServesWhatOneDreamtModel", "comesTold", "(I)Z"⟩, 39) := ⟨⟨by decide +kernel, by decide +kernel⟩, List.mem_of_getElem? (i := 712) (by decide +kernel), List.mem_of_getElem? (i := 887) (by decide +kernel), List.mem_of_getElem? (i := 888) (by decide +kernel)⟩
theorem lw_p24 : lw_okq (⟨"ServesWhatOneDreamtModel", "guestComes", "(III)Z"⟩, 39) := ⟨⟨by decide +kernel, by decide +kernel⟩, List.mem_of_getElem? (i := 712) (by decide +kernel), List.mem_of_getElem? (i := 891) (by decide +kernel), List.mem_of_getElem? (i := 892) (by decide +kernel)⟩
theorem lw_p25 : lw_okq (⟨"ServesWhatOneDreamtModel", "nightsCome", "(I)Z"⟩, 39) := ⟨⟨by decide +kernel, by decide +kernel⟩, List.mem_of_getElem? (i := 712) (by decide +kernel), List.mem_of_getElem? (i := 898) (by decide +kernel), List.mem_of_getElem? (i := 899) (by decide +kernel)⟩
theorem lw_p26 : lw_okq (⟨"ServesWhatOneDreamtModel", "goNights", "(I)V"⟩, 39) := ⟨⟨by decide +kernel, by decide +kernel⟩, List.mem_of_getElem? (i := 712) (by decide +kernel), List.mem_of_getElem? (i := 903) (by decide +kernel), List.mem_of_getElem? (i := 904) (by decide +kernel)⟩
theorem lw_p27 : lw_okq (⟨"ServesWhatOneDreamtModel", "nightOn", "()V"⟩, 39) := ⟨⟨by decide +kernel, by decide +kernel⟩, List.mem_of_getElem? (i := 712) (by decide +kernel), List.mem_of_getElem? (i := 907) (by decide +kernel), List.mem_of_getElem? (i := 908) (by decide +kernel)⟩
theorem lw_p28 : lw_okq (⟨"ServesWhatOneDreamtModel", "breakfast", "(I)V"⟩, 39) := ⟨⟨by decide +kernel, by decide +kernel⟩, List.mem_of_getElem? (i := 712) (by decide +kernel), List.mem_of_getElem? (i := 914) (by decide +kernel), List.mem_of_getElem? (i := 915) (by decide +kernel)⟩
theorem lw_p29 : lw_okq (⟨"ServesWhatOneDreamtModel", "dreamsOf", "(II)I"⟩, 39) := ⟨⟨by decide +kernel, by decide +kernel⟩, List.mem_of_getElem? (i := 712) (by decide +kernel), List.mem_of_getElem? (i := 918) (by decide +kernel), List.mem_of_getElem? (i := 919) (by decide +kernel)⟩
theorem lw_p30 : lw_okq (⟨"ServesWhatOneDreamtModel", "eatsOf", "(I)I"⟩, 39) := ⟨⟨by decide +kernel, by decide +kernel⟩, List.mem_of_getElem? (i := 712) (by decide +kernel), List.mem_of_getElem? (i := 922) (by decide +kernel), List.mem_of_getElem? (i := 923) (by decide +kernel)⟩
theorem lw_p31 : lw_okq (⟨"ServesWhatOneDreamtModel", "gainsOf", "(II)I"⟩, 39) := ⟨⟨by decide +kernel, by decide +kernel⟩, List.mem_of_getElem? (i := 712) (by decide +kernel), List.mem_of_getElem? (i := 926) (by decide +kernel), List.mem_of_getElem? (i := 927) (by decide +kernel)⟩
def lw_privs_2 : List (MethodName × Nat) := [(⟨"ServesWhatOneDreamtModel", "readStatement", "()V"⟩, 39), (⟨"ServesWhatOneDreamtModel", "here", "()I"⟩, 39), (⟨"ServesWhatOneDreamtModel", "readNumbers", "(II)V"⟩, 39), (⟨"ServesWhatOneDreamtModel", "readDigits", "(I)I"⟩, 39), (⟨"ServesWhatOneDreamtModel", "think", "()V"⟩, 39), (⟨"ServesWhatOneDreamtModel", "carryAll", "([IZ)V"⟩, 39), (⟨"ServesWhatOneDreamtModel", "carry", "(I)I"⟩, 39), (⟨"ServesWhatOneDreamtModel", "comesTold", "(I)Z"⟩, 39), (⟨"ServesWhatOneDreamtModel", "guestComes", "(III)Z"⟩, 39), (⟨"ServesWhatOneDreamtModel", "nightsCome", "(I)Z"⟩, 39), (⟨"ServesWhatOneDreamtModel", "goNights", "(I)V"⟩, 39), (⟨"ServesWhatOneDreamtModel", "nightOn", "()V"⟩, 39), (⟨"ServesWhatOneDreamtModel", "breakfast", "(I)V"⟩, 39), (⟨"ServesWhatOneDreamtModel", "dreamsOf", "(II)I"⟩, 39), (⟨"ServesWhatOneDreamtModel", "eatsOf", "(I)I"⟩, 39), (⟨"ServesWhatOneDreamtModel", "gainsOf", "(II)I"⟩, 39)]
theorem lw_r2 : ∀ q ∈ lw_privs_2, lw_okq q := List.forall_mem_cons.mpr ⟨lw_p16, List.forall_mem_cons.mpr ⟨lw_p17, List.forall_mem_cons.mpr ⟨lw_p18, List.forall_mem_cons.mpr ⟨lw_p19, List.forall_mem_cons.mpr ⟨lw_p20, List.forall_mem_cons.mpr ⟨lw_p21, List.forall_mem_cons.mpr ⟨lw_p22, List.forall_mem_cons.mpr ⟨lw_p23, List.forall_mem_cons.mpr ⟨lw_p24, List.forall_mem_cons.mpr ⟨lw_p25, List.forall_mem_cons.mpr ⟨lw_p26, List.forall_mem_cons.mpr ⟨lw_p27, List.forall_mem_cons.mpr ⟨lw_p28, List.forall_mem_cons.mpr ⟨lw_p29, List.forall_mem_cons.mpr ⟨lw_p30, List.forall_mem_cons.mpr ⟨lw_p31, fun _ h => absurd h List.not_mem_nil⟩⟩⟩⟩⟩⟩⟩⟩⟩⟩⟩⟩⟩⟩⟩⟩
theorem lw_p32 : lw_okq (⟨"ServesWhatOneDreamtModel", "ofGuest", "(III)Z"⟩, 39) := ⟨⟨by decide +kernel, by decide +kernel⟩, List.mem_of_getElem? (i := 712) (by decide +kernel), List.mem_of_getElem? (i := 930) (by decide +kernel), List.mem_of_getElem? (i := 931) (by decide +kernel)⟩
theorem lw_p33 : lw_okq (⟨"ServesWhatOneDreamtModel", "isOne", "(I)Z"⟩, 39) := ⟨⟨by decide +kernel, by decide +kernel⟩, List.mem_of_getElem? (i := 712) (by decide +kernel), List.mem_of_getElem? (i := 934) (by decide +kernel), List.mem_of_getElem? (i := 935) (by decide +kernel)⟩
theorem lw_p34 : lw_okq (⟨"ServesWhatOneDreamtModel", "again", "()V"⟩, 39) := ⟨⟨by decide +kernel, by decide +kernel⟩, List.mem_of_getElem? (i := 712) (by decide +kernel), List.mem_of_getElem? (i := 938) (by decide +kernel), List.mem_of_getElem? (i := 939) (by decide +kernel)⟩
theorem lw_p35 : lw_okq (⟨"ServesWhatOneDreamtModel", "wrongKept", "(I)I"⟩, 39) := ⟨⟨by decide +kernel, by decide +kernel⟩, List.mem_of_getElem? (i := 712) (by decide +kernel), List.mem_of_getElem? (i := 966) (by decide +kernel), List.mem_of_getElem? (i := 967) (by decide +kernel)⟩
theorem lw_p36 : lw_okq (⟨"ServesWhatOneDreamtModel", "leavesIn", "(I)I"⟩, 39) := ⟨⟨by decide +kernel, by decide +kernel⟩, List.mem_of_getElem? (i := 712) (by decide +kernel), List.mem_of_getElem? (i := 1008) (by decide +kernel), List.mem_of_getElem? (i := 1009) (by decide +kernel)⟩
theorem lw_p37 : lw_okq (⟨"ServesWhatOneDreamtModel", "dreamsNext", "(I)I"⟩, 39) := ⟨⟨by decide +kernel, by decide +kernel⟩, List.mem_of_getElem? (i := 712) (by decide +kernel), List.mem_of_getElem? (i := 1020) (by decide +kernel), List.mem_of_getElem? (i := 1021) (by decide +kernel)⟩
theorem lw_p38 : lw_okq (⟨"ServesWhatOneDreamtModel", "lackingThen", "(I)I"⟩, 39) := ⟨⟨by decide +kernel, by decide +kernel⟩, List.mem_of_getElem? (i := 712) (by decide +kernel), List.mem_of_getElem? (i := 1032) (by decide +kernel), List.mem_of_getElem? (i := 1033) (by decide +kernel)⟩
theorem lw_p39 : lw_okq (⟨"ServesWhatOneDreamtModel", "healthBut", "(II)I"⟩, 39) := ⟨⟨by decide +kernel, by decide +kernel⟩, List.mem_of_getElem? (i := 712) (by decide +kernel), List.mem_of_getElem? (i := 1045) (by decide +kernel), List.mem_of_getElem? (i := 1046) (by decide +kernel)⟩
theorem lw_p40 : lw_okq (⟨"ServesWhatOneDreamtModel", "laySeats", "()V"⟩, 39) := ⟨⟨by decide +kernel, by decide +kernel⟩, List.mem_of_getElem? (i := 712) (by decide +kernel), List.mem_of_getElem? (i := 1053) (by decide +kernel), List.mem_of_getElem? (i := 1054) (by decide +kernel)⟩
theorem lw_p41 : lw_okq (⟨"ServesWhatOneDreamtModel", "isUnlike", "(II)Z"⟩, 39) := ⟨⟨by decide +kernel, by decide +kernel⟩, List.mem_of_getElem? (i := 712) (by decide +kernel), List.mem_of_getElem? (i := 1057) (by decide +kernel), List.mem_of_getElem? (i := 1058) (by decide +kernel)⟩
theorem lw_p42 : lw_okq (⟨"ServesWhatOneDreamtModel", "sameTwos", "()I"⟩, 39) := ⟨⟨by decide +kernel, by decide +kernel⟩, List.mem_of_getElem? (i := 712) (by decide +kernel), List.mem_of_getElem? (i := 1065) (by decide +kernel), List.mem_of_getElem? (i := 1066) (by decide +kernel)⟩
theorem lw_p43 : lw_okq (⟨"ServesWhatOneDreamtModel", "wellest", "()I"⟩, 39) := ⟨⟨by decide +kernel, by decide +kernel⟩, List.mem_of_getElem? (i := 712) (by decide +kernel), List.mem_of_getElem? (i := 1069) (by decide +kernel), List.mem_of_getElem? (i := 1070) (by decide +kernel)⟩
theorem lw_p44 : lw_okq (⟨"ServesWhatOneDreamtModel", "fullestPlate", "()I"⟩, 39) := ⟨⟨by decide +kernel, by decide +kernel⟩, List.mem_of_getElem? (i := 712) (by decide +kernel), List.mem_of_getElem? (i := 1073) (by decide +kernel), List.mem_of_getElem? (i := 1074) (by decide +kernel)⟩
theorem lw_p45 : lw_okq (⟨"ServesWhatOneDreamtModel", "allPlates", "()I"⟩, 39) := ⟨⟨by decide +kernel, by decide +kernel⟩, List.mem_of_getElem? (i := 712) (by decide +kernel), List.mem_of_getElem? (i := 1077) (by decide +kernel), List.mem_of_getElem? (i := 1078) (by decide +kernel)⟩
theorem lw_p46 : lw_okq (⟨"ServesWhatOneDreamtModel", "emptyPlates", "()I"⟩, 39) := ⟨⟨by decide +kernel, by decide +kernel⟩, List.mem_of_getElem? (i := 712) (by decide +kernel), List.mem_of_getElem? (i := 1081) (by decide +kernel), List.mem_of_getElem? (i := 1082) (by decide +kernel)⟩
theorem lw_p47 : lw_okq (⟨"ServesWhatOneDreamtModel", "platesOf", "(Z)I"⟩, 39) := ⟨⟨by decide +kernel, by decide +kernel⟩, List.mem_of_getElem? (i := 712) (by decide +kernel), List.mem_of_getElem? (i := 1085) (by decide +kernel), List.mem_of_getElem? (i := 1086) (by decide +kernel)⟩
def lw_privs_3 : List (MethodName × Nat) := [(⟨"ServesWhatOneDreamtModel", "ofGuest", "(III)Z"⟩, 39), (⟨"ServesWhatOneDreamtModel", "isOne", "(I)Z"⟩, 39), (⟨"ServesWhatOneDreamtModel", "again", "()V"⟩, 39), (⟨"ServesWhatOneDreamtModel", "wrongKept", "(I)I"⟩, 39), (⟨"ServesWhatOneDreamtModel", "leavesIn", "(I)I"⟩, 39), (⟨"ServesWhatOneDreamtModel", "dreamsNext", "(I)I"⟩, 39), (⟨"ServesWhatOneDreamtModel", "lackingThen", "(I)I"⟩, 39), (⟨"ServesWhatOneDreamtModel", "healthBut", "(II)I"⟩, 39), (⟨"ServesWhatOneDreamtModel", "laySeats", "()V"⟩, 39), (⟨"ServesWhatOneDreamtModel", "isUnlike", "(II)Z"⟩, 39), (⟨"ServesWhatOneDreamtModel", "sameTwos", "()I"⟩, 39), (⟨"ServesWhatOneDreamtModel", "wellest", "()I"⟩, 39), (⟨"ServesWhatOneDreamtModel", "fullestPlate", "()I"⟩, 39), (⟨"ServesWhatOneDreamtModel", "allPlates", "()I"⟩, 39), (⟨"ServesWhatOneDreamtModel", "emptyPlates", "()I"⟩, 39), (⟨"ServesWhatOneDreamtModel", "platesOf", "(Z)I"⟩, 39)]
theorem lw_r3 : ∀ q ∈ lw_privs_3, lw_okq q := List.forall_mem_cons.mpr ⟨lw_p32, List.forall_mem_cons.mpr ⟨lw_p33, List.forall_mem_cons.mpr ⟨lw_p34, List.forall_mem_cons.mpr ⟨lw_p35, List.forall_mem_cons.mpr ⟨lw_p36, List.forall_mem_cons.mpr ⟨lw_p37, List.forall_mem_cons.mpr ⟨lw_p38, List.forall_mem_cons.mpr ⟨lw_p39, List.forall_mem_cons.mpr ⟨lw_p40, List.forall_mem_cons.mpr ⟨lw_p41, List.forall_mem_cons.mpr ⟨lw_p42, List.forall_mem_cons.mpr ⟨lw_p43, List.forall_mem_cons.mpr ⟨lw_p44, List.forall_mem_cons.mpr ⟨lw_p45, List.forall_mem_cons.mpr ⟨lw_p46, List.forall_mem_cons.mpr ⟨lw_p47, fun _ h => absurd h List.not_mem_nil⟩⟩⟩⟩⟩⟩⟩⟩⟩⟩⟩⟩⟩⟩⟩⟩
theorem lw_p48 : lw_okq (⟨"ServesWhatOneDreamtModel", "isHealthRow", "(II)Z"⟩, 39) := ⟨⟨by decide +kernel, by decide +kernel⟩, List.mem_of_getElem? (i := 712) (by decide +kernel), List.mem_of_getElem? (i := 1093) (by decide +kernel), List.mem_of_getElem? (i := 1094) (by decide +kernel)⟩
theorem lw_p49 : lw_okq (⟨"ServesWhatOneDreamtModel", "isSkipped", "(II)Z"⟩, 39) := ⟨⟨by decide +kernel, by decide +kernel⟩, List.mem_of_getElem? (i := 712) (by decide +kernel), List.mem_of_getElem? (i := 1097) (by decide +kernel), List.mem_of_getElem? (i := 1098) (by decide +kernel)⟩
theorem lw_p50 : lw_okq (⟨"ServesWhatOneDreamtModel", "isPlateRow", "(II)Z"⟩, 39) := ⟨⟨by decide +kernel, by decide +kernel⟩, List.mem_of_getElem? (i := 712) (by decide +kernel), List.mem_of_getElem? (i := 1111) (by decide +kernel), List.mem_of_getElem? (i := 1112) (by decide +kernel)⟩
theorem lw_p51 : lw_okq (⟨"ServesWhatOneDreamtModel", "drawBelow", "(I)I"⟩, 39) := ⟨⟨by decide +kernel, by decide +kernel⟩, List.mem_of_getElem? (i := 712) (by decide +kernel), List.mem_of_getElem? (i := 1147) (by decide +kernel), List.mem_of_getElem? (i := 1148) (by decide +kernel)⟩
def lw_privs_4 : List (MethodName × Nat) := [(⟨"ServesWhatOneDreamtModel", "isHealthRow", "(II)Z"⟩, 39), (⟨"ServesWhatOneDreamtModel", "isSkipped", "(II)Z"⟩, 39), (⟨"ServesWhatOneDreamtModel", "isPlateRow", "(II)Z"⟩, 39), (⟨"ServesWhatOneDreamtModel", "drawBelow", "(I)I"⟩, 39)]
theorem lw_r4 : ∀ q ∈ lw_privs_4, lw_okq q := List.forall_mem_cons.mpr ⟨lw_p48, List.forall_mem_cons.mpr ⟨lw_p49, List.forall_mem_cons.mpr ⟨lw_p50, List.forall_mem_cons.mpr ⟨lw_p51, fun _ h => absurd h List.not_mem_nil⟩⟩⟩⟩
def lw_privs : List (MethodName × Nat) := lw_privs_1 ++ (lw_privs_2 ++ (lw_privs_3 ++ (lw_privs_4)))
def lw_tbl : List Cond := k2_sels lw_privs ++ tables_1
theorem lw_privs_ok : ∀ q ∈ lw_privs, lw_okq q := by
  show ∀ q ∈ lw_privs_1 ++ (lw_privs_2 ++ (lw_privs_3 ++ (lw_privs_4))), lw_okq q
  exact List.forall_mem_append.mpr ⟨lw_r1, List.forall_mem_append.mpr ⟨lw_r2, List.forall_mem_append.mpr ⟨lw_r3, lw_r4⟩⟩⟩
end
section
def RX0 : String := "ServesWhatOneDreamt$Inn"
def TX0 : u_T := fun k => match k with
  | 0 => ("ServesWhatOneDreamt$Inn", "kinds", "[I", true)
  | 1 => ("ServesWhatOneDreamt$Inn", "figures", "[I", true)
  | 2 => ("ServesWhatOneDreamt$Inn", "wishes", "[I", true)
  | 3 => ("ServesWhatOneDreamt$Inn", "lasts", "[I", true)
  | 4 => ("ServesWhatOneDreamt$Inn", "healths", "[I", true)
  | 5 => ("ServesWhatOneDreamt$Inn", "plates", "[I", true)
  | 6 => ("ServesWhatOneDreamt$Inn", "guests", "I", false)
  | 7 => ("ServesWhatOneDreamt$Inn", "there", "I", false)
  | 8 => ("ServesWhatOneDreamt$Inn", "night", "I", false)
  | 9 => ("ServesWhatOneDreamt$Inn", "served", "I", false)
  | 10 => ("ServesWhatOneDreamt$Inn", "lacking", "I", false)
  | 11 => ("ServesWhatOneDreamt$Inn", "servedNow", "I", false)
  | _ => ("ServesWhatOneDreamt$Inn", "lackedNow", "I", false)
def tyX0 : Nat → FieldType := fun k => match k with
  | 0 => .array .int
  | 1 => .array .int
  | 2 => .array .int
  | 3 => .array .int
  | 4 => .array .int
  | 5 => .array .int
  | 6 => .int
  | 7 => .int
  | 8 => .int
  | 9 => .int
  | 10 => .int
  | 11 => .int
  | _ => .int
abbrev wsX00 : List Cond := u_ws RX0 TX0 13
theorem nmX0 : ∀ a, a < 13 → ∀ b, b < 13 → a ≠ b → (TX0 a).2.1 ≠ (TX0 b).2.1 := by decide +kernel
theorem tyX0_ok : ∀ k, k < 13 → parseFieldDescriptor (TX0 k).2.2.1 = some (tyX0 k) := by decide +kernel
abbrev cX0_init : ByteArray := prog_2_method_1_code
def yX0_init : MethodName := ⟨RX0, "<init>", "()V"⟩
abbrev cX0_become : ByteArray := prog_2_method_2_code
def yX0_become : MethodName := ⟨RX0, "become", "(LServesWhatOneDreamt$Inn;)V"⟩
abbrev cX0_knows : ByteArray := prog_2_method_3_code
def yX0_knows : MethodName := ⟨RX0, "knows", "(I)Z"⟩
abbrev cX0_isThere : ByteArray := prog_2_method_4_code
def yX0_isThere : MethodName := ⟨RX0, "isThere", "(I)Z"⟩
abbrev cX0_admit : ByteArray := prog_2_method_5_code
def yX0_admit : MethodName := ⟨RX0, "admit", "(III)I"⟩
abbrev cX0_stock : ByteArray := prog_2_method_6_code
def yX0_stock : MethodName := ⟨RX0, "stock", "(II)V"⟩
abbrev cX0_pass : ByteArray := prog_2_method_7_code
def yX0_pass : MethodName := ⟨RX0, "pass", "(I)V"⟩
abbrev cX0_passUnlacking : ByteArray := prog_2_method_8_code
def yX0_passUnlacking : MethodName := ⟨RX0, "passUnlacking", "(I)Z"⟩
abbrev cX0_passNight : ByteArray := prog_2_method_9_code
def yX0_passNight : MethodName := ⟨RX0, "passNight", "(ZI)V"⟩
abbrev cX0_dream : ByteArray := prog_2_method_10_code
def yX0_dream : MethodName := ⟨RX0, "dream", "(II)I"⟩
abbrev cX0_nextDream : ByteArray := prog_2_method_11_code
def yX0_nextDream : MethodName := ⟨RX0, "nextDream", "(I)I"⟩
abbrev cX0_breakfast : ByteArray := prog_2_method_12_code
def yX0_breakfast : MethodName := ⟨RX0, "breakfast", "(II)V"⟩
abbrev cX0_changeHealth : ByteArray := prog_2_method_13_code
def yX0_changeHealth : MethodName := ⟨RX0, "changeHealth", "(II)V"⟩
abbrev cX0_healthOf : ByteArray := prog_2_method_14_code
def yX0_healthOf : MethodName := ⟨RX0, "healthOf", "(I)I"⟩
abbrev cX0_twosOfOneDream : ByteArray := prog_2_method_15_code
def yX0_twosOfOneDream : MethodName := ⟨RX0, "twosOfOneDream", "()I"⟩
abbrev cX0_wellest : ByteArray := prog_2_method_16_code
def yX0_wellest : MethodName := ⟨RX0, "wellest", "()I"⟩
abbrev cX0_fullest : ByteArray := prog_2_method_17_code
def yX0_fullest : MethodName := ⟨RX0, "fullest", "()I"⟩
abbrev cX0_platesInAll : ByteArray := prog_2_method_18_code
def yX0_platesInAll : MethodName := ⟨RX0, "platesInAll", "()I"⟩
abbrev cX0_emptyPlates : ByteArray := prog_2_method_19_code
def yX0_emptyPlates : MethodName := ⟨RX0, "emptyPlates", "()I"⟩
abbrev cX0_platesOf : ByteArray := prog_2_method_20_code
def yX0_platesOf : MethodName := ⟨RX0, "platesOf", "([I)I"⟩
def RX1 : String := "ServesWhatOneDreamt$Kind"
def TX1 : u_T := fun k => match k with
  | _ => ("", "", "", false)
def tyX1 : Nat → FieldType := fun k => match k with
  | _ => .int
abbrev wsX10 : List Cond := u_ws RX1 TX1 0
theorem nmX1 : ∀ a, a < 0 → ∀ b, b < 0 → a ≠ b → (TX1 a).2.1 ≠ (TX1 b).2.1 := by decide +kernel
theorem tyX1_ok : ∀ k, k < 0 → parseFieldDescriptor (TX1 k).2.2.1 = some (tyX1 k) := by decide +kernel
abbrev cX1_isKind : ByteArray := prog_3_method_2_code
def yX1_isKind : MethodName := ⟨RX1, "isKind", "(I)Z"⟩
abbrev cX1_dream : ByteArray := prog_3_method_3_code
def yX1_dream : MethodName := ⟨RX1, "dream", "(IIIII)I"⟩
abbrev cX1_cooksDream : ByteArray := prog_3_method_4_code
def yX1_cooksDream : MethodName := ⟨RX1, "cooksDream", "(III)I"⟩
abbrev cX1_eats : ByteArray := prog_3_method_5_code
def yX1_eats : MethodName := ⟨RX1, "eats", "(I)I"⟩
abbrev cX1_gain : ByteArray := prog_3_method_6_code
def yX1_gain : MethodName := ⟨RX1, "gain", "(IIII)I"⟩
abbrev cX1_price : ByteArray := prog_3_method_7_code
def yX1_price : MethodName := ⟨RX1, "price", "(II)I"⟩
abbrev cX1_fail : ByteArray := prog_3_method_8_code
def yX1_fail : MethodName := ⟨RX1, "fail", "(II)V"⟩
def RX2 : String := "ServesWhatOneDreamt$Seating"
def TX2 : u_T := fun k => match k with
  | 0 => ("ServesWhatOneDreamt$Seating", "dreams", "[I", true)
  | _ => ("ServesWhatOneDreamt$Seating", "order", "[I", true)
def tyX2 : Nat → FieldType := fun k => match k with
  | 0 => .array .int
  | _ => .array .int
abbrev wsX20 : List Cond := u_ws RX2 TX2 2
theorem nmX2 : ∀ a, a < 2 → ∀ b, b < 2 → a ≠ b → (TX2 a).2.1 ≠ (TX2 b).2.1 := by decide +kernel
theorem tyX2_ok : ∀ k, k < 2 → parseFieldDescriptor (TX2 k).2.2.1 = some (tyX2 k) := by decide +kernel
abbrev cX2_init : ByteArray := prog_4_method_1_code
def yX2_init : MethodName := ⟨RX2, "<init>", "()V"⟩
abbrev cX2_seat : ByteArray := prog_4_method_2_code
def yX2_seat : MethodName := ⟨RX2, "seat", "(LServesWhatOneDreamt$Inn;I)I"⟩
abbrev cX2_seatRest : ByteArray := prog_4_method_3_code
def yX2_seatRest : MethodName := ⟨RX2, "seatRest", "(II)Z"⟩
abbrev cX2_fits : ByteArray := prog_4_method_4_code
def yX2_fits : MethodName := ⟨RX2, "fits", "(II)Z"⟩
def RX3 : String := "ServesWhatOneDreamt$Shelf"
def TX3 : u_T := fun k => match k with
  | 0 => ("ServesWhatOneDreamt$Shelf", "holds", "I", false)
  | 1 => ("ServesWhatOneDreamt$Shelf", "kind", "I", false)
  | 2 => ("ServesWhatOneDreamt$Shelf", "figure", "I", false)
  | 3 => ("ServesWhatOneDreamt$Shelf", "sort", "I", false)
  | 4 => ("ServesWhatOneDreamt$Shelf", "size", "I", false)
  | _ => ("ServesWhatOneDreamt$Shelf", "cells", "[I", true)
def tyX3 : Nat → FieldType := fun k => match k with
  | 0 => .int
  | 1 => .int
  | 2 => .int
  | 3 => .int
  | 4 => .int
  | _ => .array .int
abbrev wsX30 : List Cond := u_ws RX3 TX3 6
theorem nmX3 : ∀ a, a < 6 → ∀ b, b < 6 → a ≠ b → (TX3 a).2.1 ≠ (TX3 b).2.1 := by decide +kernel
theorem tyX3_ok : ∀ k, k < 6 → parseFieldDescriptor (TX3 k).2.2.1 = some (tyX3 k) := by decide +kernel
abbrev cX3_init : ByteArray := prog_5_method_1_code
def yX3_init : MethodName := ⟨RX3, "<init>", "()V"⟩
abbrev cX3_isSort : ByteArray := prog_5_method_2_code
def yX3_isSort : MethodName := ⟨RX3, "isSort", "(I)Z"⟩
abbrev cX3_lowestBits : ByteArray := prog_5_method_3_code
def yX3_lowestBits : MethodName := ⟨RX3, "lowestBits", "(II)I"⟩
abbrev cX3_holdNothing : ByteArray := prog_5_method_4_code
def yX3_holdNothing : MethodName := ⟨RX3, "holdNothing", "()V"⟩
abbrev cX3_holdKind : ByteArray := prog_5_method_5_code
def yX3_holdKind : MethodName := ⟨RX3, "holdKind", "(II)V"⟩
abbrev cX3_holdRow : ByteArray := prog_5_method_6_code
def yX3_holdRow : MethodName := ⟨RX3, "holdRow", "(II)V"⟩
abbrev cX3_hasCell : ByteArray := prog_5_method_7_code
def yX3_hasCell : MethodName := ⟨RX3, "hasCell", "(I)Z"⟩
abbrev cX3_hasCells : ByteArray := prog_5_method_8_code
def yX3_hasCells : MethodName := ⟨RX3, "hasCells", "(II)Z"⟩
abbrev cX3_isSo : ByteArray := prog_5_method_9_code
def yX3_isSo : MethodName := ⟨RX3, "isSo", "(II)Z"⟩
abbrev cX3_leastNumber : ByteArray := prog_5_method_10_code
def yX3_leastNumber : MethodName := ⟨RX3, "leastNumber", "()I"⟩
def RX4 : String := "ServesWhatOneDreamt$Text"
def TX4 : u_T := fun k => match k with
  | _ => ("", "", "", false)
def tyX4 : Nat → FieldType := fun k => match k with
  | _ => .int
abbrev wsX40 : List Cond := u_ws RX4 TX4 0
theorem nmX4 : ∀ a, a < 0 → ∀ b, b < 0 → a ≠ b → (TX4 a).2.1 ≠ (TX4 b).2.1 := by decide +kernel
theorem tyX4_ok : ∀ k, k < 0 → parseFieldDescriptor (TX4 k).2.2.1 = some (tyX4 k) := by decide +kernel
abbrev cX4_digitsBehind : ByteArray := prog_6_method_2_code
def yX4_digitsBehind : MethodName := ⟨RX4, "digitsBehind", "(I)I"⟩
abbrev cX4_placeOfBadByte : ByteArray := prog_6_method_3_code
def yX4_placeOfBadByte : MethodName := ⟨RX4, "placeOfBadByte", "(LServesWhatOneDreamt$Shelf;)I"⟩
abbrev cX4_isLetter : ByteArray := prog_6_method_4_code
def yX4_isLetter : MethodName := ⟨RX4, "isLetter", "(I)Z"⟩
abbrev cX4_digitAt : ByteArray := prog_6_method_5_code
def yX4_digitAt : MethodName := ⟨RX4, "digitAt", "(LServesWhatOneDreamt$Shelf;I)I"⟩
abbrev cX4_tell : ByteArray := prog_6_method_6_code
def yX4_tell : MethodName := ⟨RX4, "tell", "(LServesWhatOneDreamt$Shelf;ILServesWhatOneDreamt$Inn;)Z"⟩
abbrev cX4_setStock : ByteArray := prog_6_method_7_code
def yX4_setStock : MethodName := ⟨RX4, "setStock", "(LServesWhatOneDreamt$Inn;II)Z"⟩
abbrev cX4_addStock : ByteArray := prog_6_method_8_code
def yX4_addStock : MethodName := ⟨RX4, "addStock", "(LServesWhatOneDreamt$Inn;II)Z"⟩
abbrev cX4_setWish : ByteArray := prog_6_method_9_code
def yX4_setWish : MethodName := ⟨RX4, "setWish", "(LServesWhatOneDreamt$Inn;II)Z"⟩
abbrev cX4_setLast : ByteArray := prog_6_method_10_code
def yX4_setLast : MethodName := ⟨RX4, "setLast", "(LServesWhatOneDreamt$Inn;II)Z"⟩
abbrev cX4_setHealth : ByteArray := prog_6_method_11_code
def yX4_setHealth : MethodName := ⟨RX4, "setHealth", "(LServesWhatOneDreamt$Inn;II)Z"⟩
abbrev cX4_passNights : ByteArray := prog_6_method_12_code
def yX4_passNights : MethodName := ⟨RX4, "passNights", "(LServesWhatOneDreamt$Inn;I)Z"⟩
def RX5 : String := "ServesWhatOneDreamt"
def TX5 : u_T := fun k => match k with
  | 0 => ("ServesWhatOneDreamt", "now", "LServesWhatOneDreamt$Inn;", true)
  | 1 => ("ServesWhatOneDreamt", "mind", "LServesWhatOneDreamt$Inn;", true)
  | 2 => ("ServesWhatOneDreamt", "kept", "LServesWhatOneDreamt$Inn;", true)
  | 3 => ("ServesWhatOneDreamt", "hasImage", "Z", false)
  | 4 => ("ServesWhatOneDreamt", "shelves", "[LServesWhatOneDreamt$Shelf;", true)
  | 5 => ("ServesWhatOneDreamt", "seating", "LServesWhatOneDreamt$Seating;", true)
  | _ => ("ServesWhatOneDreamt", "pays", "[I", true)
def tyX5 : Nat → FieldType := fun k => match k with
  | 0 => .object "ServesWhatOneDreamt$Inn"
  | 1 => .object "ServesWhatOneDreamt$Inn"
  | 2 => .object "ServesWhatOneDreamt$Inn"
  | 3 => .boolean
  | 4 => .array (.object "ServesWhatOneDreamt$Shelf")
  | 5 => .object "ServesWhatOneDreamt$Seating"
  | _ => .array .int
abbrev wsX50 : List Cond := u_ws RX5 TX5 7
theorem nmX5 : ∀ a, a < 7 → ∀ b, b < 7 → a ≠ b → (TX5 a).2.1 ≠ (TX5 b).2.1 := by decide +kernel
theorem tyX5_ok : ∀ k, k < 7 → parseFieldDescriptor (TX5 k).2.2.1 = some (tyX5 k) := by decide +kernel
abbrev cX5_init : ByteArray := prog_1_method_1_code
def yX5_init : MethodName := ⟨RX5, "<init>", "()V"⟩
abbrev cX5_inn : ByteArray := prog_1_method_2_code
def yX5_inn : MethodName := ⟨RX5, "inn", "(I)I"⟩
abbrev cX5_guest : ByteArray := prog_1_method_3_code
def yX5_guest : MethodName := ⟨RX5, "guest", "(II)I"⟩
abbrev cX5_larder : ByteArray := prog_1_method_4_code
def yX5_larder : MethodName := ⟨RX5, "larder", "(I)I"⟩
abbrev cX5_comes : ByteArray := prog_1_method_5_code
def yX5_comes : MethodName := ⟨RX5, "comes", "(II)I"⟩
abbrev cX5_wishes : ByteArray := prog_1_method_6_code
def yX5_wishes : MethodName := ⟨RX5, "wishes", "(II)I"⟩
abbrev cX5_heals : ByteArray := prog_1_method_7_code
def yX5_heals : MethodName := ⟨RX5, "heals", "(II)I"⟩
abbrev cX5_fills : ByteArray := prog_1_method_8_code
def yX5_fills : MethodName := ⟨RX5, "fills", "(II)I"⟩
abbrev cX5_nights : ByteArray := prog_1_method_9_code
def yX5_nights : MethodName := ⟨RX5, "nights", "(I)I"⟩
abbrev cX5_guestThen : ByteArray := prog_1_method_10_code
def yX5_guestThen : MethodName := ⟨RX5, "guestThen", "(III)I"⟩
abbrev cX5_larderThen : ByteArray := prog_1_method_11_code
def yX5_larderThen : MethodName := ⟨RX5, "larderThen", "(II)I"⟩
abbrev cX5_then : ByteArray := prog_1_method_12_code
def yX5_then : MethodName := ⟨RX5, "then", "(II)I"⟩
abbrev cX5_leaves : ByteArray := prog_1_method_13_code
def yX5_leaves : MethodName := ⟨RX5, "leaves", "(I)I"⟩
abbrev cX5_firstToLeave : ByteArray := prog_1_method_14_code
def yX5_firstToLeave : MethodName := ⟨RX5, "firstToLeave", "()I"⟩
abbrev cX5_out : ByteArray := prog_1_method_15_code
def yX5_out : MethodName := ⟨RX5, "out", "(I)I"⟩
abbrev cX5_table : ByteArray := prog_1_method_16_code
def yX5_table : MethodName := ⟨RX5, "table", "(II)I"⟩
abbrev cX5_bestWish : ByteArray := prog_1_method_17_code
def yX5_bestWish : MethodName := ⟨RX5, "bestWish", "(III)I"⟩
abbrev cX5_buy : ByteArray := prog_1_method_18_code
def yX5_buy : MethodName := ⟨RX5, "buy", "(I)I"⟩
abbrev cX5_least : ByteArray := prog_1_method_19_code
def yX5_least : MethodName := ⟨RX5, "least", "(II)I"⟩
abbrev cX5_suffices : ByteArray := prog_1_method_20_code
def yX5_suffices : MethodName := ⟨RX5, "suffices", "(III)Z"⟩
abbrev cX5_send : ByteArray := prog_1_method_21_code
def yX5_send : MethodName := ⟨RX5, "send", "(I)I"⟩
abbrev cX5_healthThen : ByteArray := prog_1_method_22_code
def yX5_healthThen : MethodName := ⟨RX5, "healthThen", "(III)I"⟩
abbrev cX5_seats : ByteArray := prog_1_method_23_code
def yX5_seats : MethodName := ⟨RX5, "seats", "(I)I"⟩
abbrev cX5_same : ByteArray := prog_1_method_24_code
def yX5_same : MethodName := ⟨RX5, "same", "(I)I"⟩
abbrev cX5_whatIs : ByteArray := prog_1_method_25_code
def yX5_whatIs : MethodName := ⟨RX5, "whatIs", "(III)I"⟩
abbrev cX5_healthsAreSo : ByteArray := prog_1_method_26_code
def yX5_healthsAreSo : MethodName := ⟨RX5, "healthsAreSo", "(LServesWhatOneDreamt$Shelf;LServesWhatOneDreamt$Inn;I)Z"⟩
abbrev cX5_whatWish : ByteArray := prog_1_method_27_code
def yX5_whatWish : MethodName := ⟨RX5, "whatWish", "(II)I"⟩
abbrev cX5_lastPlatesAreSo : ByteArray := prog_1_method_28_code
def yX5_lastPlatesAreSo : MethodName := ⟨RX5, "lastPlatesAreSo", "(LServesWhatOneDreamt$Shelf;LServesWhatOneDreamt$Inn;I)Z"⟩
abbrev cX5_two : ByteArray := prog_1_method_29_code
def yX5_two : MethodName := ⟨RX5, "two", "(III)I"⟩
abbrev cX5_choose : ByteArray := prog_1_method_30_code
def yX5_choose : MethodName := ⟨RX5, "choose", "(IIII)V"⟩
abbrev cX5_mares : ByteArray := prog_1_method_31_code
def yX5_mares : MethodName := ⟨RX5, "mares", "(IIIII)J"⟩
abbrev cX5_mean : ByteArray := prog_1_method_32_code
def yX5_mean : MethodName := ⟨RX5, "mean", "(I)J"⟩
abbrev cX5_forged : ByteArray := prog_1_method_33_code
def yX5_forged : MethodName := ⟨RX5, "forged", "(I)I"⟩
abbrev cX5_judge : ByteArray := prog_1_method_34_code
def yX5_judge : MethodName := ⟨RX5, "judge", "(I)I"⟩
abbrev cX5_years : ByteArray := prog_1_method_35_code
def yX5_years : MethodName := ⟨RX5, "years", "(III)I"⟩
abbrev cX5_drawInto : ByteArray := prog_1_method_36_code
def yX5_drawInto : MethodName := ⟨RX5, "drawInto", "([IIII)I"⟩
abbrev cX5_image : ByteArray := prog_1_method_37_code
def yX5_image : MethodName := ⟨RX5, "image", "()I"⟩
abbrev cX5_restore : ByteArray := prog_1_method_38_code
def yX5_restore : MethodName := ⟨RX5, "restore", "()I"⟩
abbrev cX5_count : ByteArray := prog_1_method_39_code
def yX5_count : MethodName := ⟨RX5, "count", "(I)I"⟩
abbrev cX5_keep : ByteArray := prog_1_method_40_code
def yX5_keep : MethodName := ⟨RX5, "keep", "(IIII)I"⟩
abbrev cX5_row : ByteArray := prog_1_method_41_code
def yX5_row : MethodName := ⟨RX5, "row", "(III)I"⟩
abbrev cX5_put : ByteArray := prog_1_method_42_code
def yX5_put : MethodName := ⟨RX5, "put", "(III)I"⟩
abbrev cX5_element : ByteArray := prog_1_method_43_code
def yX5_element : MethodName := ⟨RX5, "element", "(II)J"⟩
abbrev cX5_copy : ByteArray := prog_1_method_44_code
def yX5_copy : MethodName := ⟨RX5, "copy", "(IIIII)I"⟩
abbrev cX5_cost : ByteArray := prog_1_method_45_code
def yX5_cost : MethodName := ⟨RX5, "cost", "(I)I"⟩
abbrev cX5_toss : ByteArray := prog_1_method_46_code
def yX5_toss : MethodName := ⟨RX5, "toss", "(I)I"⟩
abbrev cX5_inMind : ByteArray := prog_1_method_47_code
def yX5_inMind : MethodName := ⟨RX5, "inMind", "()LServesWhatOneDreamt$Inn;"⟩
abbrev cX5_rowRefusal : ByteArray := prog_1_method_48_code
def yX5_rowRefusal : MethodName := ⟨RX5, "rowRefusal", "(I)I"⟩
abbrev cX5_kindRefusal : ByteArray := prog_1_method_49_code
def yX5_kindRefusal : MethodName := ⟨RX5, "kindRefusal", "(I)I"⟩
abbrev cX5_refusalUnless : ByteArray := prog_1_method_50_code
def yX5_refusalUnless : MethodName := ⟨RX5, "refusalUnless", "(II)I"⟩
abbrev cX5_within : ByteArray := prog_1_method_51_code
def yX5_within : MethodName := ⟨RX5, "within", "(III)Z"⟩
abbrev cX5_isPlate : ByteArray := prog_1_method_52_code
def yX5_isPlate : MethodName := ⟨RX5, "isPlate", "(I)Z"⟩
abbrev cX5_isWhile : ByteArray := prog_1_method_53_code
def yX5_isWhile : MethodName := ⟨RX5, "isWhile", "(I)Z"⟩
abbrev cX5_isShelf : ByteArray := prog_1_method_54_code
def yX5_isShelf : MethodName := ⟨RX5, "isShelf", "(I)Z"⟩
abbrev cX5_isDigit : ByteArray := prog_1_method_55_code
def yX5_isDigit : MethodName := ⟨RX5, "isDigit", "(I)Z"⟩
abbrev cX5_leastOf : ByteArray := prog_1_method_56_code
def yX5_leastOf : MethodName := ⟨RX5, "leastOf", "(I)I"⟩
abbrev cX5_refusedLong : ByteArray := prog_1_method_57_code
def yX5_refusedLong : MethodName := ⟨RX5, "refusedLong", "(I)J"⟩
abbrev cX5_partOf : ByteArray := prog_1_method_58_code
def yX5_partOf : MethodName := ⟨RX5, "partOf", "(JJI)J"⟩
abbrev cX5_sharedDivisor : ByteArray := prog_1_method_59_code
def yX5_sharedDivisor : MethodName := ⟨RX5, "sharedDivisor", "(JJ)J"⟩
def RX6 : String := "ServesWhatOneDreamtModel"
def TX6 : u_T := fun k => match k with
  | 0 => ("ServesWhatOneDreamtModel", "plates", "[I", true)
  | 1 => ("ServesWhatOneDreamtModel", "many", "I", false)
  | 2 => ("ServesWhatOneDreamtModel", "kinds", "[I", true)
  | 3 => ("ServesWhatOneDreamtModel", "figures", "[I", true)
  | 4 => ("ServesWhatOneDreamtModel", "wish", "[I", true)
  | 5 => ("ServesWhatOneDreamtModel", "tasted", "[I", true)
  | 6 => ("ServesWhatOneDreamtModel", "health", "[I", true)
  | 7 => ("ServesWhatOneDreamtModel", "there", "I", false)
  | 8 => ("ServesWhatOneDreamtModel", "served", "I", false)
  | 9 => ("ServesWhatOneDreamtModel", "lacking", "I", false)
  | 10 => ("ServesWhatOneDreamtModel", "today", "I", false)
  | 11 => ("ServesWhatOneDreamtModel", "says", "I", false)
  | 12 => ("ServesWhatOneDreamtModel", "isMare", "Z", false)
  | 13 => ("ServesWhatOneDreamtModel", "holdsWhat", "[I", true)
  | 14 => ("ServesWhatOneDreamtModel", "keptKind", "[I", true)
  | 15 => ("ServesWhatOneDreamtModel", "keptFigure", "[I", true)
  | 16 => ("ServesWhatOneDreamtModel", "rowSort", "[I", true)
  | 17 => ("ServesWhatOneDreamtModel", "rowMany", "[I", true)
  | 18 => ("ServesWhatOneDreamtModel", "rows", "[J", true)
  | 19 => ("ServesWhatOneDreamtModel", "thrown", "I", false)
  | 20 => ("ServesWhatOneDreamtModel", "servedIn", "I", false)
  | 21 => ("ServesWhatOneDreamtModel", "reading", "I", false)
  | 22 => ("ServesWhatOneDreamtModel", "place", "I", false)
  | 23 => ("ServesWhatOneDreamtModel", "isBad", "Z", false)
  | 24 => ("ServesWhatOneDreamtModel", "statements", "I", false)
  | 25 => ("ServesWhatOneDreamtModel", "placeIn", "[I", true)
  | 26 => ("ServesWhatOneDreamtModel", "letterOf", "[I", true)
  | 27 => ("ServesWhatOneDreamtModel", "told", "[I", true)
  | 28 => ("ServesWhatOneDreamtModel", "kept", "[I", true)
  | 29 => ("ServesWhatOneDreamtModel", "imaged", "[I", true)
  | 30 => ("ServesWhatOneDreamtModel", "hasImage", "Z", false)
  | 31 => ("ServesWhatOneDreamtModel", "place0", "I", false)
  | 32 => ("ServesWhatOneDreamtModel", "isTaking", "Z", false)
  | 33 => ("ServesWhatOneDreamtModel", "keptIn", "[I", false)
  | 34 => ("ServesWhatOneDreamtModel", "dreamt", "[I", true)
  | 35 => ("ServesWhatOneDreamtModel", "canEnd", "[Z", true)
  | 36 => ("ServesWhatOneDreamtModel", "gains", "[I", true)
  | 37 => ("ServesWhatOneDreamtModel", "seed", "I", false)
  | _ => ("ServesWhatOneDreamtModel", "between", "[J", true)
def tyX6 : Nat → FieldType := fun k => match k with
  | 0 => .array .int
  | 1 => .int
  | 2 => .array .int
  | 3 => .array .int
  | 4 => .array .int
  | 5 => .array .int
  | 6 => .array .int
  | 7 => .int
  | 8 => .int
  | 9 => .int
  | 10 => .int
  | 11 => .int
  | 12 => .boolean
  | 13 => .array .int
  | 14 => .array .int
  | 15 => .array .int
  | 16 => .array .int
  | 17 => .array .int
  | 18 => .array .long
  | 19 => .int
  | 20 => .int
  | 21 => .int
  | 22 => .int
  | 23 => .boolean
  | 24 => .int
  | 25 => .array .int
  | 26 => .array .int
  | 27 => .array .int
  | 28 => .array .int
  | 29 => .array .int
  | 30 => .boolean
  | 31 => .int
  | 32 => .boolean
  | 33 => .array .int
  | 34 => .array .int
  | 35 => .array .boolean
  | 36 => .array .int
  | 37 => .int
  | _ => .array .long
abbrev wsX60 : List Cond := u_ws RX6 TX6 39
theorem nmX6 : ∀ a, a < 39 → ∀ b, b < 39 → a ≠ b → (TX6 a).2.1 ≠ (TX6 b).2.1 := by decide +kernel
theorem tyX6_ok : ∀ k, k < 39 → parseFieldDescriptor (TX6 k).2.2.1 = some (tyX6 k) := by decide +kernel
abbrev cX6_init : ByteArray := prog_8_method_1_code
def yX6_init : MethodName := ⟨RX6, "<init>", "()V"⟩
abbrev cX6_thrown : ByteArray := prog_8_method_2_code
def yX6_thrown : MethodName := ⟨RX6, "thrown", "()I"⟩
abbrev cX6_in : ByteArray := prog_8_method_3_code
def yX6_in : MethodName := ⟨RX6, "in", "(JJJ)Z"⟩
abbrev cX6_hasBit : ByteArray := prog_8_method_4_code
def yX6_hasBit : MethodName := ⟨RX6, "hasBit", "(II)Z"⟩
abbrev cX6_onesOf : ByteArray := prog_8_method_5_code
def yX6_onesOf : MethodName := ⟨RX6, "onesOf", "(I)I"⟩
abbrev cX6_held : ByteArray := prog_8_method_6_code
def yX6_held : MethodName := ⟨RX6, "held", "(II)I"⟩
abbrev cX6_isPlate : ByteArray := prog_8_method_7_code
def yX6_isPlate : MethodName := ⟨RX6, "isPlate", "(I)Z"⟩
abbrev cX6_isOne : ByteArray := prog_8_method_8_code
def yX6_isOne : MethodName := ⟨RX6, "isOne", "(I)Z"⟩
abbrev cX6_dreamsOf : ByteArray := prog_8_method_9_code
def yX6_dreamsOf : MethodName := ⟨RX6, "dreamsOf", "(II)I"⟩
abbrev cX6_eatsOf : ByteArray := prog_8_method_10_code
def yX6_eatsOf : MethodName := ⟨RX6, "eatsOf", "(I)I"⟩
abbrev cX6_gainsOf : ByteArray := prog_8_method_11_code
def yX6_gainsOf : MethodName := ⟨RX6, "gainsOf", "(II)I"⟩
abbrev cX6_breakfast : ByteArray := prog_8_method_12_code
def yX6_breakfast : MethodName := ⟨RX6, "breakfast", "(I)V"⟩
abbrev cX6_nightOn : ByteArray := prog_8_method_13_code
def yX6_nightOn : MethodName := ⟨RX6, "nightOn", "()V"⟩
abbrev cX6_goNights : ByteArray := prog_8_method_14_code
def yX6_goNights : MethodName := ⟨RX6, "goNights", "(I)V"⟩
abbrev cX6_allPlates : ByteArray := prog_8_method_15_code
def yX6_allPlates : MethodName := ⟨RX6, "allPlates", "()I"⟩
abbrev cX6_here : ByteArray := prog_8_method_16_code
def yX6_here : MethodName := ⟨RX6, "here", "()I"⟩
abbrev cX6_readDigits : ByteArray := prog_8_method_17_code
def yX6_readDigits : MethodName := ⟨RX6, "readDigits", "(I)I"⟩
abbrev cX6_isLetter : ByteArray := prog_8_method_18_code
def yX6_isLetter : MethodName := ⟨RX6, "isLetter", "(I)Z"⟩
abbrev cX6_readNumbers : ByteArray := prog_8_method_19_code
def yX6_readNumbers : MethodName := ⟨RX6, "readNumbers", "(II)V"⟩
abbrev cX6_readStatement : ByteArray := prog_8_method_20_code
def yX6_readStatement : MethodName := ⟨RX6, "readStatement", "()V"⟩
abbrev cX6_guestComes : ByteArray := prog_8_method_21_code
def yX6_guestComes : MethodName := ⟨RX6, "guestComes", "(III)Z"⟩
abbrev cX6_nightsCome : ByteArray := prog_8_method_22_code
def yX6_nightsCome : MethodName := ⟨RX6, "nightsCome", "(I)Z"⟩
abbrev cX6_ofGuest : ByteArray := prog_8_method_23_code
def yX6_ofGuest : MethodName := ⟨RX6, "ofGuest", "(III)Z"⟩
abbrev cX6_comesTold : ByteArray := prog_8_method_24_code
def yX6_comesTold : MethodName := ⟨RX6, "comesTold", "(I)Z"⟩
abbrev cX6_inn : ByteArray := prog_8_method_25_code
def yX6_inn : MethodName := ⟨RX6, "inn", "(I)I"⟩
abbrev cX6_carry : ByteArray := prog_8_method_26_code
def yX6_carry : MethodName := ⟨RX6, "carry", "(I)I"⟩
abbrev cX6_carryAll : ByteArray := prog_8_method_27_code
def yX6_carryAll : MethodName := ⟨RX6, "carryAll", "([IZ)V"⟩
abbrev cX6_think : ByteArray := prog_8_method_28_code
def yX6_think : MethodName := ⟨RX6, "think", "()V"⟩
abbrev cX6_again : ByteArray := prog_8_method_29_code
def yX6_again : MethodName := ⟨RX6, "again", "()V"⟩
abbrev cX6_image : ByteArray := prog_8_method_30_code
def yX6_image : MethodName := ⟨RX6, "image", "()I"⟩
abbrev cX6_restore : ByteArray := prog_8_method_31_code
def yX6_restore : MethodName := ⟨RX6, "restore", "()I"⟩
abbrev cX6_guest : ByteArray := prog_8_method_32_code
def yX6_guest : MethodName := ⟨RX6, "guest", "(II)I"⟩
abbrev cX6_larder : ByteArray := prog_8_method_33_code
def yX6_larder : MethodName := ⟨RX6, "larder", "(I)I"⟩
abbrev cX6_comes : ByteArray := prog_8_method_34_code
def yX6_comes : MethodName := ⟨RX6, "comes", "(II)I"⟩
abbrev cX6_wishes : ByteArray := prog_8_method_35_code
def yX6_wishes : MethodName := ⟨RX6, "wishes", "(II)I"⟩
abbrev cX6_heals : ByteArray := prog_8_method_36_code
def yX6_heals : MethodName := ⟨RX6, "heals", "(II)I"⟩
abbrev cX6_fills : ByteArray := prog_8_method_37_code
def yX6_fills : MethodName := ⟨RX6, "fills", "(II)I"⟩
abbrev cX6_nights : ByteArray := prog_8_method_38_code
def yX6_nights : MethodName := ⟨RX6, "nights", "(I)I"⟩
abbrev cX6_guestThen : ByteArray := prog_8_method_39_code
def yX6_guestThen : MethodName := ⟨RX6, "guestThen", "(III)I"⟩
abbrev cX6_larderThen : ByteArray := prog_8_method_40_code
def yX6_larderThen : MethodName := ⟨RX6, "larderThen", "(II)I"⟩
abbrev cX6_then : ByteArray := prog_8_method_41_code
def yX6_then : MethodName := ⟨RX6, "then", "(II)I"⟩
abbrev cX6_leavesIn : ByteArray := prog_8_method_42_code
def yX6_leavesIn : MethodName := ⟨RX6, "leavesIn", "(I)I"⟩
abbrev cX6_leaves : ByteArray := prog_8_method_43_code
def yX6_leaves : MethodName := ⟨RX6, "leaves", "(I)I"⟩
abbrev cX6_out : ByteArray := prog_8_method_44_code
def yX6_out : MethodName := ⟨RX6, "out", "(I)I"⟩
abbrev cX6_dreamsNext : ByteArray := prog_8_method_45_code
def yX6_dreamsNext : MethodName := ⟨RX6, "dreamsNext", "(I)I"⟩
abbrev cX6_table : ByteArray := prog_8_method_46_code
def yX6_table : MethodName := ⟨RX6, "table", "(II)I"⟩
abbrev cX6_bestWish : ByteArray := prog_8_method_47_code
def yX6_bestWish : MethodName := ⟨RX6, "bestWish", "(III)I"⟩
abbrev cX6_lackingThen : ByteArray := prog_8_method_48_code
def yX6_lackingThen : MethodName := ⟨RX6, "lackingThen", "(I)I"⟩
abbrev cX6_buy : ByteArray := prog_8_method_49_code
def yX6_buy : MethodName := ⟨RX6, "buy", "(I)I"⟩
abbrev cX6_least : ByteArray := prog_8_method_50_code
def yX6_least : MethodName := ⟨RX6, "least", "(II)I"⟩
abbrev cX6_healthBut : ByteArray := prog_8_method_51_code
def yX6_healthBut : MethodName := ⟨RX6, "healthBut", "(II)I"⟩
abbrev cX6_send : ByteArray := prog_8_method_52_code
def yX6_send : MethodName := ⟨RX6, "send", "(I)I"⟩
abbrev cX6_isUnlike : ByteArray := prog_8_method_53_code
def yX6_isUnlike : MethodName := ⟨RX6, "isUnlike", "(II)Z"⟩
abbrev cX6_laySeats : ByteArray := prog_8_method_54_code
def yX6_laySeats : MethodName := ⟨RX6, "laySeats", "()V"⟩
abbrev cX6_seats : ByteArray := prog_8_method_55_code
def yX6_seats : MethodName := ⟨RX6, "seats", "(I)I"⟩
abbrev cX6_sameTwos : ByteArray := prog_8_method_56_code
def yX6_sameTwos : MethodName := ⟨RX6, "sameTwos", "()I"⟩
abbrev cX6_wellest : ByteArray := prog_8_method_57_code
def yX6_wellest : MethodName := ⟨RX6, "wellest", "()I"⟩
abbrev cX6_fullestPlate : ByteArray := prog_8_method_58_code
def yX6_fullestPlate : MethodName := ⟨RX6, "fullestPlate", "()I"⟩
abbrev cX6_emptyPlates : ByteArray := prog_8_method_59_code
def yX6_emptyPlates : MethodName := ⟨RX6, "emptyPlates", "()I"⟩
abbrev cX6_platesOf : ByteArray := prog_8_method_60_code
def yX6_platesOf : MethodName := ⟨RX6, "platesOf", "(Z)I"⟩
abbrev cX6_same : ByteArray := prog_8_method_61_code
def yX6_same : MethodName := ⟨RX6, "same", "(I)I"⟩
abbrev cX6_leastOf : ByteArray := prog_8_method_62_code
def yX6_leastOf : MethodName := ⟨RX6, "leastOf", "(I)J"⟩
abbrev cX6_isSkipped : ByteArray := prog_8_method_63_code
def yX6_isSkipped : MethodName := ⟨RX6, "isSkipped", "(II)Z"⟩
abbrev cX6_isHealthRow : ByteArray := prog_8_method_64_code
def yX6_isHealthRow : MethodName := ⟨RX6, "isHealthRow", "(II)Z"⟩
abbrev cX6_isPlateRow : ByteArray := prog_8_method_65_code
def yX6_isPlateRow : MethodName := ⟨RX6, "isPlateRow", "(II)Z"⟩
abbrev cX6_whatIs : ByteArray := prog_8_method_66_code
def yX6_whatIs : MethodName := ⟨RX6, "whatIs", "(III)I"⟩
abbrev cX6_whatWish : ByteArray := prog_8_method_67_code
def yX6_whatWish : MethodName := ⟨RX6, "whatWish", "(II)I"⟩
abbrev cX6_two : ByteArray := prog_8_method_68_code
def yX6_two : MethodName := ⟨RX6, "two", "(III)I"⟩
abbrev cX6_divisor : ByteArray := prog_8_method_69_code
def yX6_divisor : MethodName := ⟨RX6, "divisor", "(JJ)J"⟩
abbrev cX6_partOf : ByteArray := prog_8_method_70_code
def yX6_partOf : MethodName := ⟨RX6, "partOf", "(JJI)J"⟩
abbrev cX6_mares : ByteArray := prog_8_method_71_code
def yX6_mares : MethodName := ⟨RX6, "mares", "(IIIII)J"⟩
abbrev cX6_mean : ByteArray := prog_8_method_72_code
def yX6_mean : MethodName := ⟨RX6, "mean", "(I)J"⟩
abbrev cX6_forged : ByteArray := prog_8_method_73_code
def yX6_forged : MethodName := ⟨RX6, "forged", "(I)I"⟩
abbrev cX6_judge : ByteArray := prog_8_method_74_code
def yX6_judge : MethodName := ⟨RX6, "judge", "(I)I"⟩
abbrev cX6_drawBelow : ByteArray := prog_8_method_75_code
def yX6_drawBelow : MethodName := ⟨RX6, "drawBelow", "(I)I"⟩
abbrev cX6_years : ByteArray := prog_8_method_76_code
def yX6_years : MethodName := ⟨RX6, "years", "(III)I"⟩
abbrev cX6_count : ByteArray := prog_8_method_77_code
def yX6_count : MethodName := ⟨RX6, "count", "(I)I"⟩
abbrev cX6_wrongKept : ByteArray := prog_8_method_78_code
def yX6_wrongKept : MethodName := ⟨RX6, "wrongKept", "(I)I"⟩
abbrev cX6_keep : ByteArray := prog_8_method_79_code
def yX6_keep : MethodName := ⟨RX6, "keep", "(IIII)I"⟩
abbrev cX6_wrongRow : ByteArray := prog_8_method_80_code
def yX6_wrongRow : MethodName := ⟨RX6, "wrongRow", "(I)I"⟩
abbrev cX6_narrowed : ByteArray := prog_8_method_81_code
def yX6_narrowed : MethodName := ⟨RX6, "narrowed", "(II)J"⟩
abbrev cX6_row : ByteArray := prog_8_method_82_code
def yX6_row : MethodName := ⟨RX6, "row", "(III)I"⟩
abbrev cX6_put : ByteArray := prog_8_method_83_code
def yX6_put : MethodName := ⟨RX6, "put", "(III)I"⟩
abbrev cX6_element : ByteArray := prog_8_method_84_code
def yX6_element : MethodName := ⟨RX6, "element", "(II)J"⟩
abbrev cX6_copy : ByteArray := prog_8_method_85_code
def yX6_copy : MethodName := ⟨RX6, "copy", "(IIIII)I"⟩
abbrev cX6_costOf : ByteArray := prog_8_method_86_code
def yX6_costOf : MethodName := ⟨RX6, "costOf", "(II)I"⟩
abbrev cX6_cost : ByteArray := prog_8_method_87_code
def yX6_cost : MethodName := ⟨RX6, "cost", "(I)I"⟩
abbrev cX6_toss : ByteArray := prog_8_method_88_code
def yX6_toss : MethodName := ⟨RX6, "toss", "(I)I"⟩
def RJ6 : String := "java/lang/Integer"
def TJ6 : u_T := fun k => match k with
  | _ => ("", "", "", false)
def tyJ6 : Nat → FieldType := fun k => match k with
  | _ => .int
abbrev wsJ60 : List Cond := u_ws RJ6 TJ6 0
theorem nmJ6 : ∀ a, a < 0 → ∀ b, b < 0 → a ≠ b → (TJ6 a).2.1 ≠ (TJ6 b).2.1 := by decide +kernel
theorem tyJ6_ok : ∀ k, k < 0 → parseFieldDescriptor (TJ6 k).2.2.1 = some (tyJ6 k) := by decide +kernel
abbrev cJ6_bitCount_0f7a4 : ByteArray := prog_12_method_49_code
def yJ6_bitCount_0f7a4 : MethodName := ⟨RJ6, "bitCount", "(I)I"⟩
def RJ9 : String := "java/lang/Math"
def TJ9 : u_T := fun k => match k with
  | _ => ("", "", "", false)
def tyJ9 : Nat → FieldType := fun k => match k with
  | _ => .int
abbrev wsJ90 : List Cond := u_ws RJ9 TJ9 0
theorem nmJ9 : ∀ a, a < 0 → ∀ b, b < 0 → a ≠ b → (TJ9 a).2.1 ≠ (TJ9 b).2.1 := by decide +kernel
theorem tyJ9_ok : ∀ k, k < 0 → parseFieldDescriptor (TJ9 k).2.2.1 = some (tyJ9 k) := by decide +kernel
abbrev cJ9_max_7cf53 : ByteArray := prog_13_method_65_code
def yJ9_max_7cf53 : MethodName := ⟨RJ9, "max", "(II)I"⟩
abbrev cJ9_min_7cf53 : ByteArray := prog_13_method_69_code
def yJ9_min_7cf53 : MethodName := ⟨RJ9, "min", "(II)I"⟩
def RJ0 : String := "java/lang/String"
def TJ0 : u_T := fun k => match k with
  | _ => ("", "", "", false)
def tyJ0 : Nat → FieldType := fun k => match k with
  | _ => .int
abbrev wsJ00 : List Cond := u_ws RJ0 TJ0 0
theorem nmJ0 : ∀ a, a < 0 → ∀ b, b < 0 → a ≠ b → (TJ0 a).2.1 ≠ (TJ0 b).2.1 := by decide +kernel
theorem tyJ0_ok : ∀ k, k < 0 → parseFieldDescriptor (TJ0 k).2.2.1 = some (tyJ0 k) := by decide +kernel
def RJ10 : String := "java/lang/System"
def TJ10 : u_T := fun k => match k with
  | _ => ("", "", "", false)
def tyJ10 : Nat → FieldType := fun k => match k with
  | _ => .int
abbrev wsJ100 : List Cond := u_ws RJ10 TJ10 0
theorem nmJ10 : ∀ a, a < 0 → ∀ b, b < 0 → a ≠ b → (TJ10 a).2.1 ≠ (TJ10 b).2.1 := by decide +kernel
theorem tyJ10_ok : ∀ k, k < 0 → parseFieldDescriptor (TJ10 k).2.2.1 = some (tyJ10 k) := by decide +kernel
def RL : String := "ServesWhatOneDreamtLaw"
abbrev cL_element : ByteArray := method_3_code
def yL_element : MethodName := ⟨RL, "element", "(LServesWhatOneDreamt;II[J)I"⟩
abbrev cL_law : ByteArray := code
def yL_law : MethodName := ⟨RL, "law", "([I)Z"⟩
end
section
/-! decode, with what a step needs at hand: the next place, the target (of a jump; else the number in the instruction), the constant -/
def xtg : Instr → Nat → Nat
  | .goto o, pc => ((pc : Int) + o).toNat
  | .if_icmp _ o, pc => ((pc : Int) + o).toNat
  | .ifCond _ o, pc => ((pc : Int) + o).toNat
  | .iload_n n, _ => n.val
  | .lload_n n, _ => n.val
  | .aload_n n, _ => n.val
  | .istore_n n, _ => n.val
  | .lstore_n n, _ => n.val
  | .astore_n n, _ => n.val
  | .iload n, _ => n
  | .lload n, _ => n
  | .aload n, _ => n
  | .istore n, _ => n
  | .lstore n, _ => n
  | .astore n, _ => n
  | .iinc n _, _ => n
  | .getfield n, _ => n
  | .putfield n, _ => n
  | .ldc n, _ => n
  | .ldc_w n, _ => n
  | .ldc2_w n, _ => n
  | _, _ => 0
def xli : Instr → Int32
  | .iconst n => Int32.ofInt n
  | .bipush n => (Int8.ofInt n).toInt32
  | .sipush n => (Int16.ofInt n).toInt32
  | .iinc _ n => Int32.ofInt n
  | .lconst n => Int32.ofNat n.val
  | _ => 0
def xln : Instr → Nat
  | .bipush _ => 2
  | .sipush _ => 3
  | .ldc _ => 2
  | .ldc_w _ => 3
  | .ldc2_w _ => 3
  | .iload _ => 2
  | .lload _ => 2
  | .aload _ => 2
  | .istore _ => 2
  | .lstore _ => 2
  | .astore _ => 2
  | .iinc _ _ => 3
  | .goto _ => 3
  | .if_icmp _ _ => 3
  | .ifCond _ _ => 3
  | .getfield _ => 3
  | .putfield _ => 3
  | .invokevirtual _ => 3
  | .invokestatic _ => 3
  | .invokespecial _ => 3
  | .new _ => 3
  | .newarray _ => 2
  | .anewarray _ => 3
  | .tableswitch _ _ _ _ => 0
  | .lookupswitch _ _ => 0
  | _ => 1
def xps : Instr → Nat → Bool
  | .goto o, pc => decide (0 ≤ (pc : Int) + o)
  | .if_icmp _ o, pc => decide (0 ≤ (pc : Int) + o)
  | .ifCond _ o, pc => decide (0 ≤ (pc : Int) + o)
  | .tableswitch d _ _ os, pc => decide (0 ≤ (pc : Int) + d) && os.toList.all (fun o => decide (0 ≤ (pc : Int) + o))
  | .lookupswitch d ps, pc => decide (0 ≤ (pc : Int) + d) && ps.toList.all (fun o => decide (0 ≤ (pc : Int) + o.2))
  | _, _ => true
def xdec (cc : ByteArray) (pc : Nat) : Option (Instr × Nat × Nat × Int32) := match decode cc pc with
  | .ok (i, len) => if (len = xln i ∨ xln i = 0) ∧ xps i pc = true then some (i, pc + len, xtg i pc, xli i) else none
  | _ => none
theorem xdec_ok {cc : ByteArray} {pc nx tg : Nat} {i : Instr} {li : Int32} (h : xdec cc pc = some (i, nx, tg, li)) : ∃ len, decode cc pc = .ok (i, len) ∧ (len = xln i ∨ xln i = 0) ∧ xps i pc = true ∧ nx = pc + len ∧ tg = xtg i pc ∧ li = xli i := by
  unfold xdec at h
  split at h
  · rename_i i' len hd
    split at h
    · rename_i hl
      simp only [Option.some.injEq, Prod.mk.injEq] at h
      obtain ⟨rfl, rfl, rfl, rfl⟩ := h
      exact ⟨len, hd, hl.1, hl.2, rfl, rfl, rfl⟩
    · cases h
  · cases h
end
section
theorem xJ6_bitCount_0f7a4_0 : xdec cJ6_bitCount_0f7a4 0 = some (.iload_n 0, 1, 0, 0) := by decide +kernel
theorem xJ6_bitCount_0f7a4_1 : xdec cJ6_bitCount_0f7a4 1 = some (.iload_n 0, 2, 0, 0) := by decide +kernel
theorem xJ6_bitCount_0f7a4_2 : xdec cJ6_bitCount_0f7a4 2 = some (.iconst 1, 3, 0, 1) := by decide +kernel
theorem xJ6_bitCount_0f7a4_3 : xdec cJ6_bitCount_0f7a4 3 = some (.iushr, 4, 0, 0) := by decide +kernel
theorem xJ6_bitCount_0f7a4_4 : xdec cJ6_bitCount_0f7a4 4 = some (.ldc_w 265, 7, 265, 0) := by decide +kernel
theorem xJ6_bitCount_0f7a4_7 : xdec cJ6_bitCount_0f7a4 7 = some (.iand, 8, 0, 0) := by decide +kernel
theorem xJ6_bitCount_0f7a4_8 : xdec cJ6_bitCount_0f7a4 8 = some (.isub, 9, 0, 0) := by decide +kernel
theorem xJ6_bitCount_0f7a4_9 : xdec cJ6_bitCount_0f7a4 9 = some (.istore_n 0, 10, 0, 0) := by decide +kernel
theorem xJ6_bitCount_0f7a4_10 : xdec cJ6_bitCount_0f7a4 10 = some (.iload_n 0, 11, 0, 0) := by decide +kernel
theorem xJ6_bitCount_0f7a4_11 : xdec cJ6_bitCount_0f7a4 11 = some (.ldc_w 266, 14, 266, 0) := by decide +kernel
theorem xJ6_bitCount_0f7a4_14 : xdec cJ6_bitCount_0f7a4 14 = some (.iand, 15, 0, 0) := by decide +kernel
theorem xJ6_bitCount_0f7a4_15 : xdec cJ6_bitCount_0f7a4 15 = some (.iload_n 0, 16, 0, 0) := by decide +kernel
theorem xJ6_bitCount_0f7a4_16 : xdec cJ6_bitCount_0f7a4 16 = some (.iconst 2, 17, 0, 2) := by decide +kernel
theorem xJ6_bitCount_0f7a4_17 : xdec cJ6_bitCount_0f7a4 17 = some (.iushr, 18, 0, 0) := by decide +kernel
theorem xJ6_bitCount_0f7a4_18 : xdec cJ6_bitCount_0f7a4 18 = some (.ldc_w 266, 21, 266, 0) := by decide +kernel
theorem xJ6_bitCount_0f7a4_21 : xdec cJ6_bitCount_0f7a4 21 = some (.iand, 22, 0, 0) := by decide +kernel
theorem xJ6_bitCount_0f7a4_22 : xdec cJ6_bitCount_0f7a4 22 = some (.iadd, 23, 0, 0) := by decide +kernel
theorem xJ6_bitCount_0f7a4_23 : xdec cJ6_bitCount_0f7a4 23 = some (.istore_n 0, 24, 0, 0) := by decide +kernel
theorem xJ6_bitCount_0f7a4_24 : xdec cJ6_bitCount_0f7a4 24 = some (.iload_n 0, 25, 0, 0) := by decide +kernel
theorem xJ6_bitCount_0f7a4_25 : xdec cJ6_bitCount_0f7a4 25 = some (.iload_n 0, 26, 0, 0) := by decide +kernel
theorem xJ6_bitCount_0f7a4_26 : xdec cJ6_bitCount_0f7a4 26 = some (.iconst 4, 27, 0, 4) := by decide +kernel
theorem xJ6_bitCount_0f7a4_27 : xdec cJ6_bitCount_0f7a4 27 = some (.iushr, 28, 0, 0) := by decide +kernel
theorem xJ6_bitCount_0f7a4_28 : xdec cJ6_bitCount_0f7a4 28 = some (.iadd, 29, 0, 0) := by decide +kernel
theorem xJ6_bitCount_0f7a4_29 : xdec cJ6_bitCount_0f7a4 29 = some (.ldc_w 267, 32, 267, 0) := by decide +kernel
theorem xJ6_bitCount_0f7a4_32 : xdec cJ6_bitCount_0f7a4 32 = some (.iand, 33, 0, 0) := by decide +kernel
theorem xJ6_bitCount_0f7a4_33 : xdec cJ6_bitCount_0f7a4 33 = some (.istore_n 0, 34, 0, 0) := by decide +kernel
theorem xJ6_bitCount_0f7a4_34 : xdec cJ6_bitCount_0f7a4 34 = some (.iload_n 0, 35, 0, 0) := by decide +kernel
theorem xJ6_bitCount_0f7a4_35 : xdec cJ6_bitCount_0f7a4 35 = some (.iload_n 0, 36, 0, 0) := by decide +kernel
theorem xJ6_bitCount_0f7a4_36 : xdec cJ6_bitCount_0f7a4 36 = some (.bipush 8, 38, 0, 8) := by decide +kernel
theorem xJ6_bitCount_0f7a4_38 : xdec cJ6_bitCount_0f7a4 38 = some (.iushr, 39, 0, 0) := by decide +kernel
theorem xJ6_bitCount_0f7a4_39 : xdec cJ6_bitCount_0f7a4 39 = some (.iadd, 40, 0, 0) := by decide +kernel
theorem xJ6_bitCount_0f7a4_40 : xdec cJ6_bitCount_0f7a4 40 = some (.istore_n 0, 41, 0, 0) := by decide +kernel
theorem xJ6_bitCount_0f7a4_41 : xdec cJ6_bitCount_0f7a4 41 = some (.iload_n 0, 42, 0, 0) := by decide +kernel
theorem xJ6_bitCount_0f7a4_42 : xdec cJ6_bitCount_0f7a4 42 = some (.iload_n 0, 43, 0, 0) := by decide +kernel
theorem xJ6_bitCount_0f7a4_43 : xdec cJ6_bitCount_0f7a4 43 = some (.bipush 16, 45, 0, 16) := by decide +kernel
theorem xJ6_bitCount_0f7a4_45 : xdec cJ6_bitCount_0f7a4 45 = some (.iushr, 46, 0, 0) := by decide +kernel
theorem xJ6_bitCount_0f7a4_46 : xdec cJ6_bitCount_0f7a4 46 = some (.iadd, 47, 0, 0) := by decide +kernel
theorem xJ6_bitCount_0f7a4_47 : xdec cJ6_bitCount_0f7a4 47 = some (.istore_n 0, 48, 0, 0) := by decide +kernel
theorem xJ6_bitCount_0f7a4_48 : xdec cJ6_bitCount_0f7a4 48 = some (.iload_n 0, 49, 0, 0) := by decide +kernel
theorem xJ6_bitCount_0f7a4_49 : xdec cJ6_bitCount_0f7a4 49 = some (.bipush 63, 51, 0, 63) := by decide +kernel
theorem xJ6_bitCount_0f7a4_51 : xdec cJ6_bitCount_0f7a4 51 = some (.iand, 52, 0, 0) := by decide +kernel
theorem xJ6_bitCount_0f7a4_52 : xdec cJ6_bitCount_0f7a4 52 = some (.ireturn, 53, 0, 0) := by decide +kernel
end
section
theorem xJ9_max_7cf53_0 : xdec cJ9_max_7cf53 0 = some (.iload_n 0, 1, 0, 0) := by decide +kernel
theorem xJ9_max_7cf53_1 : xdec cJ9_max_7cf53 1 = some (.iload_n 1, 2, 1, 0) := by decide +kernel
theorem xJ9_max_7cf53_2 : xdec cJ9_max_7cf53 2 = some (.if_icmp .lt 7, 5, 9, 0) := by decide +kernel
theorem xJ9_max_7cf53_5 : xdec cJ9_max_7cf53 5 = some (.iload_n 0, 6, 0, 0) := by decide +kernel
theorem xJ9_max_7cf53_6 : xdec cJ9_max_7cf53 6 = some (.goto 4, 9, 10, 0) := by decide +kernel
theorem xJ9_max_7cf53_9 : xdec cJ9_max_7cf53 9 = some (.iload_n 1, 10, 1, 0) := by decide +kernel
theorem xJ9_max_7cf53_10 : xdec cJ9_max_7cf53 10 = some (.ireturn, 11, 0, 0) := by decide +kernel
theorem xJ9_min_7cf53_0 : xdec cJ9_min_7cf53 0 = some (.iload_n 0, 1, 0, 0) := by decide +kernel
theorem xJ9_min_7cf53_1 : xdec cJ9_min_7cf53 1 = some (.iload_n 1, 2, 1, 0) := by decide +kernel
theorem xJ9_min_7cf53_2 : xdec cJ9_min_7cf53 2 = some (.if_icmp .gt 7, 5, 9, 0) := by decide +kernel
theorem xJ9_min_7cf53_5 : xdec cJ9_min_7cf53 5 = some (.iload_n 0, 6, 0, 0) := by decide +kernel
theorem xJ9_min_7cf53_6 : xdec cJ9_min_7cf53 6 = some (.goto 4, 9, 10, 0) := by decide +kernel
theorem xJ9_min_7cf53_9 : xdec cJ9_min_7cf53 9 = some (.iload_n 1, 10, 1, 0) := by decide +kernel
theorem xJ9_min_7cf53_10 : xdec cJ9_min_7cf53 10 = some (.ireturn, 11, 0, 0) := by decide +kernel
end
section
theorem xX0_init_0 : xdec cX0_init 0 = some (.aload_n 0, 1, 0, 0) := by decide +kernel
theorem xX0_init_1 : xdec cX0_init 1 = some (.invokespecial 3, 4, 0, 0) := by decide +kernel
theorem xX0_init_4 : xdec cX0_init 4 = some (.aload_n 0, 5, 0, 0) := by decide +kernel
theorem xX0_init_5 : xdec cX0_init 5 = some (.bipush 7, 7, 0, 7) := by decide +kernel
theorem xX0_init_7 : xdec cX0_init 7 = some (.newarray .int, 9, 0, 0) := by decide +kernel
theorem xX0_init_9 : xdec cX0_init 9 = some (.putfield 9, 12, 9, 0) := by decide +kernel
theorem xX0_init_12 : xdec cX0_init 12 = some (.aload_n 0, 13, 0, 0) := by decide +kernel
theorem xX0_init_13 : xdec cX0_init 13 = some (.bipush 7, 15, 0, 7) := by decide +kernel
theorem xX0_init_15 : xdec cX0_init 15 = some (.newarray .int, 17, 0, 0) := by decide +kernel
theorem xX0_init_17 : xdec cX0_init 17 = some (.putfield 15, 20, 15, 0) := by decide +kernel
theorem xX0_init_20 : xdec cX0_init 20 = some (.aload_n 0, 21, 0, 0) := by decide +kernel
theorem xX0_init_21 : xdec cX0_init 21 = some (.bipush 7, 23, 0, 7) := by decide +kernel
theorem xX0_init_23 : xdec cX0_init 23 = some (.newarray .int, 25, 0, 0) := by decide +kernel
theorem xX0_init_25 : xdec cX0_init 25 = some (.putfield 18, 28, 18, 0) := by decide +kernel
theorem xX0_init_28 : xdec cX0_init 28 = some (.aload_n 0, 29, 0, 0) := by decide +kernel
theorem xX0_init_29 : xdec cX0_init 29 = some (.bipush 7, 31, 0, 7) := by decide +kernel
theorem xX0_init_31 : xdec cX0_init 31 = some (.newarray .int, 33, 0, 0) := by decide +kernel
theorem xX0_init_33 : xdec cX0_init 33 = some (.putfield 21, 36, 21, 0) := by decide +kernel
theorem xX0_init_36 : xdec cX0_init 36 = some (.aload_n 0, 37, 0, 0) := by decide +kernel
theorem xX0_init_37 : xdec cX0_init 37 = some (.bipush 7, 39, 0, 7) := by decide +kernel
theorem xX0_init_39 : xdec cX0_init 39 = some (.newarray .int, 41, 0, 0) := by decide +kernel
theorem xX0_init_41 : xdec cX0_init 41 = some (.putfield 24, 44, 24, 0) := by decide +kernel
theorem xX0_init_44 : xdec cX0_init 44 = some (.aload_n 0, 45, 0, 0) := by decide +kernel
theorem xX0_init_45 : xdec cX0_init 45 = some (.bipush 10, 47, 0, 10) := by decide +kernel
theorem xX0_init_47 : xdec cX0_init 47 = some (.newarray .int, 49, 0, 0) := by decide +kernel
theorem xX0_init_49 : xdec cX0_init 49 = some (.putfield 27, 52, 27, 0) := by decide +kernel
theorem xX0_init_52 : xdec cX0_init 52 = some (.iconst 0, 53, 0, 0) := by decide +kernel
theorem xX0_init_53 : xdec cX0_init 53 = some (.istore_n 1, 54, 1, 0) := by decide +kernel
theorem xX0_init_54 : xdec cX0_init 54 = some (.iload_n 1, 55, 1, 0) := by decide +kernel
theorem xX0_init_55 : xdec cX0_init 55 = some (.bipush 10, 57, 0, 10) := by decide +kernel
theorem xX0_init_57 : xdec cX0_init 57 = some (.if_icmp .ge 16, 60, 73, 0) := by decide +kernel
theorem xX0_init_60 : xdec cX0_init 60 = some (.aload_n 0, 61, 0, 0) := by decide +kernel
theorem xX0_init_61 : xdec cX0_init 61 = some (.getfield 27, 64, 27, 0) := by decide +kernel
theorem xX0_init_64 : xdec cX0_init 64 = some (.iload_n 1, 65, 1, 0) := by decide +kernel
theorem xX0_init_65 : xdec cX0_init 65 = some (.iconst 5, 66, 0, 5) := by decide +kernel
theorem xX0_init_66 : xdec cX0_init 66 = some (.iastore, 67, 0, 0) := by decide +kernel
theorem xX0_init_67 : xdec cX0_init 67 = some (.iinc 1 1, 70, 1, 1) := by decide +kernel
theorem xX0_init_70 : xdec cX0_init 70 = some (.goto (-16), 73, 54, 0) := by decide +kernel
theorem xX0_init_73 : xdec cX0_init 73 = some (.return_, 74, 0, 0) := by decide +kernel
theorem xX0_become_0 : xdec cX0_become 0 = some (.aload_n 1, 1, 1, 0) := by decide +kernel
theorem xX0_become_1 : xdec cX0_become 1 = some (.getfield 9, 4, 9, 0) := by decide +kernel
theorem xX0_become_4 : xdec cX0_become 4 = some (.iconst 0, 5, 0, 0) := by decide +kernel
theorem xX0_become_5 : xdec cX0_become 5 = some (.aload_n 0, 6, 0, 0) := by decide +kernel
theorem xX0_become_6 : xdec cX0_become 6 = some (.getfield 9, 9, 9, 0) := by decide +kernel
theorem xX0_become_9 : xdec cX0_become 9 = some (.iconst 0, 10, 0, 0) := by decide +kernel
theorem xX0_become_10 : xdec cX0_become 10 = some (.bipush 7, 12, 0, 7) := by decide +kernel
theorem xX0_become_12 : xdec cX0_become 12 = some (.invokestatic 30, 15, 0, 0) := by decide +kernel
theorem xX0_become_15 : xdec cX0_become 15 = some (.aload_n 1, 16, 1, 0) := by decide +kernel
theorem xX0_become_16 : xdec cX0_become 16 = some (.getfield 15, 19, 15, 0) := by decide +kernel
theorem xX0_become_19 : xdec cX0_become 19 = some (.iconst 0, 20, 0, 0) := by decide +kernel
theorem xX0_become_20 : xdec cX0_become 20 = some (.aload_n 0, 21, 0, 0) := by decide +kernel
theorem xX0_become_21 : xdec cX0_become 21 = some (.getfield 15, 24, 15, 0) := by decide +kernel
theorem xX0_become_24 : xdec cX0_become 24 = some (.iconst 0, 25, 0, 0) := by decide +kernel
theorem xX0_become_25 : xdec cX0_become 25 = some (.bipush 7, 27, 0, 7) := by decide +kernel
theorem xX0_become_27 : xdec cX0_become 27 = some (.invokestatic 30, 30, 0, 0) := by decide +kernel
theorem xX0_become_30 : xdec cX0_become 30 = some (.aload_n 1, 31, 1, 0) := by decide +kernel
theorem xX0_become_31 : xdec cX0_become 31 = some (.getfield 18, 34, 18, 0) := by decide +kernel
theorem xX0_become_34 : xdec cX0_become 34 = some (.iconst 0, 35, 0, 0) := by decide +kernel
theorem xX0_become_35 : xdec cX0_become 35 = some (.aload_n 0, 36, 0, 0) := by decide +kernel
theorem xX0_become_36 : xdec cX0_become 36 = some (.getfield 18, 39, 18, 0) := by decide +kernel
theorem xX0_become_39 : xdec cX0_become 39 = some (.iconst 0, 40, 0, 0) := by decide +kernel
theorem xX0_become_40 : xdec cX0_become 40 = some (.bipush 7, 42, 0, 7) := by decide +kernel
theorem xX0_become_42 : xdec cX0_become 42 = some (.invokestatic 30, 45, 0, 0) := by decide +kernel
theorem xX0_become_45 : xdec cX0_become 45 = some (.aload_n 1, 46, 1, 0) := by decide +kernel
theorem xX0_become_46 : xdec cX0_become 46 = some (.getfield 21, 49, 21, 0) := by decide +kernel
theorem xX0_become_49 : xdec cX0_become 49 = some (.iconst 0, 50, 0, 0) := by decide +kernel
theorem xX0_become_50 : xdec cX0_become 50 = some (.aload_n 0, 51, 0, 0) := by decide +kernel
theorem xX0_become_51 : xdec cX0_become 51 = some (.getfield 21, 54, 21, 0) := by decide +kernel
theorem xX0_become_54 : xdec cX0_become 54 = some (.iconst 0, 55, 0, 0) := by decide +kernel
theorem xX0_become_55 : xdec cX0_become 55 = some (.bipush 7, 57, 0, 7) := by decide +kernel
theorem xX0_become_57 : xdec cX0_become 57 = some (.invokestatic 30, 60, 0, 0) := by decide +kernel
theorem xX0_become_60 : xdec cX0_become 60 = some (.aload_n 1, 61, 1, 0) := by decide +kernel
theorem xX0_become_61 : xdec cX0_become 61 = some (.getfield 24, 64, 24, 0) := by decide +kernel
theorem xX0_become_64 : xdec cX0_become 64 = some (.iconst 0, 65, 0, 0) := by decide +kernel
theorem xX0_become_65 : xdec cX0_become 65 = some (.aload_n 0, 66, 0, 0) := by decide +kernel
theorem xX0_become_66 : xdec cX0_become 66 = some (.getfield 24, 69, 24, 0) := by decide +kernel
theorem xX0_become_69 : xdec cX0_become 69 = some (.iconst 0, 70, 0, 0) := by decide +kernel
theorem xX0_become_70 : xdec cX0_become 70 = some (.bipush 7, 72, 0, 7) := by decide +kernel
theorem xX0_become_72 : xdec cX0_become 72 = some (.invokestatic 30, 75, 0, 0) := by decide +kernel
theorem xX0_become_75 : xdec cX0_become 75 = some (.aload_n 1, 76, 1, 0) := by decide +kernel
theorem xX0_become_76 : xdec cX0_become 76 = some (.getfield 27, 79, 27, 0) := by decide +kernel
theorem xX0_become_79 : xdec cX0_become 79 = some (.iconst 0, 80, 0, 0) := by decide +kernel
theorem xX0_become_80 : xdec cX0_become 80 = some (.aload_n 0, 81, 0, 0) := by decide +kernel
theorem xX0_become_81 : xdec cX0_become 81 = some (.getfield 27, 84, 27, 0) := by decide +kernel
theorem xX0_become_84 : xdec cX0_become 84 = some (.iconst 0, 85, 0, 0) := by decide +kernel
theorem xX0_become_85 : xdec cX0_become 85 = some (.bipush 10, 87, 0, 10) := by decide +kernel
theorem xX0_become_87 : xdec cX0_become 87 = some (.invokestatic 30, 90, 0, 0) := by decide +kernel
theorem xX0_become_90 : xdec cX0_become 90 = some (.aload_n 0, 91, 0, 0) := by decide +kernel
theorem xX0_become_91 : xdec cX0_become 91 = some (.aload_n 1, 92, 1, 0) := by decide +kernel
theorem xX0_become_92 : xdec cX0_become 92 = some (.getfield 36, 95, 36, 0) := by decide +kernel
theorem xX0_become_95 : xdec cX0_become 95 = some (.putfield 36, 98, 36, 0) := by decide +kernel
theorem xX0_become_98 : xdec cX0_become 98 = some (.aload_n 0, 99, 0, 0) := by decide +kernel
theorem xX0_become_99 : xdec cX0_become 99 = some (.aload_n 1, 100, 1, 0) := by decide +kernel
theorem xX0_become_100 : xdec cX0_become 100 = some (.getfield 40, 103, 40, 0) := by decide +kernel
theorem xX0_become_103 : xdec cX0_become 103 = some (.putfield 40, 106, 40, 0) := by decide +kernel
theorem xX0_become_106 : xdec cX0_become 106 = some (.aload_n 0, 107, 0, 0) := by decide +kernel
theorem xX0_become_107 : xdec cX0_become 107 = some (.aload_n 1, 108, 1, 0) := by decide +kernel
theorem xX0_become_108 : xdec cX0_become 108 = some (.getfield 43, 111, 43, 0) := by decide +kernel
theorem xX0_become_111 : xdec cX0_become 111 = some (.putfield 43, 114, 43, 0) := by decide +kernel
theorem xX0_become_114 : xdec cX0_become 114 = some (.aload_n 0, 115, 0, 0) := by decide +kernel
theorem xX0_become_115 : xdec cX0_become 115 = some (.aload_n 1, 116, 1, 0) := by decide +kernel
theorem xX0_become_116 : xdec cX0_become 116 = some (.getfield 46, 119, 46, 0) := by decide +kernel
theorem xX0_become_119 : xdec cX0_become 119 = some (.putfield 46, 122, 46, 0) := by decide +kernel
theorem xX0_become_122 : xdec cX0_become 122 = some (.aload_n 0, 123, 0, 0) := by decide +kernel
theorem xX0_become_123 : xdec cX0_become 123 = some (.aload_n 1, 124, 1, 0) := by decide +kernel
theorem xX0_become_124 : xdec cX0_become 124 = some (.getfield 49, 127, 49, 0) := by decide +kernel
theorem xX0_become_127 : xdec cX0_become 127 = some (.putfield 49, 130, 49, 0) := by decide +kernel
theorem xX0_become_130 : xdec cX0_become 130 = some (.aload_n 0, 131, 0, 0) := by decide +kernel
theorem xX0_become_131 : xdec cX0_become 131 = some (.aload_n 1, 132, 1, 0) := by decide +kernel
theorem xX0_become_132 : xdec cX0_become 132 = some (.getfield 52, 135, 52, 0) := by decide +kernel
theorem xX0_become_135 : xdec cX0_become 135 = some (.putfield 52, 138, 52, 0) := by decide +kernel
theorem xX0_become_138 : xdec cX0_become 138 = some (.aload_n 0, 139, 0, 0) := by decide +kernel
theorem xX0_become_139 : xdec cX0_become 139 = some (.aload_n 1, 140, 1, 0) := by decide +kernel
theorem xX0_become_140 : xdec cX0_become 140 = some (.getfield 55, 143, 55, 0) := by decide +kernel
theorem xX0_become_143 : xdec cX0_become 143 = some (.putfield 55, 146, 55, 0) := by decide +kernel
theorem xX0_become_146 : xdec cX0_become 146 = some (.return_, 147, 0, 0) := by decide +kernel
theorem xX0_knows_0 : xdec cX0_knows 0 = some (.iload_n 1, 1, 1, 0) := by decide +kernel
theorem xX0_knows_1 : xdec cX0_knows 1 = some (.iconst 0, 2, 0, 0) := by decide +kernel
theorem xX0_knows_2 : xdec cX0_knows 2 = some (.aload_n 0, 3, 0, 0) := by decide +kernel
theorem xX0_knows_3 : xdec cX0_knows 3 = some (.getfield 36, 6, 36, 0) := by decide +kernel
theorem xX0_knows_6 : xdec cX0_knows 6 = some (.iconst 1, 7, 0, 1) := by decide +kernel
theorem xX0_knows_7 : xdec cX0_knows 7 = some (.isub, 8, 0, 0) := by decide +kernel
theorem xX0_knows_8 : xdec cX0_knows 8 = some (.invokestatic 58, 11, 0, 0) := by decide +kernel
theorem xX0_knows_11 : xdec cX0_knows 11 = some (.ireturn, 12, 0, 0) := by decide +kernel
theorem xX0_isThere_0 : xdec cX0_isThere 0 = some (.aload_n 0, 1, 0, 0) := by decide +kernel
theorem xX0_isThere_1 : xdec cX0_isThere 1 = some (.getfield 40, 4, 40, 0) := by decide +kernel
theorem xX0_isThere_4 : xdec cX0_isThere 4 = some (.iload_n 1, 5, 1, 0) := by decide +kernel
theorem xX0_isThere_5 : xdec cX0_isThere 5 = some (.ishr, 6, 0, 0) := by decide +kernel
theorem xX0_isThere_6 : xdec cX0_isThere 6 = some (.iconst 1, 7, 0, 1) := by decide +kernel
theorem xX0_isThere_7 : xdec cX0_isThere 7 = some (.iand, 8, 0, 0) := by decide +kernel
theorem xX0_isThere_8 : xdec cX0_isThere 8 = some (.ifCond .eq 7, 11, 15, 0) := by decide +kernel
theorem xX0_isThere_11 : xdec cX0_isThere 11 = some (.iconst 1, 12, 0, 1) := by decide +kernel
theorem xX0_isThere_12 : xdec cX0_isThere 12 = some (.goto 4, 15, 16, 0) := by decide +kernel
theorem xX0_isThere_15 : xdec cX0_isThere 15 = some (.iconst 0, 16, 0, 0) := by decide +kernel
theorem xX0_isThere_16 : xdec cX0_isThere 16 = some (.ireturn, 17, 0, 0) := by decide +kernel
theorem xX0_admit_0 : xdec cX0_admit 0 = some (.aload_n 0, 1, 0, 0) := by decide +kernel
theorem xX0_admit_1 : xdec cX0_admit 1 = some (.getfield 36, 4, 36, 0) := by decide +kernel
theorem xX0_admit_4 : xdec cX0_admit 4 = some (.bipush 7, 6, 0, 7) := by decide +kernel
theorem xX0_admit_6 : xdec cX0_admit 6 = some (.if_icmp .lt 6, 9, 12, 0) := by decide +kernel
theorem xX0_admit_9 : xdec cX0_admit 9 = some (.bipush (-2), 11, 0, (-2)) := by decide +kernel
theorem xX0_admit_11 : xdec cX0_admit 11 = some (.ireturn, 12, 0, 0) := by decide +kernel
theorem xX0_admit_12 : xdec cX0_admit 12 = some (.aload_n 0, 13, 0, 0) := by decide +kernel
theorem xX0_admit_13 : xdec cX0_admit 13 = some (.getfield 36, 16, 36, 0) := by decide +kernel
theorem xX0_admit_16 : xdec cX0_admit 16 = some (.istore 4, 18, 4, 0) := by decide +kernel
theorem xX0_admit_18 : xdec cX0_admit 18 = some (.aload_n 0, 19, 0, 0) := by decide +kernel
theorem xX0_admit_19 : xdec cX0_admit 19 = some (.getfield 9, 22, 9, 0) := by decide +kernel
theorem xX0_admit_22 : xdec cX0_admit 22 = some (.iload 4, 24, 4, 0) := by decide +kernel
theorem xX0_admit_24 : xdec cX0_admit 24 = some (.iload_n 1, 25, 1, 0) := by decide +kernel
theorem xX0_admit_25 : xdec cX0_admit 25 = some (.iastore, 26, 0, 0) := by decide +kernel
theorem xX0_admit_26 : xdec cX0_admit 26 = some (.aload_n 0, 27, 0, 0) := by decide +kernel
theorem xX0_admit_27 : xdec cX0_admit 27 = some (.getfield 15, 30, 15, 0) := by decide +kernel
theorem xX0_admit_30 : xdec cX0_admit 30 = some (.iload 4, 32, 4, 0) := by decide +kernel
theorem xX0_admit_32 : xdec cX0_admit 32 = some (.iload_n 2, 33, 2, 0) := by decide +kernel
theorem xX0_admit_33 : xdec cX0_admit 33 = some (.iastore, 34, 0, 0) := by decide +kernel
theorem xX0_admit_34 : xdec cX0_admit 34 = some (.aload_n 0, 35, 0, 0) := by decide +kernel
theorem xX0_admit_35 : xdec cX0_admit 35 = some (.getfield 18, 38, 18, 0) := by decide +kernel
theorem xX0_admit_38 : xdec cX0_admit 38 = some (.iload 4, 40, 4, 0) := by decide +kernel
theorem xX0_admit_40 : xdec cX0_admit 40 = some (.iload_n 3, 41, 3, 0) := by decide +kernel
theorem xX0_admit_41 : xdec cX0_admit 41 = some (.iastore, 42, 0, 0) := by decide +kernel
theorem xX0_admit_42 : xdec cX0_admit 42 = some (.aload_n 0, 43, 0, 0) := by decide +kernel
theorem xX0_admit_43 : xdec cX0_admit 43 = some (.getfield 21, 46, 21, 0) := by decide +kernel
theorem xX0_admit_46 : xdec cX0_admit 46 = some (.iload 4, 48, 4, 0) := by decide +kernel
theorem xX0_admit_48 : xdec cX0_admit 48 = some (.iconst 0, 49, 0, 0) := by decide +kernel
theorem xX0_admit_49 : xdec cX0_admit 49 = some (.iastore, 50, 0, 0) := by decide +kernel
theorem xX0_admit_50 : xdec cX0_admit 50 = some (.aload_n 0, 51, 0, 0) := by decide +kernel
theorem xX0_admit_51 : xdec cX0_admit 51 = some (.getfield 24, 54, 24, 0) := by decide +kernel
theorem xX0_admit_54 : xdec cX0_admit 54 = some (.iload 4, 56, 4, 0) := by decide +kernel
theorem xX0_admit_56 : xdec cX0_admit 56 = some (.bipush 50, 58, 0, 50) := by decide +kernel
theorem xX0_admit_58 : xdec cX0_admit 58 = some (.iastore, 59, 0, 0) := by decide +kernel
theorem xX0_admit_59 : xdec cX0_admit 59 = some (.aload_n 0, 60, 0, 0) := by decide +kernel
theorem xX0_admit_60 : xdec cX0_admit 60 = some (.dup, 61, 0, 0) := by decide +kernel
theorem xX0_admit_61 : xdec cX0_admit 61 = some (.getfield 40, 64, 40, 0) := by decide +kernel
theorem xX0_admit_64 : xdec cX0_admit 64 = some (.iconst 1, 65, 0, 1) := by decide +kernel
theorem xX0_admit_65 : xdec cX0_admit 65 = some (.iload 4, 67, 4, 0) := by decide +kernel
theorem xX0_admit_67 : xdec cX0_admit 67 = some (.ishl, 68, 0, 0) := by decide +kernel
theorem xX0_admit_68 : xdec cX0_admit 68 = some (.ior, 69, 0, 0) := by decide +kernel
theorem xX0_admit_69 : xdec cX0_admit 69 = some (.putfield 40, 72, 40, 0) := by decide +kernel
theorem xX0_admit_72 : xdec cX0_admit 72 = some (.aload_n 0, 73, 0, 0) := by decide +kernel
theorem xX0_admit_73 : xdec cX0_admit 73 = some (.dup, 74, 0, 0) := by decide +kernel
theorem xX0_admit_74 : xdec cX0_admit 74 = some (.getfield 36, 77, 36, 0) := by decide +kernel
theorem xX0_admit_77 : xdec cX0_admit 77 = some (.iconst 1, 78, 0, 1) := by decide +kernel
theorem xX0_admit_78 : xdec cX0_admit 78 = some (.iadd, 79, 0, 0) := by decide +kernel
theorem xX0_admit_79 : xdec cX0_admit 79 = some (.putfield 36, 82, 36, 0) := by decide +kernel
theorem xX0_admit_82 : xdec cX0_admit 82 = some (.iload 4, 84, 4, 0) := by decide +kernel
theorem xX0_admit_84 : xdec cX0_admit 84 = some (.ireturn, 85, 0, 0) := by decide +kernel
theorem xX0_stock_0 : xdec cX0_stock 0 = some (.aload_n 0, 1, 0, 0) := by decide +kernel
theorem xX0_stock_1 : xdec cX0_stock 1 = some (.getfield 27, 4, 27, 0) := by decide +kernel
theorem xX0_stock_4 : xdec cX0_stock 4 = some (.iload_n 1, 5, 1, 0) := by decide +kernel
theorem xX0_stock_5 : xdec cX0_stock 5 = some (.bipush 99, 7, 0, 99) := by decide +kernel
theorem xX0_stock_7 : xdec cX0_stock 7 = some (.aload_n 0, 8, 0, 0) := by decide +kernel
theorem xX0_stock_8 : xdec cX0_stock 8 = some (.getfield 27, 11, 27, 0) := by decide +kernel
theorem xX0_stock_11 : xdec cX0_stock 11 = some (.iload_n 1, 12, 1, 0) := by decide +kernel
theorem xX0_stock_12 : xdec cX0_stock 12 = some (.iaload, 13, 0, 0) := by decide +kernel
theorem xX0_stock_13 : xdec cX0_stock 13 = some (.iload_n 2, 14, 2, 0) := by decide +kernel
theorem xX0_stock_14 : xdec cX0_stock 14 = some (.iadd, 15, 0, 0) := by decide +kernel
theorem xX0_stock_15 : xdec cX0_stock 15 = some (.invokestatic 62, 18, 0, 0) := by decide +kernel
theorem xX0_stock_18 : xdec cX0_stock 18 = some (.iastore, 19, 0, 0) := by decide +kernel
theorem xX0_stock_19 : xdec cX0_stock 19 = some (.return_, 20, 0, 0) := by decide +kernel
theorem xX0_pass_0 : xdec cX0_pass 0 = some (.iconst 0, 1, 0, 0) := by decide +kernel
theorem xX0_pass_1 : xdec cX0_pass 1 = some (.istore_n 2, 2, 2, 0) := by decide +kernel
theorem xX0_pass_2 : xdec cX0_pass 2 = some (.iload_n 2, 3, 2, 0) := by decide +kernel
theorem xX0_pass_3 : xdec cX0_pass 3 = some (.iload_n 1, 4, 1, 0) := by decide +kernel
theorem xX0_pass_4 : xdec cX0_pass 4 = some (.if_icmp .ge 15, 7, 19, 0) := by decide +kernel
theorem xX0_pass_7 : xdec cX0_pass 7 = some (.aload_n 0, 8, 0, 0) := by decide +kernel
theorem xX0_pass_8 : xdec cX0_pass 8 = some (.iconst 0, 9, 0, 0) := by decide +kernel
theorem xX0_pass_9 : xdec cX0_pass 9 = some (.iconst 0, 10, 0, 0) := by decide +kernel
theorem xX0_pass_10 : xdec cX0_pass 10 = some (.invokevirtual 68, 13, 0, 0) := by decide +kernel
theorem xX0_pass_13 : xdec cX0_pass 13 = some (.iinc 2 1, 16, 2, 1) := by decide +kernel
theorem xX0_pass_16 : xdec cX0_pass 16 = some (.goto (-14), 19, 2, 0) := by decide +kernel
theorem xX0_pass_19 : xdec cX0_pass 19 = some (.return_, 20, 0, 0) := by decide +kernel
theorem xX0_passUnlacking_0 : xdec cX0_passUnlacking 0 = some (.iconst 0, 1, 0, 0) := by decide +kernel
theorem xX0_passUnlacking_1 : xdec cX0_passUnlacking 1 = some (.istore_n 2, 2, 2, 0) := by decide +kernel
theorem xX0_passUnlacking_2 : xdec cX0_passUnlacking 2 = some (.iload_n 2, 3, 2, 0) := by decide +kernel
theorem xX0_passUnlacking_3 : xdec cX0_passUnlacking 3 = some (.iload_n 1, 4, 1, 0) := by decide +kernel
theorem xX0_passUnlacking_4 : xdec cX0_passUnlacking 4 = some (.if_icmp .ge 24, 7, 28, 0) := by decide +kernel
theorem xX0_passUnlacking_7 : xdec cX0_passUnlacking 7 = some (.aload_n 0, 8, 0, 0) := by decide +kernel
theorem xX0_passUnlacking_8 : xdec cX0_passUnlacking 8 = some (.iconst 0, 9, 0, 0) := by decide +kernel
theorem xX0_passUnlacking_9 : xdec cX0_passUnlacking 9 = some (.iconst 0, 10, 0, 0) := by decide +kernel
theorem xX0_passUnlacking_10 : xdec cX0_passUnlacking 10 = some (.invokevirtual 68, 13, 0, 0) := by decide +kernel
theorem xX0_passUnlacking_13 : xdec cX0_passUnlacking 13 = some (.aload_n 0, 14, 0, 0) := by decide +kernel
theorem xX0_passUnlacking_14 : xdec cX0_passUnlacking 14 = some (.getfield 55, 17, 55, 0) := by decide +kernel
theorem xX0_passUnlacking_17 : xdec cX0_passUnlacking 17 = some (.ifCond .eq 5, 20, 22, 0) := by decide +kernel
theorem xX0_passUnlacking_20 : xdec cX0_passUnlacking 20 = some (.iconst 0, 21, 0, 0) := by decide +kernel
theorem xX0_passUnlacking_21 : xdec cX0_passUnlacking 21 = some (.ireturn, 22, 0, 0) := by decide +kernel
theorem xX0_passUnlacking_22 : xdec cX0_passUnlacking 22 = some (.iinc 2 1, 25, 2, 1) := by decide +kernel
theorem xX0_passUnlacking_25 : xdec cX0_passUnlacking 25 = some (.goto (-23), 28, 2, 0) := by decide +kernel
theorem xX0_passUnlacking_28 : xdec cX0_passUnlacking 28 = some (.iconst 1, 29, 0, 1) := by decide +kernel
theorem xX0_passUnlacking_29 : xdec cX0_passUnlacking 29 = some (.ireturn, 30, 0, 0) := by decide +kernel
theorem xX0_passNight_0 : xdec cX0_passNight 0 = some (.aload_n 0, 1, 0, 0) := by decide +kernel
theorem xX0_passNight_1 : xdec cX0_passNight 1 = some (.dup, 2, 0, 0) := by decide +kernel
theorem xX0_passNight_2 : xdec cX0_passNight 2 = some (.getfield 43, 5, 43, 0) := by decide +kernel
theorem xX0_passNight_5 : xdec cX0_passNight 5 = some (.iconst 1, 6, 0, 1) := by decide +kernel
theorem xX0_passNight_6 : xdec cX0_passNight 6 = some (.iadd, 7, 0, 0) := by decide +kernel
theorem xX0_passNight_7 : xdec cX0_passNight 7 = some (.putfield 43, 10, 43, 0) := by decide +kernel
theorem xX0_passNight_10 : xdec cX0_passNight 10 = some (.aload_n 0, 11, 0, 0) := by decide +kernel
theorem xX0_passNight_11 : xdec cX0_passNight 11 = some (.aload_n 0, 12, 0, 0) := by decide +kernel
theorem xX0_passNight_12 : xdec cX0_passNight 12 = some (.getfield 43, 15, 43, 0) := by decide +kernel
theorem xX0_passNight_15 : xdec cX0_passNight 15 = some (.bipush 10, 17, 0, 10) := by decide +kernel
theorem xX0_passNight_17 : xdec cX0_passNight 17 = some (.irem, 18, 0, 0) := by decide +kernel
theorem xX0_passNight_18 : xdec cX0_passNight 18 = some (.iconst 2, 19, 0, 2) := by decide +kernel
theorem xX0_passNight_19 : xdec cX0_passNight 19 = some (.invokevirtual 72, 22, 0, 0) := by decide +kernel
theorem xX0_passNight_22 : xdec cX0_passNight 22 = some (.aload_n 0, 23, 0, 0) := by decide +kernel
theorem xX0_passNight_23 : xdec cX0_passNight 23 = some (.iconst 0, 24, 0, 0) := by decide +kernel
theorem xX0_passNight_24 : xdec cX0_passNight 24 = some (.putfield 52, 27, 52, 0) := by decide +kernel
theorem xX0_passNight_27 : xdec cX0_passNight 27 = some (.aload_n 0, 28, 0, 0) := by decide +kernel
theorem xX0_passNight_28 : xdec cX0_passNight 28 = some (.iconst 0, 29, 0, 0) := by decide +kernel
theorem xX0_passNight_29 : xdec cX0_passNight 29 = some (.putfield 55, 32, 55, 0) := by decide +kernel
theorem xX0_passNight_32 : xdec cX0_passNight 32 = some (.iconst 0, 33, 0, 0) := by decide +kernel
theorem xX0_passNight_33 : xdec cX0_passNight 33 = some (.istore_n 3, 34, 3, 0) := by decide +kernel
theorem xX0_passNight_34 : xdec cX0_passNight 34 = some (.iload_n 3, 35, 3, 0) := by decide +kernel
theorem xX0_passNight_35 : xdec cX0_passNight 35 = some (.aload_n 0, 36, 0, 0) := by decide +kernel
theorem xX0_passNight_36 : xdec cX0_passNight 36 = some (.getfield 36, 39, 36, 0) := by decide +kernel
theorem xX0_passNight_39 : xdec cX0_passNight 39 = some (.if_icmp .ge 62, 42, 101, 0) := by decide +kernel
theorem xX0_passNight_42 : xdec cX0_passNight 42 = some (.aload_n 0, 43, 0, 0) := by decide +kernel
theorem xX0_passNight_43 : xdec cX0_passNight 43 = some (.iload_n 3, 44, 3, 0) := by decide +kernel
theorem xX0_passNight_44 : xdec cX0_passNight 44 = some (.invokevirtual 76, 47, 0, 0) := by decide +kernel
theorem xX0_passNight_47 : xdec cX0_passNight 47 = some (.ifCond .eq 48, 50, 95, 0) := by decide +kernel
theorem xX0_passNight_50 : xdec cX0_passNight 50 = some (.aload_n 0, 51, 0, 0) := by decide +kernel
theorem xX0_passNight_51 : xdec cX0_passNight 51 = some (.iload_n 3, 52, 3, 0) := by decide +kernel
theorem xX0_passNight_52 : xdec cX0_passNight 52 = some (.aload_n 0, 53, 0, 0) := by decide +kernel
theorem xX0_passNight_53 : xdec cX0_passNight 53 = some (.getfield 43, 56, 43, 0) := by decide +kernel
theorem xX0_passNight_56 : xdec cX0_passNight 56 = some (.invokevirtual 80, 59, 0, 0) := by decide +kernel
theorem xX0_passNight_59 : xdec cX0_passNight 59 = some (.istore 4, 61, 4, 0) := by decide +kernel
theorem xX0_passNight_61 : xdec cX0_passNight 61 = some (.iload_n 1, 62, 1, 0) := by decide +kernel
theorem xX0_passNight_62 : xdec cX0_passNight 62 = some (.ifCond .eq 14, 65, 76, 0) := by decide +kernel
theorem xX0_passNight_65 : xdec cX0_passNight 65 = some (.iload 4, 67, 4, 0) := by decide +kernel
theorem xX0_passNight_67 : xdec cX0_passNight 67 = some (.bipush (-4), 69, 0, (-4)) := by decide +kernel
theorem xX0_passNight_69 : xdec cX0_passNight 69 = some (.if_icmp .eq 7, 72, 76, 0) := by decide +kernel
theorem xX0_passNight_72 : xdec cX0_passNight 72 = some (.bipush 7, 74, 0, 7) := by decide +kernel
theorem xX0_passNight_74 : xdec cX0_passNight 74 = some (.istore 4, 76, 4, 0) := by decide +kernel
theorem xX0_passNight_76 : xdec cX0_passNight 76 = some (.aload_n 0, 77, 0, 0) := by decide +kernel
theorem xX0_passNight_77 : xdec cX0_passNight 77 = some (.iload_n 3, 78, 3, 0) := by decide +kernel
theorem xX0_passNight_78 : xdec cX0_passNight 78 = some (.iload_n 2, 79, 2, 0) := by decide +kernel
theorem xX0_passNight_79 : xdec cX0_passNight 79 = some (.iload_n 3, 80, 3, 0) := by decide +kernel
theorem xX0_passNight_80 : xdec cX0_passNight 80 = some (.ishr, 81, 0, 0) := by decide +kernel
theorem xX0_passNight_81 : xdec cX0_passNight 81 = some (.iconst 1, 82, 0, 1) := by decide +kernel
theorem xX0_passNight_82 : xdec cX0_passNight 82 = some (.iand, 83, 0, 0) := by decide +kernel
theorem xX0_passNight_83 : xdec cX0_passNight 83 = some (.ifCond .eq 7, 86, 90, 0) := by decide +kernel
theorem xX0_passNight_86 : xdec cX0_passNight 86 = some (.iconst 1, 87, 0, 1) := by decide +kernel
theorem xX0_passNight_87 : xdec cX0_passNight 87 = some (.goto 5, 90, 92, 0) := by decide +kernel
theorem xX0_passNight_90 : xdec cX0_passNight 90 = some (.iload 4, 92, 4, 0) := by decide +kernel
theorem xX0_passNight_92 : xdec cX0_passNight 92 = some (.invokevirtual 83, 95, 0, 0) := by decide +kernel
theorem xX0_passNight_95 : xdec cX0_passNight 95 = some (.iinc 3 1, 98, 3, 1) := by decide +kernel
theorem xX0_passNight_98 : xdec cX0_passNight 98 = some (.goto (-64), 101, 34, 0) := by decide +kernel
theorem xX0_passNight_101 : xdec cX0_passNight 101 = some (.return_, 102, 0, 0) := by decide +kernel
theorem xX0_dream_0 : xdec cX0_dream 0 = some (.aload_n 0, 1, 0, 0) := by decide +kernel
theorem xX0_dream_1 : xdec cX0_dream 1 = some (.getfield 9, 4, 9, 0) := by decide +kernel
theorem xX0_dream_4 : xdec cX0_dream 4 = some (.iload_n 1, 5, 1, 0) := by decide +kernel
theorem xX0_dream_5 : xdec cX0_dream 5 = some (.iaload, 6, 0, 0) := by decide +kernel
theorem xX0_dream_6 : xdec cX0_dream 6 = some (.aload_n 0, 7, 0, 0) := by decide +kernel
theorem xX0_dream_7 : xdec cX0_dream 7 = some (.getfield 15, 10, 15, 0) := by decide +kernel
theorem xX0_dream_10 : xdec cX0_dream 10 = some (.iload_n 1, 11, 1, 0) := by decide +kernel
theorem xX0_dream_11 : xdec cX0_dream 11 = some (.iaload, 12, 0, 0) := by decide +kernel
theorem xX0_dream_12 : xdec cX0_dream 12 = some (.aload_n 0, 13, 0, 0) := by decide +kernel
theorem xX0_dream_13 : xdec cX0_dream 13 = some (.getfield 18, 16, 18, 0) := by decide +kernel
theorem xX0_dream_16 : xdec cX0_dream 16 = some (.iload_n 1, 17, 1, 0) := by decide +kernel
theorem xX0_dream_17 : xdec cX0_dream 17 = some (.iaload, 18, 0, 0) := by decide +kernel
theorem xX0_dream_18 : xdec cX0_dream 18 = some (.aload_n 0, 19, 0, 0) := by decide +kernel
theorem xX0_dream_19 : xdec cX0_dream 19 = some (.getfield 21, 22, 21, 0) := by decide +kernel
theorem xX0_dream_22 : xdec cX0_dream 22 = some (.iload_n 1, 23, 1, 0) := by decide +kernel
theorem xX0_dream_23 : xdec cX0_dream 23 = some (.iaload, 24, 0, 0) := by decide +kernel
theorem xX0_dream_24 : xdec cX0_dream 24 = some (.iload_n 2, 25, 2, 0) := by decide +kernel
theorem xX0_dream_25 : xdec cX0_dream 25 = some (.invokestatic 86, 28, 0, 0) := by decide +kernel
theorem xX0_dream_28 : xdec cX0_dream 28 = some (.ireturn, 29, 0, 0) := by decide +kernel
theorem xX0_nextDream_0 : xdec cX0_nextDream 0 = some (.aload_n 0, 1, 0, 0) := by decide +kernel
theorem xX0_nextDream_1 : xdec cX0_nextDream 1 = some (.iload_n 1, 2, 1, 0) := by decide +kernel
theorem xX0_nextDream_2 : xdec cX0_nextDream 2 = some (.invokevirtual 76, 5, 0, 0) := by decide +kernel
theorem xX0_nextDream_5 : xdec cX0_nextDream 5 = some (.ifCond .eq 17, 8, 22, 0) := by decide +kernel
theorem xX0_nextDream_8 : xdec cX0_nextDream 8 = some (.aload_n 0, 9, 0, 0) := by decide +kernel
theorem xX0_nextDream_9 : xdec cX0_nextDream 9 = some (.iload_n 1, 10, 1, 0) := by decide +kernel
theorem xX0_nextDream_10 : xdec cX0_nextDream 10 = some (.aload_n 0, 11, 0, 0) := by decide +kernel
theorem xX0_nextDream_11 : xdec cX0_nextDream 11 = some (.getfield 43, 14, 43, 0) := by decide +kernel
theorem xX0_nextDream_14 : xdec cX0_nextDream 14 = some (.iconst 1, 15, 0, 1) := by decide +kernel
theorem xX0_nextDream_15 : xdec cX0_nextDream 15 = some (.iadd, 16, 0, 0) := by decide +kernel
theorem xX0_nextDream_16 : xdec cX0_nextDream 16 = some (.invokevirtual 80, 19, 0, 0) := by decide +kernel
theorem xX0_nextDream_19 : xdec cX0_nextDream 19 = some (.goto 5, 22, 24, 0) := by decide +kernel
theorem xX0_nextDream_22 : xdec cX0_nextDream 22 = some (.bipush (-4), 24, 0, (-4)) := by decide +kernel
theorem xX0_nextDream_24 : xdec cX0_nextDream 24 = some (.ireturn, 25, 0, 0) := by decide +kernel
theorem xX0_breakfast_0 : xdec cX0_breakfast 0 = some (.aload_n 0, 1, 0, 0) := by decide +kernel
theorem xX0_breakfast_1 : xdec cX0_breakfast 1 = some (.getfield 9, 4, 9, 0) := by decide +kernel
theorem xX0_breakfast_4 : xdec cX0_breakfast 4 = some (.iload_n 1, 5, 1, 0) := by decide +kernel
theorem xX0_breakfast_5 : xdec cX0_breakfast 5 = some (.iaload, 6, 0, 0) := by decide +kernel
theorem xX0_breakfast_6 : xdec cX0_breakfast 6 = some (.invokestatic 91, 9, 0, 0) := by decide +kernel
theorem xX0_breakfast_9 : xdec cX0_breakfast 9 = some (.istore_n 3, 10, 3, 0) := by decide +kernel
theorem xX0_breakfast_10 : xdec cX0_breakfast 10 = some (.iload_n 2, 11, 2, 0) := by decide +kernel
theorem xX0_breakfast_11 : xdec cX0_breakfast 11 = some (.bipush (-4), 13, 0, (-4)) := by decide +kernel
theorem xX0_breakfast_13 : xdec cX0_breakfast 13 = some (.if_icmp .ne 13, 16, 26, 0) := by decide +kernel
theorem xX0_breakfast_16 : xdec cX0_breakfast 16 = some (.aload_n 0, 17, 0, 0) := by decide +kernel
theorem xX0_breakfast_17 : xdec cX0_breakfast 17 = some (.iload_n 1, 18, 1, 0) := by decide +kernel
theorem xX0_breakfast_18 : xdec cX0_breakfast 18 = some (.bipush (-5), 20, 0, (-5)) := by decide +kernel
theorem xX0_breakfast_20 : xdec cX0_breakfast 20 = some (.invokevirtual 95, 23, 0, 0) := by decide +kernel
theorem xX0_breakfast_23 : xdec cX0_breakfast 23 = some (.goto 123, 26, 146, 0) := by decide +kernel
theorem xX0_breakfast_26 : xdec cX0_breakfast 26 = some (.aload_n 0, 27, 0, 0) := by decide +kernel
theorem xX0_breakfast_27 : xdec cX0_breakfast 27 = some (.getfield 27, 30, 27, 0) := by decide +kernel
theorem xX0_breakfast_30 : xdec cX0_breakfast 30 = some (.iload_n 2, 31, 2, 0) := by decide +kernel
theorem xX0_breakfast_31 : xdec cX0_breakfast 31 = some (.iaload, 32, 0, 0) := by decide +kernel
theorem xX0_breakfast_32 : xdec cX0_breakfast 32 = some (.iload_n 3, 33, 3, 0) := by decide +kernel
theorem xX0_breakfast_33 : xdec cX0_breakfast 33 = some (.if_icmp .lt 78, 36, 111, 0) := by decide +kernel
theorem xX0_breakfast_36 : xdec cX0_breakfast 36 = some (.aload_n 0, 37, 0, 0) := by decide +kernel
theorem xX0_breakfast_37 : xdec cX0_breakfast 37 = some (.getfield 27, 40, 27, 0) := by decide +kernel
theorem xX0_breakfast_40 : xdec cX0_breakfast 40 = some (.iload_n 2, 41, 2, 0) := by decide +kernel
theorem xX0_breakfast_41 : xdec cX0_breakfast 41 = some (.dup2, 42, 0, 0) := by decide +kernel
theorem xX0_breakfast_42 : xdec cX0_breakfast 42 = some (.iaload, 43, 0, 0) := by decide +kernel
theorem xX0_breakfast_43 : xdec cX0_breakfast 43 = some (.iload_n 3, 44, 3, 0) := by decide +kernel
theorem xX0_breakfast_44 : xdec cX0_breakfast 44 = some (.isub, 45, 0, 0) := by decide +kernel
theorem xX0_breakfast_45 : xdec cX0_breakfast 45 = some (.iastore, 46, 0, 0) := by decide +kernel
theorem xX0_breakfast_46 : xdec cX0_breakfast 46 = some (.aload_n 0, 47, 0, 0) := by decide +kernel
theorem xX0_breakfast_47 : xdec cX0_breakfast 47 = some (.iload_n 1, 48, 1, 0) := by decide +kernel
theorem xX0_breakfast_48 : xdec cX0_breakfast 48 = some (.aload_n 0, 49, 0, 0) := by decide +kernel
theorem xX0_breakfast_49 : xdec cX0_breakfast 49 = some (.getfield 9, 52, 9, 0) := by decide +kernel
theorem xX0_breakfast_52 : xdec cX0_breakfast 52 = some (.iload_n 1, 53, 1, 0) := by decide +kernel
theorem xX0_breakfast_53 : xdec cX0_breakfast 53 = some (.iaload, 54, 0, 0) := by decide +kernel
theorem xX0_breakfast_54 : xdec cX0_breakfast 54 = some (.aload_n 0, 55, 0, 0) := by decide +kernel
theorem xX0_breakfast_55 : xdec cX0_breakfast 55 = some (.getfield 15, 58, 15, 0) := by decide +kernel
theorem xX0_breakfast_58 : xdec cX0_breakfast 58 = some (.iload_n 1, 59, 1, 0) := by decide +kernel
theorem xX0_breakfast_59 : xdec cX0_breakfast 59 = some (.iaload, 60, 0, 0) := by decide +kernel
theorem xX0_breakfast_60 : xdec cX0_breakfast 60 = some (.iload_n 2, 61, 2, 0) := by decide +kernel
theorem xX0_breakfast_61 : xdec cX0_breakfast 61 = some (.aload_n 0, 62, 0, 0) := by decide +kernel
theorem xX0_breakfast_62 : xdec cX0_breakfast 62 = some (.getfield 21, 65, 21, 0) := by decide +kernel
theorem xX0_breakfast_65 : xdec cX0_breakfast 65 = some (.iload_n 1, 66, 1, 0) := by decide +kernel
theorem xX0_breakfast_66 : xdec cX0_breakfast 66 = some (.iaload, 67, 0, 0) := by decide +kernel
theorem xX0_breakfast_67 : xdec cX0_breakfast 67 = some (.invokestatic 98, 70, 0, 0) := by decide +kernel
theorem xX0_breakfast_70 : xdec cX0_breakfast 70 = some (.invokevirtual 95, 73, 0, 0) := by decide +kernel
theorem xX0_breakfast_73 : xdec cX0_breakfast 73 = some (.aload_n 0, 74, 0, 0) := by decide +kernel
theorem xX0_breakfast_74 : xdec cX0_breakfast 74 = some (.getfield 21, 77, 21, 0) := by decide +kernel
theorem xX0_breakfast_77 : xdec cX0_breakfast 77 = some (.iload_n 1, 78, 1, 0) := by decide +kernel
theorem xX0_breakfast_78 : xdec cX0_breakfast 78 = some (.iload_n 2, 79, 2, 0) := by decide +kernel
theorem xX0_breakfast_79 : xdec cX0_breakfast 79 = some (.iastore, 80, 0, 0) := by decide +kernel
theorem xX0_breakfast_80 : xdec cX0_breakfast 80 = some (.aload_n 0, 81, 0, 0) := by decide +kernel
theorem xX0_breakfast_81 : xdec cX0_breakfast 81 = some (.sipush 9999, 84, 0, 9999) := by decide +kernel
theorem xX0_breakfast_84 : xdec cX0_breakfast 84 = some (.aload_n 0, 85, 0, 0) := by decide +kernel
theorem xX0_breakfast_85 : xdec cX0_breakfast 85 = some (.getfield 46, 88, 46, 0) := by decide +kernel
theorem xX0_breakfast_88 : xdec cX0_breakfast 88 = some (.iconst 1, 89, 0, 1) := by decide +kernel
theorem xX0_breakfast_89 : xdec cX0_breakfast 89 = some (.iadd, 90, 0, 0) := by decide +kernel
theorem xX0_breakfast_90 : xdec cX0_breakfast 90 = some (.invokestatic 62, 93, 0, 0) := by decide +kernel
theorem xX0_breakfast_93 : xdec cX0_breakfast 93 = some (.putfield 46, 96, 46, 0) := by decide +kernel
theorem xX0_breakfast_96 : xdec cX0_breakfast 96 = some (.aload_n 0, 97, 0, 0) := by decide +kernel
theorem xX0_breakfast_97 : xdec cX0_breakfast 97 = some (.dup, 98, 0, 0) := by decide +kernel
theorem xX0_breakfast_98 : xdec cX0_breakfast 98 = some (.getfield 52, 101, 52, 0) := by decide +kernel
theorem xX0_breakfast_101 : xdec cX0_breakfast 101 = some (.iconst 1, 102, 0, 1) := by decide +kernel
theorem xX0_breakfast_102 : xdec cX0_breakfast 102 = some (.iload_n 1, 103, 1, 0) := by decide +kernel
theorem xX0_breakfast_103 : xdec cX0_breakfast 103 = some (.ishl, 104, 0, 0) := by decide +kernel
theorem xX0_breakfast_104 : xdec cX0_breakfast 104 = some (.ior, 105, 0, 0) := by decide +kernel
theorem xX0_breakfast_105 : xdec cX0_breakfast 105 = some (.putfield 52, 108, 52, 0) := by decide +kernel
theorem xX0_breakfast_108 : xdec cX0_breakfast 108 = some (.goto 38, 111, 146, 0) := by decide +kernel
theorem xX0_breakfast_111 : xdec cX0_breakfast 111 = some (.aload_n 0, 112, 0, 0) := by decide +kernel
theorem xX0_breakfast_112 : xdec cX0_breakfast 112 = some (.iload_n 1, 113, 1, 0) := by decide +kernel
theorem xX0_breakfast_113 : xdec cX0_breakfast 113 = some (.bipush (-3), 115, 0, (-3)) := by decide +kernel
theorem xX0_breakfast_115 : xdec cX0_breakfast 115 = some (.invokevirtual 95, 118, 0, 0) := by decide +kernel
theorem xX0_breakfast_118 : xdec cX0_breakfast 118 = some (.aload_n 0, 119, 0, 0) := by decide +kernel
theorem xX0_breakfast_119 : xdec cX0_breakfast 119 = some (.sipush 9999, 122, 0, 9999) := by decide +kernel
theorem xX0_breakfast_122 : xdec cX0_breakfast 122 = some (.aload_n 0, 123, 0, 0) := by decide +kernel
theorem xX0_breakfast_123 : xdec cX0_breakfast 123 = some (.getfield 49, 126, 49, 0) := by decide +kernel
theorem xX0_breakfast_126 : xdec cX0_breakfast 126 = some (.iconst 1, 127, 0, 1) := by decide +kernel
theorem xX0_breakfast_127 : xdec cX0_breakfast 127 = some (.iadd, 128, 0, 0) := by decide +kernel
theorem xX0_breakfast_128 : xdec cX0_breakfast 128 = some (.invokestatic 62, 131, 0, 0) := by decide +kernel
theorem xX0_breakfast_131 : xdec cX0_breakfast 131 = some (.putfield 49, 134, 49, 0) := by decide +kernel
theorem xX0_breakfast_134 : xdec cX0_breakfast 134 = some (.aload_n 0, 135, 0, 0) := by decide +kernel
theorem xX0_breakfast_135 : xdec cX0_breakfast 135 = some (.dup, 136, 0, 0) := by decide +kernel
theorem xX0_breakfast_136 : xdec cX0_breakfast 136 = some (.getfield 55, 139, 55, 0) := by decide +kernel
theorem xX0_breakfast_139 : xdec cX0_breakfast 139 = some (.iconst 1, 140, 0, 1) := by decide +kernel
theorem xX0_breakfast_140 : xdec cX0_breakfast 140 = some (.iload_n 1, 141, 1, 0) := by decide +kernel
theorem xX0_breakfast_141 : xdec cX0_breakfast 141 = some (.ishl, 142, 0, 0) := by decide +kernel
theorem xX0_breakfast_142 : xdec cX0_breakfast 142 = some (.ior, 143, 0, 0) := by decide +kernel
theorem xX0_breakfast_143 : xdec cX0_breakfast 143 = some (.putfield 55, 146, 55, 0) := by decide +kernel
theorem xX0_breakfast_146 : xdec cX0_breakfast 146 = some (.return_, 147, 0, 0) := by decide +kernel
theorem xX0_changeHealth_0 : xdec cX0_changeHealth 0 = some (.aload_n 0, 1, 0, 0) := by decide +kernel
theorem xX0_changeHealth_1 : xdec cX0_changeHealth 1 = some (.getfield 24, 4, 24, 0) := by decide +kernel
theorem xX0_changeHealth_4 : xdec cX0_changeHealth 4 = some (.iload_n 1, 5, 1, 0) := by decide +kernel
theorem xX0_changeHealth_5 : xdec cX0_changeHealth 5 = some (.iconst 0, 6, 0, 0) := by decide +kernel
theorem xX0_changeHealth_6 : xdec cX0_changeHealth 6 = some (.bipush 99, 8, 0, 99) := by decide +kernel
theorem xX0_changeHealth_8 : xdec cX0_changeHealth 8 = some (.aload_n 0, 9, 0, 0) := by decide +kernel
theorem xX0_changeHealth_9 : xdec cX0_changeHealth 9 = some (.getfield 24, 12, 24, 0) := by decide +kernel
theorem xX0_changeHealth_12 : xdec cX0_changeHealth 12 = some (.iload_n 1, 13, 1, 0) := by decide +kernel
theorem xX0_changeHealth_13 : xdec cX0_changeHealth 13 = some (.iaload, 14, 0, 0) := by decide +kernel
theorem xX0_changeHealth_14 : xdec cX0_changeHealth 14 = some (.iload_n 2, 15, 2, 0) := by decide +kernel
theorem xX0_changeHealth_15 : xdec cX0_changeHealth 15 = some (.iadd, 16, 0, 0) := by decide +kernel
theorem xX0_changeHealth_16 : xdec cX0_changeHealth 16 = some (.invokestatic 62, 19, 0, 0) := by decide +kernel
theorem xX0_changeHealth_19 : xdec cX0_changeHealth 19 = some (.invokestatic 102, 22, 0, 0) := by decide +kernel
theorem xX0_changeHealth_22 : xdec cX0_changeHealth 22 = some (.iastore, 23, 0, 0) := by decide +kernel
theorem xX0_changeHealth_23 : xdec cX0_changeHealth 23 = some (.aload_n 0, 24, 0, 0) := by decide +kernel
theorem xX0_changeHealth_24 : xdec cX0_changeHealth 24 = some (.getfield 24, 27, 24, 0) := by decide +kernel
theorem xX0_changeHealth_27 : xdec cX0_changeHealth 27 = some (.iload_n 1, 28, 1, 0) := by decide +kernel
theorem xX0_changeHealth_28 : xdec cX0_changeHealth 28 = some (.iaload, 29, 0, 0) := by decide +kernel
theorem xX0_changeHealth_29 : xdec cX0_changeHealth 29 = some (.ifCond .ne 17, 32, 46, 0) := by decide +kernel
theorem xX0_changeHealth_32 : xdec cX0_changeHealth 32 = some (.aload_n 0, 33, 0, 0) := by decide +kernel
theorem xX0_changeHealth_33 : xdec cX0_changeHealth 33 = some (.dup, 34, 0, 0) := by decide +kernel
theorem xX0_changeHealth_34 : xdec cX0_changeHealth 34 = some (.getfield 40, 37, 40, 0) := by decide +kernel
theorem xX0_changeHealth_37 : xdec cX0_changeHealth 37 = some (.iconst 1, 38, 0, 1) := by decide +kernel
theorem xX0_changeHealth_38 : xdec cX0_changeHealth 38 = some (.iload_n 1, 39, 1, 0) := by decide +kernel
theorem xX0_changeHealth_39 : xdec cX0_changeHealth 39 = some (.ishl, 40, 0, 0) := by decide +kernel
theorem xX0_changeHealth_40 : xdec cX0_changeHealth 40 = some (.iconst (-1), 41, 0, (-1)) := by decide +kernel
theorem xX0_changeHealth_41 : xdec cX0_changeHealth 41 = some (.ixor, 42, 0, 0) := by decide +kernel
theorem xX0_changeHealth_42 : xdec cX0_changeHealth 42 = some (.iand, 43, 0, 0) := by decide +kernel
theorem xX0_changeHealth_43 : xdec cX0_changeHealth 43 = some (.putfield 40, 46, 40, 0) := by decide +kernel
theorem xX0_changeHealth_46 : xdec cX0_changeHealth 46 = some (.return_, 47, 0, 0) := by decide +kernel
theorem xX0_healthOf_0 : xdec cX0_healthOf 0 = some (.iconst 0, 1, 0, 0) := by decide +kernel
theorem xX0_healthOf_1 : xdec cX0_healthOf 1 = some (.istore_n 2, 2, 2, 0) := by decide +kernel
theorem xX0_healthOf_2 : xdec cX0_healthOf 2 = some (.iconst 0, 3, 0, 0) := by decide +kernel
theorem xX0_healthOf_3 : xdec cX0_healthOf 3 = some (.istore_n 3, 4, 3, 0) := by decide +kernel
theorem xX0_healthOf_4 : xdec cX0_healthOf 4 = some (.iload_n 3, 5, 3, 0) := by decide +kernel
theorem xX0_healthOf_5 : xdec cX0_healthOf 5 = some (.aload_n 0, 6, 0, 0) := by decide +kernel
theorem xX0_healthOf_6 : xdec cX0_healthOf 6 = some (.getfield 36, 9, 36, 0) := by decide +kernel
theorem xX0_healthOf_9 : xdec cX0_healthOf 9 = some (.if_icmp .ge 30, 12, 39, 0) := by decide +kernel
theorem xX0_healthOf_12 : xdec cX0_healthOf 12 = some (.iload_n 2, 13, 2, 0) := by decide +kernel
theorem xX0_healthOf_13 : xdec cX0_healthOf 13 = some (.iload_n 1, 14, 1, 0) := by decide +kernel
theorem xX0_healthOf_14 : xdec cX0_healthOf 14 = some (.iload_n 3, 15, 3, 0) := by decide +kernel
theorem xX0_healthOf_15 : xdec cX0_healthOf 15 = some (.ishr, 16, 0, 0) := by decide +kernel
theorem xX0_healthOf_16 : xdec cX0_healthOf 16 = some (.iconst 1, 17, 0, 1) := by decide +kernel
theorem xX0_healthOf_17 : xdec cX0_healthOf 17 = some (.iand, 18, 0, 0) := by decide +kernel
theorem xX0_healthOf_18 : xdec cX0_healthOf 18 = some (.ifCond .eq 12, 21, 30, 0) := by decide +kernel
theorem xX0_healthOf_21 : xdec cX0_healthOf 21 = some (.aload_n 0, 22, 0, 0) := by decide +kernel
theorem xX0_healthOf_22 : xdec cX0_healthOf 22 = some (.getfield 24, 25, 24, 0) := by decide +kernel
theorem xX0_healthOf_25 : xdec cX0_healthOf 25 = some (.iload_n 3, 26, 3, 0) := by decide +kernel
theorem xX0_healthOf_26 : xdec cX0_healthOf 26 = some (.iaload, 27, 0, 0) := by decide +kernel
theorem xX0_healthOf_27 : xdec cX0_healthOf 27 = some (.goto 4, 30, 31, 0) := by decide +kernel
theorem xX0_healthOf_30 : xdec cX0_healthOf 30 = some (.iconst 0, 31, 0, 0) := by decide +kernel
theorem xX0_healthOf_31 : xdec cX0_healthOf 31 = some (.iadd, 32, 0, 0) := by decide +kernel
theorem xX0_healthOf_32 : xdec cX0_healthOf 32 = some (.istore_n 2, 33, 2, 0) := by decide +kernel
theorem xX0_healthOf_33 : xdec cX0_healthOf 33 = some (.iinc 3 1, 36, 3, 1) := by decide +kernel
theorem xX0_healthOf_36 : xdec cX0_healthOf 36 = some (.goto (-32), 39, 4, 0) := by decide +kernel
theorem xX0_healthOf_39 : xdec cX0_healthOf 39 = some (.iload_n 2, 40, 2, 0) := by decide +kernel
theorem xX0_healthOf_40 : xdec cX0_healthOf 40 = some (.ireturn, 41, 0, 0) := by decide +kernel
theorem xX0_twosOfOneDream_0 : xdec cX0_twosOfOneDream 0 = some (.iconst 0, 1, 0, 0) := by decide +kernel
theorem xX0_twosOfOneDream_1 : xdec cX0_twosOfOneDream 1 = some (.istore_n 1, 2, 1, 0) := by decide +kernel
theorem xX0_twosOfOneDream_2 : xdec cX0_twosOfOneDream 2 = some (.iconst 0, 3, 0, 0) := by decide +kernel
theorem xX0_twosOfOneDream_3 : xdec cX0_twosOfOneDream 3 = some (.istore_n 2, 4, 2, 0) := by decide +kernel
theorem xX0_twosOfOneDream_4 : xdec cX0_twosOfOneDream 4 = some (.iload_n 2, 5, 2, 0) := by decide +kernel
theorem xX0_twosOfOneDream_5 : xdec cX0_twosOfOneDream 5 = some (.aload_n 0, 6, 0, 0) := by decide +kernel
theorem xX0_twosOfOneDream_6 : xdec cX0_twosOfOneDream 6 = some (.getfield 36, 9, 36, 0) := by decide +kernel
theorem xX0_twosOfOneDream_9 : xdec cX0_twosOfOneDream 9 = some (.if_icmp .ge 54, 12, 63, 0) := by decide +kernel
theorem xX0_twosOfOneDream_12 : xdec cX0_twosOfOneDream 12 = some (.iconst 0, 13, 0, 0) := by decide +kernel
theorem xX0_twosOfOneDream_13 : xdec cX0_twosOfOneDream 13 = some (.istore_n 3, 14, 3, 0) := by decide +kernel
theorem xX0_twosOfOneDream_14 : xdec cX0_twosOfOneDream 14 = some (.iload_n 3, 15, 3, 0) := by decide +kernel
theorem xX0_twosOfOneDream_15 : xdec cX0_twosOfOneDream 15 = some (.iload_n 2, 16, 2, 0) := by decide +kernel
theorem xX0_twosOfOneDream_16 : xdec cX0_twosOfOneDream 16 = some (.if_icmp .ge 41, 19, 57, 0) := by decide +kernel
theorem xX0_twosOfOneDream_19 : xdec cX0_twosOfOneDream 19 = some (.aload_n 0, 20, 0, 0) := by decide +kernel
theorem xX0_twosOfOneDream_20 : xdec cX0_twosOfOneDream 20 = some (.iload_n 2, 21, 2, 0) := by decide +kernel
theorem xX0_twosOfOneDream_21 : xdec cX0_twosOfOneDream 21 = some (.invokevirtual 105, 24, 0, 0) := by decide +kernel
theorem xX0_twosOfOneDream_24 : xdec cX0_twosOfOneDream 24 = some (.istore 4, 26, 4, 0) := by decide +kernel
theorem xX0_twosOfOneDream_26 : xdec cX0_twosOfOneDream 26 = some (.iload_n 1, 27, 1, 0) := by decide +kernel
theorem xX0_twosOfOneDream_27 : xdec cX0_twosOfOneDream 27 = some (.iload 4, 29, 4, 0) := by decide +kernel
theorem xX0_twosOfOneDream_29 : xdec cX0_twosOfOneDream 29 = some (.bipush (-4), 31, 0, (-4)) := by decide +kernel
theorem xX0_twosOfOneDream_31 : xdec cX0_twosOfOneDream 31 = some (.if_icmp .eq 17, 34, 48, 0) := by decide +kernel
theorem xX0_twosOfOneDream_34 : xdec cX0_twosOfOneDream 34 = some (.iload 4, 36, 4, 0) := by decide +kernel
theorem xX0_twosOfOneDream_36 : xdec cX0_twosOfOneDream 36 = some (.aload_n 0, 37, 0, 0) := by decide +kernel
theorem xX0_twosOfOneDream_37 : xdec cX0_twosOfOneDream 37 = some (.iload_n 3, 38, 3, 0) := by decide +kernel
theorem xX0_twosOfOneDream_38 : xdec cX0_twosOfOneDream 38 = some (.invokevirtual 105, 41, 0, 0) := by decide +kernel
theorem xX0_twosOfOneDream_41 : xdec cX0_twosOfOneDream 41 = some (.if_icmp .ne 7, 44, 48, 0) := by decide +kernel
theorem xX0_twosOfOneDream_44 : xdec cX0_twosOfOneDream 44 = some (.iconst 1, 45, 0, 1) := by decide +kernel
theorem xX0_twosOfOneDream_45 : xdec cX0_twosOfOneDream 45 = some (.goto 4, 48, 49, 0) := by decide +kernel
theorem xX0_twosOfOneDream_48 : xdec cX0_twosOfOneDream 48 = some (.iconst 0, 49, 0, 0) := by decide +kernel
theorem xX0_twosOfOneDream_49 : xdec cX0_twosOfOneDream 49 = some (.iadd, 50, 0, 0) := by decide +kernel
theorem xX0_twosOfOneDream_50 : xdec cX0_twosOfOneDream 50 = some (.istore_n 1, 51, 1, 0) := by decide +kernel
theorem xX0_twosOfOneDream_51 : xdec cX0_twosOfOneDream 51 = some (.iinc 3 1, 54, 3, 1) := by decide +kernel
theorem xX0_twosOfOneDream_54 : xdec cX0_twosOfOneDream 54 = some (.goto (-40), 57, 14, 0) := by decide +kernel
theorem xX0_twosOfOneDream_57 : xdec cX0_twosOfOneDream 57 = some (.iinc 2 1, 60, 2, 1) := by decide +kernel
theorem xX0_twosOfOneDream_60 : xdec cX0_twosOfOneDream 60 = some (.goto (-56), 63, 4, 0) := by decide +kernel
theorem xX0_twosOfOneDream_63 : xdec cX0_twosOfOneDream 63 = some (.iload_n 1, 64, 1, 0) := by decide +kernel
theorem xX0_twosOfOneDream_64 : xdec cX0_twosOfOneDream 64 = some (.ireturn, 65, 0, 0) := by decide +kernel
theorem xX0_wellest_0 : xdec cX0_wellest 0 = some (.bipush (-4), 2, 0, (-4)) := by decide +kernel
theorem xX0_wellest_2 : xdec cX0_wellest 2 = some (.istore_n 1, 3, 1, 0) := by decide +kernel
theorem xX0_wellest_3 : xdec cX0_wellest 3 = some (.iconst (-1), 4, 0, (-1)) := by decide +kernel
theorem xX0_wellest_4 : xdec cX0_wellest 4 = some (.istore_n 2, 5, 2, 0) := by decide +kernel
theorem xX0_wellest_5 : xdec cX0_wellest 5 = some (.iconst 0, 6, 0, 0) := by decide +kernel
theorem xX0_wellest_6 : xdec cX0_wellest 6 = some (.istore_n 3, 7, 3, 0) := by decide +kernel
theorem xX0_wellest_7 : xdec cX0_wellest 7 = some (.iload_n 3, 8, 3, 0) := by decide +kernel
theorem xX0_wellest_8 : xdec cX0_wellest 8 = some (.aload_n 0, 9, 0, 0) := by decide +kernel
theorem xX0_wellest_9 : xdec cX0_wellest 9 = some (.getfield 36, 12, 36, 0) := by decide +kernel
theorem xX0_wellest_12 : xdec cX0_wellest 12 = some (.if_icmp .ge 36, 15, 48, 0) := by decide +kernel
theorem xX0_wellest_15 : xdec cX0_wellest 15 = some (.aload_n 0, 16, 0, 0) := by decide +kernel
theorem xX0_wellest_16 : xdec cX0_wellest 16 = some (.iload_n 3, 17, 3, 0) := by decide +kernel
theorem xX0_wellest_17 : xdec cX0_wellest 17 = some (.invokevirtual 76, 20, 0, 0) := by decide +kernel
theorem xX0_wellest_20 : xdec cX0_wellest 20 = some (.ifCond .eq 22, 23, 42, 0) := by decide +kernel
theorem xX0_wellest_23 : xdec cX0_wellest 23 = some (.aload_n 0, 24, 0, 0) := by decide +kernel
theorem xX0_wellest_24 : xdec cX0_wellest 24 = some (.getfield 24, 27, 24, 0) := by decide +kernel
theorem xX0_wellest_27 : xdec cX0_wellest 27 = some (.iload_n 3, 28, 3, 0) := by decide +kernel
theorem xX0_wellest_28 : xdec cX0_wellest 28 = some (.iaload, 29, 0, 0) := by decide +kernel
theorem xX0_wellest_29 : xdec cX0_wellest 29 = some (.iload_n 2, 30, 2, 0) := by decide +kernel
theorem xX0_wellest_30 : xdec cX0_wellest 30 = some (.if_icmp .le 12, 33, 42, 0) := by decide +kernel
theorem xX0_wellest_33 : xdec cX0_wellest 33 = some (.aload_n 0, 34, 0, 0) := by decide +kernel
theorem xX0_wellest_34 : xdec cX0_wellest 34 = some (.getfield 24, 37, 24, 0) := by decide +kernel
theorem xX0_wellest_37 : xdec cX0_wellest 37 = some (.iload_n 3, 38, 3, 0) := by decide +kernel
theorem xX0_wellest_38 : xdec cX0_wellest 38 = some (.iaload, 39, 0, 0) := by decide +kernel
theorem xX0_wellest_39 : xdec cX0_wellest 39 = some (.istore_n 2, 40, 2, 0) := by decide +kernel
theorem xX0_wellest_40 : xdec cX0_wellest 40 = some (.iload_n 3, 41, 3, 0) := by decide +kernel
theorem xX0_wellest_41 : xdec cX0_wellest 41 = some (.istore_n 1, 42, 1, 0) := by decide +kernel
theorem xX0_wellest_42 : xdec cX0_wellest 42 = some (.iinc 3 1, 45, 3, 1) := by decide +kernel
theorem xX0_wellest_45 : xdec cX0_wellest 45 = some (.goto (-38), 48, 7, 0) := by decide +kernel
theorem xX0_wellest_48 : xdec cX0_wellest 48 = some (.iload_n 1, 49, 1, 0) := by decide +kernel
theorem xX0_wellest_49 : xdec cX0_wellest 49 = some (.ireturn, 50, 0, 0) := by decide +kernel
theorem xX0_fullest_0 : xdec cX0_fullest 0 = some (.iconst 0, 1, 0, 0) := by decide +kernel
theorem xX0_fullest_1 : xdec cX0_fullest 1 = some (.istore_n 1, 2, 1, 0) := by decide +kernel
theorem xX0_fullest_2 : xdec cX0_fullest 2 = some (.iconst 1, 3, 0, 1) := by decide +kernel
theorem xX0_fullest_3 : xdec cX0_fullest 3 = some (.istore_n 2, 4, 2, 0) := by decide +kernel
theorem xX0_fullest_4 : xdec cX0_fullest 4 = some (.iload_n 2, 5, 2, 0) := by decide +kernel
theorem xX0_fullest_5 : xdec cX0_fullest 5 = some (.bipush 10, 7, 0, 10) := by decide +kernel
theorem xX0_fullest_7 : xdec cX0_fullest 7 = some (.if_icmp .ge 26, 10, 33, 0) := by decide +kernel
theorem xX0_fullest_10 : xdec cX0_fullest 10 = some (.aload_n 0, 11, 0, 0) := by decide +kernel
theorem xX0_fullest_11 : xdec cX0_fullest 11 = some (.getfield 27, 14, 27, 0) := by decide +kernel
theorem xX0_fullest_14 : xdec cX0_fullest 14 = some (.iload_n 2, 15, 2, 0) := by decide +kernel
theorem xX0_fullest_15 : xdec cX0_fullest 15 = some (.iaload, 16, 0, 0) := by decide +kernel
theorem xX0_fullest_16 : xdec cX0_fullest 16 = some (.aload_n 0, 17, 0, 0) := by decide +kernel
theorem xX0_fullest_17 : xdec cX0_fullest 17 = some (.getfield 27, 20, 27, 0) := by decide +kernel
theorem xX0_fullest_20 : xdec cX0_fullest 20 = some (.iload_n 1, 21, 1, 0) := by decide +kernel
theorem xX0_fullest_21 : xdec cX0_fullest 21 = some (.iaload, 22, 0, 0) := by decide +kernel
theorem xX0_fullest_22 : xdec cX0_fullest 22 = some (.if_icmp .le 5, 25, 27, 0) := by decide +kernel
theorem xX0_fullest_25 : xdec cX0_fullest 25 = some (.iload_n 2, 26, 2, 0) := by decide +kernel
theorem xX0_fullest_26 : xdec cX0_fullest 26 = some (.istore_n 1, 27, 1, 0) := by decide +kernel
theorem xX0_fullest_27 : xdec cX0_fullest 27 = some (.iinc 2 1, 30, 2, 1) := by decide +kernel
theorem xX0_fullest_30 : xdec cX0_fullest 30 = some (.goto (-26), 33, 4, 0) := by decide +kernel
theorem xX0_fullest_33 : xdec cX0_fullest 33 = some (.iload_n 1, 34, 1, 0) := by decide +kernel
theorem xX0_fullest_34 : xdec cX0_fullest 34 = some (.ireturn, 35, 0, 0) := by decide +kernel
theorem xX0_platesInAll_0 : xdec cX0_platesInAll 0 = some (.iconst 0, 1, 0, 0) := by decide +kernel
theorem xX0_platesInAll_1 : xdec cX0_platesInAll 1 = some (.istore_n 1, 2, 1, 0) := by decide +kernel
theorem xX0_platesInAll_2 : xdec cX0_platesInAll 2 = some (.iconst 0, 3, 0, 0) := by decide +kernel
theorem xX0_platesInAll_3 : xdec cX0_platesInAll 3 = some (.istore_n 2, 4, 2, 0) := by decide +kernel
theorem xX0_platesInAll_4 : xdec cX0_platesInAll 4 = some (.iload_n 2, 5, 2, 0) := by decide +kernel
theorem xX0_platesInAll_5 : xdec cX0_platesInAll 5 = some (.bipush 10, 7, 0, 10) := by decide +kernel
theorem xX0_platesInAll_7 : xdec cX0_platesInAll 7 = some (.if_icmp .ge 18, 10, 25, 0) := by decide +kernel
theorem xX0_platesInAll_10 : xdec cX0_platesInAll 10 = some (.iload_n 1, 11, 1, 0) := by decide +kernel
theorem xX0_platesInAll_11 : xdec cX0_platesInAll 11 = some (.aload_n 0, 12, 0, 0) := by decide +kernel
theorem xX0_platesInAll_12 : xdec cX0_platesInAll 12 = some (.getfield 27, 15, 27, 0) := by decide +kernel
theorem xX0_platesInAll_15 : xdec cX0_platesInAll 15 = some (.iload_n 2, 16, 2, 0) := by decide +kernel
theorem xX0_platesInAll_16 : xdec cX0_platesInAll 16 = some (.iaload, 17, 0, 0) := by decide +kernel
theorem xX0_platesInAll_17 : xdec cX0_platesInAll 17 = some (.iadd, 18, 0, 0) := by decide +kernel
theorem xX0_platesInAll_18 : xdec cX0_platesInAll 18 = some (.istore_n 1, 19, 1, 0) := by decide +kernel
theorem xX0_platesInAll_19 : xdec cX0_platesInAll 19 = some (.iinc 2 1, 22, 2, 1) := by decide +kernel
theorem xX0_platesInAll_22 : xdec cX0_platesInAll 22 = some (.goto (-18), 25, 4, 0) := by decide +kernel
theorem xX0_platesInAll_25 : xdec cX0_platesInAll 25 = some (.iload_n 1, 26, 1, 0) := by decide +kernel
theorem xX0_platesInAll_26 : xdec cX0_platesInAll 26 = some (.ireturn, 27, 0, 0) := by decide +kernel
theorem xX0_emptyPlates_0 : xdec cX0_emptyPlates 0 = some (.iconst 0, 1, 0, 0) := by decide +kernel
theorem xX0_emptyPlates_1 : xdec cX0_emptyPlates 1 = some (.istore_n 1, 2, 1, 0) := by decide +kernel
theorem xX0_emptyPlates_2 : xdec cX0_emptyPlates 2 = some (.iconst 0, 3, 0, 0) := by decide +kernel
theorem xX0_emptyPlates_3 : xdec cX0_emptyPlates 3 = some (.istore_n 2, 4, 2, 0) := by decide +kernel
theorem xX0_emptyPlates_4 : xdec cX0_emptyPlates 4 = some (.iload_n 2, 5, 2, 0) := by decide +kernel
theorem xX0_emptyPlates_5 : xdec cX0_emptyPlates 5 = some (.bipush 10, 7, 0, 10) := by decide +kernel
theorem xX0_emptyPlates_7 : xdec cX0_emptyPlates 7 = some (.if_icmp .ge 28, 10, 35, 0) := by decide +kernel
theorem xX0_emptyPlates_10 : xdec cX0_emptyPlates 10 = some (.iload_n 1, 11, 1, 0) := by decide +kernel
theorem xX0_emptyPlates_11 : xdec cX0_emptyPlates 11 = some (.aload_n 0, 12, 0, 0) := by decide +kernel
theorem xX0_emptyPlates_12 : xdec cX0_emptyPlates 12 = some (.getfield 27, 15, 27, 0) := by decide +kernel
theorem xX0_emptyPlates_15 : xdec cX0_emptyPlates 15 = some (.iload_n 2, 16, 2, 0) := by decide +kernel
theorem xX0_emptyPlates_16 : xdec cX0_emptyPlates 16 = some (.iaload, 17, 0, 0) := by decide +kernel
theorem xX0_emptyPlates_17 : xdec cX0_emptyPlates 17 = some (.ifCond .ne 9, 20, 26, 0) := by decide +kernel
theorem xX0_emptyPlates_20 : xdec cX0_emptyPlates 20 = some (.iconst 1, 21, 0, 1) := by decide +kernel
theorem xX0_emptyPlates_21 : xdec cX0_emptyPlates 21 = some (.iload_n 2, 22, 2, 0) := by decide +kernel
theorem xX0_emptyPlates_22 : xdec cX0_emptyPlates 22 = some (.ishl, 23, 0, 0) := by decide +kernel
theorem xX0_emptyPlates_23 : xdec cX0_emptyPlates 23 = some (.goto 4, 26, 27, 0) := by decide +kernel
theorem xX0_emptyPlates_26 : xdec cX0_emptyPlates 26 = some (.iconst 0, 27, 0, 0) := by decide +kernel
theorem xX0_emptyPlates_27 : xdec cX0_emptyPlates 27 = some (.ior, 28, 0, 0) := by decide +kernel
theorem xX0_emptyPlates_28 : xdec cX0_emptyPlates 28 = some (.istore_n 1, 29, 1, 0) := by decide +kernel
theorem xX0_emptyPlates_29 : xdec cX0_emptyPlates 29 = some (.iinc 2 1, 32, 2, 1) := by decide +kernel
theorem xX0_emptyPlates_32 : xdec cX0_emptyPlates 32 = some (.goto (-28), 35, 4, 0) := by decide +kernel
theorem xX0_emptyPlates_35 : xdec cX0_emptyPlates 35 = some (.iload_n 1, 36, 1, 0) := by decide +kernel
theorem xX0_emptyPlates_36 : xdec cX0_emptyPlates 36 = some (.ireturn, 37, 0, 0) := by decide +kernel
theorem xX0_platesOf_0 : xdec cX0_platesOf 0 = some (.iconst 0, 1, 0, 0) := by decide +kernel
theorem xX0_platesOf_1 : xdec cX0_platesOf 1 = some (.istore_n 2, 2, 2, 0) := by decide +kernel
theorem xX0_platesOf_2 : xdec cX0_platesOf 2 = some (.iconst 0, 3, 0, 0) := by decide +kernel
theorem xX0_platesOf_3 : xdec cX0_platesOf 3 = some (.istore_n 3, 4, 3, 0) := by decide +kernel
theorem xX0_platesOf_4 : xdec cX0_platesOf 4 = some (.iload_n 3, 5, 3, 0) := by decide +kernel
theorem xX0_platesOf_5 : xdec cX0_platesOf 5 = some (.aload_n 0, 6, 0, 0) := by decide +kernel
theorem xX0_platesOf_6 : xdec cX0_platesOf 6 = some (.getfield 36, 9, 36, 0) := by decide +kernel
theorem xX0_platesOf_9 : xdec cX0_platesOf 9 = some (.if_icmp .ge 35, 12, 44, 0) := by decide +kernel
theorem xX0_platesOf_12 : xdec cX0_platesOf 12 = some (.iload_n 3, 13, 3, 0) := by decide +kernel
theorem xX0_platesOf_13 : xdec cX0_platesOf 13 = some (.aload_n 1, 14, 1, 0) := by decide +kernel
theorem xX0_platesOf_14 : xdec cX0_platesOf 14 = some (.arraylength, 15, 0, 0) := by decide +kernel
theorem xX0_platesOf_15 : xdec cX0_platesOf 15 = some (.if_icmp .ge 29, 18, 44, 0) := by decide +kernel
theorem xX0_platesOf_18 : xdec cX0_platesOf 18 = some (.iload_n 2, 19, 2, 0) := by decide +kernel
theorem xX0_platesOf_19 : xdec cX0_platesOf 19 = some (.aload_n 0, 20, 0, 0) := by decide +kernel
theorem xX0_platesOf_20 : xdec cX0_platesOf 20 = some (.iload_n 3, 21, 3, 0) := by decide +kernel
theorem xX0_platesOf_21 : xdec cX0_platesOf 21 = some (.invokevirtual 76, 24, 0, 0) := by decide +kernel
theorem xX0_platesOf_24 : xdec cX0_platesOf 24 = some (.ifCond .eq 11, 27, 35, 0) := by decide +kernel
theorem xX0_platesOf_27 : xdec cX0_platesOf 27 = some (.iconst 1, 28, 0, 1) := by decide +kernel
theorem xX0_platesOf_28 : xdec cX0_platesOf 28 = some (.aload_n 1, 29, 1, 0) := by decide +kernel
theorem xX0_platesOf_29 : xdec cX0_platesOf 29 = some (.iload_n 3, 30, 3, 0) := by decide +kernel
theorem xX0_platesOf_30 : xdec cX0_platesOf 30 = some (.iaload, 31, 0, 0) := by decide +kernel
theorem xX0_platesOf_31 : xdec cX0_platesOf 31 = some (.ishl, 32, 0, 0) := by decide +kernel
theorem xX0_platesOf_32 : xdec cX0_platesOf 32 = some (.goto 4, 35, 36, 0) := by decide +kernel
theorem xX0_platesOf_35 : xdec cX0_platesOf 35 = some (.iconst 0, 36, 0, 0) := by decide +kernel
theorem xX0_platesOf_36 : xdec cX0_platesOf 36 = some (.ior, 37, 0, 0) := by decide +kernel
theorem xX0_platesOf_37 : xdec cX0_platesOf 37 = some (.istore_n 2, 38, 2, 0) := by decide +kernel
theorem xX0_platesOf_38 : xdec cX0_platesOf 38 = some (.iinc 3 1, 41, 3, 1) := by decide +kernel
theorem xX0_platesOf_41 : xdec cX0_platesOf 41 = some (.goto (-37), 44, 4, 0) := by decide +kernel
theorem xX0_platesOf_44 : xdec cX0_platesOf 44 = some (.iload_n 2, 45, 2, 0) := by decide +kernel
theorem xX0_platesOf_45 : xdec cX0_platesOf 45 = some (.ireturn, 46, 0, 0) := by decide +kernel
end
section
theorem xX1_isKind_0 : xdec cX1_isKind 0 = some (.iload_n 0, 1, 0, 0) := by decide +kernel
theorem xX1_isKind_1 : xdec cX1_isKind 1 = some (.iconst 0, 2, 0, 0) := by decide +kernel
theorem xX1_isKind_2 : xdec cX1_isKind 2 = some (.bipush 7, 4, 0, 7) := by decide +kernel
theorem xX1_isKind_4 : xdec cX1_isKind 4 = some (.invokestatic 11, 7, 0, 0) := by decide +kernel
theorem xX1_isKind_7 : xdec cX1_isKind 7 = some (.ireturn, 8, 0, 0) := by decide +kernel
theorem xX1_dream_0 : xdec cX1_dream 0 = some (.iload_n 0, 1, 0, 0) := by decide +kernel
theorem xX1_dream_1 : xdec cX1_dream 1 = some (.tableswitch 94 1 7 #[43, 45, 53, 61, 63, 72, 75], 44, 0, 0) := by decide +kernel
theorem xX1_dream_44 : xdec cX1_dream 44 = some (.iconst 1, 45, 0, 1) := by decide +kernel
theorem xX1_dream_45 : xdec cX1_dream 45 = some (.ireturn, 46, 0, 0) := by decide +kernel
theorem xX1_dream_46 : xdec cX1_dream 46 = some (.iload_n 2, 47, 2, 0) := by decide +kernel
theorem xX1_dream_47 : xdec cX1_dream 47 = some (.iload 4, 49, 4, 0) := by decide +kernel
theorem xX1_dream_49 : xdec cX1_dream 49 = some (.iadd, 50, 0, 0) := by decide +kernel
theorem xX1_dream_50 : xdec cX1_dream 50 = some (.bipush 10, 52, 0, 10) := by decide +kernel
theorem xX1_dream_52 : xdec cX1_dream 52 = some (.irem, 53, 0, 0) := by decide +kernel
theorem xX1_dream_53 : xdec cX1_dream 53 = some (.ireturn, 54, 0, 0) := by decide +kernel
theorem xX1_dream_54 : xdec cX1_dream 54 = some (.iload_n 1, 55, 1, 0) := by decide +kernel
theorem xX1_dream_55 : xdec cX1_dream 55 = some (.iload_n 2, 56, 2, 0) := by decide +kernel
theorem xX1_dream_56 : xdec cX1_dream 56 = some (.iload 4, 58, 4, 0) := by decide +kernel
theorem xX1_dream_58 : xdec cX1_dream 58 = some (.invokestatic 15, 61, 0, 0) := by decide +kernel
theorem xX1_dream_61 : xdec cX1_dream 61 = some (.ireturn, 62, 0, 0) := by decide +kernel
theorem xX1_dream_62 : xdec cX1_dream 62 = some (.iconst 0, 63, 0, 0) := by decide +kernel
theorem xX1_dream_63 : xdec cX1_dream 63 = some (.ireturn, 64, 0, 0) := by decide +kernel
theorem xX1_dream_64 : xdec cX1_dream 64 = some (.iload_n 3, 65, 3, 0) := by decide +kernel
theorem xX1_dream_65 : xdec cX1_dream 65 = some (.iconst 1, 66, 0, 1) := by decide +kernel
theorem xX1_dream_66 : xdec cX1_dream 66 = some (.iadd, 67, 0, 0) := by decide +kernel
theorem xX1_dream_67 : xdec cX1_dream 67 = some (.iload_n 1, 68, 1, 0) := by decide +kernel
theorem xX1_dream_68 : xdec cX1_dream 68 = some (.iadd, 69, 0, 0) := by decide +kernel
theorem xX1_dream_69 : xdec cX1_dream 69 = some (.bipush 10, 71, 0, 10) := by decide +kernel
theorem xX1_dream_71 : xdec cX1_dream 71 = some (.irem, 72, 0, 0) := by decide +kernel
theorem xX1_dream_72 : xdec cX1_dream 72 = some (.ireturn, 73, 0, 0) := by decide +kernel
theorem xX1_dream_73 : xdec cX1_dream 73 = some (.bipush 9, 75, 0, 9) := by decide +kernel
theorem xX1_dream_75 : xdec cX1_dream 75 = some (.ireturn, 76, 0, 0) := by decide +kernel
theorem xX1_dream_76 : xdec cX1_dream 76 = some (.iload 4, 78, 4, 0) := by decide +kernel
theorem xX1_dream_78 : xdec cX1_dream 78 = some (.iconst 2, 79, 0, 2) := by decide +kernel
theorem xX1_dream_79 : xdec cX1_dream 79 = some (.irem, 80, 0, 0) := by decide +kernel
theorem xX1_dream_80 : xdec cX1_dream 80 = some (.ifCond .ne 7, 83, 87, 0) := by decide +kernel
theorem xX1_dream_83 : xdec cX1_dream 83 = some (.iload_n 3, 84, 3, 0) := by decide +kernel
theorem xX1_dream_84 : xdec cX1_dream 84 = some (.goto 10, 87, 94, 0) := by decide +kernel
theorem xX1_dream_87 : xdec cX1_dream 87 = some (.iload_n 1, 88, 1, 0) := by decide +kernel
theorem xX1_dream_88 : xdec cX1_dream 88 = some (.iload_n 2, 89, 2, 0) := by decide +kernel
theorem xX1_dream_89 : xdec cX1_dream 89 = some (.iload 4, 91, 4, 0) := by decide +kernel
theorem xX1_dream_91 : xdec cX1_dream 91 = some (.invokestatic 15, 94, 0, 0) := by decide +kernel
theorem xX1_dream_94 : xdec cX1_dream 94 = some (.ireturn, 95, 0, 0) := by decide +kernel
theorem xX1_dream_95 : xdec cX1_dream 95 = some (.iload_n 2, 96, 2, 0) := by decide +kernel
theorem xX1_dream_96 : xdec cX1_dream 96 = some (.ireturn, 97, 0, 0) := by decide +kernel
theorem xX1_cooksDream_0 : xdec cX1_cooksDream 0 = some (.iload_n 0, 1, 0, 0) := by decide +kernel
theorem xX1_cooksDream_1 : xdec cX1_cooksDream 1 = some (.iconst 2, 2, 0, 2) := by decide +kernel
theorem xX1_cooksDream_2 : xdec cX1_cooksDream 2 = some (.iadd, 3, 0, 0) := by decide +kernel
theorem xX1_cooksDream_3 : xdec cX1_cooksDream 3 = some (.istore_n 3, 4, 3, 0) := by decide +kernel
theorem xX1_cooksDream_4 : xdec cX1_cooksDream 4 = some (.iload_n 3, 5, 3, 0) := by decide +kernel
theorem xX1_cooksDream_5 : xdec cX1_cooksDream 5 = some (.ifCond .le 13, 8, 18, 0) := by decide +kernel
theorem xX1_cooksDream_8 : xdec cX1_cooksDream 8 = some (.iload_n 2, 9, 2, 0) := by decide +kernel
theorem xX1_cooksDream_9 : xdec cX1_cooksDream 9 = some (.iload_n 3, 10, 3, 0) := by decide +kernel
theorem xX1_cooksDream_10 : xdec cX1_cooksDream 10 = some (.irem, 11, 0, 0) := by decide +kernel
theorem xX1_cooksDream_11 : xdec cX1_cooksDream 11 = some (.ifCond .ne 7, 14, 18, 0) := by decide +kernel
theorem xX1_cooksDream_14 : xdec cX1_cooksDream 14 = some (.iload_n 1, 15, 1, 0) := by decide +kernel
theorem xX1_cooksDream_15 : xdec cX1_cooksDream 15 = some (.goto 5, 18, 20, 0) := by decide +kernel
theorem xX1_cooksDream_18 : xdec cX1_cooksDream 18 = some (.bipush (-4), 20, 0, (-4)) := by decide +kernel
theorem xX1_cooksDream_20 : xdec cX1_cooksDream 20 = some (.ireturn, 21, 0, 0) := by decide +kernel
theorem xX1_eats_0 : xdec cX1_eats 0 = some (.iload_n 0, 1, 0, 0) := by decide +kernel
theorem xX1_eats_1 : xdec cX1_eats 1 = some (.iconst 2, 2, 0, 2) := by decide +kernel
theorem xX1_eats_2 : xdec cX1_eats 2 = some (.if_icmp .eq 9, 5, 11, 0) := by decide +kernel
theorem xX1_eats_5 : xdec cX1_eats 5 = some (.iload_n 0, 6, 0, 0) := by decide +kernel
theorem xX1_eats_6 : xdec cX1_eats 6 = some (.bipush 7, 8, 0, 7) := by decide +kernel
theorem xX1_eats_8 : xdec cX1_eats 8 = some (.if_icmp .ne 7, 11, 15, 0) := by decide +kernel
theorem xX1_eats_11 : xdec cX1_eats 11 = some (.iconst 2, 12, 0, 2) := by decide +kernel
theorem xX1_eats_12 : xdec cX1_eats 12 = some (.goto 4, 15, 16, 0) := by decide +kernel
theorem xX1_eats_15 : xdec cX1_eats 15 = some (.iconst 1, 16, 0, 1) := by decide +kernel
theorem xX1_eats_16 : xdec cX1_eats 16 = some (.ireturn, 17, 0, 0) := by decide +kernel
theorem xX1_gain_0 : xdec cX1_gain 0 = some (.iload_n 0, 1, 0, 0) := by decide +kernel
theorem xX1_gain_1 : xdec cX1_gain 1 = some (.tableswitch 71 1 7 #[43, 45, 49, 43, 54, 60, 62], 44, 0, 0) := by decide +kernel
theorem xX1_gain_44 : xdec cX1_gain 44 = some (.iconst 1, 45, 0, 1) := by decide +kernel
theorem xX1_gain_45 : xdec cX1_gain 45 = some (.ireturn, 46, 0, 0) := by decide +kernel
theorem xX1_gain_46 : xdec cX1_gain 46 = some (.iload_n 2, 47, 2, 0) := by decide +kernel
theorem xX1_gain_47 : xdec cX1_gain 47 = some (.iconst 2, 48, 0, 2) := by decide +kernel
theorem xX1_gain_48 : xdec cX1_gain 48 = some (.idiv, 49, 0, 0) := by decide +kernel
theorem xX1_gain_49 : xdec cX1_gain 49 = some (.ireturn, 50, 0, 0) := by decide +kernel
theorem xX1_gain_50 : xdec cX1_gain 50 = some (.bipush 9, 52, 0, 9) := by decide +kernel
theorem xX1_gain_52 : xdec cX1_gain 52 = some (.iload_n 2, 53, 2, 0) := by decide +kernel
theorem xX1_gain_53 : xdec cX1_gain 53 = some (.isub, 54, 0, 0) := by decide +kernel
theorem xX1_gain_54 : xdec cX1_gain 54 = some (.ireturn, 55, 0, 0) := by decide +kernel
theorem xX1_gain_55 : xdec cX1_gain 55 = some (.iload_n 2, 56, 2, 0) := by decide +kernel
theorem xX1_gain_56 : xdec cX1_gain 56 = some (.iconst 2, 57, 0, 2) := by decide +kernel
theorem xX1_gain_57 : xdec cX1_gain 57 = some (.idiv, 58, 0, 0) := by decide +kernel
theorem xX1_gain_58 : xdec cX1_gain 58 = some (.iconst 3, 59, 0, 3) := by decide +kernel
theorem xX1_gain_59 : xdec cX1_gain 59 = some (.isub, 60, 0, 0) := by decide +kernel
theorem xX1_gain_60 : xdec cX1_gain 60 = some (.ireturn, 61, 0, 0) := by decide +kernel
theorem xX1_gain_61 : xdec cX1_gain 61 = some (.iload_n 1, 62, 1, 0) := by decide +kernel
theorem xX1_gain_62 : xdec cX1_gain 62 = some (.ireturn, 63, 0, 0) := by decide +kernel
theorem xX1_gain_63 : xdec cX1_gain 63 = some (.iconst 0, 64, 0, 0) := by decide +kernel
theorem xX1_gain_64 : xdec cX1_gain 64 = some (.bipush 8, 66, 0, 8) := by decide +kernel
theorem xX1_gain_66 : xdec cX1_gain 66 = some (.iload_n 2, 67, 2, 0) := by decide +kernel
theorem xX1_gain_67 : xdec cX1_gain 67 = some (.isub, 68, 0, 0) := by decide +kernel
theorem xX1_gain_68 : xdec cX1_gain 68 = some (.invokestatic 19, 71, 0, 0) := by decide +kernel
theorem xX1_gain_71 : xdec cX1_gain 71 = some (.ireturn, 72, 0, 0) := by decide +kernel
theorem xX1_gain_72 : xdec cX1_gain 72 = some (.iload_n 2, 73, 2, 0) := by decide +kernel
theorem xX1_gain_73 : xdec cX1_gain 73 = some (.iload_n 3, 74, 3, 0) := by decide +kernel
theorem xX1_gain_74 : xdec cX1_gain 74 = some (.if_icmp .ne 7, 77, 81, 0) := by decide +kernel
theorem xX1_gain_77 : xdec cX1_gain 77 = some (.iconst 0, 78, 0, 0) := by decide +kernel
theorem xX1_gain_78 : xdec cX1_gain 78 = some (.goto 4, 81, 82, 0) := by decide +kernel
theorem xX1_gain_81 : xdec cX1_gain 81 = some (.iconst 2, 82, 0, 2) := by decide +kernel
theorem xX1_gain_82 : xdec cX1_gain 82 = some (.ireturn, 83, 0, 0) := by decide +kernel
theorem xX1_price_0 : xdec cX1_price 0 = some (.iload_n 0, 1, 0, 0) := by decide +kernel
theorem xX1_price_1 : xdec cX1_price 1 = some (.tableswitch 69 1 7 #[43, 45, 49, 52, 54, 52, 60], 44, 0, 0) := by decide +kernel
theorem xX1_price_44 : xdec cX1_price 44 = some (.iconst 1, 45, 0, 1) := by decide +kernel
theorem xX1_price_45 : xdec cX1_price 45 = some (.ireturn, 46, 0, 0) := by decide +kernel
theorem xX1_price_46 : xdec cX1_price 46 = some (.iconst 3, 47, 0, 3) := by decide +kernel
theorem xX1_price_47 : xdec cX1_price 47 = some (.iload_n 1, 48, 1, 0) := by decide +kernel
theorem xX1_price_48 : xdec cX1_price 48 = some (.iadd, 49, 0, 0) := by decide +kernel
theorem xX1_price_49 : xdec cX1_price 49 = some (.ireturn, 50, 0, 0) := by decide +kernel
theorem xX1_price_50 : xdec cX1_price 50 = some (.bipush 6, 52, 0, 6) := by decide +kernel
theorem xX1_price_52 : xdec cX1_price 52 = some (.ireturn, 53, 0, 0) := by decide +kernel
theorem xX1_price_53 : xdec cX1_price 53 = some (.iconst 0, 54, 0, 0) := by decide +kernel
theorem xX1_price_54 : xdec cX1_price 54 = some (.ireturn, 55, 0, 0) := by decide +kernel
theorem xX1_price_55 : xdec cX1_price 55 = some (.iconst 3, 56, 0, 3) := by decide +kernel
theorem xX1_price_56 : xdec cX1_price 56 = some (.iload_n 1, 57, 1, 0) := by decide +kernel
theorem xX1_price_57 : xdec cX1_price 57 = some (.iadd, 58, 0, 0) := by decide +kernel
theorem xX1_price_58 : xdec cX1_price 58 = some (.iconst 2, 59, 0, 2) := by decide +kernel
theorem xX1_price_59 : xdec cX1_price 59 = some (.idiv, 60, 0, 0) := by decide +kernel
theorem xX1_price_60 : xdec cX1_price 60 = some (.ireturn, 61, 0, 0) := by decide +kernel
theorem xX1_price_61 : xdec cX1_price 61 = some (.iconst 0, 62, 0, 0) := by decide +kernel
theorem xX1_price_62 : xdec cX1_price 62 = some (.bipush 6, 64, 0, 6) := by decide +kernel
theorem xX1_price_64 : xdec cX1_price 64 = some (.iload_n 1, 65, 1, 0) := by decide +kernel
theorem xX1_price_65 : xdec cX1_price 65 = some (.isub, 66, 0, 0) := by decide +kernel
theorem xX1_price_66 : xdec cX1_price 66 = some (.invokestatic 19, 69, 0, 0) := by decide +kernel
theorem xX1_price_69 : xdec cX1_price 69 = some (.ireturn, 70, 0, 0) := by decide +kernel
theorem xX1_price_70 : xdec cX1_price 70 = some (.iconst 3, 71, 0, 3) := by decide +kernel
theorem xX1_price_71 : xdec cX1_price 71 = some (.ireturn, 72, 0, 0) := by decide +kernel
theorem xX1_fail_0 : xdec cX1_fail 0 = some (.iload_n 1, 1, 1, 0) := by decide +kernel
theorem xX1_fail_1 : xdec cX1_fail 1 = some (.ifCond .eq 19, 4, 20, 0) := by decide +kernel
theorem xX1_fail_4 : xdec cX1_fail 4 = some (.iload_n 0, 5, 0, 0) := by decide +kernel
theorem xX1_fail_5 : xdec cX1_fail 5 = some (.iconst 1, 6, 0, 1) := by decide +kernel
theorem xX1_fail_6 : xdec cX1_fail 6 = some (.if_icmp .eq 14, 9, 20, 0) := by decide +kernel
theorem xX1_fail_9 : xdec cX1_fail 9 = some (.iload_n 0, 10, 0, 0) := by decide +kernel
theorem xX1_fail_10 : xdec cX1_fail 10 = some (.iconst 4, 11, 0, 4) := by decide +kernel
theorem xX1_fail_11 : xdec cX1_fail 11 = some (.if_icmp .eq 9, 14, 20, 0) := by decide +kernel
theorem xX1_fail_14 : xdec cX1_fail 14 = some (.iload_n 0, 15, 0, 0) := by decide +kernel
theorem xX1_fail_15 : xdec cX1_fail 15 = some (.bipush 6, 17, 0, 6) := by decide +kernel
theorem xX1_fail_17 : xdec cX1_fail 17 = some (.if_icmp .ne 4, 20, 21, 0) := by decide +kernel
theorem xX1_fail_20 : xdec cX1_fail 20 = some (.return_, 21, 0, 0) := by decide +kernel
theorem xX1_fail_21 : xdec cX1_fail 21 = some (.iload_n 0, 22, 0, 0) := by decide +kernel
theorem xX1_fail_22 : xdec cX1_fail 22 = some (.iconst 2, 23, 0, 2) := by decide +kernel
theorem xX1_fail_23 : xdec cX1_fail 23 = some (.if_icmp .eq 8, 26, 31, 0) := by decide +kernel
theorem xX1_fail_26 : xdec cX1_fail 26 = some (.iload_n 0, 27, 0, 0) := by decide +kernel
theorem xX1_fail_27 : xdec cX1_fail 27 = some (.iconst 5, 28, 0, 5) := by decide +kernel
theorem xX1_fail_28 : xdec cX1_fail 28 = some (.if_icmp .ne 13, 31, 41, 0) := by decide +kernel
theorem xX1_fail_31 : xdec cX1_fail 31 = some (.new 25, 34, 0, 0) := by decide +kernel
theorem xX1_fail_34 : xdec cX1_fail 34 = some (.dup, 35, 0, 0) := by decide +kernel
theorem xX1_fail_35 : xdec cX1_fail 35 = some (.ldc 27, 37, 27, 0) := by decide +kernel
theorem xX1_fail_37 : xdec cX1_fail 37 = some (.invokespecial 29, 40, 0, 0) := by decide +kernel
theorem xX1_fail_40 : xdec cX1_fail 40 = some (.athrow, 41, 0, 0) := by decide +kernel
theorem xX1_fail_41 : xdec cX1_fail 41 = some (.iload_n 0, 42, 0, 0) := by decide +kernel
theorem xX1_fail_42 : xdec cX1_fail 42 = some (.bipush 7, 44, 0, 7) := by decide +kernel
theorem xX1_fail_44 : xdec cX1_fail 44 = some (.if_icmp .ne 13, 47, 57, 0) := by decide +kernel
theorem xX1_fail_47 : xdec cX1_fail 47 = some (.new 32, 50, 0, 0) := by decide +kernel
theorem xX1_fail_50 : xdec cX1_fail 50 = some (.dup, 51, 0, 0) := by decide +kernel
theorem xX1_fail_51 : xdec cX1_fail 51 = some (.ldc 34, 53, 34, 0) := by decide +kernel
theorem xX1_fail_53 : xdec cX1_fail 53 = some (.invokespecial 36, 56, 0, 0) := by decide +kernel
theorem xX1_fail_56 : xdec cX1_fail 56 = some (.athrow, 57, 0, 0) := by decide +kernel
theorem xX1_fail_57 : xdec cX1_fail 57 = some (.new 37, 60, 0, 0) := by decide +kernel
theorem xX1_fail_60 : xdec cX1_fail 60 = some (.dup, 61, 0, 0) := by decide +kernel
theorem xX1_fail_61 : xdec cX1_fail 61 = some (.ldc 39, 63, 39, 0) := by decide +kernel
theorem xX1_fail_63 : xdec cX1_fail 63 = some (.invokespecial 41, 66, 0, 0) := by decide +kernel
theorem xX1_fail_66 : xdec cX1_fail 66 = some (.athrow, 67, 0, 0) := by decide +kernel
end
section
theorem xX2_init_0 : xdec cX2_init 0 = some (.aload_n 0, 1, 0, 0) := by decide +kernel
theorem xX2_init_1 : xdec cX2_init 1 = some (.invokespecial 3, 4, 0, 0) := by decide +kernel
theorem xX2_init_4 : xdec cX2_init 4 = some (.aload_n 0, 5, 0, 0) := by decide +kernel
theorem xX2_init_5 : xdec cX2_init 5 = some (.bipush 7, 7, 0, 7) := by decide +kernel
theorem xX2_init_7 : xdec cX2_init 7 = some (.newarray .int, 9, 0, 0) := by decide +kernel
theorem xX2_init_9 : xdec cX2_init 9 = some (.putfield 9, 12, 9, 0) := by decide +kernel
theorem xX2_init_12 : xdec cX2_init 12 = some (.aload_n 0, 13, 0, 0) := by decide +kernel
theorem xX2_init_13 : xdec cX2_init 13 = some (.bipush 7, 15, 0, 7) := by decide +kernel
theorem xX2_init_15 : xdec cX2_init 15 = some (.newarray .int, 17, 0, 0) := by decide +kernel
theorem xX2_init_17 : xdec cX2_init 17 = some (.putfield 15, 20, 15, 0) := by decide +kernel
theorem xX2_init_20 : xdec cX2_init 20 = some (.return_, 21, 0, 0) := by decide +kernel
theorem xX2_seat_0 : xdec cX2_seat 0 = some (.iload_n 2, 1, 2, 0) := by decide +kernel
theorem xX2_seat_1 : xdec cX2_seat 1 = some (.aload_n 1, 2, 1, 0) := by decide +kernel
theorem xX2_seat_2 : xdec cX2_seat 2 = some (.getfield 18, 5, 18, 0) := by decide +kernel
theorem xX2_seat_5 : xdec cX2_seat 5 = some (.invokestatic 24, 8, 0, 0) := by decide +kernel
theorem xX2_seat_8 : xdec cX2_seat 8 = some (.if_icmp .lt 6, 11, 14, 0) := by decide +kernel
theorem xX2_seat_11 : xdec cX2_seat 11 = some (.bipush (-4), 13, 0, (-4)) := by decide +kernel
theorem xX2_seat_13 : xdec cX2_seat 13 = some (.ireturn, 14, 0, 0) := by decide +kernel
theorem xX2_seat_14 : xdec cX2_seat 14 = some (.iconst 0, 15, 0, 0) := by decide +kernel
theorem xX2_seat_15 : xdec cX2_seat 15 = some (.istore_n 3, 16, 3, 0) := by decide +kernel
theorem xX2_seat_16 : xdec cX2_seat 16 = some (.iload_n 3, 17, 3, 0) := by decide +kernel
theorem xX2_seat_17 : xdec cX2_seat 17 = some (.aload_n 1, 18, 1, 0) := by decide +kernel
theorem xX2_seat_18 : xdec cX2_seat 18 = some (.getfield 30, 21, 30, 0) := by decide +kernel
theorem xX2_seat_21 : xdec cX2_seat 21 = some (.if_icmp .ge 20, 24, 41, 0) := by decide +kernel
theorem xX2_seat_24 : xdec cX2_seat 24 = some (.aload_n 0, 25, 0, 0) := by decide +kernel
theorem xX2_seat_25 : xdec cX2_seat 25 = some (.getfield 9, 28, 9, 0) := by decide +kernel
theorem xX2_seat_28 : xdec cX2_seat 28 = some (.iload_n 3, 29, 3, 0) := by decide +kernel
theorem xX2_seat_29 : xdec cX2_seat 29 = some (.aload_n 1, 30, 1, 0) := by decide +kernel
theorem xX2_seat_30 : xdec cX2_seat 30 = some (.iload_n 3, 31, 3, 0) := by decide +kernel
theorem xX2_seat_31 : xdec cX2_seat 31 = some (.invokevirtual 33, 34, 0, 0) := by decide +kernel
theorem xX2_seat_34 : xdec cX2_seat 34 = some (.iastore, 35, 0, 0) := by decide +kernel
theorem xX2_seat_35 : xdec cX2_seat 35 = some (.iinc 3 1, 38, 3, 1) := by decide +kernel
theorem xX2_seat_38 : xdec cX2_seat 38 = some (.goto (-22), 41, 16, 0) := by decide +kernel
theorem xX2_seat_41 : xdec cX2_seat 41 = some (.aload_n 0, 42, 0, 0) := by decide +kernel
theorem xX2_seat_42 : xdec cX2_seat 42 = some (.iconst 0, 43, 0, 0) := by decide +kernel
theorem xX2_seat_43 : xdec cX2_seat 43 = some (.aload_n 1, 44, 1, 0) := by decide +kernel
theorem xX2_seat_44 : xdec cX2_seat 44 = some (.getfield 18, 47, 18, 0) := by decide +kernel
theorem xX2_seat_47 : xdec cX2_seat 47 = some (.invokevirtual 36, 50, 0, 0) := by decide +kernel
theorem xX2_seat_50 : xdec cX2_seat 50 = some (.ifCond .eq 12, 53, 62, 0) := by decide +kernel
theorem xX2_seat_53 : xdec cX2_seat 53 = some (.aload_n 0, 54, 0, 0) := by decide +kernel
theorem xX2_seat_54 : xdec cX2_seat 54 = some (.getfield 15, 57, 15, 0) := by decide +kernel
theorem xX2_seat_57 : xdec cX2_seat 57 = some (.iload_n 2, 58, 2, 0) := by decide +kernel
theorem xX2_seat_58 : xdec cX2_seat 58 = some (.iaload, 59, 0, 0) := by decide +kernel
theorem xX2_seat_59 : xdec cX2_seat 59 = some (.goto 5, 62, 64, 0) := by decide +kernel
theorem xX2_seat_62 : xdec cX2_seat 62 = some (.bipush (-4), 64, 0, (-4)) := by decide +kernel
theorem xX2_seat_64 : xdec cX2_seat 64 = some (.ireturn, 65, 0, 0) := by decide +kernel
theorem xX2_seatRest_0 : xdec cX2_seatRest 0 = some (.iload_n 2, 1, 2, 0) := by decide +kernel
theorem xX2_seatRest_1 : xdec cX2_seatRest 1 = some (.ifCond .eq 9, 4, 10, 0) := by decide +kernel
theorem xX2_seatRest_4 : xdec cX2_seatRest 4 = some (.iload_n 1, 5, 1, 0) := by decide +kernel
theorem xX2_seatRest_5 : xdec cX2_seatRest 5 = some (.bipush 7, 7, 0, 7) := by decide +kernel
theorem xX2_seatRest_7 : xdec cX2_seatRest 7 = some (.if_icmp .lt 13, 10, 20, 0) := by decide +kernel
theorem xX2_seatRest_10 : xdec cX2_seatRest 10 = some (.iload_n 2, 11, 2, 0) := by decide +kernel
theorem xX2_seatRest_11 : xdec cX2_seatRest 11 = some (.ifCond .ne 7, 14, 18, 0) := by decide +kernel
theorem xX2_seatRest_14 : xdec cX2_seatRest 14 = some (.iconst 1, 15, 0, 1) := by decide +kernel
theorem xX2_seatRest_15 : xdec cX2_seatRest 15 = some (.goto 4, 18, 19, 0) := by decide +kernel
theorem xX2_seatRest_18 : xdec cX2_seatRest 18 = some (.iconst 0, 19, 0, 0) := by decide +kernel
theorem xX2_seatRest_19 : xdec cX2_seatRest 19 = some (.ireturn, 20, 0, 0) := by decide +kernel
theorem xX2_seatRest_20 : xdec cX2_seatRest 20 = some (.iconst 0, 21, 0, 0) := by decide +kernel
theorem xX2_seatRest_21 : xdec cX2_seatRest 21 = some (.istore_n 3, 22, 3, 0) := by decide +kernel
theorem xX2_seatRest_22 : xdec cX2_seatRest 22 = some (.iload_n 3, 23, 3, 0) := by decide +kernel
theorem xX2_seatRest_23 : xdec cX2_seatRest 23 = some (.bipush 7, 25, 0, 7) := by decide +kernel
theorem xX2_seatRest_25 : xdec cX2_seatRest 25 = some (.if_icmp .ge 52, 28, 77, 0) := by decide +kernel
theorem xX2_seatRest_28 : xdec cX2_seatRest 28 = some (.iload_n 2, 29, 2, 0) := by decide +kernel
theorem xX2_seatRest_29 : xdec cX2_seatRest 29 = some (.iload_n 3, 30, 3, 0) := by decide +kernel
theorem xX2_seatRest_30 : xdec cX2_seatRest 30 = some (.ishr, 31, 0, 0) := by decide +kernel
theorem xX2_seatRest_31 : xdec cX2_seatRest 31 = some (.iconst 1, 32, 0, 1) := by decide +kernel
theorem xX2_seatRest_32 : xdec cX2_seatRest 32 = some (.iand, 33, 0, 0) := by decide +kernel
theorem xX2_seatRest_33 : xdec cX2_seatRest 33 = some (.ifCond .eq 38, 36, 71, 0) := by decide +kernel
theorem xX2_seatRest_36 : xdec cX2_seatRest 36 = some (.aload_n 0, 37, 0, 0) := by decide +kernel
theorem xX2_seatRest_37 : xdec cX2_seatRest 37 = some (.iload_n 1, 38, 1, 0) := by decide +kernel
theorem xX2_seatRest_38 : xdec cX2_seatRest 38 = some (.iload_n 3, 39, 3, 0) := by decide +kernel
theorem xX2_seatRest_39 : xdec cX2_seatRest 39 = some (.invokevirtual 40, 42, 0, 0) := by decide +kernel
theorem xX2_seatRest_42 : xdec cX2_seatRest 42 = some (.ifCond .eq 29, 45, 71, 0) := by decide +kernel
theorem xX2_seatRest_45 : xdec cX2_seatRest 45 = some (.aload_n 0, 46, 0, 0) := by decide +kernel
theorem xX2_seatRest_46 : xdec cX2_seatRest 46 = some (.getfield 15, 49, 15, 0) := by decide +kernel
theorem xX2_seatRest_49 : xdec cX2_seatRest 49 = some (.iload_n 1, 50, 1, 0) := by decide +kernel
theorem xX2_seatRest_50 : xdec cX2_seatRest 50 = some (.iload_n 3, 51, 3, 0) := by decide +kernel
theorem xX2_seatRest_51 : xdec cX2_seatRest 51 = some (.iastore, 52, 0, 0) := by decide +kernel
theorem xX2_seatRest_52 : xdec cX2_seatRest 52 = some (.aload_n 0, 53, 0, 0) := by decide +kernel
theorem xX2_seatRest_53 : xdec cX2_seatRest 53 = some (.iload_n 1, 54, 1, 0) := by decide +kernel
theorem xX2_seatRest_54 : xdec cX2_seatRest 54 = some (.iconst 1, 55, 0, 1) := by decide +kernel
theorem xX2_seatRest_55 : xdec cX2_seatRest 55 = some (.iadd, 56, 0, 0) := by decide +kernel
theorem xX2_seatRest_56 : xdec cX2_seatRest 56 = some (.iload_n 2, 57, 2, 0) := by decide +kernel
theorem xX2_seatRest_57 : xdec cX2_seatRest 57 = some (.iconst 1, 58, 0, 1) := by decide +kernel
theorem xX2_seatRest_58 : xdec cX2_seatRest 58 = some (.iload_n 3, 59, 3, 0) := by decide +kernel
theorem xX2_seatRest_59 : xdec cX2_seatRest 59 = some (.ishl, 60, 0, 0) := by decide +kernel
theorem xX2_seatRest_60 : xdec cX2_seatRest 60 = some (.iconst (-1), 61, 0, (-1)) := by decide +kernel
theorem xX2_seatRest_61 : xdec cX2_seatRest 61 = some (.ixor, 62, 0, 0) := by decide +kernel
theorem xX2_seatRest_62 : xdec cX2_seatRest 62 = some (.iand, 63, 0, 0) := by decide +kernel
theorem xX2_seatRest_63 : xdec cX2_seatRest 63 = some (.invokevirtual 36, 66, 0, 0) := by decide +kernel
theorem xX2_seatRest_66 : xdec cX2_seatRest 66 = some (.ifCond .eq 5, 69, 71, 0) := by decide +kernel
theorem xX2_seatRest_69 : xdec cX2_seatRest 69 = some (.iconst 1, 70, 0, 1) := by decide +kernel
theorem xX2_seatRest_70 : xdec cX2_seatRest 70 = some (.ireturn, 71, 0, 0) := by decide +kernel
theorem xX2_seatRest_71 : xdec cX2_seatRest 71 = some (.iinc 3 1, 74, 3, 1) := by decide +kernel
theorem xX2_seatRest_74 : xdec cX2_seatRest 74 = some (.goto (-52), 77, 22, 0) := by decide +kernel
theorem xX2_seatRest_77 : xdec cX2_seatRest 77 = some (.iconst 0, 78, 0, 0) := by decide +kernel
theorem xX2_seatRest_78 : xdec cX2_seatRest 78 = some (.ireturn, 79, 0, 0) := by decide +kernel
theorem xX2_fits_0 : xdec cX2_fits 0 = some (.iload_n 1, 1, 1, 0) := by decide +kernel
theorem xX2_fits_1 : xdec cX2_fits 1 = some (.ifCond .eq 36, 4, 37, 0) := by decide +kernel
theorem xX2_fits_4 : xdec cX2_fits 4 = some (.aload_n 0, 5, 0, 0) := by decide +kernel
theorem xX2_fits_5 : xdec cX2_fits 5 = some (.getfield 9, 8, 9, 0) := by decide +kernel
theorem xX2_fits_8 : xdec cX2_fits 8 = some (.iload_n 2, 9, 2, 0) := by decide +kernel
theorem xX2_fits_9 : xdec cX2_fits 9 = some (.iaload, 10, 0, 0) := by decide +kernel
theorem xX2_fits_10 : xdec cX2_fits 10 = some (.bipush (-4), 12, 0, (-4)) := by decide +kernel
theorem xX2_fits_12 : xdec cX2_fits 12 = some (.if_icmp .eq 25, 15, 37, 0) := by decide +kernel
theorem xX2_fits_15 : xdec cX2_fits 15 = some (.aload_n 0, 16, 0, 0) := by decide +kernel
theorem xX2_fits_16 : xdec cX2_fits 16 = some (.getfield 9, 19, 9, 0) := by decide +kernel
theorem xX2_fits_19 : xdec cX2_fits 19 = some (.iload_n 2, 20, 2, 0) := by decide +kernel
theorem xX2_fits_20 : xdec cX2_fits 20 = some (.iaload, 21, 0, 0) := by decide +kernel
theorem xX2_fits_21 : xdec cX2_fits 21 = some (.aload_n 0, 22, 0, 0) := by decide +kernel
theorem xX2_fits_22 : xdec cX2_fits 22 = some (.getfield 9, 25, 9, 0) := by decide +kernel
theorem xX2_fits_25 : xdec cX2_fits 25 = some (.aload_n 0, 26, 0, 0) := by decide +kernel
theorem xX2_fits_26 : xdec cX2_fits 26 = some (.getfield 15, 29, 15, 0) := by decide +kernel
theorem xX2_fits_29 : xdec cX2_fits 29 = some (.iload_n 1, 30, 1, 0) := by decide +kernel
theorem xX2_fits_30 : xdec cX2_fits 30 = some (.iconst 1, 31, 0, 1) := by decide +kernel
theorem xX2_fits_31 : xdec cX2_fits 31 = some (.isub, 32, 0, 0) := by decide +kernel
theorem xX2_fits_32 : xdec cX2_fits 32 = some (.iaload, 33, 0, 0) := by decide +kernel
theorem xX2_fits_33 : xdec cX2_fits 33 = some (.iaload, 34, 0, 0) := by decide +kernel
theorem xX2_fits_34 : xdec cX2_fits 34 = some (.if_icmp .eq 7, 37, 41, 0) := by decide +kernel
theorem xX2_fits_37 : xdec cX2_fits 37 = some (.iconst 1, 38, 0, 1) := by decide +kernel
theorem xX2_fits_38 : xdec cX2_fits 38 = some (.goto 4, 41, 42, 0) := by decide +kernel
theorem xX2_fits_41 : xdec cX2_fits 41 = some (.iconst 0, 42, 0, 0) := by decide +kernel
theorem xX2_fits_42 : xdec cX2_fits 42 = some (.ireturn, 43, 0, 0) := by decide +kernel
end
section
theorem xX3_init_0 : xdec cX3_init 0 = some (.aload_n 0, 1, 0, 0) := by decide +kernel
theorem xX3_init_1 : xdec cX3_init 1 = some (.invokespecial 3, 4, 0, 0) := by decide +kernel
theorem xX3_init_4 : xdec cX3_init 4 = some (.aload_n 0, 5, 0, 0) := by decide +kernel
theorem xX3_init_5 : xdec cX3_init 5 = some (.iconst 0, 6, 0, 0) := by decide +kernel
theorem xX3_init_6 : xdec cX3_init 6 = some (.putfield 11, 9, 11, 0) := by decide +kernel
theorem xX3_init_9 : xdec cX3_init 9 = some (.aload_n 0, 10, 0, 0) := by decide +kernel
theorem xX3_init_10 : xdec cX3_init 10 = some (.bipush 100, 12, 0, 100) := by decide +kernel
theorem xX3_init_12 : xdec cX3_init 12 = some (.newarray .int, 14, 0, 0) := by decide +kernel
theorem xX3_init_14 : xdec cX3_init 14 = some (.putfield 15, 17, 15, 0) := by decide +kernel
theorem xX3_init_17 : xdec cX3_init 17 = some (.return_, 18, 0, 0) := by decide +kernel
theorem xX3_isSort_0 : xdec cX3_isSort 0 = some (.iload_n 0, 1, 0, 0) := by decide +kernel
theorem xX3_isSort_1 : xdec cX3_isSort 1 = some (.iconst 0, 2, 0, 0) := by decide +kernel
theorem xX3_isSort_2 : xdec cX3_isSort 2 = some (.iconst 2, 3, 0, 2) := by decide +kernel
theorem xX3_isSort_3 : xdec cX3_isSort 3 = some (.invokestatic 19, 6, 0, 0) := by decide +kernel
theorem xX3_isSort_6 : xdec cX3_isSort 6 = some (.ireturn, 7, 0, 0) := by decide +kernel
theorem xX3_lowestBits_0 : xdec cX3_lowestBits 0 = some (.iload_n 0, 1, 0, 0) := by decide +kernel
theorem xX3_lowestBits_1 : xdec cX3_lowestBits 1 = some (.ifCond .ne 6, 4, 7, 0) := by decide +kernel
theorem xX3_lowestBits_4 : xdec cX3_lowestBits 4 = some (.iload_n 1, 5, 1, 0) := by decide +kernel
theorem xX3_lowestBits_5 : xdec cX3_lowestBits 5 = some (.i2b, 6, 0, 0) := by decide +kernel
theorem xX3_lowestBits_6 : xdec cX3_lowestBits 6 = some (.ireturn, 7, 0, 0) := by decide +kernel
theorem xX3_lowestBits_7 : xdec cX3_lowestBits 7 = some (.iload_n 0, 8, 0, 0) := by decide +kernel
theorem xX3_lowestBits_8 : xdec cX3_lowestBits 8 = some (.iconst 1, 9, 0, 1) := by decide +kernel
theorem xX3_lowestBits_9 : xdec cX3_lowestBits 9 = some (.if_icmp .ne 8, 12, 17, 0) := by decide +kernel
theorem xX3_lowestBits_12 : xdec cX3_lowestBits 12 = some (.iload_n 1, 13, 1, 0) := by decide +kernel
theorem xX3_lowestBits_13 : xdec cX3_lowestBits 13 = some (.i2s, 14, 0, 0) := by decide +kernel
theorem xX3_lowestBits_14 : xdec cX3_lowestBits 14 = some (.goto 4, 17, 18, 0) := by decide +kernel
theorem xX3_lowestBits_17 : xdec cX3_lowestBits 17 = some (.iload_n 1, 18, 1, 0) := by decide +kernel
theorem xX3_lowestBits_18 : xdec cX3_lowestBits 18 = some (.ireturn, 19, 0, 0) := by decide +kernel
theorem xX3_holdNothing_0 : xdec cX3_holdNothing 0 = some (.aload_n 0, 1, 0, 0) := by decide +kernel
theorem xX3_holdNothing_1 : xdec cX3_holdNothing 1 = some (.iconst 0, 2, 0, 0) := by decide +kernel
theorem xX3_holdNothing_2 : xdec cX3_holdNothing 2 = some (.putfield 11, 5, 11, 0) := by decide +kernel
theorem xX3_holdNothing_5 : xdec cX3_holdNothing 5 = some (.return_, 6, 0, 0) := by decide +kernel
theorem xX3_holdKind_0 : xdec cX3_holdKind 0 = some (.aload_n 0, 1, 0, 0) := by decide +kernel
theorem xX3_holdKind_1 : xdec cX3_holdKind 1 = some (.iconst 1, 2, 0, 1) := by decide +kernel
theorem xX3_holdKind_2 : xdec cX3_holdKind 2 = some (.putfield 11, 5, 11, 0) := by decide +kernel
theorem xX3_holdKind_5 : xdec cX3_holdKind 5 = some (.aload_n 0, 6, 0, 0) := by decide +kernel
theorem xX3_holdKind_6 : xdec cX3_holdKind 6 = some (.iload_n 1, 7, 1, 0) := by decide +kernel
theorem xX3_holdKind_7 : xdec cX3_holdKind 7 = some (.putfield 23, 10, 23, 0) := by decide +kernel
theorem xX3_holdKind_10 : xdec cX3_holdKind 10 = some (.aload_n 0, 11, 0, 0) := by decide +kernel
theorem xX3_holdKind_11 : xdec cX3_holdKind 11 = some (.iload_n 2, 12, 2, 0) := by decide +kernel
theorem xX3_holdKind_12 : xdec cX3_holdKind 12 = some (.putfield 26, 15, 26, 0) := by decide +kernel
theorem xX3_holdKind_15 : xdec cX3_holdKind 15 = some (.return_, 16, 0, 0) := by decide +kernel
theorem xX3_holdRow_0 : xdec cX3_holdRow 0 = some (.aload_n 0, 1, 0, 0) := by decide +kernel
theorem xX3_holdRow_1 : xdec cX3_holdRow 1 = some (.iconst 2, 2, 0, 2) := by decide +kernel
theorem xX3_holdRow_2 : xdec cX3_holdRow 2 = some (.putfield 11, 5, 11, 0) := by decide +kernel
theorem xX3_holdRow_5 : xdec cX3_holdRow 5 = some (.aload_n 0, 6, 0, 0) := by decide +kernel
theorem xX3_holdRow_6 : xdec cX3_holdRow 6 = some (.iload_n 1, 7, 1, 0) := by decide +kernel
theorem xX3_holdRow_7 : xdec cX3_holdRow 7 = some (.putfield 29, 10, 29, 0) := by decide +kernel
theorem xX3_holdRow_10 : xdec cX3_holdRow 10 = some (.aload_n 0, 11, 0, 0) := by decide +kernel
theorem xX3_holdRow_11 : xdec cX3_holdRow 11 = some (.iload_n 2, 12, 2, 0) := by decide +kernel
theorem xX3_holdRow_12 : xdec cX3_holdRow 12 = some (.putfield 32, 15, 32, 0) := by decide +kernel
theorem xX3_holdRow_15 : xdec cX3_holdRow 15 = some (.iconst 0, 16, 0, 0) := by decide +kernel
theorem xX3_holdRow_16 : xdec cX3_holdRow 16 = some (.istore_n 3, 17, 3, 0) := by decide +kernel
theorem xX3_holdRow_17 : xdec cX3_holdRow 17 = some (.iload_n 3, 18, 3, 0) := by decide +kernel
theorem xX3_holdRow_18 : xdec cX3_holdRow 18 = some (.iload_n 2, 19, 2, 0) := by decide +kernel
theorem xX3_holdRow_19 : xdec cX3_holdRow 19 = some (.if_icmp .ge 22, 22, 41, 0) := by decide +kernel
theorem xX3_holdRow_22 : xdec cX3_holdRow 22 = some (.iload_n 3, 23, 3, 0) := by decide +kernel
theorem xX3_holdRow_23 : xdec cX3_holdRow 23 = some (.bipush 100, 25, 0, 100) := by decide +kernel
theorem xX3_holdRow_25 : xdec cX3_holdRow 25 = some (.if_icmp .ge 16, 28, 41, 0) := by decide +kernel
theorem xX3_holdRow_28 : xdec cX3_holdRow 28 = some (.aload_n 0, 29, 0, 0) := by decide +kernel
theorem xX3_holdRow_29 : xdec cX3_holdRow 29 = some (.getfield 15, 32, 15, 0) := by decide +kernel
theorem xX3_holdRow_32 : xdec cX3_holdRow 32 = some (.iload_n 3, 33, 3, 0) := by decide +kernel
theorem xX3_holdRow_33 : xdec cX3_holdRow 33 = some (.iconst 0, 34, 0, 0) := by decide +kernel
theorem xX3_holdRow_34 : xdec cX3_holdRow 34 = some (.iastore, 35, 0, 0) := by decide +kernel
theorem xX3_holdRow_35 : xdec cX3_holdRow 35 = some (.iinc 3 1, 38, 3, 1) := by decide +kernel
theorem xX3_holdRow_38 : xdec cX3_holdRow 38 = some (.goto (-21), 41, 17, 0) := by decide +kernel
theorem xX3_holdRow_41 : xdec cX3_holdRow 41 = some (.return_, 42, 0, 0) := by decide +kernel
theorem xX3_hasCell_0 : xdec cX3_hasCell 0 = some (.iload_n 1, 1, 1, 0) := by decide +kernel
theorem xX3_hasCell_1 : xdec cX3_hasCell 1 = some (.iconst 0, 2, 0, 0) := by decide +kernel
theorem xX3_hasCell_2 : xdec cX3_hasCell 2 = some (.aload_n 0, 3, 0, 0) := by decide +kernel
theorem xX3_hasCell_3 : xdec cX3_hasCell 3 = some (.getfield 32, 6, 32, 0) := by decide +kernel
theorem xX3_hasCell_6 : xdec cX3_hasCell 6 = some (.iconst 1, 7, 0, 1) := by decide +kernel
theorem xX3_hasCell_7 : xdec cX3_hasCell 7 = some (.isub, 8, 0, 0) := by decide +kernel
theorem xX3_hasCell_8 : xdec cX3_hasCell 8 = some (.invokestatic 19, 11, 0, 0) := by decide +kernel
theorem xX3_hasCell_11 : xdec cX3_hasCell 11 = some (.ireturn, 12, 0, 0) := by decide +kernel
theorem xX3_hasCells_0 : xdec cX3_hasCells 0 = some (.iload_n 1, 1, 1, 0) := by decide +kernel
theorem xX3_hasCells_1 : xdec cX3_hasCells 1 = some (.ifCond .lt 29, 4, 30, 0) := by decide +kernel
theorem xX3_hasCells_4 : xdec cX3_hasCells 4 = some (.iload_n 2, 5, 2, 0) := by decide +kernel
theorem xX3_hasCells_5 : xdec cX3_hasCells 5 = some (.ifCond .lt 25, 8, 30, 0) := by decide +kernel
theorem xX3_hasCells_8 : xdec cX3_hasCells 8 = some (.iload_n 1, 9, 1, 0) := by decide +kernel
theorem xX3_hasCells_9 : xdec cX3_hasCells 9 = some (.aload_n 0, 10, 0, 0) := by decide +kernel
theorem xX3_hasCells_10 : xdec cX3_hasCells 10 = some (.getfield 32, 13, 32, 0) := by decide +kernel
theorem xX3_hasCells_13 : xdec cX3_hasCells 13 = some (.if_icmp .gt 17, 16, 30, 0) := by decide +kernel
theorem xX3_hasCells_16 : xdec cX3_hasCells 16 = some (.iload_n 2, 17, 2, 0) := by decide +kernel
theorem xX3_hasCells_17 : xdec cX3_hasCells 17 = some (.aload_n 0, 18, 0, 0) := by decide +kernel
theorem xX3_hasCells_18 : xdec cX3_hasCells 18 = some (.getfield 32, 21, 32, 0) := by decide +kernel
theorem xX3_hasCells_21 : xdec cX3_hasCells 21 = some (.iload_n 1, 22, 1, 0) := by decide +kernel
theorem xX3_hasCells_22 : xdec cX3_hasCells 22 = some (.isub, 23, 0, 0) := by decide +kernel
theorem xX3_hasCells_23 : xdec cX3_hasCells 23 = some (.if_icmp .gt 7, 26, 30, 0) := by decide +kernel
theorem xX3_hasCells_26 : xdec cX3_hasCells 26 = some (.iconst 1, 27, 0, 1) := by decide +kernel
theorem xX3_hasCells_27 : xdec cX3_hasCells 27 = some (.goto 4, 30, 31, 0) := by decide +kernel
theorem xX3_hasCells_30 : xdec cX3_hasCells 30 = some (.iconst 0, 31, 0, 0) := by decide +kernel
theorem xX3_hasCells_31 : xdec cX3_hasCells 31 = some (.ireturn, 32, 0, 0) := by decide +kernel
theorem xX3_isSo_0 : xdec cX3_isSo 0 = some (.aload_n 0, 1, 0, 0) := by decide +kernel
theorem xX3_isSo_1 : xdec cX3_isSo 1 = some (.getfield 15, 4, 15, 0) := by decide +kernel
theorem xX3_isSo_4 : xdec cX3_isSo 4 = some (.iload_n 1, 5, 1, 0) := by decide +kernel
theorem xX3_isSo_5 : xdec cX3_isSo 5 = some (.iaload, 6, 0, 0) := by decide +kernel
theorem xX3_isSo_6 : xdec cX3_isSo 6 = some (.iload_n 2, 7, 2, 0) := by decide +kernel
theorem xX3_isSo_7 : xdec cX3_isSo 7 = some (.if_icmp .eq 16, 10, 23, 0) := by decide +kernel
theorem xX3_isSo_10 : xdec cX3_isSo 10 = some (.aload_n 0, 11, 0, 0) := by decide +kernel
theorem xX3_isSo_11 : xdec cX3_isSo 11 = some (.getfield 15, 14, 15, 0) := by decide +kernel
theorem xX3_isSo_14 : xdec cX3_isSo 14 = some (.iload_n 1, 15, 1, 0) := by decide +kernel
theorem xX3_isSo_15 : xdec cX3_isSo 15 = some (.iaload, 16, 0, 0) := by decide +kernel
theorem xX3_isSo_16 : xdec cX3_isSo 16 = some (.aload_n 0, 17, 0, 0) := by decide +kernel
theorem xX3_isSo_17 : xdec cX3_isSo 17 = some (.invokevirtual 35, 20, 0, 0) := by decide +kernel
theorem xX3_isSo_20 : xdec cX3_isSo 20 = some (.if_icmp .ne 7, 23, 27, 0) := by decide +kernel
theorem xX3_isSo_23 : xdec cX3_isSo 23 = some (.iconst 1, 24, 0, 1) := by decide +kernel
theorem xX3_isSo_24 : xdec cX3_isSo 24 = some (.goto 4, 27, 28, 0) := by decide +kernel
theorem xX3_isSo_27 : xdec cX3_isSo 27 = some (.iconst 0, 28, 0, 0) := by decide +kernel
theorem xX3_isSo_28 : xdec cX3_isSo 28 = some (.ireturn, 29, 0, 0) := by decide +kernel
theorem xX3_leastNumber_0 : xdec cX3_leastNumber 0 = some (.aload_n 0, 1, 0, 0) := by decide +kernel
theorem xX3_leastNumber_1 : xdec cX3_leastNumber 1 = some (.getfield 29, 4, 29, 0) := by decide +kernel
theorem xX3_leastNumber_4 : xdec cX3_leastNumber 4 = some (.ifCond .ne 6, 7, 10, 0) := by decide +kernel
theorem xX3_leastNumber_7 : xdec cX3_leastNumber 7 = some (.bipush (-128), 9, 0, (-128)) := by decide +kernel
theorem xX3_leastNumber_9 : xdec cX3_leastNumber 9 = some (.ireturn, 10, 0, 0) := by decide +kernel
theorem xX3_leastNumber_10 : xdec cX3_leastNumber 10 = some (.aload_n 0, 11, 0, 0) := by decide +kernel
theorem xX3_leastNumber_11 : xdec cX3_leastNumber 11 = some (.getfield 29, 14, 29, 0) := by decide +kernel
theorem xX3_leastNumber_14 : xdec cX3_leastNumber 14 = some (.iconst 1, 15, 0, 1) := by decide +kernel
theorem xX3_leastNumber_15 : xdec cX3_leastNumber 15 = some (.if_icmp .ne 9, 18, 24, 0) := by decide +kernel
theorem xX3_leastNumber_18 : xdec cX3_leastNumber 18 = some (.sipush (-32768), 21, 0, (-32768)) := by decide +kernel
theorem xX3_leastNumber_21 : xdec cX3_leastNumber 21 = some (.goto 5, 24, 26, 0) := by decide +kernel
theorem xX3_leastNumber_24 : xdec cX3_leastNumber 24 = some (.ldc 39, 26, 39, 0) := by decide +kernel
theorem xX3_leastNumber_26 : xdec cX3_leastNumber 26 = some (.ireturn, 27, 0, 0) := by decide +kernel
end
section
theorem xX4_digitsBehind_0 : xdec cX4_digitsBehind 0 = some (.iload_n 0, 1, 0, 0) := by decide +kernel
theorem xX4_digitsBehind_1 : xdec cX4_digitsBehind 1 = some (.tableswitch 107 98 119 #[105, 107, 105, 105, 107, 103, 103, 107, 107, 107, 103, 107, 107, 107, 107, 107, 107, 107, 107, 107, 107, 105], 104, 0, 0) := by decide +kernel
theorem xX4_digitsBehind_104 : xdec cX4_digitsBehind 104 = some (.iconst 3, 105, 0, 3) := by decide +kernel
theorem xX4_digitsBehind_105 : xdec cX4_digitsBehind 105 = some (.ireturn, 106, 0, 0) := by decide +kernel
theorem xX4_digitsBehind_106 : xdec cX4_digitsBehind 106 = some (.iconst 2, 107, 0, 2) := by decide +kernel
theorem xX4_digitsBehind_107 : xdec cX4_digitsBehind 107 = some (.ireturn, 108, 0, 0) := by decide +kernel
theorem xX4_digitsBehind_108 : xdec cX4_digitsBehind 108 = some (.iconst 0, 109, 0, 0) := by decide +kernel
theorem xX4_digitsBehind_109 : xdec cX4_digitsBehind 109 = some (.ireturn, 110, 0, 0) := by decide +kernel
theorem xX4_placeOfBadByte_0 : xdec cX4_placeOfBadByte 0 = some (.iconst (-1), 1, 0, (-1)) := by decide +kernel
theorem xX4_placeOfBadByte_1 : xdec cX4_placeOfBadByte 1 = some (.istore_n 1, 2, 1, 0) := by decide +kernel
theorem xX4_placeOfBadByte_2 : xdec cX4_placeOfBadByte 2 = some (.iconst 0, 3, 0, 0) := by decide +kernel
theorem xX4_placeOfBadByte_3 : xdec cX4_placeOfBadByte 3 = some (.istore_n 2, 4, 2, 0) := by decide +kernel
theorem xX4_placeOfBadByte_4 : xdec cX4_placeOfBadByte 4 = some (.iload_n 2, 5, 2, 0) := by decide +kernel
theorem xX4_placeOfBadByte_5 : xdec cX4_placeOfBadByte 5 = some (.aload_n 0, 6, 0, 0) := by decide +kernel
theorem xX4_placeOfBadByte_6 : xdec cX4_placeOfBadByte 6 = some (.getfield 11, 9, 11, 0) := by decide +kernel
theorem xX4_placeOfBadByte_9 : xdec cX4_placeOfBadByte 9 = some (.if_icmp .ge 64, 12, 73, 0) := by decide +kernel
theorem xX4_placeOfBadByte_12 : xdec cX4_placeOfBadByte 12 = some (.aload_n 0, 13, 0, 0) := by decide +kernel
theorem xX4_placeOfBadByte_13 : xdec cX4_placeOfBadByte 13 = some (.getfield 17, 16, 17, 0) := by decide +kernel
theorem xX4_placeOfBadByte_16 : xdec cX4_placeOfBadByte 16 = some (.iload_n 2, 17, 2, 0) := by decide +kernel
theorem xX4_placeOfBadByte_17 : xdec cX4_placeOfBadByte 17 = some (.iaload, 18, 0, 0) := by decide +kernel
theorem xX4_placeOfBadByte_18 : xdec cX4_placeOfBadByte 18 = some (.istore_n 3, 19, 3, 0) := by decide +kernel
theorem xX4_placeOfBadByte_19 : xdec cX4_placeOfBadByte 19 = some (.iload_n 1, 20, 1, 0) := by decide +kernel
theorem xX4_placeOfBadByte_20 : xdec cX4_placeOfBadByte 20 = some (.iconst (-1), 21, 0, (-1)) := by decide +kernel
theorem xX4_placeOfBadByte_21 : xdec cX4_placeOfBadByte 21 = some (.if_icmp .ne 14, 24, 35, 0) := by decide +kernel
theorem xX4_placeOfBadByte_24 : xdec cX4_placeOfBadByte 24 = some (.iload_n 3, 25, 3, 0) := by decide +kernel
theorem xX4_placeOfBadByte_25 : xdec cX4_placeOfBadByte 25 = some (.invokestatic 21, 28, 0, 0) := by decide +kernel
theorem xX4_placeOfBadByte_28 : xdec cX4_placeOfBadByte 28 = some (.istore_n 1, 29, 1, 0) := by decide +kernel
theorem xX4_placeOfBadByte_29 : xdec cX4_placeOfBadByte 29 = some (.iload_n 1, 30, 1, 0) := by decide +kernel
theorem xX4_placeOfBadByte_30 : xdec cX4_placeOfBadByte 30 = some (.ifCond .ne 37, 33, 67, 0) := by decide +kernel
theorem xX4_placeOfBadByte_33 : xdec cX4_placeOfBadByte 33 = some (.iload_n 2, 34, 2, 0) := by decide +kernel
theorem xX4_placeOfBadByte_34 : xdec cX4_placeOfBadByte 34 = some (.ireturn, 35, 0, 0) := by decide +kernel
theorem xX4_placeOfBadByte_35 : xdec cX4_placeOfBadByte 35 = some (.iload_n 1, 36, 1, 0) := by decide +kernel
theorem xX4_placeOfBadByte_36 : xdec cX4_placeOfBadByte 36 = some (.ifCond .le 21, 39, 57, 0) := by decide +kernel
theorem xX4_placeOfBadByte_39 : xdec cX4_placeOfBadByte 39 = some (.iload_n 3, 40, 3, 0) := by decide +kernel
theorem xX4_placeOfBadByte_40 : xdec cX4_placeOfBadByte 40 = some (.bipush 48, 42, 0, 48) := by decide +kernel
theorem xX4_placeOfBadByte_42 : xdec cX4_placeOfBadByte 42 = some (.isub, 43, 0, 0) := by decide +kernel
theorem xX4_placeOfBadByte_43 : xdec cX4_placeOfBadByte 43 = some (.invokestatic 25, 46, 0, 0) := by decide +kernel
theorem xX4_placeOfBadByte_46 : xdec cX4_placeOfBadByte 46 = some (.ifCond .ne 5, 49, 51, 0) := by decide +kernel
theorem xX4_placeOfBadByte_49 : xdec cX4_placeOfBadByte 49 = some (.iload_n 2, 50, 2, 0) := by decide +kernel
theorem xX4_placeOfBadByte_50 : xdec cX4_placeOfBadByte 50 = some (.ireturn, 51, 0, 0) := by decide +kernel
theorem xX4_placeOfBadByte_51 : xdec cX4_placeOfBadByte 51 = some (.iinc 1 (-1), 54, 1, (-1)) := by decide +kernel
theorem xX4_placeOfBadByte_54 : xdec cX4_placeOfBadByte 54 = some (.goto 13, 57, 67, 0) := by decide +kernel
theorem xX4_placeOfBadByte_57 : xdec cX4_placeOfBadByte 57 = some (.iload_n 3, 58, 3, 0) := by decide +kernel
theorem xX4_placeOfBadByte_58 : xdec cX4_placeOfBadByte 58 = some (.bipush 59, 60, 0, 59) := by decide +kernel
theorem xX4_placeOfBadByte_60 : xdec cX4_placeOfBadByte 60 = some (.if_icmp .eq 5, 63, 65, 0) := by decide +kernel
theorem xX4_placeOfBadByte_63 : xdec cX4_placeOfBadByte 63 = some (.iload_n 2, 64, 2, 0) := by decide +kernel
theorem xX4_placeOfBadByte_64 : xdec cX4_placeOfBadByte 64 = some (.ireturn, 65, 0, 0) := by decide +kernel
theorem xX4_placeOfBadByte_65 : xdec cX4_placeOfBadByte 65 = some (.iconst (-1), 66, 0, (-1)) := by decide +kernel
theorem xX4_placeOfBadByte_66 : xdec cX4_placeOfBadByte 66 = some (.istore_n 1, 67, 1, 0) := by decide +kernel
theorem xX4_placeOfBadByte_67 : xdec cX4_placeOfBadByte 67 = some (.iinc 2 1, 70, 2, 1) := by decide +kernel
theorem xX4_placeOfBadByte_70 : xdec cX4_placeOfBadByte 70 = some (.goto (-66), 73, 4, 0) := by decide +kernel
theorem xX4_placeOfBadByte_73 : xdec cX4_placeOfBadByte 73 = some (.aload_n 0, 74, 0, 0) := by decide +kernel
theorem xX4_placeOfBadByte_74 : xdec cX4_placeOfBadByte 74 = some (.getfield 11, 77, 11, 0) := by decide +kernel
theorem xX4_placeOfBadByte_77 : xdec cX4_placeOfBadByte 77 = some (.ifCond .le 12, 80, 89, 0) := by decide +kernel
theorem xX4_placeOfBadByte_80 : xdec cX4_placeOfBadByte 80 = some (.iload_n 1, 81, 1, 0) := by decide +kernel
theorem xX4_placeOfBadByte_81 : xdec cX4_placeOfBadByte 81 = some (.iconst (-1), 82, 0, (-1)) := by decide +kernel
theorem xX4_placeOfBadByte_82 : xdec cX4_placeOfBadByte 82 = some (.if_icmp .ne 7, 85, 89, 0) := by decide +kernel
theorem xX4_placeOfBadByte_85 : xdec cX4_placeOfBadByte 85 = some (.iconst 1, 86, 0, 1) := by decide +kernel
theorem xX4_placeOfBadByte_86 : xdec cX4_placeOfBadByte 86 = some (.goto 4, 89, 90, 0) := by decide +kernel
theorem xX4_placeOfBadByte_89 : xdec cX4_placeOfBadByte 89 = some (.iconst 0, 90, 0, 0) := by decide +kernel
theorem xX4_placeOfBadByte_90 : xdec cX4_placeOfBadByte 90 = some (.istore_n 2, 91, 2, 0) := by decide +kernel
theorem xX4_placeOfBadByte_91 : xdec cX4_placeOfBadByte 91 = some (.iload_n 2, 92, 2, 0) := by decide +kernel
theorem xX4_placeOfBadByte_92 : xdec cX4_placeOfBadByte 92 = some (.ifCond .eq 7, 95, 99, 0) := by decide +kernel
theorem xX4_placeOfBadByte_95 : xdec cX4_placeOfBadByte 95 = some (.iconst (-1), 96, 0, (-1)) := by decide +kernel
theorem xX4_placeOfBadByte_96 : xdec cX4_placeOfBadByte 96 = some (.goto 7, 99, 103, 0) := by decide +kernel
theorem xX4_placeOfBadByte_99 : xdec cX4_placeOfBadByte 99 = some (.aload_n 0, 100, 0, 0) := by decide +kernel
theorem xX4_placeOfBadByte_100 : xdec cX4_placeOfBadByte 100 = some (.getfield 11, 103, 11, 0) := by decide +kernel
theorem xX4_placeOfBadByte_103 : xdec cX4_placeOfBadByte 103 = some (.ireturn, 104, 0, 0) := by decide +kernel
theorem xX4_isLetter_0 : xdec cX4_isLetter 0 = some (.iload_n 0, 1, 0, 0) := by decide +kernel
theorem xX4_isLetter_1 : xdec cX4_isLetter 1 = some (.invokestatic 21, 4, 0, 0) := by decide +kernel
theorem xX4_isLetter_4 : xdec cX4_isLetter 4 = some (.ifCond .eq 7, 7, 11, 0) := by decide +kernel
theorem xX4_isLetter_7 : xdec cX4_isLetter 7 = some (.iconst 1, 8, 0, 1) := by decide +kernel
theorem xX4_isLetter_8 : xdec cX4_isLetter 8 = some (.goto 4, 11, 12, 0) := by decide +kernel
theorem xX4_isLetter_11 : xdec cX4_isLetter 11 = some (.iconst 0, 12, 0, 0) := by decide +kernel
theorem xX4_isLetter_12 : xdec cX4_isLetter 12 = some (.ireturn, 13, 0, 0) := by decide +kernel
theorem xX4_digitAt_0 : xdec cX4_digitAt 0 = some (.aload_n 0, 1, 0, 0) := by decide +kernel
theorem xX4_digitAt_1 : xdec cX4_digitAt 1 = some (.iload_n 1, 2, 1, 0) := by decide +kernel
theorem xX4_digitAt_2 : xdec cX4_digitAt 2 = some (.invokevirtual 29, 5, 0, 0) := by decide +kernel
theorem xX4_digitAt_5 : xdec cX4_digitAt 5 = some (.ifCond .eq 15, 8, 20, 0) := by decide +kernel
theorem xX4_digitAt_8 : xdec cX4_digitAt 8 = some (.aload_n 0, 9, 0, 0) := by decide +kernel
theorem xX4_digitAt_9 : xdec cX4_digitAt 9 = some (.getfield 17, 12, 17, 0) := by decide +kernel
theorem xX4_digitAt_12 : xdec cX4_digitAt 12 = some (.iload_n 1, 13, 1, 0) := by decide +kernel
theorem xX4_digitAt_13 : xdec cX4_digitAt 13 = some (.iaload, 14, 0, 0) := by decide +kernel
theorem xX4_digitAt_14 : xdec cX4_digitAt 14 = some (.bipush 48, 16, 0, 48) := by decide +kernel
theorem xX4_digitAt_16 : xdec cX4_digitAt 16 = some (.isub, 17, 0, 0) := by decide +kernel
theorem xX4_digitAt_17 : xdec cX4_digitAt 17 = some (.goto 4, 20, 21, 0) := by decide +kernel
theorem xX4_digitAt_20 : xdec cX4_digitAt 20 = some (.iconst 0, 21, 0, 0) := by decide +kernel
theorem xX4_digitAt_21 : xdec cX4_digitAt 21 = some (.ireturn, 22, 0, 0) := by decide +kernel
theorem xX4_tell_0 : xdec cX4_tell 0 = some (.aload_n 0, 1, 0, 0) := by decide +kernel
theorem xX4_tell_1 : xdec cX4_tell 1 = some (.iload_n 1, 2, 1, 0) := by decide +kernel
theorem xX4_tell_2 : xdec cX4_tell 2 = some (.iconst 1, 3, 0, 1) := by decide +kernel
theorem xX4_tell_3 : xdec cX4_tell 3 = some (.iadd, 4, 0, 0) := by decide +kernel
theorem xX4_tell_4 : xdec cX4_tell 4 = some (.invokestatic 32, 7, 0, 0) := by decide +kernel
theorem xX4_tell_7 : xdec cX4_tell 7 = some (.istore_n 3, 8, 3, 0) := by decide +kernel
theorem xX4_tell_8 : xdec cX4_tell 8 = some (.aload_n 0, 9, 0, 0) := by decide +kernel
theorem xX4_tell_9 : xdec cX4_tell 9 = some (.iload_n 1, 10, 1, 0) := by decide +kernel
theorem xX4_tell_10 : xdec cX4_tell 10 = some (.iconst 2, 11, 0, 2) := by decide +kernel
theorem xX4_tell_11 : xdec cX4_tell 11 = some (.iadd, 12, 0, 0) := by decide +kernel
theorem xX4_tell_12 : xdec cX4_tell 12 = some (.invokestatic 32, 15, 0, 0) := by decide +kernel
theorem xX4_tell_15 : xdec cX4_tell 15 = some (.istore 4, 17, 4, 0) := by decide +kernel
theorem xX4_tell_17 : xdec cX4_tell 17 = some (.aload_n 0, 18, 0, 0) := by decide +kernel
theorem xX4_tell_18 : xdec cX4_tell 18 = some (.iload_n 1, 19, 1, 0) := by decide +kernel
theorem xX4_tell_19 : xdec cX4_tell 19 = some (.iconst 3, 20, 0, 3) := by decide +kernel
theorem xX4_tell_20 : xdec cX4_tell 20 = some (.iadd, 21, 0, 0) := by decide +kernel
theorem xX4_tell_21 : xdec cX4_tell 21 = some (.invokestatic 32, 24, 0, 0) := by decide +kernel
theorem xX4_tell_24 : xdec cX4_tell 24 = some (.istore 5, 26, 5, 0) := by decide +kernel
theorem xX4_tell_26 : xdec cX4_tell 26 = some (.aload_n 0, 27, 0, 0) := by decide +kernel
theorem xX4_tell_27 : xdec cX4_tell 27 = some (.getfield 17, 30, 17, 0) := by decide +kernel
theorem xX4_tell_30 : xdec cX4_tell 30 = some (.iload_n 1, 31, 1, 0) := by decide +kernel
theorem xX4_tell_31 : xdec cX4_tell 31 = some (.iaload, 32, 0, 0) := by decide +kernel
theorem xX4_tell_32 : xdec cX4_tell 32 = some (.lookupswitch 137 #[(98, 129), (101, 121), (103, 60), (104, 107), (108, 85), (119, 99)], 92, 0, 0) := by decide +kernel
theorem xX4_tell_92 : xdec cX4_tell 92 = some (.iload_n 3, 93, 3, 0) := by decide +kernel
theorem xX4_tell_93 : xdec cX4_tell 93 = some (.invokestatic 36, 96, 0, 0) := by decide +kernel
theorem xX4_tell_96 : xdec cX4_tell 96 = some (.ifCond .eq 19, 99, 115, 0) := by decide +kernel
theorem xX4_tell_99 : xdec cX4_tell 99 = some (.aload_n 2, 100, 2, 0) := by decide +kernel
theorem xX4_tell_100 : xdec cX4_tell 100 = some (.iload_n 3, 101, 3, 0) := by decide +kernel
theorem xX4_tell_101 : xdec cX4_tell 101 = some (.iload 4, 103, 4, 0) := by decide +kernel
theorem xX4_tell_103 : xdec cX4_tell 103 = some (.iload 5, 105, 5, 0) := by decide +kernel
theorem xX4_tell_105 : xdec cX4_tell 105 = some (.invokevirtual 41, 108, 0, 0) := by decide +kernel
theorem xX4_tell_108 : xdec cX4_tell 108 = some (.ifCond .lt 7, 111, 115, 0) := by decide +kernel
theorem xX4_tell_111 : xdec cX4_tell 111 = some (.iconst 1, 112, 0, 1) := by decide +kernel
theorem xX4_tell_112 : xdec cX4_tell 112 = some (.goto 4, 115, 116, 0) := by decide +kernel
theorem xX4_tell_115 : xdec cX4_tell 115 = some (.iconst 0, 116, 0, 0) := by decide +kernel
theorem xX4_tell_116 : xdec cX4_tell 116 = some (.ireturn, 117, 0, 0) := by decide +kernel
theorem xX4_tell_117 : xdec cX4_tell 117 = some (.aload_n 2, 118, 2, 0) := by decide +kernel
theorem xX4_tell_118 : xdec cX4_tell 118 = some (.iload_n 3, 119, 3, 0) := by decide +kernel
theorem xX4_tell_119 : xdec cX4_tell 119 = some (.bipush 10, 121, 0, 10) := by decide +kernel
theorem xX4_tell_121 : xdec cX4_tell 121 = some (.iload 4, 123, 4, 0) := by decide +kernel
theorem xX4_tell_123 : xdec cX4_tell 123 = some (.imul, 124, 0, 0) := by decide +kernel
theorem xX4_tell_124 : xdec cX4_tell 124 = some (.iload 5, 126, 5, 0) := by decide +kernel
theorem xX4_tell_126 : xdec cX4_tell 126 = some (.iadd, 127, 0, 0) := by decide +kernel
theorem xX4_tell_127 : xdec cX4_tell 127 = some (.invokestatic 47, 130, 0, 0) := by decide +kernel
theorem xX4_tell_130 : xdec cX4_tell 130 = some (.ireturn, 131, 0, 0) := by decide +kernel
theorem xX4_tell_131 : xdec cX4_tell 131 = some (.aload_n 2, 132, 2, 0) := by decide +kernel
theorem xX4_tell_132 : xdec cX4_tell 132 = some (.iload_n 3, 133, 3, 0) := by decide +kernel
theorem xX4_tell_133 : xdec cX4_tell 133 = some (.iload 4, 135, 4, 0) := by decide +kernel
theorem xX4_tell_135 : xdec cX4_tell 135 = some (.invokestatic 51, 138, 0, 0) := by decide +kernel
theorem xX4_tell_138 : xdec cX4_tell 138 = some (.ireturn, 139, 0, 0) := by decide +kernel
theorem xX4_tell_139 : xdec cX4_tell 139 = some (.aload_n 2, 140, 2, 0) := by decide +kernel
theorem xX4_tell_140 : xdec cX4_tell 140 = some (.iload_n 3, 141, 3, 0) := by decide +kernel
theorem xX4_tell_141 : xdec cX4_tell 141 = some (.bipush 10, 143, 0, 10) := by decide +kernel
theorem xX4_tell_143 : xdec cX4_tell 143 = some (.iload 4, 145, 4, 0) := by decide +kernel
theorem xX4_tell_145 : xdec cX4_tell 145 = some (.imul, 146, 0, 0) := by decide +kernel
theorem xX4_tell_146 : xdec cX4_tell 146 = some (.iload 5, 148, 5, 0) := by decide +kernel
theorem xX4_tell_148 : xdec cX4_tell 148 = some (.iadd, 149, 0, 0) := by decide +kernel
theorem xX4_tell_149 : xdec cX4_tell 149 = some (.invokestatic 54, 152, 0, 0) := by decide +kernel
theorem xX4_tell_152 : xdec cX4_tell 152 = some (.ireturn, 153, 0, 0) := by decide +kernel
theorem xX4_tell_153 : xdec cX4_tell 153 = some (.aload_n 2, 154, 2, 0) := by decide +kernel
theorem xX4_tell_154 : xdec cX4_tell 154 = some (.iload_n 3, 155, 3, 0) := by decide +kernel
theorem xX4_tell_155 : xdec cX4_tell 155 = some (.iload 4, 157, 4, 0) := by decide +kernel
theorem xX4_tell_157 : xdec cX4_tell 157 = some (.invokestatic 57, 160, 0, 0) := by decide +kernel
theorem xX4_tell_160 : xdec cX4_tell 160 = some (.ireturn, 161, 0, 0) := by decide +kernel
theorem xX4_tell_161 : xdec cX4_tell 161 = some (.aload_n 2, 162, 2, 0) := by decide +kernel
theorem xX4_tell_162 : xdec cX4_tell 162 = some (.iload_n 3, 163, 3, 0) := by decide +kernel
theorem xX4_tell_163 : xdec cX4_tell 163 = some (.iload 4, 165, 4, 0) := by decide +kernel
theorem xX4_tell_165 : xdec cX4_tell 165 = some (.invokestatic 60, 168, 0, 0) := by decide +kernel
theorem xX4_tell_168 : xdec cX4_tell 168 = some (.ireturn, 169, 0, 0) := by decide +kernel
theorem xX4_tell_169 : xdec cX4_tell 169 = some (.aload_n 2, 170, 2, 0) := by decide +kernel
theorem xX4_tell_170 : xdec cX4_tell 170 = some (.bipush 10, 172, 0, 10) := by decide +kernel
theorem xX4_tell_172 : xdec cX4_tell 172 = some (.iload_n 3, 173, 3, 0) := by decide +kernel
theorem xX4_tell_173 : xdec cX4_tell 173 = some (.imul, 174, 0, 0) := by decide +kernel
theorem xX4_tell_174 : xdec cX4_tell 174 = some (.iload 4, 176, 4, 0) := by decide +kernel
theorem xX4_tell_176 : xdec cX4_tell 176 = some (.iadd, 177, 0, 0) := by decide +kernel
theorem xX4_tell_177 : xdec cX4_tell 177 = some (.invokestatic 63, 180, 0, 0) := by decide +kernel
theorem xX4_tell_180 : xdec cX4_tell 180 = some (.ireturn, 181, 0, 0) := by decide +kernel
theorem xX4_setStock_0 : xdec cX4_setStock 0 = some (.aload_n 0, 1, 0, 0) := by decide +kernel
theorem xX4_setStock_1 : xdec cX4_setStock 1 = some (.getfield 67, 4, 67, 0) := by decide +kernel
theorem xX4_setStock_4 : xdec cX4_setStock 4 = some (.iload_n 1, 5, 1, 0) := by decide +kernel
theorem xX4_setStock_5 : xdec cX4_setStock 5 = some (.iload_n 2, 6, 2, 0) := by decide +kernel
theorem xX4_setStock_6 : xdec cX4_setStock 6 = some (.iastore, 7, 0, 0) := by decide +kernel
theorem xX4_setStock_7 : xdec cX4_setStock 7 = some (.iconst 1, 8, 0, 1) := by decide +kernel
theorem xX4_setStock_8 : xdec cX4_setStock 8 = some (.ireturn, 9, 0, 0) := by decide +kernel
theorem xX4_addStock_0 : xdec cX4_addStock 0 = some (.aload_n 0, 1, 0, 0) := by decide +kernel
theorem xX4_addStock_1 : xdec cX4_addStock 1 = some (.iload_n 1, 2, 1, 0) := by decide +kernel
theorem xX4_addStock_2 : xdec cX4_addStock 2 = some (.iload_n 2, 3, 2, 0) := by decide +kernel
theorem xX4_addStock_3 : xdec cX4_addStock 3 = some (.invokevirtual 70, 6, 0, 0) := by decide +kernel
theorem xX4_addStock_6 : xdec cX4_addStock 6 = some (.iconst 1, 7, 0, 1) := by decide +kernel
theorem xX4_addStock_7 : xdec cX4_addStock 7 = some (.ireturn, 8, 0, 0) := by decide +kernel
theorem xX4_setWish_0 : xdec cX4_setWish 0 = some (.aload_n 0, 1, 0, 0) := by decide +kernel
theorem xX4_setWish_1 : xdec cX4_setWish 1 = some (.iload_n 1, 2, 1, 0) := by decide +kernel
theorem xX4_setWish_2 : xdec cX4_setWish 2 = some (.invokevirtual 74, 5, 0, 0) := by decide +kernel
theorem xX4_setWish_5 : xdec cX4_setWish 5 = some (.ifCond .ne 5, 8, 10, 0) := by decide +kernel
theorem xX4_setWish_8 : xdec cX4_setWish 8 = some (.iconst 0, 9, 0, 0) := by decide +kernel
theorem xX4_setWish_9 : xdec cX4_setWish 9 = some (.ireturn, 10, 0, 0) := by decide +kernel
theorem xX4_setWish_10 : xdec cX4_setWish 10 = some (.aload_n 0, 11, 0, 0) := by decide +kernel
theorem xX4_setWish_11 : xdec cX4_setWish 11 = some (.getfield 77, 14, 77, 0) := by decide +kernel
theorem xX4_setWish_14 : xdec cX4_setWish 14 = some (.iload_n 1, 15, 1, 0) := by decide +kernel
theorem xX4_setWish_15 : xdec cX4_setWish 15 = some (.iload_n 2, 16, 2, 0) := by decide +kernel
theorem xX4_setWish_16 : xdec cX4_setWish 16 = some (.iastore, 17, 0, 0) := by decide +kernel
theorem xX4_setWish_17 : xdec cX4_setWish 17 = some (.iconst 1, 18, 0, 1) := by decide +kernel
theorem xX4_setWish_18 : xdec cX4_setWish 18 = some (.ireturn, 19, 0, 0) := by decide +kernel
theorem xX4_setLast_0 : xdec cX4_setLast 0 = some (.aload_n 0, 1, 0, 0) := by decide +kernel
theorem xX4_setLast_1 : xdec cX4_setLast 1 = some (.iload_n 1, 2, 1, 0) := by decide +kernel
theorem xX4_setLast_2 : xdec cX4_setLast 2 = some (.invokevirtual 74, 5, 0, 0) := by decide +kernel
theorem xX4_setLast_5 : xdec cX4_setLast 5 = some (.ifCond .ne 5, 8, 10, 0) := by decide +kernel
theorem xX4_setLast_8 : xdec cX4_setLast 8 = some (.iconst 0, 9, 0, 0) := by decide +kernel
theorem xX4_setLast_9 : xdec cX4_setLast 9 = some (.ireturn, 10, 0, 0) := by decide +kernel
theorem xX4_setLast_10 : xdec cX4_setLast 10 = some (.aload_n 0, 11, 0, 0) := by decide +kernel
theorem xX4_setLast_11 : xdec cX4_setLast 11 = some (.getfield 80, 14, 80, 0) := by decide +kernel
theorem xX4_setLast_14 : xdec cX4_setLast 14 = some (.iload_n 1, 15, 1, 0) := by decide +kernel
theorem xX4_setLast_15 : xdec cX4_setLast 15 = some (.iload_n 2, 16, 2, 0) := by decide +kernel
theorem xX4_setLast_16 : xdec cX4_setLast 16 = some (.iastore, 17, 0, 0) := by decide +kernel
theorem xX4_setLast_17 : xdec cX4_setLast 17 = some (.iconst 1, 18, 0, 1) := by decide +kernel
theorem xX4_setLast_18 : xdec cX4_setLast 18 = some (.ireturn, 19, 0, 0) := by decide +kernel
theorem xX4_setHealth_0 : xdec cX4_setHealth 0 = some (.aload_n 0, 1, 0, 0) := by decide +kernel
theorem xX4_setHealth_1 : xdec cX4_setHealth 1 = some (.iload_n 1, 2, 1, 0) := by decide +kernel
theorem xX4_setHealth_2 : xdec cX4_setHealth 2 = some (.invokevirtual 74, 5, 0, 0) := by decide +kernel
theorem xX4_setHealth_5 : xdec cX4_setHealth 5 = some (.ifCond .eq 13, 8, 18, 0) := by decide +kernel
theorem xX4_setHealth_8 : xdec cX4_setHealth 8 = some (.iload_n 2, 9, 2, 0) := by decide +kernel
theorem xX4_setHealth_9 : xdec cX4_setHealth 9 = some (.iconst 1, 10, 0, 1) := by decide +kernel
theorem xX4_setHealth_10 : xdec cX4_setHealth 10 = some (.bipush 99, 12, 0, 99) := by decide +kernel
theorem xX4_setHealth_12 : xdec cX4_setHealth 12 = some (.invokestatic 83, 15, 0, 0) := by decide +kernel
theorem xX4_setHealth_15 : xdec cX4_setHealth 15 = some (.ifCond .ne 5, 18, 20, 0) := by decide +kernel
theorem xX4_setHealth_18 : xdec cX4_setHealth 18 = some (.iconst 0, 19, 0, 0) := by decide +kernel
theorem xX4_setHealth_19 : xdec cX4_setHealth 19 = some (.ireturn, 20, 0, 0) := by decide +kernel
theorem xX4_setHealth_20 : xdec cX4_setHealth 20 = some (.aload_n 0, 21, 0, 0) := by decide +kernel
theorem xX4_setHealth_21 : xdec cX4_setHealth 21 = some (.getfield 87, 24, 87, 0) := by decide +kernel
theorem xX4_setHealth_24 : xdec cX4_setHealth 24 = some (.iload_n 1, 25, 1, 0) := by decide +kernel
theorem xX4_setHealth_25 : xdec cX4_setHealth 25 = some (.iload_n 2, 26, 2, 0) := by decide +kernel
theorem xX4_setHealth_26 : xdec cX4_setHealth 26 = some (.iastore, 27, 0, 0) := by decide +kernel
theorem xX4_setHealth_27 : xdec cX4_setHealth 27 = some (.aload_n 0, 28, 0, 0) := by decide +kernel
theorem xX4_setHealth_28 : xdec cX4_setHealth 28 = some (.dup, 29, 0, 0) := by decide +kernel
theorem xX4_setHealth_29 : xdec cX4_setHealth 29 = some (.getfield 90, 32, 90, 0) := by decide +kernel
theorem xX4_setHealth_32 : xdec cX4_setHealth 32 = some (.iconst 1, 33, 0, 1) := by decide +kernel
theorem xX4_setHealth_33 : xdec cX4_setHealth 33 = some (.iload_n 1, 34, 1, 0) := by decide +kernel
theorem xX4_setHealth_34 : xdec cX4_setHealth 34 = some (.ishl, 35, 0, 0) := by decide +kernel
theorem xX4_setHealth_35 : xdec cX4_setHealth 35 = some (.ior, 36, 0, 0) := by decide +kernel
theorem xX4_setHealth_36 : xdec cX4_setHealth 36 = some (.putfield 90, 39, 90, 0) := by decide +kernel
theorem xX4_setHealth_39 : xdec cX4_setHealth 39 = some (.iconst 1, 40, 0, 1) := by decide +kernel
theorem xX4_setHealth_40 : xdec cX4_setHealth 40 = some (.ireturn, 41, 0, 0) := by decide +kernel
theorem xX4_passNights_0 : xdec cX4_passNights 0 = some (.iload_n 1, 1, 1, 0) := by decide +kernel
theorem xX4_passNights_1 : xdec cX4_passNights 1 = some (.iconst 1, 2, 0, 1) := by decide +kernel
theorem xX4_passNights_2 : xdec cX4_passNights 2 = some (.bipush 60, 4, 0, 60) := by decide +kernel
theorem xX4_passNights_4 : xdec cX4_passNights 4 = some (.invokestatic 83, 7, 0, 0) := by decide +kernel
theorem xX4_passNights_7 : xdec cX4_passNights 7 = some (.ifCond .eq 15, 10, 22, 0) := by decide +kernel
theorem xX4_passNights_10 : xdec cX4_passNights 10 = some (.aload_n 0, 11, 0, 0) := by decide +kernel
theorem xX4_passNights_11 : xdec cX4_passNights 11 = some (.getfield 93, 14, 93, 0) := by decide +kernel
theorem xX4_passNights_14 : xdec cX4_passNights 14 = some (.iload_n 1, 15, 1, 0) := by decide +kernel
theorem xX4_passNights_15 : xdec cX4_passNights 15 = some (.iadd, 16, 0, 0) := by decide +kernel
theorem xX4_passNights_16 : xdec cX4_passNights 16 = some (.sipush 999, 19, 0, 999) := by decide +kernel
theorem xX4_passNights_19 : xdec cX4_passNights 19 = some (.if_icmp .le 5, 22, 24, 0) := by decide +kernel
theorem xX4_passNights_22 : xdec cX4_passNights 22 = some (.iconst 0, 23, 0, 0) := by decide +kernel
theorem xX4_passNights_23 : xdec cX4_passNights 23 = some (.ireturn, 24, 0, 0) := by decide +kernel
theorem xX4_passNights_24 : xdec cX4_passNights 24 = some (.aload_n 0, 25, 0, 0) := by decide +kernel
theorem xX4_passNights_25 : xdec cX4_passNights 25 = some (.iload_n 1, 26, 1, 0) := by decide +kernel
theorem xX4_passNights_26 : xdec cX4_passNights 26 = some (.invokevirtual 96, 29, 0, 0) := by decide +kernel
theorem xX4_passNights_29 : xdec cX4_passNights 29 = some (.iconst 1, 30, 0, 1) := by decide +kernel
theorem xX4_passNights_30 : xdec cX4_passNights 30 = some (.ireturn, 31, 0, 0) := by decide +kernel
end
section
theorem xX5_init_0 : xdec cX5_init 0 = some (.aload_n 0, 1, 0, 0) := by decide +kernel
theorem xX5_init_1 : xdec cX5_init 1 = some (.invokespecial 1, 4, 0, 0) := by decide +kernel
theorem xX5_init_4 : xdec cX5_init 4 = some (.aload_n 0, 5, 0, 0) := by decide +kernel
theorem xX5_init_5 : xdec cX5_init 5 = some (.new 7, 8, 0, 0) := by decide +kernel
theorem xX5_init_8 : xdec cX5_init 8 = some (.dup, 9, 0, 0) := by decide +kernel
theorem xX5_init_9 : xdec cX5_init 9 = some (.invokespecial 9, 12, 0, 0) := by decide +kernel
theorem xX5_init_12 : xdec cX5_init 12 = some (.putfield 10, 15, 10, 0) := by decide +kernel
theorem xX5_init_15 : xdec cX5_init 15 = some (.aload_n 0, 16, 0, 0) := by decide +kernel
theorem xX5_init_16 : xdec cX5_init 16 = some (.new 7, 19, 0, 0) := by decide +kernel
theorem xX5_init_19 : xdec cX5_init 19 = some (.dup, 20, 0, 0) := by decide +kernel
theorem xX5_init_20 : xdec cX5_init 20 = some (.invokespecial 9, 23, 0, 0) := by decide +kernel
theorem xX5_init_23 : xdec cX5_init 23 = some (.putfield 16, 26, 16, 0) := by decide +kernel
theorem xX5_init_26 : xdec cX5_init 26 = some (.aload_n 0, 27, 0, 0) := by decide +kernel
theorem xX5_init_27 : xdec cX5_init 27 = some (.new 7, 30, 0, 0) := by decide +kernel
theorem xX5_init_30 : xdec cX5_init 30 = some (.dup, 31, 0, 0) := by decide +kernel
theorem xX5_init_31 : xdec cX5_init 31 = some (.invokespecial 9, 34, 0, 0) := by decide +kernel
theorem xX5_init_34 : xdec cX5_init 34 = some (.putfield 19, 37, 19, 0) := by decide +kernel
theorem xX5_init_37 : xdec cX5_init 37 = some (.aload_n 0, 38, 0, 0) := by decide +kernel
theorem xX5_init_38 : xdec cX5_init 38 = some (.iconst 0, 39, 0, 0) := by decide +kernel
theorem xX5_init_39 : xdec cX5_init 39 = some (.putfield 22, 42, 22, 0) := by decide +kernel
theorem xX5_init_42 : xdec cX5_init 42 = some (.aload_n 0, 43, 0, 0) := by decide +kernel
theorem xX5_init_43 : xdec cX5_init 43 = some (.bipush 8, 45, 0, 8) := by decide +kernel
theorem xX5_init_45 : xdec cX5_init 45 = some (.anewarray 26, 48, 0, 0) := by decide +kernel
theorem xX5_init_48 : xdec cX5_init 48 = some (.putfield 28, 51, 28, 0) := by decide +kernel
theorem xX5_init_51 : xdec cX5_init 51 = some (.iconst 0, 52, 0, 0) := by decide +kernel
theorem xX5_init_52 : xdec cX5_init 52 = some (.istore_n 1, 53, 1, 0) := by decide +kernel
theorem xX5_init_53 : xdec cX5_init 53 = some (.iload_n 1, 54, 1, 0) := by decide +kernel
theorem xX5_init_54 : xdec cX5_init 54 = some (.bipush 8, 56, 0, 8) := by decide +kernel
theorem xX5_init_56 : xdec cX5_init 56 = some (.if_icmp .ge 22, 59, 78, 0) := by decide +kernel
theorem xX5_init_59 : xdec cX5_init 59 = some (.aload_n 0, 60, 0, 0) := by decide +kernel
theorem xX5_init_60 : xdec cX5_init 60 = some (.getfield 28, 63, 28, 0) := by decide +kernel
theorem xX5_init_63 : xdec cX5_init 63 = some (.iload_n 1, 64, 1, 0) := by decide +kernel
theorem xX5_init_64 : xdec cX5_init 64 = some (.new 26, 67, 0, 0) := by decide +kernel
theorem xX5_init_67 : xdec cX5_init 67 = some (.dup, 68, 0, 0) := by decide +kernel
theorem xX5_init_68 : xdec cX5_init 68 = some (.invokespecial 32, 71, 0, 0) := by decide +kernel
theorem xX5_init_71 : xdec cX5_init 71 = some (.aastore, 72, 0, 0) := by decide +kernel
theorem xX5_init_72 : xdec cX5_init 72 = some (.iinc 1 1, 75, 1, 1) := by decide +kernel
theorem xX5_init_75 : xdec cX5_init 75 = some (.goto (-22), 78, 53, 0) := by decide +kernel
theorem xX5_init_78 : xdec cX5_init 78 = some (.aload_n 0, 79, 0, 0) := by decide +kernel
theorem xX5_init_79 : xdec cX5_init 79 = some (.new 33, 82, 0, 0) := by decide +kernel
theorem xX5_init_82 : xdec cX5_init 82 = some (.dup, 83, 0, 0) := by decide +kernel
theorem xX5_init_83 : xdec cX5_init 83 = some (.invokespecial 35, 86, 0, 0) := by decide +kernel
theorem xX5_init_86 : xdec cX5_init 86 = some (.putfield 36, 89, 36, 0) := by decide +kernel
theorem xX5_init_89 : xdec cX5_init 89 = some (.aload_n 0, 90, 0, 0) := by decide +kernel
theorem xX5_init_90 : xdec cX5_init 90 = some (.bipush 8, 92, 0, 8) := by decide +kernel
theorem xX5_init_92 : xdec cX5_init 92 = some (.newarray .int, 94, 0, 0) := by decide +kernel
theorem xX5_init_94 : xdec cX5_init 94 = some (.putfield 40, 97, 40, 0) := by decide +kernel
theorem xX5_init_97 : xdec cX5_init 97 = some (.return_, 98, 0, 0) := by decide +kernel
theorem xX5_inn_0 : xdec cX5_inn 0 = some (.aload_n 0, 1, 0, 0) := by decide +kernel
theorem xX5_inn_1 : xdec cX5_inn 1 = some (.iload_n 1, 2, 1, 0) := by decide +kernel
theorem xX5_inn_2 : xdec cX5_inn 2 = some (.invokevirtual 44, 5, 0, 0) := by decide +kernel
theorem xX5_inn_5 : xdec cX5_inn 5 = some (.istore_n 2, 6, 2, 0) := by decide +kernel
theorem xX5_inn_6 : xdec cX5_inn 6 = some (.iload_n 2, 7, 2, 0) := by decide +kernel
theorem xX5_inn_7 : xdec cX5_inn 7 = some (.ifCond .eq 5, 10, 12, 0) := by decide +kernel
theorem xX5_inn_10 : xdec cX5_inn 10 = some (.iload_n 2, 11, 2, 0) := by decide +kernel
theorem xX5_inn_11 : xdec cX5_inn 11 = some (.ireturn, 12, 0, 0) := by decide +kernel
theorem xX5_inn_12 : xdec cX5_inn 12 = some (.aload_n 0, 13, 0, 0) := by decide +kernel
theorem xX5_inn_13 : xdec cX5_inn 13 = some (.getfield 28, 16, 28, 0) := by decide +kernel
theorem xX5_inn_16 : xdec cX5_inn 16 = some (.iload_n 1, 17, 1, 0) := by decide +kernel
theorem xX5_inn_17 : xdec cX5_inn 17 = some (.aaload, 18, 0, 0) := by decide +kernel
theorem xX5_inn_18 : xdec cX5_inn 18 = some (.astore_n 3, 19, 3, 0) := by decide +kernel
theorem xX5_inn_19 : xdec cX5_inn 19 = some (.aload_n 3, 20, 3, 0) := by decide +kernel
theorem xX5_inn_20 : xdec cX5_inn 20 = some (.getfield 48, 23, 48, 0) := by decide +kernel
theorem xX5_inn_23 : xdec cX5_inn 23 = some (.ifCond .eq 6, 26, 29, 0) := by decide +kernel
theorem xX5_inn_26 : xdec cX5_inn 26 = some (.bipush (-12), 28, 0, (-12)) := by decide +kernel
theorem xX5_inn_28 : xdec cX5_inn 28 = some (.ireturn, 29, 0, 0) := by decide +kernel
theorem xX5_inn_29 : xdec cX5_inn 29 = some (.aload_n 3, 30, 3, 0) := by decide +kernel
theorem xX5_inn_30 : xdec cX5_inn 30 = some (.invokestatic 52, 33, 0, 0) := by decide +kernel
theorem xX5_inn_33 : xdec cX5_inn 33 = some (.istore 4, 35, 4, 0) := by decide +kernel
theorem xX5_inn_35 : xdec cX5_inn 35 = some (.iload 4, 37, 4, 0) := by decide +kernel
theorem xX5_inn_37 : xdec cX5_inn 37 = some (.ifCond .lt 10, 40, 47, 0) := by decide +kernel
theorem xX5_inn_40 : xdec cX5_inn 40 = some (.sipush (-1000), 43, 0, (-1000)) := by decide +kernel
theorem xX5_inn_43 : xdec cX5_inn 43 = some (.iload 4, 45, 4, 0) := by decide +kernel
theorem xX5_inn_45 : xdec cX5_inn 45 = some (.isub, 46, 0, 0) := by decide +kernel
theorem xX5_inn_46 : xdec cX5_inn 46 = some (.ireturn, 47, 0, 0) := by decide +kernel
theorem xX5_inn_47 : xdec cX5_inn 47 = some (.aload_n 0, 48, 0, 0) := by decide +kernel
theorem xX5_inn_48 : xdec cX5_inn 48 = some (.invokevirtual 58, 51, 0, 0) := by decide +kernel
theorem xX5_inn_51 : xdec cX5_inn 51 = some (.astore 5, 53, 5, 0) := by decide +kernel
theorem xX5_inn_53 : xdec cX5_inn 53 = some (.iconst 0, 54, 0, 0) := by decide +kernel
theorem xX5_inn_54 : xdec cX5_inn 54 = some (.istore 6, 56, 6, 0) := by decide +kernel
theorem xX5_inn_56 : xdec cX5_inn 56 = some (.iconst 0, 57, 0, 0) := by decide +kernel
theorem xX5_inn_57 : xdec cX5_inn 57 = some (.istore 7, 59, 7, 0) := by decide +kernel
theorem xX5_inn_59 : xdec cX5_inn 59 = some (.iload 7, 61, 7, 0) := by decide +kernel
theorem xX5_inn_61 : xdec cX5_inn 61 = some (.aload_n 3, 62, 3, 0) := by decide +kernel
theorem xX5_inn_62 : xdec cX5_inn 62 = some (.getfield 62, 65, 62, 0) := by decide +kernel
theorem xX5_inn_65 : xdec cX5_inn 65 = some (.if_icmp .ge 43, 68, 108, 0) := by decide +kernel
theorem xX5_inn_68 : xdec cX5_inn 68 = some (.aload_n 3, 69, 3, 0) := by decide +kernel
theorem xX5_inn_69 : xdec cX5_inn 69 = some (.getfield 65, 72, 65, 0) := by decide +kernel
theorem xX5_inn_72 : xdec cX5_inn 72 = some (.iload 7, 74, 7, 0) := by decide +kernel
theorem xX5_inn_74 : xdec cX5_inn 74 = some (.iaload, 75, 0, 0) := by decide +kernel
theorem xX5_inn_75 : xdec cX5_inn 75 = some (.invokestatic 68, 78, 0, 0) := by decide +kernel
theorem xX5_inn_78 : xdec cX5_inn 78 = some (.ifCond .eq 24, 81, 102, 0) := by decide +kernel
theorem xX5_inn_81 : xdec cX5_inn 81 = some (.aload_n 3, 82, 3, 0) := by decide +kernel
theorem xX5_inn_82 : xdec cX5_inn 82 = some (.iload 7, 84, 7, 0) := by decide +kernel
theorem xX5_inn_84 : xdec cX5_inn 84 = some (.aload 5, 86, 5, 0) := by decide +kernel
theorem xX5_inn_86 : xdec cX5_inn 86 = some (.invokestatic 72, 89, 0, 0) := by decide +kernel
theorem xX5_inn_89 : xdec cX5_inn 89 = some (.ifCond .ne 10, 92, 99, 0) := by decide +kernel
theorem xX5_inn_92 : xdec cX5_inn 92 = some (.sipush (-2000), 95, 0, (-2000)) := by decide +kernel
theorem xX5_inn_95 : xdec cX5_inn 95 = some (.iload 7, 97, 7, 0) := by decide +kernel
theorem xX5_inn_97 : xdec cX5_inn 97 = some (.isub, 98, 0, 0) := by decide +kernel
theorem xX5_inn_98 : xdec cX5_inn 98 = some (.ireturn, 99, 0, 0) := by decide +kernel
theorem xX5_inn_99 : xdec cX5_inn 99 = some (.iinc 6 1, 102, 6, 1) := by decide +kernel
theorem xX5_inn_102 : xdec cX5_inn 102 = some (.iinc 7 1, 105, 7, 1) := by decide +kernel
theorem xX5_inn_105 : xdec cX5_inn 105 = some (.goto (-46), 108, 59, 0) := by decide +kernel
theorem xX5_inn_108 : xdec cX5_inn 108 = some (.aload_n 0, 109, 0, 0) := by decide +kernel
theorem xX5_inn_109 : xdec cX5_inn 109 = some (.getfield 10, 112, 10, 0) := by decide +kernel
theorem xX5_inn_112 : xdec cX5_inn 112 = some (.aload 5, 114, 5, 0) := by decide +kernel
theorem xX5_inn_114 : xdec cX5_inn 114 = some (.invokevirtual 76, 117, 0, 0) := by decide +kernel
theorem xX5_inn_117 : xdec cX5_inn 117 = some (.iload 6, 119, 6, 0) := by decide +kernel
theorem xX5_inn_119 : xdec cX5_inn 119 = some (.ireturn, 120, 0, 0) := by decide +kernel
theorem xX5_guest_0 : xdec cX5_guest 0 = some (.aload_n 0, 1, 0, 0) := by decide +kernel
theorem xX5_guest_1 : xdec cX5_guest 1 = some (.getfield 10, 4, 10, 0) := by decide +kernel
theorem xX5_guest_4 : xdec cX5_guest 4 = some (.iload_n 1, 5, 1, 0) := by decide +kernel
theorem xX5_guest_5 : xdec cX5_guest 5 = some (.invokevirtual 80, 8, 0, 0) := by decide +kernel
theorem xX5_guest_8 : xdec cX5_guest 8 = some (.ifCond .ne 5, 11, 13, 0) := by decide +kernel
theorem xX5_guest_11 : xdec cX5_guest 11 = some (.iconst (-1), 12, 0, (-1)) := by decide +kernel
theorem xX5_guest_12 : xdec cX5_guest 12 = some (.ireturn, 13, 0, 0) := by decide +kernel
theorem xX5_guest_13 : xdec cX5_guest 13 = some (.iload_n 2, 14, 2, 0) := by decide +kernel
theorem xX5_guest_14 : xdec cX5_guest 14 = some (.tableswitch 169 0 7 #[46, 56, 66, 76, 86, 96, 113, 126], 60, 0, 0) := by decide +kernel
theorem xX5_guest_60 : xdec cX5_guest 60 = some (.aload_n 0, 61, 0, 0) := by decide +kernel
theorem xX5_guest_61 : xdec cX5_guest 61 = some (.getfield 10, 64, 10, 0) := by decide +kernel
theorem xX5_guest_64 : xdec cX5_guest 64 = some (.getfield 83, 67, 83, 0) := by decide +kernel
theorem xX5_guest_67 : xdec cX5_guest 67 = some (.iload_n 1, 68, 1, 0) := by decide +kernel
theorem xX5_guest_68 : xdec cX5_guest 68 = some (.iaload, 69, 0, 0) := by decide +kernel
theorem xX5_guest_69 : xdec cX5_guest 69 = some (.ireturn, 70, 0, 0) := by decide +kernel
theorem xX5_guest_70 : xdec cX5_guest 70 = some (.aload_n 0, 71, 0, 0) := by decide +kernel
theorem xX5_guest_71 : xdec cX5_guest 71 = some (.getfield 10, 74, 10, 0) := by decide +kernel
theorem xX5_guest_74 : xdec cX5_guest 74 = some (.getfield 86, 77, 86, 0) := by decide +kernel
theorem xX5_guest_77 : xdec cX5_guest 77 = some (.iload_n 1, 78, 1, 0) := by decide +kernel
theorem xX5_guest_78 : xdec cX5_guest 78 = some (.iaload, 79, 0, 0) := by decide +kernel
theorem xX5_guest_79 : xdec cX5_guest 79 = some (.ireturn, 80, 0, 0) := by decide +kernel
theorem xX5_guest_80 : xdec cX5_guest 80 = some (.aload_n 0, 81, 0, 0) := by decide +kernel
theorem xX5_guest_81 : xdec cX5_guest 81 = some (.getfield 10, 84, 10, 0) := by decide +kernel
theorem xX5_guest_84 : xdec cX5_guest 84 = some (.getfield 89, 87, 89, 0) := by decide +kernel
theorem xX5_guest_87 : xdec cX5_guest 87 = some (.iload_n 1, 88, 1, 0) := by decide +kernel
theorem xX5_guest_88 : xdec cX5_guest 88 = some (.iaload, 89, 0, 0) := by decide +kernel
theorem xX5_guest_89 : xdec cX5_guest 89 = some (.ireturn, 90, 0, 0) := by decide +kernel
theorem xX5_guest_90 : xdec cX5_guest 90 = some (.aload_n 0, 91, 0, 0) := by decide +kernel
theorem xX5_guest_91 : xdec cX5_guest 91 = some (.getfield 10, 94, 10, 0) := by decide +kernel
theorem xX5_guest_94 : xdec cX5_guest 94 = some (.getfield 92, 97, 92, 0) := by decide +kernel
theorem xX5_guest_97 : xdec cX5_guest 97 = some (.iload_n 1, 98, 1, 0) := by decide +kernel
theorem xX5_guest_98 : xdec cX5_guest 98 = some (.iaload, 99, 0, 0) := by decide +kernel
theorem xX5_guest_99 : xdec cX5_guest 99 = some (.ireturn, 100, 0, 0) := by decide +kernel
theorem xX5_guest_100 : xdec cX5_guest 100 = some (.aload_n 0, 101, 0, 0) := by decide +kernel
theorem xX5_guest_101 : xdec cX5_guest 101 = some (.getfield 10, 104, 10, 0) := by decide +kernel
theorem xX5_guest_104 : xdec cX5_guest 104 = some (.getfield 95, 107, 95, 0) := by decide +kernel
theorem xX5_guest_107 : xdec cX5_guest 107 = some (.iload_n 1, 108, 1, 0) := by decide +kernel
theorem xX5_guest_108 : xdec cX5_guest 108 = some (.iaload, 109, 0, 0) := by decide +kernel
theorem xX5_guest_109 : xdec cX5_guest 109 = some (.ireturn, 110, 0, 0) := by decide +kernel
theorem xX5_guest_110 : xdec cX5_guest 110 = some (.aload_n 0, 111, 0, 0) := by decide +kernel
theorem xX5_guest_111 : xdec cX5_guest 111 = some (.getfield 10, 114, 10, 0) := by decide +kernel
theorem xX5_guest_114 : xdec cX5_guest 114 = some (.iload_n 1, 115, 1, 0) := by decide +kernel
theorem xX5_guest_115 : xdec cX5_guest 115 = some (.invokevirtual 98, 118, 0, 0) := by decide +kernel
theorem xX5_guest_118 : xdec cX5_guest 118 = some (.ifCond .eq 7, 121, 125, 0) := by decide +kernel
theorem xX5_guest_121 : xdec cX5_guest 121 = some (.iconst 1, 122, 0, 1) := by decide +kernel
theorem xX5_guest_122 : xdec cX5_guest 122 = some (.goto 4, 125, 126, 0) := by decide +kernel
theorem xX5_guest_125 : xdec cX5_guest 125 = some (.iconst 0, 126, 0, 0) := by decide +kernel
theorem xX5_guest_126 : xdec cX5_guest 126 = some (.ireturn, 127, 0, 0) := by decide +kernel
theorem xX5_guest_127 : xdec cX5_guest 127 = some (.aload_n 0, 128, 0, 0) := by decide +kernel
theorem xX5_guest_128 : xdec cX5_guest 128 = some (.getfield 10, 131, 10, 0) := by decide +kernel
theorem xX5_guest_131 : xdec cX5_guest 131 = some (.getfield 83, 134, 83, 0) := by decide +kernel
theorem xX5_guest_134 : xdec cX5_guest 134 = some (.iload_n 1, 135, 1, 0) := by decide +kernel
theorem xX5_guest_135 : xdec cX5_guest 135 = some (.iaload, 136, 0, 0) := by decide +kernel
theorem xX5_guest_136 : xdec cX5_guest 136 = some (.invokestatic 101, 139, 0, 0) := by decide +kernel
theorem xX5_guest_139 : xdec cX5_guest 139 = some (.ireturn, 140, 0, 0) := by decide +kernel
theorem xX5_guest_140 : xdec cX5_guest 140 = some (.bipush 10, 142, 0, 10) := by decide +kernel
theorem xX5_guest_142 : xdec cX5_guest 142 = some (.aload_n 0, 143, 0, 0) := by decide +kernel
theorem xX5_guest_143 : xdec cX5_guest 143 = some (.getfield 10, 146, 10, 0) := by decide +kernel
theorem xX5_guest_146 : xdec cX5_guest 146 = some (.getfield 83, 149, 83, 0) := by decide +kernel
theorem xX5_guest_149 : xdec cX5_guest 149 = some (.iload_n 1, 150, 1, 0) := by decide +kernel
theorem xX5_guest_150 : xdec cX5_guest 150 = some (.iaload, 151, 0, 0) := by decide +kernel
theorem xX5_guest_151 : xdec cX5_guest 151 = some (.aload_n 0, 152, 0, 0) := by decide +kernel
theorem xX5_guest_152 : xdec cX5_guest 152 = some (.getfield 10, 155, 10, 0) := by decide +kernel
theorem xX5_guest_155 : xdec cX5_guest 155 = some (.getfield 86, 158, 86, 0) := by decide +kernel
theorem xX5_guest_158 : xdec cX5_guest 158 = some (.iload_n 1, 159, 1, 0) := by decide +kernel
theorem xX5_guest_159 : xdec cX5_guest 159 = some (.iaload, 160, 0, 0) := by decide +kernel
theorem xX5_guest_160 : xdec cX5_guest 160 = some (.aload_n 0, 161, 0, 0) := by decide +kernel
theorem xX5_guest_161 : xdec cX5_guest 161 = some (.getfield 10, 164, 10, 0) := by decide +kernel
theorem xX5_guest_164 : xdec cX5_guest 164 = some (.getfield 89, 167, 89, 0) := by decide +kernel
theorem xX5_guest_167 : xdec cX5_guest 167 = some (.iload_n 1, 168, 1, 0) := by decide +kernel
theorem xX5_guest_168 : xdec cX5_guest 168 = some (.iaload, 169, 0, 0) := by decide +kernel
theorem xX5_guest_169 : xdec cX5_guest 169 = some (.aload_n 0, 170, 0, 0) := by decide +kernel
theorem xX5_guest_170 : xdec cX5_guest 170 = some (.getfield 10, 173, 10, 0) := by decide +kernel
theorem xX5_guest_173 : xdec cX5_guest 173 = some (.getfield 92, 176, 92, 0) := by decide +kernel
theorem xX5_guest_176 : xdec cX5_guest 176 = some (.iload_n 1, 177, 1, 0) := by decide +kernel
theorem xX5_guest_177 : xdec cX5_guest 177 = some (.iaload, 178, 0, 0) := by decide +kernel
theorem xX5_guest_178 : xdec cX5_guest 178 = some (.invokestatic 106, 181, 0, 0) := by decide +kernel
theorem xX5_guest_181 : xdec cX5_guest 181 = some (.iadd, 182, 0, 0) := by decide +kernel
theorem xX5_guest_182 : xdec cX5_guest 182 = some (.ireturn, 183, 0, 0) := by decide +kernel
theorem xX5_guest_183 : xdec cX5_guest 183 = some (.iconst (-1), 184, 0, (-1)) := by decide +kernel
theorem xX5_guest_184 : xdec cX5_guest 184 = some (.ireturn, 185, 0, 0) := by decide +kernel
theorem xX5_larder_0 : xdec cX5_larder 0 = some (.iload_n 1, 1, 1, 0) := by decide +kernel
theorem xX5_larder_1 : xdec cX5_larder 1 = some (.invokestatic 110, 4, 0, 0) := by decide +kernel
theorem xX5_larder_4 : xdec cX5_larder 4 = some (.ifCond .eq 15, 7, 19, 0) := by decide +kernel
theorem xX5_larder_7 : xdec cX5_larder 7 = some (.aload_n 0, 8, 0, 0) := by decide +kernel
theorem xX5_larder_8 : xdec cX5_larder 8 = some (.getfield 10, 11, 10, 0) := by decide +kernel
theorem xX5_larder_11 : xdec cX5_larder 11 = some (.getfield 113, 14, 113, 0) := by decide +kernel
theorem xX5_larder_14 : xdec cX5_larder 14 = some (.iload_n 1, 15, 1, 0) := by decide +kernel
theorem xX5_larder_15 : xdec cX5_larder 15 = some (.iaload, 16, 0, 0) := by decide +kernel
theorem xX5_larder_16 : xdec cX5_larder 16 = some (.goto 4, 19, 20, 0) := by decide +kernel
theorem xX5_larder_19 : xdec cX5_larder 19 = some (.iconst (-1), 20, 0, (-1)) := by decide +kernel
theorem xX5_larder_20 : xdec cX5_larder 20 = some (.ireturn, 21, 0, 0) := by decide +kernel
theorem xX5_comes_0 : xdec cX5_comes 0 = some (.iload_n 2, 1, 2, 0) := by decide +kernel
theorem xX5_comes_1 : xdec cX5_comes 1 = some (.invokestatic 110, 4, 0, 0) := by decide +kernel
theorem xX5_comes_4 : xdec cX5_comes 4 = some (.ifCond .ne 5, 7, 9, 0) := by decide +kernel
theorem xX5_comes_7 : xdec cX5_comes 7 = some (.iconst (-1), 8, 0, (-1)) := by decide +kernel
theorem xX5_comes_8 : xdec cX5_comes 8 = some (.ireturn, 9, 0, 0) := by decide +kernel
theorem xX5_comes_9 : xdec cX5_comes 9 = some (.aload_n 0, 10, 0, 0) := by decide +kernel
theorem xX5_comes_10 : xdec cX5_comes 10 = some (.iload_n 1, 11, 1, 0) := by decide +kernel
theorem xX5_comes_11 : xdec cX5_comes 11 = some (.invokevirtual 116, 14, 0, 0) := by decide +kernel
theorem xX5_comes_14 : xdec cX5_comes 14 = some (.istore_n 3, 15, 3, 0) := by decide +kernel
theorem xX5_comes_15 : xdec cX5_comes 15 = some (.iload_n 3, 16, 3, 0) := by decide +kernel
theorem xX5_comes_16 : xdec cX5_comes 16 = some (.ifCond .eq 5, 19, 21, 0) := by decide +kernel
theorem xX5_comes_19 : xdec cX5_comes 19 = some (.iload_n 3, 20, 3, 0) := by decide +kernel
theorem xX5_comes_20 : xdec cX5_comes 20 = some (.ireturn, 21, 0, 0) := by decide +kernel
theorem xX5_comes_21 : xdec cX5_comes 21 = some (.aload_n 0, 22, 0, 0) := by decide +kernel
theorem xX5_comes_22 : xdec cX5_comes 22 = some (.getfield 10, 25, 10, 0) := by decide +kernel
theorem xX5_comes_25 : xdec cX5_comes 25 = some (.aload_n 0, 26, 0, 0) := by decide +kernel
theorem xX5_comes_26 : xdec cX5_comes 26 = some (.getfield 28, 29, 28, 0) := by decide +kernel
theorem xX5_comes_29 : xdec cX5_comes 29 = some (.iload_n 1, 30, 1, 0) := by decide +kernel
theorem xX5_comes_30 : xdec cX5_comes 30 = some (.aaload, 31, 0, 0) := by decide +kernel
theorem xX5_comes_31 : xdec cX5_comes 31 = some (.getfield 119, 34, 119, 0) := by decide +kernel
theorem xX5_comes_34 : xdec cX5_comes 34 = some (.aload_n 0, 35, 0, 0) := by decide +kernel
theorem xX5_comes_35 : xdec cX5_comes 35 = some (.getfield 28, 38, 28, 0) := by decide +kernel
theorem xX5_comes_38 : xdec cX5_comes 38 = some (.iload_n 1, 39, 1, 0) := by decide +kernel
theorem xX5_comes_39 : xdec cX5_comes 39 = some (.aaload, 40, 0, 0) := by decide +kernel
theorem xX5_comes_40 : xdec cX5_comes 40 = some (.getfield 122, 43, 122, 0) := by decide +kernel
theorem xX5_comes_43 : xdec cX5_comes 43 = some (.iload_n 2, 44, 2, 0) := by decide +kernel
theorem xX5_comes_44 : xdec cX5_comes 44 = some (.invokevirtual 125, 47, 0, 0) := by decide +kernel
theorem xX5_comes_47 : xdec cX5_comes 47 = some (.ireturn, 48, 0, 0) := by decide +kernel
theorem xX5_wishes_0 : xdec cX5_wishes 0 = some (.aload_n 0, 1, 0, 0) := by decide +kernel
theorem xX5_wishes_1 : xdec cX5_wishes 1 = some (.getfield 10, 4, 10, 0) := by decide +kernel
theorem xX5_wishes_4 : xdec cX5_wishes 4 = some (.iload_n 1, 5, 1, 0) := by decide +kernel
theorem xX5_wishes_5 : xdec cX5_wishes 5 = some (.invokevirtual 80, 8, 0, 0) := by decide +kernel
theorem xX5_wishes_8 : xdec cX5_wishes 8 = some (.ifCond .eq 10, 11, 18, 0) := by decide +kernel
theorem xX5_wishes_11 : xdec cX5_wishes 11 = some (.iload_n 2, 12, 2, 0) := by decide +kernel
theorem xX5_wishes_12 : xdec cX5_wishes 12 = some (.invokestatic 110, 15, 0, 0) := by decide +kernel
theorem xX5_wishes_15 : xdec cX5_wishes 15 = some (.ifCond .ne 5, 18, 20, 0) := by decide +kernel
theorem xX5_wishes_18 : xdec cX5_wishes 18 = some (.iconst (-1), 19, 0, (-1)) := by decide +kernel
theorem xX5_wishes_19 : xdec cX5_wishes 19 = some (.ireturn, 20, 0, 0) := by decide +kernel
theorem xX5_wishes_20 : xdec cX5_wishes 20 = some (.aload_n 0, 21, 0, 0) := by decide +kernel
theorem xX5_wishes_21 : xdec cX5_wishes 21 = some (.getfield 10, 24, 10, 0) := by decide +kernel
theorem xX5_wishes_24 : xdec cX5_wishes 24 = some (.getfield 89, 27, 89, 0) := by decide +kernel
theorem xX5_wishes_27 : xdec cX5_wishes 27 = some (.iload_n 1, 28, 1, 0) := by decide +kernel
theorem xX5_wishes_28 : xdec cX5_wishes 28 = some (.iaload, 29, 0, 0) := by decide +kernel
theorem xX5_wishes_29 : xdec cX5_wishes 29 = some (.istore_n 3, 30, 3, 0) := by decide +kernel
theorem xX5_wishes_30 : xdec cX5_wishes 30 = some (.aload_n 0, 31, 0, 0) := by decide +kernel
theorem xX5_wishes_31 : xdec cX5_wishes 31 = some (.getfield 10, 34, 10, 0) := by decide +kernel
theorem xX5_wishes_34 : xdec cX5_wishes 34 = some (.getfield 89, 37, 89, 0) := by decide +kernel
theorem xX5_wishes_37 : xdec cX5_wishes 37 = some (.iload_n 1, 38, 1, 0) := by decide +kernel
theorem xX5_wishes_38 : xdec cX5_wishes 38 = some (.iload_n 2, 39, 2, 0) := by decide +kernel
theorem xX5_wishes_39 : xdec cX5_wishes 39 = some (.iastore, 40, 0, 0) := by decide +kernel
theorem xX5_wishes_40 : xdec cX5_wishes 40 = some (.iload_n 3, 41, 3, 0) := by decide +kernel
theorem xX5_wishes_41 : xdec cX5_wishes 41 = some (.ireturn, 42, 0, 0) := by decide +kernel
theorem xX5_heals_0 : xdec cX5_heals 0 = some (.aload_n 0, 1, 0, 0) := by decide +kernel
theorem xX5_heals_1 : xdec cX5_heals 1 = some (.getfield 10, 4, 10, 0) := by decide +kernel
theorem xX5_heals_4 : xdec cX5_heals 4 = some (.iload_n 1, 5, 1, 0) := by decide +kernel
theorem xX5_heals_5 : xdec cX5_heals 5 = some (.invokevirtual 80, 8, 0, 0) := by decide +kernel
theorem xX5_heals_8 : xdec cX5_heals 8 = some (.ifCond .eq 13, 11, 21, 0) := by decide +kernel
theorem xX5_heals_11 : xdec cX5_heals 11 = some (.iload_n 2, 12, 2, 0) := by decide +kernel
theorem xX5_heals_12 : xdec cX5_heals 12 = some (.iconst 1, 13, 0, 1) := by decide +kernel
theorem xX5_heals_13 : xdec cX5_heals 13 = some (.bipush 99, 15, 0, 99) := by decide +kernel
theorem xX5_heals_15 : xdec cX5_heals 15 = some (.invokestatic 129, 18, 0, 0) := by decide +kernel
theorem xX5_heals_18 : xdec cX5_heals 18 = some (.ifCond .ne 5, 21, 23, 0) := by decide +kernel
theorem xX5_heals_21 : xdec cX5_heals 21 = some (.iconst (-1), 22, 0, (-1)) := by decide +kernel
theorem xX5_heals_22 : xdec cX5_heals 22 = some (.ireturn, 23, 0, 0) := by decide +kernel
theorem xX5_heals_23 : xdec cX5_heals 23 = some (.aload_n 0, 24, 0, 0) := by decide +kernel
theorem xX5_heals_24 : xdec cX5_heals 24 = some (.getfield 10, 27, 10, 0) := by decide +kernel
theorem xX5_heals_27 : xdec cX5_heals 27 = some (.iload_n 1, 28, 1, 0) := by decide +kernel
theorem xX5_heals_28 : xdec cX5_heals 28 = some (.invokevirtual 98, 31, 0, 0) := by decide +kernel
theorem xX5_heals_31 : xdec cX5_heals 31 = some (.ifCond .ne 6, 34, 37, 0) := by decide +kernel
theorem xX5_heals_34 : xdec cX5_heals 34 = some (.bipush (-3), 36, 0, (-3)) := by decide +kernel
theorem xX5_heals_36 : xdec cX5_heals 36 = some (.ireturn, 37, 0, 0) := by decide +kernel
theorem xX5_heals_37 : xdec cX5_heals 37 = some (.aload_n 0, 38, 0, 0) := by decide +kernel
theorem xX5_heals_38 : xdec cX5_heals 38 = some (.getfield 10, 41, 10, 0) := by decide +kernel
theorem xX5_heals_41 : xdec cX5_heals 41 = some (.getfield 95, 44, 95, 0) := by decide +kernel
theorem xX5_heals_44 : xdec cX5_heals 44 = some (.iload_n 1, 45, 1, 0) := by decide +kernel
theorem xX5_heals_45 : xdec cX5_heals 45 = some (.iaload, 46, 0, 0) := by decide +kernel
theorem xX5_heals_46 : xdec cX5_heals 46 = some (.istore_n 3, 47, 3, 0) := by decide +kernel
theorem xX5_heals_47 : xdec cX5_heals 47 = some (.aload_n 0, 48, 0, 0) := by decide +kernel
theorem xX5_heals_48 : xdec cX5_heals 48 = some (.getfield 10, 51, 10, 0) := by decide +kernel
theorem xX5_heals_51 : xdec cX5_heals 51 = some (.getfield 95, 54, 95, 0) := by decide +kernel
theorem xX5_heals_54 : xdec cX5_heals 54 = some (.iload_n 1, 55, 1, 0) := by decide +kernel
theorem xX5_heals_55 : xdec cX5_heals 55 = some (.iload_n 2, 56, 2, 0) := by decide +kernel
theorem xX5_heals_56 : xdec cX5_heals 56 = some (.iastore, 57, 0, 0) := by decide +kernel
theorem xX5_heals_57 : xdec cX5_heals 57 = some (.iload_n 3, 58, 3, 0) := by decide +kernel
theorem xX5_heals_58 : xdec cX5_heals 58 = some (.ireturn, 59, 0, 0) := by decide +kernel
theorem xX5_fills_0 : xdec cX5_fills 0 = some (.iload_n 1, 1, 1, 0) := by decide +kernel
theorem xX5_fills_1 : xdec cX5_fills 1 = some (.invokestatic 110, 4, 0, 0) := by decide +kernel
theorem xX5_fills_4 : xdec cX5_fills 4 = some (.ifCond .eq 13, 7, 17, 0) := by decide +kernel
theorem xX5_fills_7 : xdec cX5_fills 7 = some (.iload_n 2, 8, 2, 0) := by decide +kernel
theorem xX5_fills_8 : xdec cX5_fills 8 = some (.iconst 0, 9, 0, 0) := by decide +kernel
theorem xX5_fills_9 : xdec cX5_fills 9 = some (.bipush 99, 11, 0, 99) := by decide +kernel
theorem xX5_fills_11 : xdec cX5_fills 11 = some (.invokestatic 129, 14, 0, 0) := by decide +kernel
theorem xX5_fills_14 : xdec cX5_fills 14 = some (.ifCond .ne 5, 17, 19, 0) := by decide +kernel
theorem xX5_fills_17 : xdec cX5_fills 17 = some (.iconst (-1), 18, 0, (-1)) := by decide +kernel
theorem xX5_fills_18 : xdec cX5_fills 18 = some (.ireturn, 19, 0, 0) := by decide +kernel
theorem xX5_fills_19 : xdec cX5_fills 19 = some (.aload_n 0, 20, 0, 0) := by decide +kernel
theorem xX5_fills_20 : xdec cX5_fills 20 = some (.getfield 10, 23, 10, 0) := by decide +kernel
theorem xX5_fills_23 : xdec cX5_fills 23 = some (.getfield 113, 26, 113, 0) := by decide +kernel
theorem xX5_fills_26 : xdec cX5_fills 26 = some (.iload_n 1, 27, 1, 0) := by decide +kernel
theorem xX5_fills_27 : xdec cX5_fills 27 = some (.iaload, 28, 0, 0) := by decide +kernel
theorem xX5_fills_28 : xdec cX5_fills 28 = some (.istore_n 3, 29, 3, 0) := by decide +kernel
theorem xX5_fills_29 : xdec cX5_fills 29 = some (.aload_n 0, 30, 0, 0) := by decide +kernel
theorem xX5_fills_30 : xdec cX5_fills 30 = some (.getfield 10, 33, 10, 0) := by decide +kernel
theorem xX5_fills_33 : xdec cX5_fills 33 = some (.getfield 113, 36, 113, 0) := by decide +kernel
theorem xX5_fills_36 : xdec cX5_fills 36 = some (.iload_n 1, 37, 1, 0) := by decide +kernel
theorem xX5_fills_37 : xdec cX5_fills 37 = some (.iload_n 2, 38, 2, 0) := by decide +kernel
theorem xX5_fills_38 : xdec cX5_fills 38 = some (.iastore, 39, 0, 0) := by decide +kernel
theorem xX5_fills_39 : xdec cX5_fills 39 = some (.iload_n 3, 40, 3, 0) := by decide +kernel
theorem xX5_fills_40 : xdec cX5_fills 40 = some (.ireturn, 41, 0, 0) := by decide +kernel
theorem xX5_nights_0 : xdec cX5_nights 0 = some (.iload_n 1, 1, 1, 0) := by decide +kernel
theorem xX5_nights_1 : xdec cX5_nights 1 = some (.iconst 1, 2, 0, 1) := by decide +kernel
theorem xX5_nights_2 : xdec cX5_nights 2 = some (.bipush 60, 4, 0, 60) := by decide +kernel
theorem xX5_nights_4 : xdec cX5_nights 4 = some (.invokestatic 129, 7, 0, 0) := by decide +kernel
theorem xX5_nights_7 : xdec cX5_nights 7 = some (.ifCond .ne 5, 10, 12, 0) := by decide +kernel
theorem xX5_nights_10 : xdec cX5_nights 10 = some (.iconst (-1), 11, 0, (-1)) := by decide +kernel
theorem xX5_nights_11 : xdec cX5_nights 11 = some (.ireturn, 12, 0, 0) := by decide +kernel
theorem xX5_nights_12 : xdec cX5_nights 12 = some (.aload_n 0, 13, 0, 0) := by decide +kernel
theorem xX5_nights_13 : xdec cX5_nights 13 = some (.getfield 10, 16, 10, 0) := by decide +kernel
theorem xX5_nights_16 : xdec cX5_nights 16 = some (.getfield 133, 19, 133, 0) := by decide +kernel
theorem xX5_nights_19 : xdec cX5_nights 19 = some (.iload_n 1, 20, 1, 0) := by decide +kernel
theorem xX5_nights_20 : xdec cX5_nights 20 = some (.iadd, 21, 0, 0) := by decide +kernel
theorem xX5_nights_21 : xdec cX5_nights 21 = some (.sipush 999, 24, 0, 999) := by decide +kernel
theorem xX5_nights_24 : xdec cX5_nights 24 = some (.if_icmp .le 6, 27, 30, 0) := by decide +kernel
theorem xX5_nights_27 : xdec cX5_nights 27 = some (.bipush (-3), 29, 0, (-3)) := by decide +kernel
theorem xX5_nights_29 : xdec cX5_nights 29 = some (.ireturn, 30, 0, 0) := by decide +kernel
theorem xX5_nights_30 : xdec cX5_nights 30 = some (.aload_n 0, 31, 0, 0) := by decide +kernel
theorem xX5_nights_31 : xdec cX5_nights 31 = some (.getfield 10, 34, 10, 0) := by decide +kernel
theorem xX5_nights_34 : xdec cX5_nights 34 = some (.iload_n 1, 35, 1, 0) := by decide +kernel
theorem xX5_nights_35 : xdec cX5_nights 35 = some (.invokevirtual 136, 38, 0, 0) := by decide +kernel
theorem xX5_nights_38 : xdec cX5_nights 38 = some (.aload_n 0, 39, 0, 0) := by decide +kernel
theorem xX5_nights_39 : xdec cX5_nights 39 = some (.getfield 10, 42, 10, 0) := by decide +kernel
theorem xX5_nights_42 : xdec cX5_nights 42 = some (.getfield 140, 45, 140, 0) := by decide +kernel
theorem xX5_nights_45 : xdec cX5_nights 45 = some (.invokestatic 143, 48, 0, 0) := by decide +kernel
theorem xX5_nights_48 : xdec cX5_nights 48 = some (.ireturn, 49, 0, 0) := by decide +kernel
theorem xX5_guestThen_0 : xdec cX5_guestThen 0 = some (.aload_n 0, 1, 0, 0) := by decide +kernel
theorem xX5_guestThen_1 : xdec cX5_guestThen 1 = some (.getfield 10, 4, 10, 0) := by decide +kernel
theorem xX5_guestThen_4 : xdec cX5_guestThen 4 = some (.iload_n 1, 5, 1, 0) := by decide +kernel
theorem xX5_guestThen_5 : xdec cX5_guestThen 5 = some (.invokevirtual 80, 8, 0, 0) := by decide +kernel
theorem xX5_guestThen_8 : xdec cX5_guestThen 8 = some (.ifCond .eq 19, 11, 27, 0) := by decide +kernel
theorem xX5_guestThen_11 : xdec cX5_guestThen 11 = some (.iload_n 2, 12, 2, 0) := by decide +kernel
theorem xX5_guestThen_12 : xdec cX5_guestThen 12 = some (.invokestatic 148, 15, 0, 0) := by decide +kernel
theorem xX5_guestThen_15 : xdec cX5_guestThen 15 = some (.ifCond .eq 12, 18, 27, 0) := by decide +kernel
theorem xX5_guestThen_18 : xdec cX5_guestThen 18 = some (.iload_n 3, 19, 3, 0) := by decide +kernel
theorem xX5_guestThen_19 : xdec cX5_guestThen 19 = some (.iconst 0, 20, 0, 0) := by decide +kernel
theorem xX5_guestThen_20 : xdec cX5_guestThen 20 = some (.iconst 1, 21, 0, 1) := by decide +kernel
theorem xX5_guestThen_21 : xdec cX5_guestThen 21 = some (.invokestatic 129, 24, 0, 0) := by decide +kernel
theorem xX5_guestThen_24 : xdec cX5_guestThen 24 = some (.ifCond .ne 5, 27, 29, 0) := by decide +kernel
theorem xX5_guestThen_27 : xdec cX5_guestThen 27 = some (.iconst (-1), 28, 0, (-1)) := by decide +kernel
theorem xX5_guestThen_28 : xdec cX5_guestThen 28 = some (.ireturn, 29, 0, 0) := by decide +kernel
theorem xX5_guestThen_29 : xdec cX5_guestThen 29 = some (.aload_n 0, 30, 0, 0) := by decide +kernel
theorem xX5_guestThen_30 : xdec cX5_guestThen 30 = some (.invokevirtual 58, 33, 0, 0) := by decide +kernel
theorem xX5_guestThen_33 : xdec cX5_guestThen 33 = some (.astore 4, 35, 4, 0) := by decide +kernel
theorem xX5_guestThen_35 : xdec cX5_guestThen 35 = some (.aload 4, 37, 4, 0) := by decide +kernel
theorem xX5_guestThen_37 : xdec cX5_guestThen 37 = some (.iload_n 2, 38, 2, 0) := by decide +kernel
theorem xX5_guestThen_38 : xdec cX5_guestThen 38 = some (.invokevirtual 136, 41, 0, 0) := by decide +kernel
theorem xX5_guestThen_41 : xdec cX5_guestThen 41 = some (.iload_n 3, 42, 3, 0) := by decide +kernel
theorem xX5_guestThen_42 : xdec cX5_guestThen 42 = some (.ifCond .ne 13, 45, 55, 0) := by decide +kernel
theorem xX5_guestThen_45 : xdec cX5_guestThen 45 = some (.aload 4, 47, 4, 0) := by decide +kernel
theorem xX5_guestThen_47 : xdec cX5_guestThen 47 = some (.getfield 95, 50, 95, 0) := by decide +kernel
theorem xX5_guestThen_50 : xdec cX5_guestThen 50 = some (.iload_n 1, 51, 1, 0) := by decide +kernel
theorem xX5_guestThen_51 : xdec cX5_guestThen 51 = some (.iaload, 52, 0, 0) := by decide +kernel
theorem xX5_guestThen_52 : xdec cX5_guestThen 52 = some (.goto 10, 55, 62, 0) := by decide +kernel
theorem xX5_guestThen_55 : xdec cX5_guestThen 55 = some (.aload 4, 57, 4, 0) := by decide +kernel
theorem xX5_guestThen_57 : xdec cX5_guestThen 57 = some (.getfield 92, 60, 92, 0) := by decide +kernel
theorem xX5_guestThen_60 : xdec cX5_guestThen 60 = some (.iload_n 1, 61, 1, 0) := by decide +kernel
theorem xX5_guestThen_61 : xdec cX5_guestThen 61 = some (.iaload, 62, 0, 0) := by decide +kernel
theorem xX5_guestThen_62 : xdec cX5_guestThen 62 = some (.ireturn, 63, 0, 0) := by decide +kernel
theorem xX5_larderThen_0 : xdec cX5_larderThen 0 = some (.iload_n 1, 1, 1, 0) := by decide +kernel
theorem xX5_larderThen_1 : xdec cX5_larderThen 1 = some (.invokestatic 110, 4, 0, 0) := by decide +kernel
theorem xX5_larderThen_4 : xdec cX5_larderThen 4 = some (.ifCond .eq 10, 7, 14, 0) := by decide +kernel
theorem xX5_larderThen_7 : xdec cX5_larderThen 7 = some (.iload_n 2, 8, 2, 0) := by decide +kernel
theorem xX5_larderThen_8 : xdec cX5_larderThen 8 = some (.invokestatic 148, 11, 0, 0) := by decide +kernel
theorem xX5_larderThen_11 : xdec cX5_larderThen 11 = some (.ifCond .ne 5, 14, 16, 0) := by decide +kernel
theorem xX5_larderThen_14 : xdec cX5_larderThen 14 = some (.iconst (-1), 15, 0, (-1)) := by decide +kernel
theorem xX5_larderThen_15 : xdec cX5_larderThen 15 = some (.ireturn, 16, 0, 0) := by decide +kernel
theorem xX5_larderThen_16 : xdec cX5_larderThen 16 = some (.aload_n 0, 17, 0, 0) := by decide +kernel
theorem xX5_larderThen_17 : xdec cX5_larderThen 17 = some (.invokevirtual 58, 20, 0, 0) := by decide +kernel
theorem xX5_larderThen_20 : xdec cX5_larderThen 20 = some (.astore_n 3, 21, 3, 0) := by decide +kernel
theorem xX5_larderThen_21 : xdec cX5_larderThen 21 = some (.aload_n 3, 22, 3, 0) := by decide +kernel
theorem xX5_larderThen_22 : xdec cX5_larderThen 22 = some (.iload_n 2, 23, 2, 0) := by decide +kernel
theorem xX5_larderThen_23 : xdec cX5_larderThen 23 = some (.invokevirtual 136, 26, 0, 0) := by decide +kernel
theorem xX5_larderThen_26 : xdec cX5_larderThen 26 = some (.aload_n 3, 27, 3, 0) := by decide +kernel
theorem xX5_larderThen_27 : xdec cX5_larderThen 27 = some (.getfield 113, 30, 113, 0) := by decide +kernel
theorem xX5_larderThen_30 : xdec cX5_larderThen 30 = some (.iload_n 1, 31, 1, 0) := by decide +kernel
theorem xX5_larderThen_31 : xdec cX5_larderThen 31 = some (.iaload, 32, 0, 0) := by decide +kernel
theorem xX5_larderThen_32 : xdec cX5_larderThen 32 = some (.ireturn, 33, 0, 0) := by decide +kernel
theorem xX5_then_0 : xdec cX5_then 0 = some (.iload_n 1, 1, 1, 0) := by decide +kernel
theorem xX5_then_1 : xdec cX5_then 1 = some (.invokestatic 148, 4, 0, 0) := by decide +kernel
theorem xX5_then_4 : xdec cX5_then 4 = some (.ifCond .eq 12, 7, 16, 0) := by decide +kernel
theorem xX5_then_7 : xdec cX5_then 7 = some (.iload_n 2, 8, 2, 0) := by decide +kernel
theorem xX5_then_8 : xdec cX5_then 8 = some (.iconst 0, 9, 0, 0) := by decide +kernel
theorem xX5_then_9 : xdec cX5_then 9 = some (.iconst 2, 10, 0, 2) := by decide +kernel
theorem xX5_then_10 : xdec cX5_then 10 = some (.invokestatic 129, 13, 0, 0) := by decide +kernel
theorem xX5_then_13 : xdec cX5_then 13 = some (.ifCond .ne 5, 16, 18, 0) := by decide +kernel
theorem xX5_then_16 : xdec cX5_then 16 = some (.iconst (-1), 17, 0, (-1)) := by decide +kernel
theorem xX5_then_17 : xdec cX5_then 17 = some (.ireturn, 18, 0, 0) := by decide +kernel
theorem xX5_then_18 : xdec cX5_then 18 = some (.aload_n 0, 19, 0, 0) := by decide +kernel
theorem xX5_then_19 : xdec cX5_then 19 = some (.invokevirtual 58, 22, 0, 0) := by decide +kernel
theorem xX5_then_22 : xdec cX5_then 22 = some (.astore_n 3, 23, 3, 0) := by decide +kernel
theorem xX5_then_23 : xdec cX5_then 23 = some (.aload_n 3, 24, 3, 0) := by decide +kernel
theorem xX5_then_24 : xdec cX5_then 24 = some (.iload_n 1, 25, 1, 0) := by decide +kernel
theorem xX5_then_25 : xdec cX5_then 25 = some (.invokevirtual 136, 28, 0, 0) := by decide +kernel
theorem xX5_then_28 : xdec cX5_then 28 = some (.iload_n 2, 29, 2, 0) := by decide +kernel
theorem xX5_then_29 : xdec cX5_then 29 = some (.ifCond .ne 8, 32, 37, 0) := by decide +kernel
theorem xX5_then_32 : xdec cX5_then 32 = some (.aload_n 3, 33, 3, 0) := by decide +kernel
theorem xX5_then_33 : xdec cX5_then 33 = some (.getfield 140, 36, 140, 0) := by decide +kernel
theorem xX5_then_36 : xdec cX5_then 36 = some (.ireturn, 37, 0, 0) := by decide +kernel
theorem xX5_then_37 : xdec cX5_then 37 = some (.iload_n 2, 38, 2, 0) := by decide +kernel
theorem xX5_then_38 : xdec cX5_then 38 = some (.iconst 1, 39, 0, 1) := by decide +kernel
theorem xX5_then_39 : xdec cX5_then 39 = some (.if_icmp .ne 10, 42, 49, 0) := by decide +kernel
theorem xX5_then_42 : xdec cX5_then 42 = some (.aload_n 3, 43, 3, 0) := by decide +kernel
theorem xX5_then_43 : xdec cX5_then 43 = some (.getfield 151, 46, 151, 0) := by decide +kernel
theorem xX5_then_46 : xdec cX5_then 46 = some (.goto 7, 49, 53, 0) := by decide +kernel
theorem xX5_then_49 : xdec cX5_then 49 = some (.aload_n 3, 50, 3, 0) := by decide +kernel
theorem xX5_then_50 : xdec cX5_then 50 = some (.getfield 154, 53, 154, 0) := by decide +kernel
theorem xX5_then_53 : xdec cX5_then 53 = some (.ireturn, 54, 0, 0) := by decide +kernel
theorem xX5_leaves_0 : xdec cX5_leaves 0 = some (.iload_n 1, 1, 1, 0) := by decide +kernel
theorem xX5_leaves_1 : xdec cX5_leaves 1 = some (.iconst (-1), 2, 0, (-1)) := by decide +kernel
theorem xX5_leaves_2 : xdec cX5_leaves 2 = some (.if_icmp .ne 8, 5, 10, 0) := by decide +kernel
theorem xX5_leaves_5 : xdec cX5_leaves 5 = some (.aload_n 0, 6, 0, 0) := by decide +kernel
theorem xX5_leaves_6 : xdec cX5_leaves 6 = some (.invokevirtual 157, 9, 0, 0) := by decide +kernel
theorem xX5_leaves_9 : xdec cX5_leaves 9 = some (.ireturn, 10, 0, 0) := by decide +kernel
theorem xX5_leaves_10 : xdec cX5_leaves 10 = some (.aload_n 0, 11, 0, 0) := by decide +kernel
theorem xX5_leaves_11 : xdec cX5_leaves 11 = some (.getfield 10, 14, 10, 0) := by decide +kernel
theorem xX5_leaves_14 : xdec cX5_leaves 14 = some (.iload_n 1, 15, 1, 0) := by decide +kernel
theorem xX5_leaves_15 : xdec cX5_leaves 15 = some (.invokevirtual 80, 18, 0, 0) := by decide +kernel
theorem xX5_leaves_18 : xdec cX5_leaves 18 = some (.ifCond .ne 5, 21, 23, 0) := by decide +kernel
theorem xX5_leaves_21 : xdec cX5_leaves 21 = some (.iconst (-1), 22, 0, (-1)) := by decide +kernel
theorem xX5_leaves_22 : xdec cX5_leaves 22 = some (.ireturn, 23, 0, 0) := by decide +kernel
theorem xX5_leaves_23 : xdec cX5_leaves 23 = some (.aload_n 0, 24, 0, 0) := by decide +kernel
theorem xX5_leaves_24 : xdec cX5_leaves 24 = some (.invokevirtual 58, 27, 0, 0) := by decide +kernel
theorem xX5_leaves_27 : xdec cX5_leaves 27 = some (.astore_n 2, 28, 2, 0) := by decide +kernel
theorem xX5_leaves_28 : xdec cX5_leaves 28 = some (.iconst 0, 29, 0, 0) := by decide +kernel
theorem xX5_leaves_29 : xdec cX5_leaves 29 = some (.istore_n 3, 30, 3, 0) := by decide +kernel
theorem xX5_leaves_30 : xdec cX5_leaves 30 = some (.iload_n 3, 31, 3, 0) := by decide +kernel
theorem xX5_leaves_31 : xdec cX5_leaves 31 = some (.bipush 60, 33, 0, 60) := by decide +kernel
theorem xX5_leaves_33 : xdec cX5_leaves 33 = some (.if_icmp .gt 24, 36, 57, 0) := by decide +kernel
theorem xX5_leaves_36 : xdec cX5_leaves 36 = some (.aload_n 2, 37, 2, 0) := by decide +kernel
theorem xX5_leaves_37 : xdec cX5_leaves 37 = some (.iload_n 1, 38, 1, 0) := by decide +kernel
theorem xX5_leaves_38 : xdec cX5_leaves 38 = some (.invokevirtual 98, 41, 0, 0) := by decide +kernel
theorem xX5_leaves_41 : xdec cX5_leaves 41 = some (.ifCond .ne 5, 44, 46, 0) := by decide +kernel
theorem xX5_leaves_44 : xdec cX5_leaves 44 = some (.iload_n 3, 45, 3, 0) := by decide +kernel
theorem xX5_leaves_45 : xdec cX5_leaves 45 = some (.ireturn, 46, 0, 0) := by decide +kernel
theorem xX5_leaves_46 : xdec cX5_leaves 46 = some (.aload_n 2, 47, 2, 0) := by decide +kernel
theorem xX5_leaves_47 : xdec cX5_leaves 47 = some (.iconst 1, 48, 0, 1) := by decide +kernel
theorem xX5_leaves_48 : xdec cX5_leaves 48 = some (.invokevirtual 136, 51, 0, 0) := by decide +kernel
theorem xX5_leaves_51 : xdec cX5_leaves 51 = some (.iinc 3 1, 54, 3, 1) := by decide +kernel
theorem xX5_leaves_54 : xdec cX5_leaves 54 = some (.goto (-24), 57, 30, 0) := by decide +kernel
theorem xX5_leaves_57 : xdec cX5_leaves 57 = some (.bipush (-4), 59, 0, (-4)) := by decide +kernel
theorem xX5_leaves_59 : xdec cX5_leaves 59 = some (.ireturn, 60, 0, 0) := by decide +kernel
theorem xX5_firstToLeave_0 : xdec cX5_firstToLeave 0 = some (.aload_n 0, 1, 0, 0) := by decide +kernel
theorem xX5_firstToLeave_1 : xdec cX5_firstToLeave 1 = some (.invokevirtual 58, 4, 0, 0) := by decide +kernel
theorem xX5_firstToLeave_4 : xdec cX5_firstToLeave 4 = some (.astore_n 1, 5, 1, 0) := by decide +kernel
theorem xX5_firstToLeave_5 : xdec cX5_firstToLeave 5 = some (.iconst 0, 6, 0, 0) := by decide +kernel
theorem xX5_firstToLeave_6 : xdec cX5_firstToLeave 6 = some (.istore_n 2, 7, 2, 0) := by decide +kernel
theorem xX5_firstToLeave_7 : xdec cX5_firstToLeave 7 = some (.iload_n 2, 8, 2, 0) := by decide +kernel
theorem xX5_firstToLeave_8 : xdec cX5_firstToLeave 8 = some (.bipush 60, 10, 0, 60) := by decide +kernel
theorem xX5_firstToLeave_10 : xdec cX5_firstToLeave 10 = some (.if_icmp .ge 38, 13, 48, 0) := by decide +kernel
theorem xX5_firstToLeave_13 : xdec cX5_firstToLeave 13 = some (.aload_n 1, 14, 1, 0) := by decide +kernel
theorem xX5_firstToLeave_14 : xdec cX5_firstToLeave 14 = some (.iconst 1, 15, 0, 1) := by decide +kernel
theorem xX5_firstToLeave_15 : xdec cX5_firstToLeave 15 = some (.invokevirtual 136, 18, 0, 0) := by decide +kernel
theorem xX5_firstToLeave_18 : xdec cX5_firstToLeave 18 = some (.aload_n 0, 19, 0, 0) := by decide +kernel
theorem xX5_firstToLeave_19 : xdec cX5_firstToLeave 19 = some (.getfield 10, 22, 10, 0) := by decide +kernel
theorem xX5_firstToLeave_22 : xdec cX5_firstToLeave 22 = some (.getfield 140, 25, 140, 0) := by decide +kernel
theorem xX5_firstToLeave_25 : xdec cX5_firstToLeave 25 = some (.aload_n 1, 26, 1, 0) := by decide +kernel
theorem xX5_firstToLeave_26 : xdec cX5_firstToLeave 26 = some (.getfield 140, 29, 140, 0) := by decide +kernel
theorem xX5_firstToLeave_29 : xdec cX5_firstToLeave 29 = some (.iconst (-1), 30, 0, (-1)) := by decide +kernel
theorem xX5_firstToLeave_30 : xdec cX5_firstToLeave 30 = some (.ixor, 31, 0, 0) := by decide +kernel
theorem xX5_firstToLeave_31 : xdec cX5_firstToLeave 31 = some (.iand, 32, 0, 0) := by decide +kernel
theorem xX5_firstToLeave_32 : xdec cX5_firstToLeave 32 = some (.istore_n 3, 33, 3, 0) := by decide +kernel
theorem xX5_firstToLeave_33 : xdec cX5_firstToLeave 33 = some (.iload_n 3, 34, 3, 0) := by decide +kernel
theorem xX5_firstToLeave_34 : xdec cX5_firstToLeave 34 = some (.ifCond .eq 8, 37, 42, 0) := by decide +kernel
theorem xX5_firstToLeave_37 : xdec cX5_firstToLeave 37 = some (.iload_n 3, 38, 3, 0) := by decide +kernel
theorem xX5_firstToLeave_38 : xdec cX5_firstToLeave 38 = some (.invokestatic 161, 41, 0, 0) := by decide +kernel
theorem xX5_firstToLeave_41 : xdec cX5_firstToLeave 41 = some (.ireturn, 42, 0, 0) := by decide +kernel
theorem xX5_firstToLeave_42 : xdec cX5_firstToLeave 42 = some (.iinc 2 1, 45, 2, 1) := by decide +kernel
theorem xX5_firstToLeave_45 : xdec cX5_firstToLeave 45 = some (.goto (-38), 48, 7, 0) := by decide +kernel
theorem xX5_firstToLeave_48 : xdec cX5_firstToLeave 48 = some (.bipush (-4), 50, 0, (-4)) := by decide +kernel
theorem xX5_firstToLeave_50 : xdec cX5_firstToLeave 50 = some (.ireturn, 51, 0, 0) := by decide +kernel
theorem xX5_out_0 : xdec cX5_out 0 = some (.iload_n 1, 1, 1, 0) := by decide +kernel
theorem xX5_out_1 : xdec cX5_out 1 = some (.invokestatic 110, 4, 0, 0) := by decide +kernel
theorem xX5_out_4 : xdec cX5_out 4 = some (.ifCond .ne 5, 7, 9, 0) := by decide +kernel
theorem xX5_out_7 : xdec cX5_out 7 = some (.iconst (-1), 8, 0, (-1)) := by decide +kernel
theorem xX5_out_8 : xdec cX5_out 8 = some (.ireturn, 9, 0, 0) := by decide +kernel
theorem xX5_out_9 : xdec cX5_out 9 = some (.aload_n 0, 10, 0, 0) := by decide +kernel
theorem xX5_out_10 : xdec cX5_out 10 = some (.invokevirtual 58, 13, 0, 0) := by decide +kernel
theorem xX5_out_13 : xdec cX5_out 13 = some (.astore_n 2, 14, 2, 0) := by decide +kernel
theorem xX5_out_14 : xdec cX5_out 14 = some (.iconst 0, 15, 0, 0) := by decide +kernel
theorem xX5_out_15 : xdec cX5_out 15 = some (.istore_n 3, 16, 3, 0) := by decide +kernel
theorem xX5_out_16 : xdec cX5_out 16 = some (.iload_n 3, 17, 3, 0) := by decide +kernel
theorem xX5_out_17 : xdec cX5_out 17 = some (.bipush 60, 19, 0, 60) := by decide +kernel
theorem xX5_out_19 : xdec cX5_out 19 = some (.if_icmp .gt 25, 22, 44, 0) := by decide +kernel
theorem xX5_out_22 : xdec cX5_out 22 = some (.aload_n 2, 23, 2, 0) := by decide +kernel
theorem xX5_out_23 : xdec cX5_out 23 = some (.getfield 113, 26, 113, 0) := by decide +kernel
theorem xX5_out_26 : xdec cX5_out 26 = some (.iload_n 1, 27, 1, 0) := by decide +kernel
theorem xX5_out_27 : xdec cX5_out 27 = some (.iaload, 28, 0, 0) := by decide +kernel
theorem xX5_out_28 : xdec cX5_out 28 = some (.ifCond .ne 5, 31, 33, 0) := by decide +kernel
theorem xX5_out_31 : xdec cX5_out 31 = some (.iload_n 3, 32, 3, 0) := by decide +kernel
theorem xX5_out_32 : xdec cX5_out 32 = some (.ireturn, 33, 0, 0) := by decide +kernel
theorem xX5_out_33 : xdec cX5_out 33 = some (.aload_n 2, 34, 2, 0) := by decide +kernel
theorem xX5_out_34 : xdec cX5_out 34 = some (.iconst 1, 35, 0, 1) := by decide +kernel
theorem xX5_out_35 : xdec cX5_out 35 = some (.invokevirtual 136, 38, 0, 0) := by decide +kernel
theorem xX5_out_38 : xdec cX5_out 38 = some (.iinc 3 1, 41, 3, 1) := by decide +kernel
theorem xX5_out_41 : xdec cX5_out 41 = some (.goto (-25), 44, 16, 0) := by decide +kernel
theorem xX5_out_44 : xdec cX5_out 44 = some (.bipush (-4), 46, 0, (-4)) := by decide +kernel
theorem xX5_out_46 : xdec cX5_out 46 = some (.ireturn, 47, 0, 0) := by decide +kernel
theorem xX5_table_0 : xdec cX5_table 0 = some (.aload_n 0, 1, 0, 0) := by decide +kernel
theorem xX5_table_1 : xdec cX5_table 1 = some (.getfield 10, 4, 10, 0) := by decide +kernel
theorem xX5_table_4 : xdec cX5_table 4 = some (.iload_n 1, 5, 1, 0) := by decide +kernel
theorem xX5_table_5 : xdec cX5_table 5 = some (.invokevirtual 80, 8, 0, 0) := by decide +kernel
theorem xX5_table_8 : xdec cX5_table 8 = some (.ifCond .eq 12, 11, 20, 0) := by decide +kernel
theorem xX5_table_11 : xdec cX5_table 11 = some (.iload_n 2, 12, 2, 0) := by decide +kernel
theorem xX5_table_12 : xdec cX5_table 12 = some (.iconst 0, 13, 0, 0) := by decide +kernel
theorem xX5_table_13 : xdec cX5_table 13 = some (.iconst 1, 14, 0, 1) := by decide +kernel
theorem xX5_table_14 : xdec cX5_table 14 = some (.invokestatic 129, 17, 0, 0) := by decide +kernel
theorem xX5_table_17 : xdec cX5_table 17 = some (.ifCond .ne 5, 20, 22, 0) := by decide +kernel
theorem xX5_table_20 : xdec cX5_table 20 = some (.iconst (-1), 21, 0, (-1)) := by decide +kernel
theorem xX5_table_21 : xdec cX5_table 21 = some (.ireturn, 22, 0, 0) := by decide +kernel
theorem xX5_table_22 : xdec cX5_table 22 = some (.iload_n 2, 23, 2, 0) := by decide +kernel
theorem xX5_table_23 : xdec cX5_table 23 = some (.ifCond .ne 12, 26, 35, 0) := by decide +kernel
theorem xX5_table_26 : xdec cX5_table 26 = some (.aload_n 0, 27, 0, 0) := by decide +kernel
theorem xX5_table_27 : xdec cX5_table 27 = some (.getfield 10, 30, 10, 0) := by decide +kernel
theorem xX5_table_30 : xdec cX5_table 30 = some (.iload_n 1, 31, 1, 0) := by decide +kernel
theorem xX5_table_31 : xdec cX5_table 31 = some (.invokevirtual 164, 34, 0, 0) := by decide +kernel
theorem xX5_table_34 : xdec cX5_table 34 = some (.ireturn, 35, 0, 0) := by decide +kernel
theorem xX5_table_35 : xdec cX5_table 35 = some (.aload_n 0, 36, 0, 0) := by decide +kernel
theorem xX5_table_36 : xdec cX5_table 36 = some (.invokevirtual 58, 39, 0, 0) := by decide +kernel
theorem xX5_table_39 : xdec cX5_table 39 = some (.astore_n 3, 40, 3, 0) := by decide +kernel
theorem xX5_table_40 : xdec cX5_table 40 = some (.aload_n 3, 41, 3, 0) := by decide +kernel
theorem xX5_table_41 : xdec cX5_table 41 = some (.iconst 1, 42, 0, 1) := by decide +kernel
theorem xX5_table_42 : xdec cX5_table 42 = some (.invokevirtual 136, 45, 0, 0) := by decide +kernel
theorem xX5_table_45 : xdec cX5_table 45 = some (.aload_n 3, 46, 3, 0) := by decide +kernel
theorem xX5_table_46 : xdec cX5_table 46 = some (.getfield 167, 49, 167, 0) := by decide +kernel
theorem xX5_table_49 : xdec cX5_table 49 = some (.iload_n 1, 50, 1, 0) := by decide +kernel
theorem xX5_table_50 : xdec cX5_table 50 = some (.ishr, 51, 0, 0) := by decide +kernel
theorem xX5_table_51 : xdec cX5_table 51 = some (.iconst 1, 52, 0, 1) := by decide +kernel
theorem xX5_table_52 : xdec cX5_table 52 = some (.iand, 53, 0, 0) := by decide +kernel
theorem xX5_table_53 : xdec cX5_table 53 = some (.ireturn, 54, 0, 0) := by decide +kernel
theorem xX5_bestWish_0 : xdec cX5_bestWish 0 = some (.aload_n 0, 1, 0, 0) := by decide +kernel
theorem xX5_bestWish_1 : xdec cX5_bestWish 1 = some (.getfield 10, 4, 10, 0) := by decide +kernel
theorem xX5_bestWish_4 : xdec cX5_bestWish 4 = some (.iload_n 1, 5, 1, 0) := by decide +kernel
theorem xX5_bestWish_5 : xdec cX5_bestWish 5 = some (.invokevirtual 80, 8, 0, 0) := by decide +kernel
theorem xX5_bestWish_8 : xdec cX5_bestWish 8 = some (.ifCond .eq 19, 11, 27, 0) := by decide +kernel
theorem xX5_bestWish_11 : xdec cX5_bestWish 11 = some (.iload_n 2, 12, 2, 0) := by decide +kernel
theorem xX5_bestWish_12 : xdec cX5_bestWish 12 = some (.invokestatic 148, 15, 0, 0) := by decide +kernel
theorem xX5_bestWish_15 : xdec cX5_bestWish 15 = some (.ifCond .eq 12, 18, 27, 0) := by decide +kernel
theorem xX5_bestWish_18 : xdec cX5_bestWish 18 = some (.iload_n 3, 19, 3, 0) := by decide +kernel
theorem xX5_bestWish_19 : xdec cX5_bestWish 19 = some (.iconst 0, 20, 0, 0) := by decide +kernel
theorem xX5_bestWish_20 : xdec cX5_bestWish 20 = some (.iconst 1, 21, 0, 1) := by decide +kernel
theorem xX5_bestWish_21 : xdec cX5_bestWish 21 = some (.invokestatic 129, 24, 0, 0) := by decide +kernel
theorem xX5_bestWish_24 : xdec cX5_bestWish 24 = some (.ifCond .ne 5, 27, 29, 0) := by decide +kernel
theorem xX5_bestWish_27 : xdec cX5_bestWish 27 = some (.iconst (-1), 28, 0, (-1)) := by decide +kernel
theorem xX5_bestWish_28 : xdec cX5_bestWish 28 = some (.ireturn, 29, 0, 0) := by decide +kernel
theorem xX5_bestWish_29 : xdec cX5_bestWish 29 = some (.iconst 0, 30, 0, 0) := by decide +kernel
theorem xX5_bestWish_30 : xdec cX5_bestWish 30 = some (.istore 4, 32, 4, 0) := by decide +kernel
theorem xX5_bestWish_32 : xdec cX5_bestWish 32 = some (.iconst (-1), 33, 0, (-1)) := by decide +kernel
theorem xX5_bestWish_33 : xdec cX5_bestWish 33 = some (.istore 5, 35, 5, 0) := by decide +kernel
theorem xX5_bestWish_35 : xdec cX5_bestWish 35 = some (.iconst 0, 36, 0, 0) := by decide +kernel
theorem xX5_bestWish_36 : xdec cX5_bestWish 36 = some (.istore 6, 38, 6, 0) := by decide +kernel
theorem xX5_bestWish_38 : xdec cX5_bestWish 38 = some (.iload 6, 40, 6, 0) := by decide +kernel
theorem xX5_bestWish_40 : xdec cX5_bestWish 40 = some (.bipush 10, 42, 0, 10) := by decide +kernel
theorem xX5_bestWish_42 : xdec cX5_bestWish 42 = some (.if_icmp .ge 55, 45, 97, 0) := by decide +kernel
theorem xX5_bestWish_45 : xdec cX5_bestWish 45 = some (.aload_n 0, 46, 0, 0) := by decide +kernel
theorem xX5_bestWish_46 : xdec cX5_bestWish 46 = some (.invokevirtual 58, 49, 0, 0) := by decide +kernel
theorem xX5_bestWish_49 : xdec cX5_bestWish 49 = some (.astore 7, 51, 7, 0) := by decide +kernel
theorem xX5_bestWish_51 : xdec cX5_bestWish 51 = some (.aload 7, 53, 7, 0) := by decide +kernel
theorem xX5_bestWish_53 : xdec cX5_bestWish 53 = some (.getfield 89, 56, 89, 0) := by decide +kernel
theorem xX5_bestWish_56 : xdec cX5_bestWish 56 = some (.iload_n 1, 57, 1, 0) := by decide +kernel
theorem xX5_bestWish_57 : xdec cX5_bestWish 57 = some (.iload 6, 59, 6, 0) := by decide +kernel
theorem xX5_bestWish_59 : xdec cX5_bestWish 59 = some (.iastore, 60, 0, 0) := by decide +kernel
theorem xX5_bestWish_60 : xdec cX5_bestWish 60 = some (.aload 7, 62, 7, 0) := by decide +kernel
theorem xX5_bestWish_62 : xdec cX5_bestWish 62 = some (.iload_n 2, 63, 2, 0) := by decide +kernel
theorem xX5_bestWish_63 : xdec cX5_bestWish 63 = some (.invokevirtual 136, 66, 0, 0) := by decide +kernel
theorem xX5_bestWish_66 : xdec cX5_bestWish 66 = some (.aload 7, 68, 7, 0) := by decide +kernel
theorem xX5_bestWish_68 : xdec cX5_bestWish 68 = some (.getfield 95, 71, 95, 0) := by decide +kernel
theorem xX5_bestWish_71 : xdec cX5_bestWish 71 = some (.iload_n 1, 72, 1, 0) := by decide +kernel
theorem xX5_bestWish_72 : xdec cX5_bestWish 72 = some (.iaload, 73, 0, 0) := by decide +kernel
theorem xX5_bestWish_73 : xdec cX5_bestWish 73 = some (.iload 5, 75, 5, 0) := by decide +kernel
theorem xX5_bestWish_75 : xdec cX5_bestWish 75 = some (.if_icmp .le 16, 78, 91, 0) := by decide +kernel
theorem xX5_bestWish_78 : xdec cX5_bestWish 78 = some (.aload 7, 80, 7, 0) := by decide +kernel
theorem xX5_bestWish_80 : xdec cX5_bestWish 80 = some (.getfield 95, 83, 95, 0) := by decide +kernel
theorem xX5_bestWish_83 : xdec cX5_bestWish 83 = some (.iload_n 1, 84, 1, 0) := by decide +kernel
theorem xX5_bestWish_84 : xdec cX5_bestWish 84 = some (.iaload, 85, 0, 0) := by decide +kernel
theorem xX5_bestWish_85 : xdec cX5_bestWish 85 = some (.istore 5, 87, 5, 0) := by decide +kernel
theorem xX5_bestWish_87 : xdec cX5_bestWish 87 = some (.iload 6, 89, 6, 0) := by decide +kernel
theorem xX5_bestWish_89 : xdec cX5_bestWish 89 = some (.istore 4, 91, 4, 0) := by decide +kernel
theorem xX5_bestWish_91 : xdec cX5_bestWish 91 = some (.iinc 6 1, 94, 6, 1) := by decide +kernel
theorem xX5_bestWish_94 : xdec cX5_bestWish 94 = some (.goto (-56), 97, 38, 0) := by decide +kernel
theorem xX5_bestWish_97 : xdec cX5_bestWish 97 = some (.iload_n 3, 98, 3, 0) := by decide +kernel
theorem xX5_bestWish_98 : xdec cX5_bestWish 98 = some (.ifCond .ne 8, 101, 106, 0) := by decide +kernel
theorem xX5_bestWish_101 : xdec cX5_bestWish 101 = some (.iload 4, 103, 4, 0) := by decide +kernel
theorem xX5_bestWish_103 : xdec cX5_bestWish 103 = some (.goto 5, 106, 108, 0) := by decide +kernel
theorem xX5_bestWish_106 : xdec cX5_bestWish 106 = some (.iload 5, 108, 5, 0) := by decide +kernel
theorem xX5_bestWish_108 : xdec cX5_bestWish 108 = some (.ireturn, 109, 0, 0) := by decide +kernel
theorem xX5_buy_0 : xdec cX5_buy 0 = some (.iload_n 1, 1, 1, 0) := by decide +kernel
theorem xX5_buy_1 : xdec cX5_buy 1 = some (.invokestatic 148, 4, 0, 0) := by decide +kernel
theorem xX5_buy_4 : xdec cX5_buy 4 = some (.ifCond .ne 5, 7, 9, 0) := by decide +kernel
theorem xX5_buy_7 : xdec cX5_buy 7 = some (.iconst (-1), 8, 0, (-1)) := by decide +kernel
theorem xX5_buy_8 : xdec cX5_buy 8 = some (.ireturn, 9, 0, 0) := by decide +kernel
theorem xX5_buy_9 : xdec cX5_buy 9 = some (.aload_n 0, 10, 0, 0) := by decide +kernel
theorem xX5_buy_10 : xdec cX5_buy 10 = some (.invokevirtual 58, 13, 0, 0) := by decide +kernel
theorem xX5_buy_13 : xdec cX5_buy 13 = some (.astore_n 2, 14, 2, 0) := by decide +kernel
theorem xX5_buy_14 : xdec cX5_buy 14 = some (.aload_n 2, 15, 2, 0) := by decide +kernel
theorem xX5_buy_15 : xdec cX5_buy 15 = some (.iload_n 1, 16, 1, 0) := by decide +kernel
theorem xX5_buy_16 : xdec cX5_buy 16 = some (.invokevirtual 136, 19, 0, 0) := by decide +kernel
theorem xX5_buy_19 : xdec cX5_buy 19 = some (.aload_n 2, 20, 2, 0) := by decide +kernel
theorem xX5_buy_20 : xdec cX5_buy 20 = some (.getfield 154, 23, 154, 0) := by decide +kernel
theorem xX5_buy_23 : xdec cX5_buy 23 = some (.istore_n 3, 24, 3, 0) := by decide +kernel
theorem xX5_buy_24 : xdec cX5_buy 24 = some (.bipush (-4), 26, 0, (-4)) := by decide +kernel
theorem xX5_buy_26 : xdec cX5_buy 26 = some (.istore 4, 28, 4, 0) := by decide +kernel
theorem xX5_buy_28 : xdec cX5_buy 28 = some (.iconst 0, 29, 0, 0) := by decide +kernel
theorem xX5_buy_29 : xdec cX5_buy 29 = some (.istore 5, 31, 5, 0) := by decide +kernel
theorem xX5_buy_31 : xdec cX5_buy 31 = some (.iload 5, 33, 5, 0) := by decide +kernel
theorem xX5_buy_33 : xdec cX5_buy 33 = some (.bipush 10, 35, 0, 10) := by decide +kernel
theorem xX5_buy_35 : xdec cX5_buy 35 = some (.if_icmp .ge 43, 38, 78, 0) := by decide +kernel
theorem xX5_buy_38 : xdec cX5_buy 38 = some (.aload_n 0, 39, 0, 0) := by decide +kernel
theorem xX5_buy_39 : xdec cX5_buy 39 = some (.invokevirtual 58, 42, 0, 0) := by decide +kernel
theorem xX5_buy_42 : xdec cX5_buy 42 = some (.astore_n 2, 43, 2, 0) := by decide +kernel
theorem xX5_buy_43 : xdec cX5_buy 43 = some (.aload_n 2, 44, 2, 0) := by decide +kernel
theorem xX5_buy_44 : xdec cX5_buy 44 = some (.iload 5, 46, 5, 0) := by decide +kernel
theorem xX5_buy_46 : xdec cX5_buy 46 = some (.iconst 5, 47, 0, 5) := by decide +kernel
theorem xX5_buy_47 : xdec cX5_buy 47 = some (.invokevirtual 170, 50, 0, 0) := by decide +kernel
theorem xX5_buy_50 : xdec cX5_buy 50 = some (.aload_n 2, 51, 2, 0) := by decide +kernel
theorem xX5_buy_51 : xdec cX5_buy 51 = some (.iload_n 1, 52, 1, 0) := by decide +kernel
theorem xX5_buy_52 : xdec cX5_buy 52 = some (.invokevirtual 136, 55, 0, 0) := by decide +kernel
theorem xX5_buy_55 : xdec cX5_buy 55 = some (.aload_n 2, 56, 2, 0) := by decide +kernel
theorem xX5_buy_56 : xdec cX5_buy 56 = some (.getfield 154, 59, 154, 0) := by decide +kernel
theorem xX5_buy_59 : xdec cX5_buy 59 = some (.iload_n 3, 60, 3, 0) := by decide +kernel
theorem xX5_buy_60 : xdec cX5_buy 60 = some (.if_icmp .ge 12, 63, 72, 0) := by decide +kernel
theorem xX5_buy_63 : xdec cX5_buy 63 = some (.aload_n 2, 64, 2, 0) := by decide +kernel
theorem xX5_buy_64 : xdec cX5_buy 64 = some (.getfield 154, 67, 154, 0) := by decide +kernel
theorem xX5_buy_67 : xdec cX5_buy 67 = some (.istore_n 3, 68, 3, 0) := by decide +kernel
theorem xX5_buy_68 : xdec cX5_buy 68 = some (.iload 5, 70, 5, 0) := by decide +kernel
theorem xX5_buy_70 : xdec cX5_buy 70 = some (.istore 4, 72, 4, 0) := by decide +kernel
theorem xX5_buy_72 : xdec cX5_buy 72 = some (.iinc 5 1, 75, 5, 1) := by decide +kernel
theorem xX5_buy_75 : xdec cX5_buy 75 = some (.goto (-44), 78, 31, 0) := by decide +kernel
theorem xX5_buy_78 : xdec cX5_buy 78 = some (.iload 4, 80, 4, 0) := by decide +kernel
theorem xX5_buy_80 : xdec cX5_buy 80 = some (.ireturn, 81, 0, 0) := by decide +kernel
theorem xX5_least_0 : xdec cX5_least 0 = some (.iload_n 1, 1, 1, 0) := by decide +kernel
theorem xX5_least_1 : xdec cX5_least 1 = some (.invokestatic 110, 4, 0, 0) := by decide +kernel
theorem xX5_least_4 : xdec cX5_least 4 = some (.ifCond .eq 13, 7, 17, 0) := by decide +kernel
theorem xX5_least_7 : xdec cX5_least 7 = some (.iload_n 2, 8, 2, 0) := by decide +kernel
theorem xX5_least_8 : xdec cX5_least 8 = some (.iconst 1, 9, 0, 1) := by decide +kernel
theorem xX5_least_9 : xdec cX5_least 9 = some (.bipush 20, 11, 0, 20) := by decide +kernel
theorem xX5_least_11 : xdec cX5_least 11 = some (.invokestatic 129, 14, 0, 0) := by decide +kernel
theorem xX5_least_14 : xdec cX5_least 14 = some (.ifCond .ne 5, 17, 19, 0) := by decide +kernel
theorem xX5_least_17 : xdec cX5_least 17 = some (.iconst (-1), 18, 0, (-1)) := by decide +kernel
theorem xX5_least_18 : xdec cX5_least 18 = some (.ireturn, 19, 0, 0) := by decide +kernel
theorem xX5_least_19 : xdec cX5_least 19 = some (.iconst 0, 20, 0, 0) := by decide +kernel
theorem xX5_least_20 : xdec cX5_least 20 = some (.istore_n 3, 21, 3, 0) := by decide +kernel
theorem xX5_least_21 : xdec cX5_least 21 = some (.bipush 100, 23, 0, 100) := by decide +kernel
theorem xX5_least_23 : xdec cX5_least 23 = some (.istore 4, 25, 4, 0) := by decide +kernel
theorem xX5_least_25 : xdec cX5_least 25 = some (.iconst 0, 26, 0, 0) := by decide +kernel
theorem xX5_least_26 : xdec cX5_least 26 = some (.istore 5, 28, 5, 0) := by decide +kernel
theorem xX5_least_28 : xdec cX5_least 28 = some (.iload 5, 30, 5, 0) := by decide +kernel
theorem xX5_least_30 : xdec cX5_least 30 = some (.bipush 99, 32, 0, 99) := by decide +kernel
theorem xX5_least_32 : xdec cX5_least 32 = some (.if_icmp .gt 46, 35, 78, 0) := by decide +kernel
theorem xX5_least_35 : xdec cX5_least 35 = some (.iload_n 3, 36, 3, 0) := by decide +kernel
theorem xX5_least_36 : xdec cX5_least 36 = some (.iload 4, 38, 4, 0) := by decide +kernel
theorem xX5_least_38 : xdec cX5_least 38 = some (.if_icmp .ge 40, 41, 78, 0) := by decide +kernel
theorem xX5_least_41 : xdec cX5_least 41 = some (.iload_n 3, 42, 3, 0) := by decide +kernel
theorem xX5_least_42 : xdec cX5_least 42 = some (.iload 4, 44, 4, 0) := by decide +kernel
theorem xX5_least_44 : xdec cX5_least 44 = some (.iadd, 45, 0, 0) := by decide +kernel
theorem xX5_least_45 : xdec cX5_least 45 = some (.iconst 2, 46, 0, 2) := by decide +kernel
theorem xX5_least_46 : xdec cX5_least 46 = some (.idiv, 47, 0, 0) := by decide +kernel
theorem xX5_least_47 : xdec cX5_least 47 = some (.istore 6, 49, 6, 0) := by decide +kernel
theorem xX5_least_49 : xdec cX5_least 49 = some (.aload_n 0, 50, 0, 0) := by decide +kernel
theorem xX5_least_50 : xdec cX5_least 50 = some (.iload_n 1, 51, 1, 0) := by decide +kernel
theorem xX5_least_51 : xdec cX5_least 51 = some (.iload 6, 53, 6, 0) := by decide +kernel
theorem xX5_least_53 : xdec cX5_least 53 = some (.iload_n 2, 54, 2, 0) := by decide +kernel
theorem xX5_least_54 : xdec cX5_least 54 = some (.invokevirtual 174, 57, 0, 0) := by decide +kernel
theorem xX5_least_57 : xdec cX5_least 57 = some (.ifCond .eq 10, 60, 67, 0) := by decide +kernel
theorem xX5_least_60 : xdec cX5_least 60 = some (.iload 6, 62, 6, 0) := by decide +kernel
theorem xX5_least_62 : xdec cX5_least 62 = some (.istore 4, 64, 4, 0) := by decide +kernel
theorem xX5_least_64 : xdec cX5_least 64 = some (.goto 8, 67, 72, 0) := by decide +kernel
theorem xX5_least_67 : xdec cX5_least 67 = some (.iload 6, 69, 6, 0) := by decide +kernel
theorem xX5_least_69 : xdec cX5_least 69 = some (.iconst 1, 70, 0, 1) := by decide +kernel
theorem xX5_least_70 : xdec cX5_least 70 = some (.iadd, 71, 0, 0) := by decide +kernel
theorem xX5_least_71 : xdec cX5_least 71 = some (.istore_n 3, 72, 3, 0) := by decide +kernel
theorem xX5_least_72 : xdec cX5_least 72 = some (.iinc 5 1, 75, 5, 1) := by decide +kernel
theorem xX5_least_75 : xdec cX5_least 75 = some (.goto (-47), 78, 28, 0) := by decide +kernel
theorem xX5_least_78 : xdec cX5_least 78 = some (.iload_n 3, 79, 3, 0) := by decide +kernel
theorem xX5_least_79 : xdec cX5_least 79 = some (.bipush 99, 81, 0, 99) := by decide +kernel
theorem xX5_least_81 : xdec cX5_least 81 = some (.if_icmp .le 8, 84, 89, 0) := by decide +kernel
theorem xX5_least_84 : xdec cX5_least 84 = some (.bipush (-4), 86, 0, (-4)) := by decide +kernel
theorem xX5_least_86 : xdec cX5_least 86 = some (.goto 4, 89, 90, 0) := by decide +kernel
theorem xX5_least_89 : xdec cX5_least 89 = some (.iload_n 3, 90, 3, 0) := by decide +kernel
theorem xX5_least_90 : xdec cX5_least 90 = some (.ireturn, 91, 0, 0) := by decide +kernel
theorem xX5_suffices_0 : xdec cX5_suffices 0 = some (.aload_n 0, 1, 0, 0) := by decide +kernel
theorem xX5_suffices_1 : xdec cX5_suffices 1 = some (.invokevirtual 58, 4, 0, 0) := by decide +kernel
theorem xX5_suffices_4 : xdec cX5_suffices 4 = some (.astore 4, 6, 4, 0) := by decide +kernel
theorem xX5_suffices_6 : xdec cX5_suffices 6 = some (.aload 4, 8, 4, 0) := by decide +kernel
theorem xX5_suffices_8 : xdec cX5_suffices 8 = some (.getfield 113, 11, 113, 0) := by decide +kernel
theorem xX5_suffices_11 : xdec cX5_suffices 11 = some (.iload_n 1, 12, 1, 0) := by decide +kernel
theorem xX5_suffices_12 : xdec cX5_suffices 12 = some (.iload_n 2, 13, 2, 0) := by decide +kernel
theorem xX5_suffices_13 : xdec cX5_suffices 13 = some (.iastore, 14, 0, 0) := by decide +kernel
theorem xX5_suffices_14 : xdec cX5_suffices 14 = some (.aload 4, 16, 4, 0) := by decide +kernel
theorem xX5_suffices_16 : xdec cX5_suffices 16 = some (.iload_n 3, 17, 3, 0) := by decide +kernel
theorem xX5_suffices_17 : xdec cX5_suffices 17 = some (.invokevirtual 177, 20, 0, 0) := by decide +kernel
theorem xX5_suffices_20 : xdec cX5_suffices 20 = some (.ireturn, 21, 0, 0) := by decide +kernel
theorem xX5_send_0 : xdec cX5_send 0 = some (.iload_n 1, 1, 1, 0) := by decide +kernel
theorem xX5_send_1 : xdec cX5_send 1 = some (.invokestatic 148, 4, 0, 0) := by decide +kernel
theorem xX5_send_4 : xdec cX5_send 4 = some (.ifCond .ne 5, 7, 9, 0) := by decide +kernel
theorem xX5_send_7 : xdec cX5_send 7 = some (.iconst (-1), 8, 0, (-1)) := by decide +kernel
theorem xX5_send_8 : xdec cX5_send 8 = some (.ireturn, 9, 0, 0) := by decide +kernel
theorem xX5_send_9 : xdec cX5_send 9 = some (.iconst (-1), 10, 0, (-1)) := by decide +kernel
theorem xX5_send_10 : xdec cX5_send 10 = some (.istore_n 2, 11, 2, 0) := by decide +kernel
theorem xX5_send_11 : xdec cX5_send 11 = some (.bipush (-4), 13, 0, (-4)) := by decide +kernel
theorem xX5_send_13 : xdec cX5_send 13 = some (.istore_n 3, 14, 3, 0) := by decide +kernel
theorem xX5_send_14 : xdec cX5_send 14 = some (.iconst 0, 15, 0, 0) := by decide +kernel
theorem xX5_send_15 : xdec cX5_send 15 = some (.istore 4, 17, 4, 0) := by decide +kernel
theorem xX5_send_17 : xdec cX5_send 17 = some (.iload 4, 19, 4, 0) := by decide +kernel
theorem xX5_send_19 : xdec cX5_send 19 = some (.aload_n 0, 20, 0, 0) := by decide +kernel
theorem xX5_send_20 : xdec cX5_send 20 = some (.getfield 10, 23, 10, 0) := by decide +kernel
theorem xX5_send_23 : xdec cX5_send 23 = some (.getfield 180, 26, 180, 0) := by decide +kernel
theorem xX5_send_26 : xdec cX5_send 26 = some (.if_icmp .ge 79, 29, 105, 0) := by decide +kernel
theorem xX5_send_29 : xdec cX5_send 29 = some (.aload_n 0, 30, 0, 0) := by decide +kernel
theorem xX5_send_30 : xdec cX5_send 30 = some (.getfield 10, 33, 10, 0) := by decide +kernel
theorem xX5_send_33 : xdec cX5_send 33 = some (.iload 4, 35, 4, 0) := by decide +kernel
theorem xX5_send_35 : xdec cX5_send 35 = some (.invokevirtual 98, 38, 0, 0) := by decide +kernel
theorem xX5_send_38 : xdec cX5_send 38 = some (.ifCond .eq 61, 41, 99, 0) := by decide +kernel
theorem xX5_send_41 : xdec cX5_send 41 = some (.aload_n 0, 42, 0, 0) := by decide +kernel
theorem xX5_send_42 : xdec cX5_send 42 = some (.getfield 10, 45, 10, 0) := by decide +kernel
theorem xX5_send_45 : xdec cX5_send 45 = some (.getfield 140, 48, 140, 0) := by decide +kernel
theorem xX5_send_48 : xdec cX5_send 48 = some (.iconst 1, 49, 0, 1) := by decide +kernel
theorem xX5_send_49 : xdec cX5_send 49 = some (.iload 4, 51, 4, 0) := by decide +kernel
theorem xX5_send_51 : xdec cX5_send 51 = some (.ishl, 52, 0, 0) := by decide +kernel
theorem xX5_send_52 : xdec cX5_send 52 = some (.iconst (-1), 53, 0, (-1)) := by decide +kernel
theorem xX5_send_53 : xdec cX5_send 53 = some (.ixor, 54, 0, 0) := by decide +kernel
theorem xX5_send_54 : xdec cX5_send 54 = some (.iand, 55, 0, 0) := by decide +kernel
theorem xX5_send_55 : xdec cX5_send 55 = some (.istore 5, 57, 5, 0) := by decide +kernel
theorem xX5_send_57 : xdec cX5_send 57 = some (.aload_n 0, 58, 0, 0) := by decide +kernel
theorem xX5_send_58 : xdec cX5_send 58 = some (.iload 5, 60, 5, 0) := by decide +kernel
theorem xX5_send_60 : xdec cX5_send 60 = some (.iload 5, 62, 5, 0) := by decide +kernel
theorem xX5_send_62 : xdec cX5_send 62 = some (.iload_n 1, 63, 1, 0) := by decide +kernel
theorem xX5_send_63 : xdec cX5_send 63 = some (.invokevirtual 183, 66, 0, 0) := by decide +kernel
theorem xX5_send_66 : xdec cX5_send 66 = some (.istore 6, 68, 6, 0) := by decide +kernel
theorem xX5_send_68 : xdec cX5_send 68 = some (.iload 6, 70, 6, 0) := by decide +kernel
theorem xX5_send_70 : xdec cX5_send 70 = some (.iload_n 2, 71, 2, 0) := by decide +kernel
theorem xX5_send_71 : xdec cX5_send 71 = some (.if_icmp .le 28, 74, 99, 0) := by decide +kernel
theorem xX5_send_74 : xdec cX5_send 74 = some (.iload 6, 76, 6, 0) := by decide +kernel
theorem xX5_send_76 : xdec cX5_send 76 = some (.aload_n 0, 77, 0, 0) := by decide +kernel
theorem xX5_send_77 : xdec cX5_send 77 = some (.iload 5, 79, 5, 0) := by decide +kernel
theorem xX5_send_79 : xdec cX5_send 79 = some (.aload_n 0, 80, 0, 0) := by decide +kernel
theorem xX5_send_80 : xdec cX5_send 80 = some (.getfield 10, 83, 10, 0) := by decide +kernel
theorem xX5_send_83 : xdec cX5_send 83 = some (.getfield 140, 86, 140, 0) := by decide +kernel
theorem xX5_send_86 : xdec cX5_send 86 = some (.iload_n 1, 87, 1, 0) := by decide +kernel
theorem xX5_send_87 : xdec cX5_send 87 = some (.invokevirtual 183, 90, 0, 0) := by decide +kernel
theorem xX5_send_90 : xdec cX5_send 90 = some (.if_icmp .le 9, 93, 99, 0) := by decide +kernel
theorem xX5_send_93 : xdec cX5_send 93 = some (.iload 6, 95, 6, 0) := by decide +kernel
theorem xX5_send_95 : xdec cX5_send 95 = some (.istore_n 2, 96, 2, 0) := by decide +kernel
theorem xX5_send_96 : xdec cX5_send 96 = some (.iload 4, 98, 4, 0) := by decide +kernel
theorem xX5_send_98 : xdec cX5_send 98 = some (.istore_n 3, 99, 3, 0) := by decide +kernel
theorem xX5_send_99 : xdec cX5_send 99 = some (.iinc 4 1, 102, 4, 1) := by decide +kernel
theorem xX5_send_102 : xdec cX5_send 102 = some (.goto (-85), 105, 17, 0) := by decide +kernel
theorem xX5_send_105 : xdec cX5_send 105 = some (.iload_n 3, 106, 3, 0) := by decide +kernel
theorem xX5_send_106 : xdec cX5_send 106 = some (.ireturn, 107, 0, 0) := by decide +kernel
theorem xX5_healthThen_0 : xdec cX5_healthThen 0 = some (.aload_n 0, 1, 0, 0) := by decide +kernel
theorem xX5_healthThen_1 : xdec cX5_healthThen 1 = some (.invokevirtual 58, 4, 0, 0) := by decide +kernel
theorem xX5_healthThen_4 : xdec cX5_healthThen 4 = some (.astore 4, 6, 4, 0) := by decide +kernel
theorem xX5_healthThen_6 : xdec cX5_healthThen 6 = some (.aload 4, 8, 4, 0) := by decide +kernel
theorem xX5_healthThen_8 : xdec cX5_healthThen 8 = some (.iload_n 2, 9, 2, 0) := by decide +kernel
theorem xX5_healthThen_9 : xdec cX5_healthThen 9 = some (.putfield 140, 12, 140, 0) := by decide +kernel
theorem xX5_healthThen_12 : xdec cX5_healthThen 12 = some (.aload 4, 14, 4, 0) := by decide +kernel
theorem xX5_healthThen_14 : xdec cX5_healthThen 14 = some (.iload_n 3, 15, 3, 0) := by decide +kernel
theorem xX5_healthThen_15 : xdec cX5_healthThen 15 = some (.invokevirtual 136, 18, 0, 0) := by decide +kernel
theorem xX5_healthThen_18 : xdec cX5_healthThen 18 = some (.aload 4, 20, 4, 0) := by decide +kernel
theorem xX5_healthThen_20 : xdec cX5_healthThen 20 = some (.iload_n 1, 21, 1, 0) := by decide +kernel
theorem xX5_healthThen_21 : xdec cX5_healthThen 21 = some (.aload 4, 23, 4, 0) := by decide +kernel
theorem xX5_healthThen_23 : xdec cX5_healthThen 23 = some (.getfield 140, 26, 140, 0) := by decide +kernel
theorem xX5_healthThen_26 : xdec cX5_healthThen 26 = some (.iand, 27, 0, 0) := by decide +kernel
theorem xX5_healthThen_27 : xdec cX5_healthThen 27 = some (.invokevirtual 186, 30, 0, 0) := by decide +kernel
theorem xX5_healthThen_30 : xdec cX5_healthThen 30 = some (.ireturn, 31, 0, 0) := by decide +kernel
theorem xX5_seats_0 : xdec cX5_seats 0 = some (.iload_n 1, 1, 1, 0) := by decide +kernel
theorem xX5_seats_1 : xdec cX5_seats 1 = some (.ifCond .ge 5, 4, 6, 0) := by decide +kernel
theorem xX5_seats_4 : xdec cX5_seats 4 = some (.iconst (-1), 5, 0, (-1)) := by decide +kernel
theorem xX5_seats_5 : xdec cX5_seats 5 = some (.ireturn, 6, 0, 0) := by decide +kernel
theorem xX5_seats_6 : xdec cX5_seats 6 = some (.aload_n 0, 7, 0, 0) := by decide +kernel
theorem xX5_seats_7 : xdec cX5_seats 7 = some (.getfield 36, 10, 36, 0) := by decide +kernel
theorem xX5_seats_10 : xdec cX5_seats 10 = some (.aload_n 0, 11, 0, 0) := by decide +kernel
theorem xX5_seats_11 : xdec cX5_seats 11 = some (.getfield 10, 14, 10, 0) := by decide +kernel
theorem xX5_seats_14 : xdec cX5_seats 14 = some (.iload_n 1, 15, 1, 0) := by decide +kernel
theorem xX5_seats_15 : xdec cX5_seats 15 = some (.invokevirtual 189, 18, 0, 0) := by decide +kernel
theorem xX5_seats_18 : xdec cX5_seats 18 = some (.ireturn, 19, 0, 0) := by decide +kernel
theorem xX5_same_0 : xdec cX5_same 0 = some (.iload_n 1, 1, 1, 0) := by decide +kernel
theorem xX5_same_1 : xdec cX5_same 1 = some (.tableswitch 113 0 6 #[43, 51, 59, 67, 75, 83, 98], 44, 0, 0) := by decide +kernel
theorem xX5_same_44 : xdec cX5_same 44 = some (.aload_n 0, 45, 0, 0) := by decide +kernel
theorem xX5_same_45 : xdec cX5_same 45 = some (.getfield 10, 48, 10, 0) := by decide +kernel
theorem xX5_same_48 : xdec cX5_same 48 = some (.invokevirtual 193, 51, 0, 0) := by decide +kernel
theorem xX5_same_51 : xdec cX5_same 51 = some (.ireturn, 52, 0, 0) := by decide +kernel
theorem xX5_same_52 : xdec cX5_same 52 = some (.aload_n 0, 53, 0, 0) := by decide +kernel
theorem xX5_same_53 : xdec cX5_same 53 = some (.getfield 10, 56, 10, 0) := by decide +kernel
theorem xX5_same_56 : xdec cX5_same 56 = some (.invokevirtual 196, 59, 0, 0) := by decide +kernel
theorem xX5_same_59 : xdec cX5_same 59 = some (.ireturn, 60, 0, 0) := by decide +kernel
theorem xX5_same_60 : xdec cX5_same 60 = some (.aload_n 0, 61, 0, 0) := by decide +kernel
theorem xX5_same_61 : xdec cX5_same 61 = some (.getfield 10, 64, 10, 0) := by decide +kernel
theorem xX5_same_64 : xdec cX5_same 64 = some (.invokevirtual 199, 67, 0, 0) := by decide +kernel
theorem xX5_same_67 : xdec cX5_same 67 = some (.ireturn, 68, 0, 0) := by decide +kernel
theorem xX5_same_68 : xdec cX5_same 68 = some (.aload_n 0, 69, 0, 0) := by decide +kernel
theorem xX5_same_69 : xdec cX5_same 69 = some (.getfield 10, 72, 10, 0) := by decide +kernel
theorem xX5_same_72 : xdec cX5_same 72 = some (.invokevirtual 202, 75, 0, 0) := by decide +kernel
theorem xX5_same_75 : xdec cX5_same 75 = some (.ireturn, 76, 0, 0) := by decide +kernel
theorem xX5_same_76 : xdec cX5_same 76 = some (.aload_n 0, 77, 0, 0) := by decide +kernel
theorem xX5_same_77 : xdec cX5_same 77 = some (.getfield 10, 80, 10, 0) := by decide +kernel
theorem xX5_same_80 : xdec cX5_same 80 = some (.invokevirtual 205, 83, 0, 0) := by decide +kernel
theorem xX5_same_83 : xdec cX5_same 83 = some (.ireturn, 84, 0, 0) := by decide +kernel
theorem xX5_same_84 : xdec cX5_same 84 = some (.aload_n 0, 85, 0, 0) := by decide +kernel
theorem xX5_same_85 : xdec cX5_same 85 = some (.getfield 10, 88, 10, 0) := by decide +kernel
theorem xX5_same_88 : xdec cX5_same 88 = some (.aload_n 0, 89, 0, 0) := by decide +kernel
theorem xX5_same_89 : xdec cX5_same 89 = some (.getfield 10, 92, 10, 0) := by decide +kernel
theorem xX5_same_92 : xdec cX5_same 92 = some (.getfield 89, 95, 89, 0) := by decide +kernel
theorem xX5_same_95 : xdec cX5_same 95 = some (.invokevirtual 208, 98, 0, 0) := by decide +kernel
theorem xX5_same_98 : xdec cX5_same 98 = some (.ireturn, 99, 0, 0) := by decide +kernel
theorem xX5_same_99 : xdec cX5_same 99 = some (.aload_n 0, 100, 0, 0) := by decide +kernel
theorem xX5_same_100 : xdec cX5_same 100 = some (.getfield 10, 103, 10, 0) := by decide +kernel
theorem xX5_same_103 : xdec cX5_same 103 = some (.aload_n 0, 104, 0, 0) := by decide +kernel
theorem xX5_same_104 : xdec cX5_same 104 = some (.getfield 10, 107, 10, 0) := by decide +kernel
theorem xX5_same_107 : xdec cX5_same 107 = some (.getfield 92, 110, 92, 0) := by decide +kernel
theorem xX5_same_110 : xdec cX5_same 110 = some (.invokevirtual 208, 113, 0, 0) := by decide +kernel
theorem xX5_same_113 : xdec cX5_same 113 = some (.ireturn, 114, 0, 0) := by decide +kernel
theorem xX5_same_114 : xdec cX5_same 114 = some (.iconst (-1), 115, 0, (-1)) := by decide +kernel
theorem xX5_same_115 : xdec cX5_same 115 = some (.ireturn, 116, 0, 0) := by decide +kernel
theorem xX5_whatIs_0 : xdec cX5_whatIs 0 = some (.aload_n 0, 1, 0, 0) := by decide +kernel
theorem xX5_whatIs_1 : xdec cX5_whatIs 1 = some (.getfield 10, 4, 10, 0) := by decide +kernel
theorem xX5_whatIs_4 : xdec cX5_whatIs 4 = some (.iload_n 2, 5, 2, 0) := by decide +kernel
theorem xX5_whatIs_5 : xdec cX5_whatIs 5 = some (.invokevirtual 80, 8, 0, 0) := by decide +kernel
theorem xX5_whatIs_8 : xdec cX5_whatIs 8 = some (.ifCond .eq 12, 11, 20, 0) := by decide +kernel
theorem xX5_whatIs_11 : xdec cX5_whatIs 11 = some (.iload_n 3, 12, 3, 0) := by decide +kernel
theorem xX5_whatIs_12 : xdec cX5_whatIs 12 = some (.iconst 0, 13, 0, 0) := by decide +kernel
theorem xX5_whatIs_13 : xdec cX5_whatIs 13 = some (.iconst 1, 14, 0, 1) := by decide +kernel
theorem xX5_whatIs_14 : xdec cX5_whatIs 14 = some (.invokestatic 129, 17, 0, 0) := by decide +kernel
theorem xX5_whatIs_17 : xdec cX5_whatIs 17 = some (.ifCond .ne 5, 20, 22, 0) := by decide +kernel
theorem xX5_whatIs_20 : xdec cX5_whatIs 20 = some (.iconst (-1), 21, 0, (-1)) := by decide +kernel
theorem xX5_whatIs_21 : xdec cX5_whatIs 21 = some (.ireturn, 22, 0, 0) := by decide +kernel
theorem xX5_whatIs_22 : xdec cX5_whatIs 22 = some (.aload_n 0, 23, 0, 0) := by decide +kernel
theorem xX5_whatIs_23 : xdec cX5_whatIs 23 = some (.iload_n 1, 24, 1, 0) := by decide +kernel
theorem xX5_whatIs_24 : xdec cX5_whatIs 24 = some (.invokevirtual 44, 27, 0, 0) := by decide +kernel
theorem xX5_whatIs_27 : xdec cX5_whatIs 27 = some (.istore 4, 29, 4, 0) := by decide +kernel
theorem xX5_whatIs_29 : xdec cX5_whatIs 29 = some (.iload 4, 31, 4, 0) := by decide +kernel
theorem xX5_whatIs_31 : xdec cX5_whatIs 31 = some (.ifCond .eq 6, 34, 37, 0) := by decide +kernel
theorem xX5_whatIs_34 : xdec cX5_whatIs 34 = some (.iload 4, 36, 4, 0) := by decide +kernel
theorem xX5_whatIs_36 : xdec cX5_whatIs 36 = some (.ireturn, 37, 0, 0) := by decide +kernel
theorem xX5_whatIs_37 : xdec cX5_whatIs 37 = some (.iconst 0, 38, 0, 0) := by decide +kernel
theorem xX5_whatIs_38 : xdec cX5_whatIs 38 = some (.istore 5, 40, 5, 0) := by decide +kernel
theorem xX5_whatIs_40 : xdec cX5_whatIs 40 = some (.iload_n 3, 41, 3, 0) := by decide +kernel
theorem xX5_whatIs_41 : xdec cX5_whatIs 41 = some (.ifCond .ne 8, 44, 49, 0) := by decide +kernel
theorem xX5_whatIs_44 : xdec cX5_whatIs 44 = some (.bipush 8, 46, 0, 8) := by decide +kernel
theorem xX5_whatIs_46 : xdec cX5_whatIs 46 = some (.goto 5, 49, 51, 0) := by decide +kernel
theorem xX5_whatIs_49 : xdec cX5_whatIs 49 = some (.bipush 10, 51, 0, 10) := by decide +kernel
theorem xX5_whatIs_51 : xdec cX5_whatIs 51 = some (.istore 6, 53, 6, 0) := by decide +kernel
theorem xX5_whatIs_53 : xdec cX5_whatIs 53 = some (.iconst 0, 54, 0, 0) := by decide +kernel
theorem xX5_whatIs_54 : xdec cX5_whatIs 54 = some (.istore 7, 56, 7, 0) := by decide +kernel
theorem xX5_whatIs_56 : xdec cX5_whatIs 56 = some (.iload 7, 58, 7, 0) := by decide +kernel
theorem xX5_whatIs_58 : xdec cX5_whatIs 58 = some (.iload 6, 60, 6, 0) := by decide +kernel
theorem xX5_whatIs_60 : xdec cX5_whatIs 60 = some (.if_icmp .ge 64, 63, 124, 0) := by decide +kernel
theorem xX5_whatIs_63 : xdec cX5_whatIs 63 = some (.aload_n 0, 64, 0, 0) := by decide +kernel
theorem xX5_whatIs_64 : xdec cX5_whatIs 64 = some (.invokevirtual 58, 67, 0, 0) := by decide +kernel
theorem xX5_whatIs_67 : xdec cX5_whatIs 67 = some (.astore 8, 69, 8, 0) := by decide +kernel
theorem xX5_whatIs_69 : xdec cX5_whatIs 69 = some (.iload_n 3, 70, 3, 0) := by decide +kernel
theorem xX5_whatIs_70 : xdec cX5_whatIs 70 = some (.ifCond .ne 11, 73, 81, 0) := by decide +kernel
theorem xX5_whatIs_73 : xdec cX5_whatIs 73 = some (.aload 8, 75, 8, 0) := by decide +kernel
theorem xX5_whatIs_75 : xdec cX5_whatIs 75 = some (.getfield 83, 78, 83, 0) := by decide +kernel
theorem xX5_whatIs_78 : xdec cX5_whatIs 78 = some (.goto 8, 81, 86, 0) := by decide +kernel
theorem xX5_whatIs_81 : xdec cX5_whatIs 81 = some (.aload 8, 83, 8, 0) := by decide +kernel
theorem xX5_whatIs_83 : xdec cX5_whatIs 83 = some (.getfield 86, 86, 86, 0) := by decide +kernel
theorem xX5_whatIs_86 : xdec cX5_whatIs 86 = some (.astore 9, 88, 9, 0) := by decide +kernel
theorem xX5_whatIs_88 : xdec cX5_whatIs 88 = some (.aload 9, 90, 9, 0) := by decide +kernel
theorem xX5_whatIs_90 : xdec cX5_whatIs 90 = some (.iload_n 2, 91, 2, 0) := by decide +kernel
theorem xX5_whatIs_91 : xdec cX5_whatIs 91 = some (.iload 7, 93, 7, 0) := by decide +kernel
theorem xX5_whatIs_93 : xdec cX5_whatIs 93 = some (.iastore, 94, 0, 0) := by decide +kernel
theorem xX5_whatIs_94 : xdec cX5_whatIs 94 = some (.aload_n 0, 95, 0, 0) := by decide +kernel
theorem xX5_whatIs_95 : xdec cX5_whatIs 95 = some (.getfield 28, 98, 28, 0) := by decide +kernel
theorem xX5_whatIs_98 : xdec cX5_whatIs 98 = some (.iload_n 1, 99, 1, 0) := by decide +kernel
theorem xX5_whatIs_99 : xdec cX5_whatIs 99 = some (.aaload, 100, 0, 0) := by decide +kernel
theorem xX5_whatIs_100 : xdec cX5_whatIs 100 = some (.aload 8, 102, 8, 0) := by decide +kernel
theorem xX5_whatIs_102 : xdec cX5_whatIs 102 = some (.iload_n 2, 103, 2, 0) := by decide +kernel
theorem xX5_whatIs_103 : xdec cX5_whatIs 103 = some (.invokestatic 212, 106, 0, 0) := by decide +kernel
theorem xX5_whatIs_106 : xdec cX5_whatIs 106 = some (.ifCond .eq 12, 109, 118, 0) := by decide +kernel
theorem xX5_whatIs_109 : xdec cX5_whatIs 109 = some (.iload 5, 111, 5, 0) := by decide +kernel
theorem xX5_whatIs_111 : xdec cX5_whatIs 111 = some (.iconst 1, 112, 0, 1) := by decide +kernel
theorem xX5_whatIs_112 : xdec cX5_whatIs 112 = some (.iload 7, 114, 7, 0) := by decide +kernel
theorem xX5_whatIs_114 : xdec cX5_whatIs 114 = some (.ishl, 115, 0, 0) := by decide +kernel
theorem xX5_whatIs_115 : xdec cX5_whatIs 115 = some (.ior, 116, 0, 0) := by decide +kernel
theorem xX5_whatIs_116 : xdec cX5_whatIs 116 = some (.istore 5, 118, 5, 0) := by decide +kernel
theorem xX5_whatIs_118 : xdec cX5_whatIs 118 = some (.iinc 7 1, 121, 7, 1) := by decide +kernel
theorem xX5_whatIs_121 : xdec cX5_whatIs 121 = some (.goto (-65), 124, 56, 0) := by decide +kernel
theorem xX5_whatIs_124 : xdec cX5_whatIs 124 = some (.iload 5, 126, 5, 0) := by decide +kernel
theorem xX5_whatIs_126 : xdec cX5_whatIs 126 = some (.ireturn, 127, 0, 0) := by decide +kernel
theorem xX5_healthsAreSo_0 : xdec cX5_healthsAreSo 0 = some (.iconst 0, 1, 0, 0) := by decide +kernel
theorem xX5_healthsAreSo_1 : xdec cX5_healthsAreSo 1 = some (.istore_n 3, 2, 3, 0) := by decide +kernel
theorem xX5_healthsAreSo_2 : xdec cX5_healthsAreSo 2 = some (.iload_n 3, 3, 3, 0) := by decide +kernel
theorem xX5_healthsAreSo_3 : xdec cX5_healthsAreSo 3 = some (.aload_n 0, 4, 0, 0) := by decide +kernel
theorem xX5_healthsAreSo_4 : xdec cX5_healthsAreSo 4 = some (.getfield 62, 7, 62, 0) := by decide +kernel
theorem xX5_healthsAreSo_7 : xdec cX5_healthsAreSo 7 = some (.if_icmp .ge 30, 10, 37, 0) := by decide +kernel
theorem xX5_healthsAreSo_10 : xdec cX5_healthsAreSo 10 = some (.aload_n 0, 11, 0, 0) := by decide +kernel
theorem xX5_healthsAreSo_11 : xdec cX5_healthsAreSo 11 = some (.iload_n 3, 12, 3, 0) := by decide +kernel
theorem xX5_healthsAreSo_12 : xdec cX5_healthsAreSo 12 = some (.aload_n 1, 13, 1, 0) := by decide +kernel
theorem xX5_healthsAreSo_13 : xdec cX5_healthsAreSo 13 = some (.getfield 95, 16, 95, 0) := by decide +kernel
theorem xX5_healthsAreSo_16 : xdec cX5_healthsAreSo 16 = some (.iload_n 2, 17, 2, 0) := by decide +kernel
theorem xX5_healthsAreSo_17 : xdec cX5_healthsAreSo 17 = some (.iaload, 18, 0, 0) := by decide +kernel
theorem xX5_healthsAreSo_18 : xdec cX5_healthsAreSo 18 = some (.invokevirtual 216, 21, 0, 0) := by decide +kernel
theorem xX5_healthsAreSo_21 : xdec cX5_healthsAreSo 21 = some (.ifCond .ne 5, 24, 26, 0) := by decide +kernel
theorem xX5_healthsAreSo_24 : xdec cX5_healthsAreSo 24 = some (.iconst 0, 25, 0, 0) := by decide +kernel
theorem xX5_healthsAreSo_25 : xdec cX5_healthsAreSo 25 = some (.ireturn, 26, 0, 0) := by decide +kernel
theorem xX5_healthsAreSo_26 : xdec cX5_healthsAreSo 26 = some (.aload_n 1, 27, 1, 0) := by decide +kernel
theorem xX5_healthsAreSo_27 : xdec cX5_healthsAreSo 27 = some (.iconst 1, 28, 0, 1) := by decide +kernel
theorem xX5_healthsAreSo_28 : xdec cX5_healthsAreSo 28 = some (.invokevirtual 136, 31, 0, 0) := by decide +kernel
theorem xX5_healthsAreSo_31 : xdec cX5_healthsAreSo 31 = some (.iinc 3 1, 34, 3, 1) := by decide +kernel
theorem xX5_healthsAreSo_34 : xdec cX5_healthsAreSo 34 = some (.goto (-32), 37, 2, 0) := by decide +kernel
theorem xX5_healthsAreSo_37 : xdec cX5_healthsAreSo 37 = some (.iconst 1, 38, 0, 1) := by decide +kernel
theorem xX5_healthsAreSo_38 : xdec cX5_healthsAreSo 38 = some (.ireturn, 39, 0, 0) := by decide +kernel
theorem xX5_whatWish_0 : xdec cX5_whatWish 0 = some (.aload_n 0, 1, 0, 0) := by decide +kernel
theorem xX5_whatWish_1 : xdec cX5_whatWish 1 = some (.getfield 10, 4, 10, 0) := by decide +kernel
theorem xX5_whatWish_4 : xdec cX5_whatWish 4 = some (.iload_n 2, 5, 2, 0) := by decide +kernel
theorem xX5_whatWish_5 : xdec cX5_whatWish 5 = some (.invokevirtual 80, 8, 0, 0) := by decide +kernel
theorem xX5_whatWish_8 : xdec cX5_whatWish 8 = some (.ifCond .ne 5, 11, 13, 0) := by decide +kernel
theorem xX5_whatWish_11 : xdec cX5_whatWish 11 = some (.iconst (-1), 12, 0, (-1)) := by decide +kernel
theorem xX5_whatWish_12 : xdec cX5_whatWish 12 = some (.ireturn, 13, 0, 0) := by decide +kernel
theorem xX5_whatWish_13 : xdec cX5_whatWish 13 = some (.aload_n 0, 14, 0, 0) := by decide +kernel
theorem xX5_whatWish_14 : xdec cX5_whatWish 14 = some (.iload_n 1, 15, 1, 0) := by decide +kernel
theorem xX5_whatWish_15 : xdec cX5_whatWish 15 = some (.invokevirtual 44, 18, 0, 0) := by decide +kernel
theorem xX5_whatWish_18 : xdec cX5_whatWish 18 = some (.istore_n 3, 19, 3, 0) := by decide +kernel
theorem xX5_whatWish_19 : xdec cX5_whatWish 19 = some (.iload_n 3, 20, 3, 0) := by decide +kernel
theorem xX5_whatWish_20 : xdec cX5_whatWish 20 = some (.ifCond .eq 5, 23, 25, 0) := by decide +kernel
theorem xX5_whatWish_23 : xdec cX5_whatWish 23 = some (.iload_n 3, 24, 3, 0) := by decide +kernel
theorem xX5_whatWish_24 : xdec cX5_whatWish 24 = some (.ireturn, 25, 0, 0) := by decide +kernel
theorem xX5_whatWish_25 : xdec cX5_whatWish 25 = some (.iconst 0, 26, 0, 0) := by decide +kernel
theorem xX5_whatWish_26 : xdec cX5_whatWish 26 = some (.istore 4, 28, 4, 0) := by decide +kernel
theorem xX5_whatWish_28 : xdec cX5_whatWish 28 = some (.iconst 0, 29, 0, 0) := by decide +kernel
theorem xX5_whatWish_29 : xdec cX5_whatWish 29 = some (.istore 5, 31, 5, 0) := by decide +kernel
theorem xX5_whatWish_31 : xdec cX5_whatWish 31 = some (.iload 5, 33, 5, 0) := by decide +kernel
theorem xX5_whatWish_33 : xdec cX5_whatWish 33 = some (.bipush 10, 35, 0, 10) := by decide +kernel
theorem xX5_whatWish_35 : xdec cX5_whatWish 35 = some (.if_icmp .ge 48, 38, 83, 0) := by decide +kernel
theorem xX5_whatWish_38 : xdec cX5_whatWish 38 = some (.aload_n 0, 39, 0, 0) := by decide +kernel
theorem xX5_whatWish_39 : xdec cX5_whatWish 39 = some (.invokevirtual 58, 42, 0, 0) := by decide +kernel
theorem xX5_whatWish_42 : xdec cX5_whatWish 42 = some (.astore 6, 44, 6, 0) := by decide +kernel
theorem xX5_whatWish_44 : xdec cX5_whatWish 44 = some (.aload 6, 46, 6, 0) := by decide +kernel
theorem xX5_whatWish_46 : xdec cX5_whatWish 46 = some (.getfield 89, 49, 89, 0) := by decide +kernel
theorem xX5_whatWish_49 : xdec cX5_whatWish 49 = some (.iload_n 2, 50, 2, 0) := by decide +kernel
theorem xX5_whatWish_50 : xdec cX5_whatWish 50 = some (.iload 5, 52, 5, 0) := by decide +kernel
theorem xX5_whatWish_52 : xdec cX5_whatWish 52 = some (.iastore, 53, 0, 0) := by decide +kernel
theorem xX5_whatWish_53 : xdec cX5_whatWish 53 = some (.aload_n 0, 54, 0, 0) := by decide +kernel
theorem xX5_whatWish_54 : xdec cX5_whatWish 54 = some (.getfield 28, 57, 28, 0) := by decide +kernel
theorem xX5_whatWish_57 : xdec cX5_whatWish 57 = some (.iload_n 1, 58, 1, 0) := by decide +kernel
theorem xX5_whatWish_58 : xdec cX5_whatWish 58 = some (.aaload, 59, 0, 0) := by decide +kernel
theorem xX5_whatWish_59 : xdec cX5_whatWish 59 = some (.aload 6, 61, 6, 0) := by decide +kernel
theorem xX5_whatWish_61 : xdec cX5_whatWish 61 = some (.iload_n 2, 62, 2, 0) := by decide +kernel
theorem xX5_whatWish_62 : xdec cX5_whatWish 62 = some (.invokestatic 220, 65, 0, 0) := by decide +kernel
theorem xX5_whatWish_65 : xdec cX5_whatWish 65 = some (.ifCond .eq 12, 68, 77, 0) := by decide +kernel
theorem xX5_whatWish_68 : xdec cX5_whatWish 68 = some (.iload 4, 70, 4, 0) := by decide +kernel
theorem xX5_whatWish_70 : xdec cX5_whatWish 70 = some (.iconst 1, 71, 0, 1) := by decide +kernel
theorem xX5_whatWish_71 : xdec cX5_whatWish 71 = some (.iload 5, 73, 5, 0) := by decide +kernel
theorem xX5_whatWish_73 : xdec cX5_whatWish 73 = some (.ishl, 74, 0, 0) := by decide +kernel
theorem xX5_whatWish_74 : xdec cX5_whatWish 74 = some (.ior, 75, 0, 0) := by decide +kernel
theorem xX5_whatWish_75 : xdec cX5_whatWish 75 = some (.istore 4, 77, 4, 0) := by decide +kernel
theorem xX5_whatWish_77 : xdec cX5_whatWish 77 = some (.iinc 5 1, 80, 5, 1) := by decide +kernel
theorem xX5_whatWish_80 : xdec cX5_whatWish 80 = some (.goto (-49), 83, 31, 0) := by decide +kernel
theorem xX5_whatWish_83 : xdec cX5_whatWish 83 = some (.iload 4, 85, 4, 0) := by decide +kernel
theorem xX5_whatWish_85 : xdec cX5_whatWish 85 = some (.ireturn, 86, 0, 0) := by decide +kernel
theorem xX5_lastPlatesAreSo_0 : xdec cX5_lastPlatesAreSo 0 = some (.iconst 0, 1, 0, 0) := by decide +kernel
theorem xX5_lastPlatesAreSo_1 : xdec cX5_lastPlatesAreSo 1 = some (.istore_n 3, 2, 3, 0) := by decide +kernel
theorem xX5_lastPlatesAreSo_2 : xdec cX5_lastPlatesAreSo 2 = some (.iload_n 3, 3, 3, 0) := by decide +kernel
theorem xX5_lastPlatesAreSo_3 : xdec cX5_lastPlatesAreSo 3 = some (.aload_n 0, 4, 0, 0) := by decide +kernel
theorem xX5_lastPlatesAreSo_4 : xdec cX5_lastPlatesAreSo 4 = some (.getfield 62, 7, 62, 0) := by decide +kernel
theorem xX5_lastPlatesAreSo_7 : xdec cX5_lastPlatesAreSo 7 = some (.if_icmp .ge 30, 10, 37, 0) := by decide +kernel
theorem xX5_lastPlatesAreSo_10 : xdec cX5_lastPlatesAreSo 10 = some (.aload_n 1, 11, 1, 0) := by decide +kernel
theorem xX5_lastPlatesAreSo_11 : xdec cX5_lastPlatesAreSo 11 = some (.iconst 1, 12, 0, 1) := by decide +kernel
theorem xX5_lastPlatesAreSo_12 : xdec cX5_lastPlatesAreSo 12 = some (.invokevirtual 136, 15, 0, 0) := by decide +kernel
theorem xX5_lastPlatesAreSo_15 : xdec cX5_lastPlatesAreSo 15 = some (.aload_n 0, 16, 0, 0) := by decide +kernel
theorem xX5_lastPlatesAreSo_16 : xdec cX5_lastPlatesAreSo 16 = some (.iload_n 3, 17, 3, 0) := by decide +kernel
theorem xX5_lastPlatesAreSo_17 : xdec cX5_lastPlatesAreSo 17 = some (.aload_n 1, 18, 1, 0) := by decide +kernel
theorem xX5_lastPlatesAreSo_18 : xdec cX5_lastPlatesAreSo 18 = some (.getfield 92, 21, 92, 0) := by decide +kernel
theorem xX5_lastPlatesAreSo_21 : xdec cX5_lastPlatesAreSo 21 = some (.iload_n 2, 22, 2, 0) := by decide +kernel
theorem xX5_lastPlatesAreSo_22 : xdec cX5_lastPlatesAreSo 22 = some (.iaload, 23, 0, 0) := by decide +kernel
theorem xX5_lastPlatesAreSo_23 : xdec cX5_lastPlatesAreSo 23 = some (.invokevirtual 216, 26, 0, 0) := by decide +kernel
theorem xX5_lastPlatesAreSo_26 : xdec cX5_lastPlatesAreSo 26 = some (.ifCond .ne 5, 29, 31, 0) := by decide +kernel
theorem xX5_lastPlatesAreSo_29 : xdec cX5_lastPlatesAreSo 29 = some (.iconst 0, 30, 0, 0) := by decide +kernel
theorem xX5_lastPlatesAreSo_30 : xdec cX5_lastPlatesAreSo 30 = some (.ireturn, 31, 0, 0) := by decide +kernel
theorem xX5_lastPlatesAreSo_31 : xdec cX5_lastPlatesAreSo 31 = some (.iinc 3 1, 34, 3, 1) := by decide +kernel
theorem xX5_lastPlatesAreSo_34 : xdec cX5_lastPlatesAreSo 34 = some (.goto (-32), 37, 2, 0) := by decide +kernel
theorem xX5_lastPlatesAreSo_37 : xdec cX5_lastPlatesAreSo 37 = some (.iconst 1, 38, 0, 1) := by decide +kernel
theorem xX5_lastPlatesAreSo_38 : xdec cX5_lastPlatesAreSo 38 = some (.ireturn, 39, 0, 0) := by decide +kernel
theorem xX5_two_0 : xdec cX5_two 0 = some (.aload_n 0, 1, 0, 0) := by decide +kernel
theorem xX5_two_1 : xdec cX5_two 1 = some (.getfield 10, 4, 10, 0) := by decide +kernel
theorem xX5_two_4 : xdec cX5_two 4 = some (.iload_n 1, 5, 1, 0) := by decide +kernel
theorem xX5_two_5 : xdec cX5_two 5 = some (.invokevirtual 80, 8, 0, 0) := by decide +kernel
theorem xX5_two_8 : xdec cX5_two 8 = some (.ifCond .eq 29, 11, 37, 0) := by decide +kernel
theorem xX5_two_11 : xdec cX5_two 11 = some (.aload_n 0, 12, 0, 0) := by decide +kernel
theorem xX5_two_12 : xdec cX5_two 12 = some (.getfield 10, 15, 10, 0) := by decide +kernel
theorem xX5_two_15 : xdec cX5_two 15 = some (.iload_n 2, 16, 2, 0) := by decide +kernel
theorem xX5_two_16 : xdec cX5_two 16 = some (.invokevirtual 80, 19, 0, 0) := by decide +kernel
theorem xX5_two_19 : xdec cX5_two 19 = some (.ifCond .eq 18, 22, 37, 0) := by decide +kernel
theorem xX5_two_22 : xdec cX5_two 22 = some (.iload_n 1, 23, 1, 0) := by decide +kernel
theorem xX5_two_23 : xdec cX5_two 23 = some (.iload_n 2, 24, 2, 0) := by decide +kernel
theorem xX5_two_24 : xdec cX5_two 24 = some (.if_icmp .eq 13, 27, 37, 0) := by decide +kernel
theorem xX5_two_27 : xdec cX5_two 27 = some (.iload_n 3, 28, 3, 0) := by decide +kernel
theorem xX5_two_28 : xdec cX5_two 28 = some (.iconst 1, 29, 0, 1) := by decide +kernel
theorem xX5_two_29 : xdec cX5_two 29 = some (.bipush 30, 31, 0, 30) := by decide +kernel
theorem xX5_two_31 : xdec cX5_two 31 = some (.invokestatic 129, 34, 0, 0) := by decide +kernel
theorem xX5_two_34 : xdec cX5_two 34 = some (.ifCond .ne 5, 37, 39, 0) := by decide +kernel
theorem xX5_two_37 : xdec cX5_two 37 = some (.iconst (-1), 38, 0, (-1)) := by decide +kernel
theorem xX5_two_38 : xdec cX5_two 38 = some (.ireturn, 39, 0, 0) := by decide +kernel
theorem xX5_two_39 : xdec cX5_two 39 = some (.aload_n 0, 40, 0, 0) := by decide +kernel
theorem xX5_two_40 : xdec cX5_two 40 = some (.getfield 10, 43, 10, 0) := by decide +kernel
theorem xX5_two_43 : xdec cX5_two 43 = some (.iload_n 1, 44, 1, 0) := by decide +kernel
theorem xX5_two_44 : xdec cX5_two 44 = some (.invokevirtual 98, 47, 0, 0) := by decide +kernel
theorem xX5_two_47 : xdec cX5_two 47 = some (.ifCond .eq 14, 50, 61, 0) := by decide +kernel
theorem xX5_two_50 : xdec cX5_two 50 = some (.aload_n 0, 51, 0, 0) := by decide +kernel
theorem xX5_two_51 : xdec cX5_two 51 = some (.getfield 10, 54, 10, 0) := by decide +kernel
theorem xX5_two_54 : xdec cX5_two 54 = some (.iload_n 2, 55, 2, 0) := by decide +kernel
theorem xX5_two_55 : xdec cX5_two 55 = some (.invokevirtual 98, 58, 0, 0) := by decide +kernel
theorem xX5_two_58 : xdec cX5_two 58 = some (.ifCond .ne 6, 61, 64, 0) := by decide +kernel
theorem xX5_two_61 : xdec cX5_two 61 = some (.bipush (-3), 63, 0, (-3)) := by decide +kernel
theorem xX5_two_63 : xdec cX5_two 63 = some (.ireturn, 64, 0, 0) := by decide +kernel
theorem xX5_two_64 : xdec cX5_two 64 = some (.iconst 0, 65, 0, 0) := by decide +kernel
theorem xX5_two_65 : xdec cX5_two 65 = some (.istore 4, 67, 4, 0) := by decide +kernel
theorem xX5_two_67 : xdec cX5_two 67 = some (.iload 4, 69, 4, 0) := by decide +kernel
theorem xX5_two_69 : xdec cX5_two 69 = some (.iconst 4, 70, 0, 4) := by decide +kernel
theorem xX5_two_70 : xdec cX5_two 70 = some (.if_icmp .ge 18, 73, 88, 0) := by decide +kernel
theorem xX5_two_73 : xdec cX5_two 73 = some (.aload_n 0, 74, 0, 0) := by decide +kernel
theorem xX5_two_74 : xdec cX5_two 74 = some (.iload_n 1, 75, 1, 0) := by decide +kernel
theorem xX5_two_75 : xdec cX5_two 75 = some (.iload_n 2, 76, 2, 0) := by decide +kernel
theorem xX5_two_76 : xdec cX5_two 76 = some (.iload_n 3, 77, 3, 0) := by decide +kernel
theorem xX5_two_77 : xdec cX5_two 77 = some (.iload 4, 79, 4, 0) := by decide +kernel
theorem xX5_two_79 : xdec cX5_two 79 = some (.invokevirtual 223, 82, 0, 0) := by decide +kernel
theorem xX5_two_82 : xdec cX5_two 82 = some (.iinc 4 1, 85, 4, 1) := by decide +kernel
theorem xX5_two_85 : xdec cX5_two 85 = some (.goto (-18), 88, 67, 0) := by decide +kernel
theorem xX5_two_88 : xdec cX5_two 88 = some (.iconst 0, 89, 0, 0) := by decide +kernel
theorem xX5_two_89 : xdec cX5_two 89 = some (.istore 4, 91, 4, 0) := by decide +kernel
theorem xX5_two_91 : xdec cX5_two 91 = some (.iload 4, 93, 4, 0) := by decide +kernel
theorem xX5_two_93 : xdec cX5_two 93 = some (.iconst 4, 94, 0, 4) := by decide +kernel
theorem xX5_two_94 : xdec cX5_two 94 = some (.if_icmp .ge 88, 97, 182, 0) := by decide +kernel
theorem xX5_two_97 : xdec cX5_two 97 = some (.aload_n 0, 98, 0, 0) := by decide +kernel
theorem xX5_two_98 : xdec cX5_two 98 = some (.getfield 40, 101, 40, 0) := by decide +kernel
theorem xX5_two_101 : xdec cX5_two 101 = some (.iload 4, 103, 4, 0) := by decide +kernel
theorem xX5_two_103 : xdec cX5_two 103 = some (.iaload, 104, 0, 0) := by decide +kernel
theorem xX5_two_104 : xdec cX5_two 104 = some (.aload_n 0, 105, 0, 0) := by decide +kernel
theorem xX5_two_105 : xdec cX5_two 105 = some (.getfield 40, 108, 40, 0) := by decide +kernel
theorem xX5_two_108 : xdec cX5_two 108 = some (.iload 4, 110, 4, 0) := by decide +kernel
theorem xX5_two_110 : xdec cX5_two 110 = some (.iconst 2, 111, 0, 2) := by decide +kernel
theorem xX5_two_111 : xdec cX5_two 111 = some (.ixor, 112, 0, 0) := by decide +kernel
theorem xX5_two_112 : xdec cX5_two 112 = some (.iaload, 113, 0, 0) := by decide +kernel
theorem xX5_two_113 : xdec cX5_two 113 = some (.if_icmp .lt 7, 116, 120, 0) := by decide +kernel
theorem xX5_two_116 : xdec cX5_two 116 = some (.iconst 1, 117, 0, 1) := by decide +kernel
theorem xX5_two_117 : xdec cX5_two 117 = some (.goto 4, 120, 121, 0) := by decide +kernel
theorem xX5_two_120 : xdec cX5_two 120 = some (.iconst 0, 121, 0, 0) := by decide +kernel
theorem xX5_two_121 : xdec cX5_two 121 = some (.istore 5, 123, 5, 0) := by decide +kernel
theorem xX5_two_123 : xdec cX5_two 123 = some (.aload_n 0, 124, 0, 0) := by decide +kernel
theorem xX5_two_124 : xdec cX5_two 124 = some (.getfield 40, 127, 40, 0) := by decide +kernel
theorem xX5_two_127 : xdec cX5_two 127 = some (.iconst 4, 128, 0, 4) := by decide +kernel
theorem xX5_two_128 : xdec cX5_two 128 = some (.iload 4, 130, 4, 0) := by decide +kernel
theorem xX5_two_130 : xdec cX5_two 130 = some (.iadd, 131, 0, 0) := by decide +kernel
theorem xX5_two_131 : xdec cX5_two 131 = some (.iaload, 132, 0, 0) := by decide +kernel
theorem xX5_two_132 : xdec cX5_two 132 = some (.aload_n 0, 133, 0, 0) := by decide +kernel
theorem xX5_two_133 : xdec cX5_two 133 = some (.getfield 40, 136, 40, 0) := by decide +kernel
theorem xX5_two_136 : xdec cX5_two 136 = some (.iconst 4, 137, 0, 4) := by decide +kernel
theorem xX5_two_137 : xdec cX5_two 137 = some (.iload 4, 139, 4, 0) := by decide +kernel
theorem xX5_two_139 : xdec cX5_two 139 = some (.iconst 1, 140, 0, 1) := by decide +kernel
theorem xX5_two_140 : xdec cX5_two 140 = some (.ixor, 141, 0, 0) := by decide +kernel
theorem xX5_two_141 : xdec cX5_two 141 = some (.iadd, 142, 0, 0) := by decide +kernel
theorem xX5_two_142 : xdec cX5_two 142 = some (.iaload, 143, 0, 0) := by decide +kernel
theorem xX5_two_143 : xdec cX5_two 143 = some (.if_icmp .lt 7, 146, 150, 0) := by decide +kernel
theorem xX5_two_146 : xdec cX5_two 146 = some (.iconst 1, 147, 0, 1) := by decide +kernel
theorem xX5_two_147 : xdec cX5_two 147 = some (.goto 4, 150, 151, 0) := by decide +kernel
theorem xX5_two_150 : xdec cX5_two 150 = some (.iconst 0, 151, 0, 0) := by decide +kernel
theorem xX5_two_151 : xdec cX5_two 151 = some (.istore 6, 153, 6, 0) := by decide +kernel
theorem xX5_two_153 : xdec cX5_two 153 = some (.iload 5, 155, 5, 0) := by decide +kernel
theorem xX5_two_155 : xdec cX5_two 155 = some (.ifCond .eq 21, 158, 176, 0) := by decide +kernel
theorem xX5_two_158 : xdec cX5_two 158 = some (.iload 6, 160, 6, 0) := by decide +kernel
theorem xX5_two_160 : xdec cX5_two 160 = some (.ifCond .eq 16, 163, 176, 0) := by decide +kernel
theorem xX5_two_163 : xdec cX5_two 163 = some (.bipush 10, 165, 0, 10) := by decide +kernel
theorem xX5_two_165 : xdec cX5_two 165 = some (.iload 4, 167, 4, 0) := by decide +kernel
theorem xX5_two_167 : xdec cX5_two 167 = some (.iconst 1, 168, 0, 1) := by decide +kernel
theorem xX5_two_168 : xdec cX5_two 168 = some (.ishr, 169, 0, 0) := by decide +kernel
theorem xX5_two_169 : xdec cX5_two 169 = some (.imul, 170, 0, 0) := by decide +kernel
theorem xX5_two_170 : xdec cX5_two 170 = some (.iload 4, 172, 4, 0) := by decide +kernel
theorem xX5_two_172 : xdec cX5_two 172 = some (.iconst 1, 173, 0, 1) := by decide +kernel
theorem xX5_two_173 : xdec cX5_two 173 = some (.iand, 174, 0, 0) := by decide +kernel
theorem xX5_two_174 : xdec cX5_two 174 = some (.iadd, 175, 0, 0) := by decide +kernel
theorem xX5_two_175 : xdec cX5_two 175 = some (.ireturn, 176, 0, 0) := by decide +kernel
theorem xX5_two_176 : xdec cX5_two 176 = some (.iinc 4 1, 179, 4, 1) := by decide +kernel
theorem xX5_two_179 : xdec cX5_two 179 = some (.goto (-88), 182, 91, 0) := by decide +kernel
theorem xX5_two_182 : xdec cX5_two 182 = some (.bipush (-4), 184, 0, (-4)) := by decide +kernel
theorem xX5_two_184 : xdec cX5_two 184 = some (.ireturn, 185, 0, 0) := by decide +kernel
theorem xX5_choose_0 : xdec cX5_choose 0 = some (.iload 4, 2, 4, 0) := by decide +kernel
theorem xX5_choose_2 : xdec cX5_choose 2 = some (.iconst 2, 3, 0, 2) := by decide +kernel
theorem xX5_choose_3 : xdec cX5_choose 3 = some (.iand, 4, 0, 0) := by decide +kernel
theorem xX5_choose_4 : xdec cX5_choose 4 = some (.ifCond .eq 7, 7, 11, 0) := by decide +kernel
theorem xX5_choose_7 : xdec cX5_choose 7 = some (.iconst 1, 8, 0, 1) := by decide +kernel
theorem xX5_choose_8 : xdec cX5_choose 8 = some (.goto 4, 11, 12, 0) := by decide +kernel
theorem xX5_choose_11 : xdec cX5_choose 11 = some (.iconst 0, 12, 0, 0) := by decide +kernel
theorem xX5_choose_12 : xdec cX5_choose 12 = some (.istore 5, 14, 5, 0) := by decide +kernel
theorem xX5_choose_14 : xdec cX5_choose 14 = some (.iload 4, 16, 4, 0) := by decide +kernel
theorem xX5_choose_16 : xdec cX5_choose 16 = some (.iconst 1, 17, 0, 1) := by decide +kernel
theorem xX5_choose_17 : xdec cX5_choose 17 = some (.iand, 18, 0, 0) := by decide +kernel
theorem xX5_choose_18 : xdec cX5_choose 18 = some (.ifCond .eq 7, 21, 25, 0) := by decide +kernel
theorem xX5_choose_21 : xdec cX5_choose 21 = some (.iconst 1, 22, 0, 1) := by decide +kernel
theorem xX5_choose_22 : xdec cX5_choose 22 = some (.goto 4, 25, 26, 0) := by decide +kernel
theorem xX5_choose_25 : xdec cX5_choose 25 = some (.iconst 0, 26, 0, 0) := by decide +kernel
theorem xX5_choose_26 : xdec cX5_choose 26 = some (.istore 6, 28, 6, 0) := by decide +kernel
theorem xX5_choose_28 : xdec cX5_choose 28 = some (.iload 5, 30, 5, 0) := by decide +kernel
theorem xX5_choose_30 : xdec cX5_choose 30 = some (.ifCond .eq 7, 33, 37, 0) := by decide +kernel
theorem xX5_choose_33 : xdec cX5_choose 33 = some (.iconst 0, 34, 0, 0) := by decide +kernel
theorem xX5_choose_34 : xdec cX5_choose 34 = some (.goto 6, 37, 40, 0) := by decide +kernel
theorem xX5_choose_37 : xdec cX5_choose 37 = some (.iconst 1, 38, 0, 1) := by decide +kernel
theorem xX5_choose_38 : xdec cX5_choose 38 = some (.iload_n 1, 39, 1, 0) := by decide +kernel
theorem xX5_choose_39 : xdec cX5_choose 39 = some (.ishl, 40, 0, 0) := by decide +kernel
theorem xX5_choose_40 : xdec cX5_choose 40 = some (.iload 6, 42, 6, 0) := by decide +kernel
theorem xX5_choose_42 : xdec cX5_choose 42 = some (.ifCond .eq 7, 45, 49, 0) := by decide +kernel
theorem xX5_choose_45 : xdec cX5_choose 45 = some (.iconst 0, 46, 0, 0) := by decide +kernel
theorem xX5_choose_46 : xdec cX5_choose 46 = some (.goto 6, 49, 52, 0) := by decide +kernel
theorem xX5_choose_49 : xdec cX5_choose 49 = some (.iconst 1, 50, 0, 1) := by decide +kernel
theorem xX5_choose_50 : xdec cX5_choose 50 = some (.iload_n 2, 51, 2, 0) := by decide +kernel
theorem xX5_choose_51 : xdec cX5_choose 51 = some (.ishl, 52, 0, 0) := by decide +kernel
theorem xX5_choose_52 : xdec cX5_choose 52 = some (.ior, 53, 0, 0) := by decide +kernel
theorem xX5_choose_53 : xdec cX5_choose 53 = some (.istore 7, 55, 7, 0) := by decide +kernel
theorem xX5_choose_55 : xdec cX5_choose 55 = some (.aload_n 0, 56, 0, 0) := by decide +kernel
theorem xX5_choose_56 : xdec cX5_choose 56 = some (.invokevirtual 58, 59, 0, 0) := by decide +kernel
theorem xX5_choose_59 : xdec cX5_choose 59 = some (.astore 8, 61, 8, 0) := by decide +kernel
theorem xX5_choose_61 : xdec cX5_choose 61 = some (.aload 8, 63, 8, 0) := by decide +kernel
theorem xX5_choose_63 : xdec cX5_choose 63 = some (.iconst 0, 64, 0, 0) := by decide +kernel
theorem xX5_choose_64 : xdec cX5_choose 64 = some (.iload 7, 66, 7, 0) := by decide +kernel
theorem xX5_choose_66 : xdec cX5_choose 66 = some (.invokevirtual 227, 69, 0, 0) := by decide +kernel
theorem xX5_choose_69 : xdec cX5_choose 69 = some (.aload 8, 71, 8, 0) := by decide +kernel
theorem xX5_choose_71 : xdec cX5_choose 71 = some (.iload_n 3, 72, 3, 0) := by decide +kernel
theorem xX5_choose_72 : xdec cX5_choose 72 = some (.iconst 1, 73, 0, 1) := by decide +kernel
theorem xX5_choose_73 : xdec cX5_choose 73 = some (.isub, 74, 0, 0) := by decide +kernel
theorem xX5_choose_74 : xdec cX5_choose 74 = some (.invokevirtual 136, 77, 0, 0) := by decide +kernel
theorem xX5_choose_77 : xdec cX5_choose 77 = some (.aload_n 0, 78, 0, 0) := by decide +kernel
theorem xX5_choose_78 : xdec cX5_choose 78 = some (.getfield 40, 81, 40, 0) := by decide +kernel
theorem xX5_choose_81 : xdec cX5_choose 81 = some (.iload 4, 83, 4, 0) := by decide +kernel
theorem xX5_choose_83 : xdec cX5_choose 83 = some (.aload 8, 85, 8, 0) := by decide +kernel
theorem xX5_choose_85 : xdec cX5_choose 85 = some (.getfield 95, 88, 95, 0) := by decide +kernel
theorem xX5_choose_88 : xdec cX5_choose 88 = some (.iload_n 1, 89, 1, 0) := by decide +kernel
theorem xX5_choose_89 : xdec cX5_choose 89 = some (.iaload, 90, 0, 0) := by decide +kernel
theorem xX5_choose_90 : xdec cX5_choose 90 = some (.iload 5, 92, 5, 0) := by decide +kernel
theorem xX5_choose_92 : xdec cX5_choose 92 = some (.ifCond .eq 7, 95, 99, 0) := by decide +kernel
theorem xX5_choose_95 : xdec cX5_choose 95 = some (.iconst 0, 96, 0, 0) := by decide +kernel
theorem xX5_choose_96 : xdec cX5_choose 96 = some (.goto 4, 99, 100, 0) := by decide +kernel
theorem xX5_choose_99 : xdec cX5_choose 99 = some (.iconst 2, 100, 0, 2) := by decide +kernel
theorem xX5_choose_100 : xdec cX5_choose 100 = some (.isub, 101, 0, 0) := by decide +kernel
theorem xX5_choose_101 : xdec cX5_choose 101 = some (.iastore, 102, 0, 0) := by decide +kernel
theorem xX5_choose_102 : xdec cX5_choose 102 = some (.aload_n 0, 103, 0, 0) := by decide +kernel
theorem xX5_choose_103 : xdec cX5_choose 103 = some (.getfield 40, 106, 40, 0) := by decide +kernel
theorem xX5_choose_106 : xdec cX5_choose 106 = some (.iconst 4, 107, 0, 4) := by decide +kernel
theorem xX5_choose_107 : xdec cX5_choose 107 = some (.iload 4, 109, 4, 0) := by decide +kernel
theorem xX5_choose_109 : xdec cX5_choose 109 = some (.iadd, 110, 0, 0) := by decide +kernel
theorem xX5_choose_110 : xdec cX5_choose 110 = some (.aload 8, 112, 8, 0) := by decide +kernel
theorem xX5_choose_112 : xdec cX5_choose 112 = some (.getfield 95, 115, 95, 0) := by decide +kernel
theorem xX5_choose_115 : xdec cX5_choose 115 = some (.iload_n 2, 116, 2, 0) := by decide +kernel
theorem xX5_choose_116 : xdec cX5_choose 116 = some (.iaload, 117, 0, 0) := by decide +kernel
theorem xX5_choose_117 : xdec cX5_choose 117 = some (.iload 6, 119, 6, 0) := by decide +kernel
theorem xX5_choose_119 : xdec cX5_choose 119 = some (.ifCond .eq 7, 122, 126, 0) := by decide +kernel
theorem xX5_choose_122 : xdec cX5_choose 122 = some (.iconst 0, 123, 0, 0) := by decide +kernel
theorem xX5_choose_123 : xdec cX5_choose 123 = some (.goto 4, 126, 127, 0) := by decide +kernel
theorem xX5_choose_126 : xdec cX5_choose 126 = some (.iconst 2, 127, 0, 2) := by decide +kernel
theorem xX5_choose_127 : xdec cX5_choose 127 = some (.isub, 128, 0, 0) := by decide +kernel
theorem xX5_choose_128 : xdec cX5_choose 128 = some (.iastore, 129, 0, 0) := by decide +kernel
theorem xX5_choose_129 : xdec cX5_choose 129 = some (.return_, 130, 0, 0) := by decide +kernel
theorem xX5_mares_0 : xdec cX5_mares 0 = some (.aload_n 0, 1, 0, 0) := by decide +kernel
theorem xX5_mares_1 : xdec cX5_mares 1 = some (.getfield 10, 4, 10, 0) := by decide +kernel
theorem xX5_mares_4 : xdec cX5_mares 4 = some (.iload_n 1, 5, 1, 0) := by decide +kernel
theorem xX5_mares_5 : xdec cX5_mares 5 = some (.invokevirtual 80, 8, 0, 0) := by decide +kernel
theorem xX5_mares_8 : xdec cX5_mares 8 = some (.ifCond .eq 23, 11, 31, 0) := by decide +kernel
theorem xX5_mares_11 : xdec cX5_mares 11 = some (.iload_n 2, 12, 2, 0) := by decide +kernel
theorem xX5_mares_12 : xdec cX5_mares 12 = some (.iconst 0, 13, 0, 0) := by decide +kernel
theorem xX5_mares_13 : xdec cX5_mares 13 = some (.bipush 7, 15, 0, 7) := by decide +kernel
theorem xX5_mares_15 : xdec cX5_mares 15 = some (.invokestatic 129, 18, 0, 0) := by decide +kernel
theorem xX5_mares_18 : xdec cX5_mares 18 = some (.ifCond .eq 13, 21, 31, 0) := by decide +kernel
theorem xX5_mares_21 : xdec cX5_mares 21 = some (.iload_n 3, 22, 3, 0) := by decide +kernel
theorem xX5_mares_22 : xdec cX5_mares 22 = some (.iconst 2, 23, 0, 2) := by decide +kernel
theorem xX5_mares_23 : xdec cX5_mares 23 = some (.bipush 20, 25, 0, 20) := by decide +kernel
theorem xX5_mares_25 : xdec cX5_mares 25 = some (.invokestatic 129, 28, 0, 0) := by decide +kernel
theorem xX5_mares_28 : xdec cX5_mares 28 = some (.ifCond .ne 8, 31, 36, 0) := by decide +kernel
theorem xX5_mares_31 : xdec cX5_mares 31 = some (.iconst (-1), 32, 0, (-1)) := by decide +kernel
theorem xX5_mares_32 : xdec cX5_mares 32 = some (.invokestatic 231, 35, 0, 0) := by decide +kernel
theorem xX5_mares_35 : xdec cX5_mares 35 = some (.lreturn, 36, 0, 0) := by decide +kernel
theorem xX5_mares_36 : xdec cX5_mares 36 = some (.iload 4, 38, 4, 0) := by decide +kernel
theorem xX5_mares_38 : xdec cX5_mares 38 = some (.iconst 0, 39, 0, 0) := by decide +kernel
theorem xX5_mares_39 : xdec cX5_mares 39 = some (.bipush 99, 41, 0, 99) := by decide +kernel
theorem xX5_mares_41 : xdec cX5_mares 41 = some (.invokestatic 129, 44, 0, 0) := by decide +kernel
theorem xX5_mares_44 : xdec cX5_mares 44 = some (.ifCond .eq 13, 47, 57, 0) := by decide +kernel
theorem xX5_mares_47 : xdec cX5_mares 47 = some (.iload 5, 49, 5, 0) := by decide +kernel
theorem xX5_mares_49 : xdec cX5_mares 49 = some (.iconst 0, 50, 0, 0) := by decide +kernel
theorem xX5_mares_50 : xdec cX5_mares 50 = some (.iconst 1, 51, 0, 1) := by decide +kernel
theorem xX5_mares_51 : xdec cX5_mares 51 = some (.invokestatic 129, 54, 0, 0) := by decide +kernel
theorem xX5_mares_54 : xdec cX5_mares 54 = some (.ifCond .ne 8, 57, 62, 0) := by decide +kernel
theorem xX5_mares_57 : xdec cX5_mares 57 = some (.iconst (-1), 58, 0, (-1)) := by decide +kernel
theorem xX5_mares_58 : xdec cX5_mares 58 = some (.invokestatic 231, 61, 0, 0) := by decide +kernel
theorem xX5_mares_61 : xdec cX5_mares 61 = some (.lreturn, 62, 0, 0) := by decide +kernel
theorem xX5_mares_62 : xdec cX5_mares 62 = some (.lconst 0, 63, 0, 0) := by decide +kernel
theorem xX5_mares_63 : xdec cX5_mares 63 = some (.lstore 6, 65, 6, 0) := by decide +kernel
theorem xX5_mares_65 : xdec cX5_mares 65 = some (.lconst 0, 66, 0, 0) := by decide +kernel
theorem xX5_mares_66 : xdec cX5_mares 66 = some (.lstore 8, 68, 8, 0) := by decide +kernel
theorem xX5_mares_68 : xdec cX5_mares 68 = some (.iconst 0, 69, 0, 0) := by decide +kernel
theorem xX5_mares_69 : xdec cX5_mares 69 = some (.istore 10, 71, 10, 0) := by decide +kernel
theorem xX5_mares_71 : xdec cX5_mares 71 = some (.iload 10, 73, 10, 0) := by decide +kernel
theorem xX5_mares_73 : xdec cX5_mares 73 = some (.iconst 1, 74, 0, 1) := by decide +kernel
theorem xX5_mares_74 : xdec cX5_mares 74 = some (.iload_n 2, 75, 2, 0) := by decide +kernel
theorem xX5_mares_75 : xdec cX5_mares 75 = some (.ishl, 76, 0, 0) := by decide +kernel
theorem xX5_mares_76 : xdec cX5_mares 76 = some (.if_icmp .ge 106, 79, 182, 0) := by decide +kernel
theorem xX5_mares_79 : xdec cX5_mares 79 = some (.aload_n 0, 80, 0, 0) := by decide +kernel
theorem xX5_mares_80 : xdec cX5_mares 80 = some (.invokevirtual 58, 83, 0, 0) := by decide +kernel
theorem xX5_mares_83 : xdec cX5_mares 83 = some (.astore 11, 85, 11, 0) := by decide +kernel
theorem xX5_mares_85 : xdec cX5_mares 85 = some (.lconst 1, 86, 0, 1) := by decide +kernel
theorem xX5_mares_86 : xdec cX5_mares 86 = some (.lstore 12, 88, 12, 0) := by decide +kernel
theorem xX5_mares_88 : xdec cX5_mares 88 = some (.iconst 0, 89, 0, 0) := by decide +kernel
theorem xX5_mares_89 : xdec cX5_mares 89 = some (.istore 14, 91, 14, 0) := by decide +kernel
theorem xX5_mares_91 : xdec cX5_mares 91 = some (.iload 14, 93, 14, 0) := by decide +kernel
theorem xX5_mares_93 : xdec cX5_mares 93 = some (.iload_n 2, 94, 2, 0) := by decide +kernel
theorem xX5_mares_94 : xdec cX5_mares 94 = some (.if_icmp .ge 52, 97, 146, 0) := by decide +kernel
theorem xX5_mares_97 : xdec cX5_mares 97 = some (.iload 10, 99, 10, 0) := by decide +kernel
theorem xX5_mares_99 : xdec cX5_mares 99 = some (.iload 14, 101, 14, 0) := by decide +kernel
theorem xX5_mares_101 : xdec cX5_mares 101 = some (.ishr, 102, 0, 0) := by decide +kernel
theorem xX5_mares_102 : xdec cX5_mares 102 = some (.iconst 1, 103, 0, 1) := by decide +kernel
theorem xX5_mares_103 : xdec cX5_mares 103 = some (.iand, 104, 0, 0) := by decide +kernel
theorem xX5_mares_104 : xdec cX5_mares 104 = some (.ifCond .eq 7, 107, 111, 0) := by decide +kernel
theorem xX5_mares_107 : xdec cX5_mares 107 = some (.iconst 1, 108, 0, 1) := by decide +kernel
theorem xX5_mares_108 : xdec cX5_mares 108 = some (.goto 4, 111, 112, 0) := by decide +kernel
theorem xX5_mares_111 : xdec cX5_mares 111 = some (.iconst 0, 112, 0, 0) := by decide +kernel
theorem xX5_mares_112 : xdec cX5_mares 112 = some (.istore 15, 114, 15, 0) := by decide +kernel
theorem xX5_mares_114 : xdec cX5_mares 114 = some (.aload 11, 116, 11, 0) := by decide +kernel
theorem xX5_mares_116 : xdec cX5_mares 116 = some (.iload 15, 118, 15, 0) := by decide +kernel
theorem xX5_mares_118 : xdec cX5_mares 118 = some (.iconst 0, 119, 0, 0) := by decide +kernel
theorem xX5_mares_119 : xdec cX5_mares 119 = some (.invokevirtual 227, 122, 0, 0) := by decide +kernel
theorem xX5_mares_122 : xdec cX5_mares 122 = some (.lload 12, 124, 12, 0) := by decide +kernel
theorem xX5_mares_124 : xdec cX5_mares 124 = some (.iload 15, 126, 15, 0) := by decide +kernel
theorem xX5_mares_126 : xdec cX5_mares 126 = some (.ifCond .eq 7, 129, 133, 0) := by decide +kernel
theorem xX5_mares_129 : xdec cX5_mares 129 = some (.lconst 1, 130, 0, 1) := by decide +kernel
theorem xX5_mares_130 : xdec cX5_mares 130 = some (.goto 7, 133, 137, 0) := by decide +kernel
theorem xX5_mares_133 : xdec cX5_mares 133 = some (.iload_n 3, 134, 3, 0) := by decide +kernel
theorem xX5_mares_134 : xdec cX5_mares 134 = some (.iconst 1, 135, 0, 1) := by decide +kernel
theorem xX5_mares_135 : xdec cX5_mares 135 = some (.isub, 136, 0, 0) := by decide +kernel
theorem xX5_mares_136 : xdec cX5_mares 136 = some (.i2l, 137, 0, 0) := by decide +kernel
theorem xX5_mares_137 : xdec cX5_mares 137 = some (.lmul, 138, 0, 0) := by decide +kernel
theorem xX5_mares_138 : xdec cX5_mares 138 = some (.lstore 12, 140, 12, 0) := by decide +kernel
theorem xX5_mares_140 : xdec cX5_mares 140 = some (.iinc 14 1, 143, 14, 1) := by decide +kernel
theorem xX5_mares_143 : xdec cX5_mares 143 = some (.goto (-52), 146, 91, 0) := by decide +kernel
theorem xX5_mares_146 : xdec cX5_mares 146 = some (.lload 8, 148, 8, 0) := by decide +kernel
theorem xX5_mares_148 : xdec cX5_mares 148 = some (.lload 12, 150, 12, 0) := by decide +kernel
theorem xX5_mares_150 : xdec cX5_mares 150 = some (.ladd, 151, 0, 0) := by decide +kernel
theorem xX5_mares_151 : xdec cX5_mares 151 = some (.lstore 8, 153, 8, 0) := by decide +kernel
theorem xX5_mares_153 : xdec cX5_mares 153 = some (.lload 6, 155, 6, 0) := by decide +kernel
theorem xX5_mares_155 : xdec cX5_mares 155 = some (.aload 11, 157, 11, 0) := by decide +kernel
theorem xX5_mares_157 : xdec cX5_mares 157 = some (.getfield 95, 160, 95, 0) := by decide +kernel
theorem xX5_mares_160 : xdec cX5_mares 160 = some (.iload_n 1, 161, 1, 0) := by decide +kernel
theorem xX5_mares_161 : xdec cX5_mares 161 = some (.iaload, 162, 0, 0) := by decide +kernel
theorem xX5_mares_162 : xdec cX5_mares 162 = some (.iload 4, 164, 4, 0) := by decide +kernel
theorem xX5_mares_164 : xdec cX5_mares 164 = some (.if_icmp .lt 8, 167, 172, 0) := by decide +kernel
theorem xX5_mares_167 : xdec cX5_mares 167 = some (.lload 12, 169, 12, 0) := by decide +kernel
theorem xX5_mares_169 : xdec cX5_mares 169 = some (.goto 4, 172, 173, 0) := by decide +kernel
theorem xX5_mares_172 : xdec cX5_mares 172 = some (.lconst 0, 173, 0, 0) := by decide +kernel
theorem xX5_mares_173 : xdec cX5_mares 173 = some (.ladd, 174, 0, 0) := by decide +kernel
theorem xX5_mares_174 : xdec cX5_mares 174 = some (.lstore 6, 176, 6, 0) := by decide +kernel
theorem xX5_mares_176 : xdec cX5_mares 176 = some (.iinc 10 1, 179, 10, 1) := by decide +kernel
theorem xX5_mares_179 : xdec cX5_mares 179 = some (.goto (-108), 182, 71, 0) := by decide +kernel
theorem xX5_mares_182 : xdec cX5_mares 182 = some (.lload 6, 184, 6, 0) := by decide +kernel
theorem xX5_mares_184 : xdec cX5_mares 184 = some (.lload 8, 186, 8, 0) := by decide +kernel
theorem xX5_mares_186 : xdec cX5_mares 186 = some (.iload 5, 188, 5, 0) := by decide +kernel
theorem xX5_mares_188 : xdec cX5_mares 188 = some (.invokestatic 235, 191, 0, 0) := by decide +kernel
theorem xX5_mares_191 : xdec cX5_mares 191 = some (.lreturn, 192, 0, 0) := by decide +kernel
theorem xX5_mean_0 : xdec cX5_mean 0 = some (.iload_n 1, 1, 1, 0) := by decide +kernel
theorem xX5_mean_1 : xdec cX5_mean 1 = some (.iconst 0, 2, 0, 0) := by decide +kernel
theorem xX5_mean_2 : xdec cX5_mean 2 = some (.iconst 1, 3, 0, 1) := by decide +kernel
theorem xX5_mean_3 : xdec cX5_mean 3 = some (.invokestatic 129, 6, 0, 0) := by decide +kernel
theorem xX5_mean_6 : xdec cX5_mean 6 = some (.ifCond .ne 8, 9, 14, 0) := by decide +kernel
theorem xX5_mean_9 : xdec cX5_mean 9 = some (.iconst (-1), 10, 0, (-1)) := by decide +kernel
theorem xX5_mean_10 : xdec cX5_mean 10 = some (.invokestatic 231, 13, 0, 0) := by decide +kernel
theorem xX5_mean_13 : xdec cX5_mean 13 = some (.lreturn, 14, 0, 0) := by decide +kernel
theorem xX5_mean_14 : xdec cX5_mean 14 = some (.aload_n 0, 15, 0, 0) := by decide +kernel
theorem xX5_mean_15 : xdec cX5_mean 15 = some (.getfield 10, 18, 10, 0) := by decide +kernel
theorem xX5_mean_18 : xdec cX5_mean 18 = some (.aload_n 0, 19, 0, 0) := by decide +kernel
theorem xX5_mean_19 : xdec cX5_mean 19 = some (.getfield 10, 22, 10, 0) := by decide +kernel
theorem xX5_mean_22 : xdec cX5_mean 22 = some (.getfield 140, 25, 140, 0) := by decide +kernel
theorem xX5_mean_25 : xdec cX5_mean 25 = some (.invokevirtual 186, 28, 0, 0) := by decide +kernel
theorem xX5_mean_28 : xdec cX5_mean 28 = some (.i2l, 29, 0, 0) := by decide +kernel
theorem xX5_mean_29 : xdec cX5_mean 29 = some (.aload_n 0, 30, 0, 0) := by decide +kernel
theorem xX5_mean_30 : xdec cX5_mean 30 = some (.getfield 10, 33, 10, 0) := by decide +kernel
theorem xX5_mean_33 : xdec cX5_mean 33 = some (.getfield 140, 36, 140, 0) := by decide +kernel
theorem xX5_mean_36 : xdec cX5_mean 36 = some (.invokestatic 143, 39, 0, 0) := by decide +kernel
theorem xX5_mean_39 : xdec cX5_mean 39 = some (.i2l, 40, 0, 0) := by decide +kernel
theorem xX5_mean_40 : xdec cX5_mean 40 = some (.iload_n 1, 41, 1, 0) := by decide +kernel
theorem xX5_mean_41 : xdec cX5_mean 41 = some (.invokestatic 235, 44, 0, 0) := by decide +kernel
theorem xX5_mean_44 : xdec cX5_mean 44 = some (.lreturn, 45, 0, 0) := by decide +kernel
theorem xX5_forged_0 : xdec cX5_forged 0 = some (.aload_n 0, 1, 0, 0) := by decide +kernel
theorem xX5_forged_1 : xdec cX5_forged 1 = some (.iload_n 1, 2, 1, 0) := by decide +kernel
theorem xX5_forged_2 : xdec cX5_forged 2 = some (.invokevirtual 44, 5, 0, 0) := by decide +kernel
theorem xX5_forged_5 : xdec cX5_forged 5 = some (.istore_n 2, 6, 2, 0) := by decide +kernel
theorem xX5_forged_6 : xdec cX5_forged 6 = some (.iload_n 2, 7, 2, 0) := by decide +kernel
theorem xX5_forged_7 : xdec cX5_forged 7 = some (.ifCond .eq 5, 10, 12, 0) := by decide +kernel
theorem xX5_forged_10 : xdec cX5_forged 10 = some (.iload_n 2, 11, 2, 0) := by decide +kernel
theorem xX5_forged_11 : xdec cX5_forged 11 = some (.ireturn, 12, 0, 0) := by decide +kernel
theorem xX5_forged_12 : xdec cX5_forged 12 = some (.aload_n 0, 13, 0, 0) := by decide +kernel
theorem xX5_forged_13 : xdec cX5_forged 13 = some (.getfield 28, 16, 28, 0) := by decide +kernel
theorem xX5_forged_16 : xdec cX5_forged 16 = some (.iload_n 1, 17, 1, 0) := by decide +kernel
theorem xX5_forged_17 : xdec cX5_forged 17 = some (.aaload, 18, 0, 0) := by decide +kernel
theorem xX5_forged_18 : xdec cX5_forged 18 = some (.astore_n 3, 19, 3, 0) := by decide +kernel
theorem xX5_forged_19 : xdec cX5_forged 19 = some (.iconst 0, 20, 0, 0) := by decide +kernel
theorem xX5_forged_20 : xdec cX5_forged 20 = some (.istore 4, 22, 4, 0) := by decide +kernel
theorem xX5_forged_22 : xdec cX5_forged 22 = some (.iload 4, 24, 4, 0) := by decide +kernel
theorem xX5_forged_24 : xdec cX5_forged 24 = some (.aload_n 3, 25, 3, 0) := by decide +kernel
theorem xX5_forged_25 : xdec cX5_forged 25 = some (.getfield 62, 28, 62, 0) := by decide +kernel
theorem xX5_forged_28 : xdec cX5_forged 28 = some (.if_icmp .ge 40, 31, 68, 0) := by decide +kernel
theorem xX5_forged_31 : xdec cX5_forged 31 = some (.iload 4, 33, 4, 0) := by decide +kernel
theorem xX5_forged_33 : xdec cX5_forged 33 = some (.invokestatic 110, 36, 0, 0) := by decide +kernel
theorem xX5_forged_36 : xdec cX5_forged 36 = some (.ifCond .eq 23, 39, 59, 0) := by decide +kernel
theorem xX5_forged_39 : xdec cX5_forged 39 = some (.aload_n 3, 40, 3, 0) := by decide +kernel
theorem xX5_forged_40 : xdec cX5_forged 40 = some (.getfield 65, 43, 65, 0) := by decide +kernel
theorem xX5_forged_43 : xdec cX5_forged 43 = some (.iload 4, 45, 4, 0) := by decide +kernel
theorem xX5_forged_45 : xdec cX5_forged 45 = some (.iaload, 46, 0, 0) := by decide +kernel
theorem xX5_forged_46 : xdec cX5_forged 46 = some (.aload_n 0, 47, 0, 0) := by decide +kernel
theorem xX5_forged_47 : xdec cX5_forged 47 = some (.getfield 10, 50, 10, 0) := by decide +kernel
theorem xX5_forged_50 : xdec cX5_forged 50 = some (.getfield 113, 53, 113, 0) := by decide +kernel
theorem xX5_forged_53 : xdec cX5_forged 53 = some (.iload 4, 55, 4, 0) := by decide +kernel
theorem xX5_forged_55 : xdec cX5_forged 55 = some (.iaload, 56, 0, 0) := by decide +kernel
theorem xX5_forged_56 : xdec cX5_forged 56 = some (.if_icmp .eq 6, 59, 62, 0) := by decide +kernel
theorem xX5_forged_59 : xdec cX5_forged 59 = some (.iload 4, 61, 4, 0) := by decide +kernel
theorem xX5_forged_61 : xdec cX5_forged 61 = some (.ireturn, 62, 0, 0) := by decide +kernel
theorem xX5_forged_62 : xdec cX5_forged 62 = some (.iinc 4 1, 65, 4, 1) := by decide +kernel
theorem xX5_forged_65 : xdec cX5_forged 65 = some (.goto (-43), 68, 22, 0) := by decide +kernel
theorem xX5_forged_68 : xdec cX5_forged 68 = some (.bipush (-4), 70, 0, (-4)) := by decide +kernel
theorem xX5_forged_70 : xdec cX5_forged 70 = some (.ireturn, 71, 0, 0) := by decide +kernel
theorem xX5_judge_0 : xdec cX5_judge 0 = some (.aload_n 0, 1, 0, 0) := by decide +kernel
theorem xX5_judge_1 : xdec cX5_judge 1 = some (.iload_n 1, 2, 1, 0) := by decide +kernel
theorem xX5_judge_2 : xdec cX5_judge 2 = some (.invokevirtual 44, 5, 0, 0) := by decide +kernel
theorem xX5_judge_5 : xdec cX5_judge 5 = some (.istore_n 2, 6, 2, 0) := by decide +kernel
theorem xX5_judge_6 : xdec cX5_judge 6 = some (.iload_n 2, 7, 2, 0) := by decide +kernel
theorem xX5_judge_7 : xdec cX5_judge 7 = some (.ifCond .eq 5, 10, 12, 0) := by decide +kernel
theorem xX5_judge_10 : xdec cX5_judge 10 = some (.iload_n 2, 11, 2, 0) := by decide +kernel
theorem xX5_judge_11 : xdec cX5_judge 11 = some (.ireturn, 12, 0, 0) := by decide +kernel
theorem xX5_judge_12 : xdec cX5_judge 12 = some (.aload_n 0, 13, 0, 0) := by decide +kernel
theorem xX5_judge_13 : xdec cX5_judge 13 = some (.getfield 28, 16, 28, 0) := by decide +kernel
theorem xX5_judge_16 : xdec cX5_judge 16 = some (.iload_n 1, 17, 1, 0) := by decide +kernel
theorem xX5_judge_17 : xdec cX5_judge 17 = some (.aaload, 18, 0, 0) := by decide +kernel
theorem xX5_judge_18 : xdec cX5_judge 18 = some (.astore_n 3, 19, 3, 0) := by decide +kernel
theorem xX5_judge_19 : xdec cX5_judge 19 = some (.aload_n 0, 20, 0, 0) := by decide +kernel
theorem xX5_judge_20 : xdec cX5_judge 20 = some (.invokevirtual 58, 23, 0, 0) := by decide +kernel
theorem xX5_judge_23 : xdec cX5_judge 23 = some (.astore 4, 25, 4, 0) := by decide +kernel
theorem xX5_judge_25 : xdec cX5_judge 25 = some (.iconst 0, 26, 0, 0) := by decide +kernel
theorem xX5_judge_26 : xdec cX5_judge 26 = some (.istore 5, 28, 5, 0) := by decide +kernel
theorem xX5_judge_28 : xdec cX5_judge 28 = some (.iload 5, 30, 5, 0) := by decide +kernel
theorem xX5_judge_30 : xdec cX5_judge 30 = some (.aload_n 3, 31, 3, 0) := by decide +kernel
theorem xX5_judge_31 : xdec cX5_judge 31 = some (.getfield 62, 34, 62, 0) := by decide +kernel
theorem xX5_judge_34 : xdec cX5_judge 34 = some (.if_icmp .ge 32, 37, 66, 0) := by decide +kernel
theorem xX5_judge_37 : xdec cX5_judge 37 = some (.aload_n 3, 38, 3, 0) := by decide +kernel
theorem xX5_judge_38 : xdec cX5_judge 38 = some (.iload 5, 40, 5, 0) := by decide +kernel
theorem xX5_judge_40 : xdec cX5_judge 40 = some (.aload 4, 42, 4, 0) := by decide +kernel
theorem xX5_judge_42 : xdec cX5_judge 42 = some (.invokevirtual 202, 45, 0, 0) := by decide +kernel
theorem xX5_judge_45 : xdec cX5_judge 45 = some (.invokevirtual 216, 48, 0, 0) := by decide +kernel
theorem xX5_judge_48 : xdec cX5_judge 48 = some (.ifCond .ne 6, 51, 54, 0) := by decide +kernel
theorem xX5_judge_51 : xdec cX5_judge 51 = some (.iload 5, 53, 5, 0) := by decide +kernel
theorem xX5_judge_53 : xdec cX5_judge 53 = some (.ireturn, 54, 0, 0) := by decide +kernel
theorem xX5_judge_54 : xdec cX5_judge 54 = some (.aload 4, 56, 4, 0) := by decide +kernel
theorem xX5_judge_56 : xdec cX5_judge 56 = some (.iconst 1, 57, 0, 1) := by decide +kernel
theorem xX5_judge_57 : xdec cX5_judge 57 = some (.invokevirtual 136, 60, 0, 0) := by decide +kernel
theorem xX5_judge_60 : xdec cX5_judge 60 = some (.iinc 5 1, 63, 5, 1) := by decide +kernel
theorem xX5_judge_63 : xdec cX5_judge 63 = some (.goto (-35), 66, 28, 0) := by decide +kernel
theorem xX5_judge_66 : xdec cX5_judge 66 = some (.bipush (-4), 68, 0, (-4)) := by decide +kernel
theorem xX5_judge_68 : xdec cX5_judge 68 = some (.ireturn, 69, 0, 0) := by decide +kernel
theorem xX5_years_0 : xdec cX5_years 0 = some (.iload_n 1, 1, 1, 0) := by decide +kernel
theorem xX5_years_1 : xdec cX5_years 1 = some (.iconst 1, 2, 0, 1) := by decide +kernel
theorem xX5_years_2 : xdec cX5_years 2 = some (.bipush 20, 4, 0, 20) := by decide +kernel
theorem xX5_years_4 : xdec cX5_years 4 = some (.invokestatic 129, 7, 0, 0) := by decide +kernel
theorem xX5_years_7 : xdec cX5_years 7 = some (.ifCond .eq 12, 10, 19, 0) := by decide +kernel
theorem xX5_years_10 : xdec cX5_years 10 = some (.iload_n 3, 11, 3, 0) := by decide +kernel
theorem xX5_years_11 : xdec cX5_years 11 = some (.iconst 0, 12, 0, 0) := by decide +kernel
theorem xX5_years_12 : xdec cX5_years 12 = some (.iconst 1, 13, 0, 1) := by decide +kernel
theorem xX5_years_13 : xdec cX5_years 13 = some (.invokestatic 129, 16, 0, 0) := by decide +kernel
theorem xX5_years_16 : xdec cX5_years 16 = some (.ifCond .ne 5, 19, 21, 0) := by decide +kernel
theorem xX5_years_19 : xdec cX5_years 19 = some (.iconst (-1), 20, 0, (-1)) := by decide +kernel
theorem xX5_years_20 : xdec cX5_years 20 = some (.ireturn, 21, 0, 0) := by decide +kernel
theorem xX5_years_21 : xdec cX5_years 21 = some (.iload_n 2, 22, 2, 0) := by decide +kernel
theorem xX5_years_22 : xdec cX5_years 22 = some (.istore 4, 24, 4, 0) := by decide +kernel
theorem xX5_years_24 : xdec cX5_years 24 = some (.iconst 0, 25, 0, 0) := by decide +kernel
theorem xX5_years_25 : xdec cX5_years 25 = some (.istore 5, 27, 5, 0) := by decide +kernel
theorem xX5_years_27 : xdec cX5_years 27 = some (.iconst 0, 28, 0, 0) := by decide +kernel
theorem xX5_years_28 : xdec cX5_years 28 = some (.istore 6, 30, 6, 0) := by decide +kernel
theorem xX5_years_30 : xdec cX5_years 30 = some (.iload 6, 32, 6, 0) := by decide +kernel
theorem xX5_years_32 : xdec cX5_years 32 = some (.iload_n 1, 33, 1, 0) := by decide +kernel
theorem xX5_years_33 : xdec cX5_years 33 = some (.if_icmp .ge 90, 36, 123, 0) := by decide +kernel
theorem xX5_years_36 : xdec cX5_years 36 = some (.aload_n 0, 37, 0, 0) := by decide +kernel
theorem xX5_years_37 : xdec cX5_years 37 = some (.invokevirtual 58, 40, 0, 0) := by decide +kernel
theorem xX5_years_40 : xdec cX5_years 40 = some (.astore 7, 42, 7, 0) := by decide +kernel
theorem xX5_years_42 : xdec cX5_years 42 = some (.aload 7, 44, 7, 0) := by decide +kernel
theorem xX5_years_44 : xdec cX5_years 44 = some (.getfield 89, 47, 89, 0) := by decide +kernel
theorem xX5_years_47 : xdec cX5_years 47 = some (.aload 7, 49, 7, 0) := by decide +kernel
theorem xX5_years_49 : xdec cX5_years 49 = some (.getfield 180, 52, 180, 0) := by decide +kernel
theorem xX5_years_52 : xdec cX5_years 52 = some (.bipush 10, 54, 0, 10) := by decide +kernel
theorem xX5_years_54 : xdec cX5_years 54 = some (.iload 4, 56, 4, 0) := by decide +kernel
theorem xX5_years_56 : xdec cX5_years 56 = some (.invokestatic 239, 59, 0, 0) := by decide +kernel
theorem xX5_years_59 : xdec cX5_years 59 = some (.istore 4, 61, 4, 0) := by decide +kernel
theorem xX5_years_61 : xdec cX5_years 61 = some (.aload 7, 63, 7, 0) := by decide +kernel
theorem xX5_years_63 : xdec cX5_years 63 = some (.getfield 113, 66, 113, 0) := by decide +kernel
theorem xX5_years_66 : xdec cX5_years 66 = some (.bipush 10, 68, 0, 10) := by decide +kernel
theorem xX5_years_68 : xdec cX5_years 68 = some (.bipush 6, 70, 0, 6) := by decide +kernel
theorem xX5_years_70 : xdec cX5_years 70 = some (.iload 4, 72, 4, 0) := by decide +kernel
theorem xX5_years_72 : xdec cX5_years 72 = some (.invokestatic 239, 75, 0, 0) := by decide +kernel
theorem xX5_years_75 : xdec cX5_years 75 = some (.istore 4, 77, 4, 0) := by decide +kernel
theorem xX5_years_77 : xdec cX5_years 77 = some (.aload 7, 79, 7, 0) := by decide +kernel
theorem xX5_years_79 : xdec cX5_years 79 = some (.bipush 12, 81, 0, 12) := by decide +kernel
theorem xX5_years_81 : xdec cX5_years 81 = some (.invokevirtual 136, 84, 0, 0) := by decide +kernel
theorem xX5_years_84 : xdec cX5_years 84 = some (.iload 5, 86, 5, 0) := by decide +kernel
theorem xX5_years_86 : xdec cX5_years 86 = some (.iload_n 3, 87, 3, 0) := by decide +kernel
theorem xX5_years_87 : xdec cX5_years 87 = some (.ifCond .ne 19, 90, 106, 0) := by decide +kernel
theorem xX5_years_90 : xdec cX5_years 90 = some (.aload 7, 92, 7, 0) := by decide +kernel
theorem xX5_years_92 : xdec cX5_years 92 = some (.getfield 151, 95, 151, 0) := by decide +kernel
theorem xX5_years_95 : xdec cX5_years 95 = some (.aload_n 0, 96, 0, 0) := by decide +kernel
theorem xX5_years_96 : xdec cX5_years 96 = some (.getfield 10, 99, 10, 0) := by decide +kernel
theorem xX5_years_99 : xdec cX5_years 99 = some (.getfield 151, 102, 151, 0) := by decide +kernel
theorem xX5_years_102 : xdec cX5_years 102 = some (.isub, 103, 0, 0) := by decide +kernel
theorem xX5_years_103 : xdec cX5_years 103 = some (.goto 11, 106, 114, 0) := by decide +kernel
theorem xX5_years_106 : xdec cX5_years 106 = some (.aload 7, 108, 7, 0) := by decide +kernel
theorem xX5_years_108 : xdec cX5_years 108 = some (.getfield 140, 111, 140, 0) := by decide +kernel
theorem xX5_years_111 : xdec cX5_years 111 = some (.invokestatic 143, 114, 0, 0) := by decide +kernel
theorem xX5_years_114 : xdec cX5_years 114 = some (.iadd, 115, 0, 0) := by decide +kernel
theorem xX5_years_115 : xdec cX5_years 115 = some (.istore 5, 117, 5, 0) := by decide +kernel
theorem xX5_years_117 : xdec cX5_years 117 = some (.iinc 6 1, 120, 6, 1) := by decide +kernel
theorem xX5_years_120 : xdec cX5_years 120 = some (.goto (-90), 123, 30, 0) := by decide +kernel
theorem xX5_years_123 : xdec cX5_years 123 = some (.iload 5, 125, 5, 0) := by decide +kernel
theorem xX5_years_125 : xdec cX5_years 125 = some (.ireturn, 126, 0, 0) := by decide +kernel
theorem xX5_drawInto_0 : xdec cX5_drawInto 0 = some (.iload_n 3, 1, 3, 0) := by decide +kernel
theorem xX5_drawInto_1 : xdec cX5_drawInto 1 = some (.istore 4, 3, 4, 0) := by decide +kernel
theorem xX5_drawInto_3 : xdec cX5_drawInto 3 = some (.iconst 0, 4, 0, 0) := by decide +kernel
theorem xX5_drawInto_4 : xdec cX5_drawInto 4 = some (.istore 5, 6, 5, 0) := by decide +kernel
theorem xX5_drawInto_6 : xdec cX5_drawInto 6 = some (.iload 5, 8, 5, 0) := by decide +kernel
theorem xX5_drawInto_8 : xdec cX5_drawInto 8 = some (.iload_n 1, 9, 1, 0) := by decide +kernel
theorem xX5_drawInto_9 : xdec cX5_drawInto 9 = some (.if_icmp .ge 49, 12, 58, 0) := by decide +kernel
theorem xX5_drawInto_12 : xdec cX5_drawInto 12 = some (.iload 5, 14, 5, 0) := by decide +kernel
theorem xX5_drawInto_14 : xdec cX5_drawInto 14 = some (.aload_n 0, 15, 0, 0) := by decide +kernel
theorem xX5_drawInto_15 : xdec cX5_drawInto 15 = some (.arraylength, 16, 0, 0) := by decide +kernel
theorem xX5_drawInto_16 : xdec cX5_drawInto 16 = some (.if_icmp .ge 42, 19, 58, 0) := by decide +kernel
theorem xX5_drawInto_19 : xdec cX5_drawInto 19 = some (.iload 4, 21, 4, 0) := by decide +kernel
theorem xX5_drawInto_21 : xdec cX5_drawInto 21 = some (.ldc 243, 23, 243, 0) := by decide +kernel
theorem xX5_drawInto_23 : xdec cX5_drawInto 23 = some (.imul, 24, 0, 0) := by decide +kernel
theorem xX5_drawInto_24 : xdec cX5_drawInto 24 = some (.sipush 12345, 27, 0, 12345) := by decide +kernel
theorem xX5_drawInto_27 : xdec cX5_drawInto 27 = some (.iadd, 28, 0, 0) := by decide +kernel
theorem xX5_drawInto_28 : xdec cX5_drawInto 28 = some (.istore 4, 30, 4, 0) := by decide +kernel
theorem xX5_drawInto_30 : xdec cX5_drawInto 30 = some (.aload_n 0, 31, 0, 0) := by decide +kernel
theorem xX5_drawInto_31 : xdec cX5_drawInto 31 = some (.iload 5, 33, 5, 0) := by decide +kernel
theorem xX5_drawInto_33 : xdec cX5_drawInto 33 = some (.iload_n 2, 34, 2, 0) := by decide +kernel
theorem xX5_drawInto_34 : xdec cX5_drawInto 34 = some (.ifCond .le 16, 37, 50, 0) := by decide +kernel
theorem xX5_drawInto_37 : xdec cX5_drawInto 37 = some (.iload 4, 39, 4, 0) := by decide +kernel
theorem xX5_drawInto_39 : xdec cX5_drawInto 39 = some (.ldc 244, 41, 244, 0) := by decide +kernel
theorem xX5_drawInto_41 : xdec cX5_drawInto 41 = some (.iand, 42, 0, 0) := by decide +kernel
theorem xX5_drawInto_42 : xdec cX5_drawInto 42 = some (.ldc 245, 44, 245, 0) := by decide +kernel
theorem xX5_drawInto_44 : xdec cX5_drawInto 44 = some (.idiv, 45, 0, 0) := by decide +kernel
theorem xX5_drawInto_45 : xdec cX5_drawInto 45 = some (.iload_n 2, 46, 2, 0) := by decide +kernel
theorem xX5_drawInto_46 : xdec cX5_drawInto 46 = some (.irem, 47, 0, 0) := by decide +kernel
theorem xX5_drawInto_47 : xdec cX5_drawInto 47 = some (.goto 4, 50, 51, 0) := by decide +kernel
theorem xX5_drawInto_50 : xdec cX5_drawInto 50 = some (.iconst 0, 51, 0, 0) := by decide +kernel
theorem xX5_drawInto_51 : xdec cX5_drawInto 51 = some (.iastore, 52, 0, 0) := by decide +kernel
theorem xX5_drawInto_52 : xdec cX5_drawInto 52 = some (.iinc 5 1, 55, 5, 1) := by decide +kernel
theorem xX5_drawInto_55 : xdec cX5_drawInto 55 = some (.goto (-49), 58, 6, 0) := by decide +kernel
theorem xX5_drawInto_58 : xdec cX5_drawInto 58 = some (.iload 4, 60, 4, 0) := by decide +kernel
theorem xX5_drawInto_60 : xdec cX5_drawInto 60 = some (.ireturn, 61, 0, 0) := by decide +kernel
theorem xX5_image_0 : xdec cX5_image 0 = some (.aload_n 0, 1, 0, 0) := by decide +kernel
theorem xX5_image_1 : xdec cX5_image 1 = some (.getfield 19, 4, 19, 0) := by decide +kernel
theorem xX5_image_4 : xdec cX5_image 4 = some (.aload_n 0, 5, 0, 0) := by decide +kernel
theorem xX5_image_5 : xdec cX5_image 5 = some (.getfield 10, 8, 10, 0) := by decide +kernel
theorem xX5_image_8 : xdec cX5_image 8 = some (.invokevirtual 76, 11, 0, 0) := by decide +kernel
theorem xX5_image_11 : xdec cX5_image 11 = some (.aload_n 0, 12, 0, 0) := by decide +kernel
theorem xX5_image_12 : xdec cX5_image 12 = some (.iconst 1, 13, 0, 1) := by decide +kernel
theorem xX5_image_13 : xdec cX5_image 13 = some (.putfield 22, 16, 22, 0) := by decide +kernel
theorem xX5_image_16 : xdec cX5_image 16 = some (.aload_n 0, 17, 0, 0) := by decide +kernel
theorem xX5_image_17 : xdec cX5_image 17 = some (.getfield 10, 20, 10, 0) := by decide +kernel
theorem xX5_image_20 : xdec cX5_image 20 = some (.getfield 133, 23, 133, 0) := by decide +kernel
theorem xX5_image_23 : xdec cX5_image 23 = some (.ireturn, 24, 0, 0) := by decide +kernel
theorem xX5_restore_0 : xdec cX5_restore 0 = some (.aload_n 0, 1, 0, 0) := by decide +kernel
theorem xX5_restore_1 : xdec cX5_restore 1 = some (.getfield 22, 4, 22, 0) := by decide +kernel
theorem xX5_restore_4 : xdec cX5_restore 4 = some (.ifCond .ne 6, 7, 10, 0) := by decide +kernel
theorem xX5_restore_7 : xdec cX5_restore 7 = some (.bipush (-3), 9, 0, (-3)) := by decide +kernel
theorem xX5_restore_9 : xdec cX5_restore 9 = some (.ireturn, 10, 0, 0) := by decide +kernel
theorem xX5_restore_10 : xdec cX5_restore 10 = some (.aload_n 0, 11, 0, 0) := by decide +kernel
theorem xX5_restore_11 : xdec cX5_restore 11 = some (.getfield 10, 14, 10, 0) := by decide +kernel
theorem xX5_restore_14 : xdec cX5_restore 14 = some (.aload_n 0, 15, 0, 0) := by decide +kernel
theorem xX5_restore_15 : xdec cX5_restore 15 = some (.getfield 19, 18, 19, 0) := by decide +kernel
theorem xX5_restore_18 : xdec cX5_restore 18 = some (.invokevirtual 76, 21, 0, 0) := by decide +kernel
theorem xX5_restore_21 : xdec cX5_restore 21 = some (.aload_n 0, 22, 0, 0) := by decide +kernel
theorem xX5_restore_22 : xdec cX5_restore 22 = some (.getfield 10, 25, 10, 0) := by decide +kernel
theorem xX5_restore_25 : xdec cX5_restore 25 = some (.getfield 133, 28, 133, 0) := by decide +kernel
theorem xX5_restore_28 : xdec cX5_restore 28 = some (.ireturn, 29, 0, 0) := by decide +kernel
theorem xX5_count_0 : xdec cX5_count 0 = some (.iload_n 1, 1, 1, 0) := by decide +kernel
theorem xX5_count_1 : xdec cX5_count 1 = some (.tableswitch 87 0 5 #[39, 47, 55, 63, 71, 79], 40, 0, 0) := by decide +kernel
theorem xX5_count_40 : xdec cX5_count 40 = some (.aload_n 0, 41, 0, 0) := by decide +kernel
theorem xX5_count_41 : xdec cX5_count 41 = some (.getfield 10, 44, 10, 0) := by decide +kernel
theorem xX5_count_44 : xdec cX5_count 44 = some (.getfield 180, 47, 180, 0) := by decide +kernel
theorem xX5_count_47 : xdec cX5_count 47 = some (.ireturn, 48, 0, 0) := by decide +kernel
theorem xX5_count_48 : xdec cX5_count 48 = some (.aload_n 0, 49, 0, 0) := by decide +kernel
theorem xX5_count_49 : xdec cX5_count 49 = some (.getfield 10, 52, 10, 0) := by decide +kernel
theorem xX5_count_52 : xdec cX5_count 52 = some (.getfield 133, 55, 133, 0) := by decide +kernel
theorem xX5_count_55 : xdec cX5_count 55 = some (.ireturn, 56, 0, 0) := by decide +kernel
theorem xX5_count_56 : xdec cX5_count 56 = some (.aload_n 0, 57, 0, 0) := by decide +kernel
theorem xX5_count_57 : xdec cX5_count 57 = some (.getfield 10, 60, 10, 0) := by decide +kernel
theorem xX5_count_60 : xdec cX5_count 60 = some (.getfield 151, 63, 151, 0) := by decide +kernel
theorem xX5_count_63 : xdec cX5_count 63 = some (.ireturn, 64, 0, 0) := by decide +kernel
theorem xX5_count_64 : xdec cX5_count 64 = some (.aload_n 0, 65, 0, 0) := by decide +kernel
theorem xX5_count_65 : xdec cX5_count 65 = some (.getfield 10, 68, 10, 0) := by decide +kernel
theorem xX5_count_68 : xdec cX5_count 68 = some (.getfield 154, 71, 154, 0) := by decide +kernel
theorem xX5_count_71 : xdec cX5_count 71 = some (.ireturn, 72, 0, 0) := by decide +kernel
theorem xX5_count_72 : xdec cX5_count 72 = some (.aload_n 0, 73, 0, 0) := by decide +kernel
theorem xX5_count_73 : xdec cX5_count 73 = some (.getfield 10, 76, 10, 0) := by decide +kernel
theorem xX5_count_76 : xdec cX5_count 76 = some (.getfield 140, 79, 140, 0) := by decide +kernel
theorem xX5_count_79 : xdec cX5_count 79 = some (.ireturn, 80, 0, 0) := by decide +kernel
theorem xX5_count_80 : xdec cX5_count 80 = some (.aload_n 0, 81, 0, 0) := by decide +kernel
theorem xX5_count_81 : xdec cX5_count 81 = some (.getfield 10, 84, 10, 0) := by decide +kernel
theorem xX5_count_84 : xdec cX5_count 84 = some (.invokevirtual 202, 87, 0, 0) := by decide +kernel
theorem xX5_count_87 : xdec cX5_count 87 = some (.ireturn, 88, 0, 0) := by decide +kernel
theorem xX5_count_88 : xdec cX5_count 88 = some (.iconst (-1), 89, 0, (-1)) := by decide +kernel
theorem xX5_count_89 : xdec cX5_count 89 = some (.ireturn, 90, 0, 0) := by decide +kernel
theorem xX5_keep_0 : xdec cX5_keep 0 = some (.iload_n 1, 1, 1, 0) := by decide +kernel
theorem xX5_keep_1 : xdec cX5_keep 1 = some (.invokestatic 246, 4, 0, 0) := by decide +kernel
theorem xX5_keep_4 : xdec cX5_keep 4 = some (.ifCond .eq 12, 7, 16, 0) := by decide +kernel
theorem xX5_keep_7 : xdec cX5_keep 7 = some (.iload_n 2, 8, 2, 0) := by decide +kernel
theorem xX5_keep_8 : xdec cX5_keep 8 = some (.iconst 0, 9, 0, 0) := by decide +kernel
theorem xX5_keep_9 : xdec cX5_keep 9 = some (.iconst 1, 10, 0, 1) := by decide +kernel
theorem xX5_keep_10 : xdec cX5_keep 10 = some (.invokestatic 129, 13, 0, 0) := by decide +kernel
theorem xX5_keep_13 : xdec cX5_keep 13 = some (.ifCond .ne 5, 16, 18, 0) := by decide +kernel
theorem xX5_keep_16 : xdec cX5_keep 16 = some (.iconst (-1), 17, 0, (-1)) := by decide +kernel
theorem xX5_keep_17 : xdec cX5_keep 17 = some (.ireturn, 18, 0, 0) := by decide +kernel
theorem xX5_keep_18 : xdec cX5_keep 18 = some (.iload_n 2, 19, 2, 0) := by decide +kernel
theorem xX5_keep_19 : xdec cX5_keep 19 = some (.ifCond .ne 14, 22, 33, 0) := by decide +kernel
theorem xX5_keep_22 : xdec cX5_keep 22 = some (.aload_n 0, 23, 0, 0) := by decide +kernel
theorem xX5_keep_23 : xdec cX5_keep 23 = some (.getfield 28, 26, 28, 0) := by decide +kernel
theorem xX5_keep_26 : xdec cX5_keep 26 = some (.iload_n 1, 27, 1, 0) := by decide +kernel
theorem xX5_keep_27 : xdec cX5_keep 27 = some (.aaload, 28, 0, 0) := by decide +kernel
theorem xX5_keep_28 : xdec cX5_keep 28 = some (.invokevirtual 249, 31, 0, 0) := by decide +kernel
theorem xX5_keep_31 : xdec cX5_keep 31 = some (.iconst 0, 32, 0, 0) := by decide +kernel
theorem xX5_keep_32 : xdec cX5_keep 32 = some (.ireturn, 33, 0, 0) := by decide +kernel
theorem xX5_keep_33 : xdec cX5_keep 33 = some (.iload_n 3, 34, 3, 0) := by decide +kernel
theorem xX5_keep_34 : xdec cX5_keep 34 = some (.invokestatic 252, 37, 0, 0) := by decide +kernel
theorem xX5_keep_37 : xdec cX5_keep 37 = some (.ifCond .eq 11, 40, 48, 0) := by decide +kernel
theorem xX5_keep_40 : xdec cX5_keep 40 = some (.iload 4, 42, 4, 0) := by decide +kernel
theorem xX5_keep_42 : xdec cX5_keep 42 = some (.invokestatic 255, 45, 0, 0) := by decide +kernel
theorem xX5_keep_45 : xdec cX5_keep 45 = some (.ifCond .ne 5, 48, 50, 0) := by decide +kernel
theorem xX5_keep_48 : xdec cX5_keep 48 = some (.iconst (-1), 49, 0, (-1)) := by decide +kernel
theorem xX5_keep_49 : xdec cX5_keep 49 = some (.ireturn, 50, 0, 0) := by decide +kernel
theorem xX5_keep_50 : xdec cX5_keep 50 = some (.aload_n 0, 51, 0, 0) := by decide +kernel
theorem xX5_keep_51 : xdec cX5_keep 51 = some (.getfield 28, 54, 28, 0) := by decide +kernel
theorem xX5_keep_54 : xdec cX5_keep 54 = some (.iload_n 1, 55, 1, 0) := by decide +kernel
theorem xX5_keep_55 : xdec cX5_keep 55 = some (.aaload, 56, 0, 0) := by decide +kernel
theorem xX5_keep_56 : xdec cX5_keep 56 = some (.iload_n 3, 57, 3, 0) := by decide +kernel
theorem xX5_keep_57 : xdec cX5_keep 57 = some (.iload 4, 59, 4, 0) := by decide +kernel
theorem xX5_keep_59 : xdec cX5_keep 59 = some (.invokevirtual 258, 62, 0, 0) := by decide +kernel
theorem xX5_keep_62 : xdec cX5_keep 62 = some (.iconst 0, 63, 0, 0) := by decide +kernel
theorem xX5_keep_63 : xdec cX5_keep 63 = some (.ireturn, 64, 0, 0) := by decide +kernel
theorem xX5_row_0 : xdec cX5_row 0 = some (.iload_n 1, 1, 1, 0) := by decide +kernel
theorem xX5_row_1 : xdec cX5_row 1 = some (.invokestatic 246, 4, 0, 0) := by decide +kernel
theorem xX5_row_4 : xdec cX5_row 4 = some (.ifCond .eq 16, 7, 20, 0) := by decide +kernel
theorem xX5_row_7 : xdec cX5_row 7 = some (.iload_n 2, 8, 2, 0) := by decide +kernel
theorem xX5_row_8 : xdec cX5_row 8 = some (.invokestatic 261, 11, 0, 0) := by decide +kernel
theorem xX5_row_11 : xdec cX5_row 11 = some (.ifCond .eq 9, 14, 20, 0) := by decide +kernel
theorem xX5_row_14 : xdec cX5_row 14 = some (.iload_n 3, 15, 3, 0) := by decide +kernel
theorem xX5_row_15 : xdec cX5_row 15 = some (.bipush 100, 17, 0, 100) := by decide +kernel
theorem xX5_row_17 : xdec cX5_row 17 = some (.if_icmp .le 5, 20, 22, 0) := by decide +kernel
theorem xX5_row_20 : xdec cX5_row 20 = some (.iconst (-1), 21, 0, (-1)) := by decide +kernel
theorem xX5_row_21 : xdec cX5_row 21 = some (.ireturn, 22, 0, 0) := by decide +kernel
theorem xX5_row_22 : xdec cX5_row 22 = some (.iload_n 3, 23, 3, 0) := by decide +kernel
theorem xX5_row_23 : xdec cX5_row 23 = some (.ifCond .ge 6, 26, 29, 0) := by decide +kernel
theorem xX5_row_26 : xdec cX5_row 26 = some (.bipush (-14), 28, 0, (-14)) := by decide +kernel
theorem xX5_row_28 : xdec cX5_row 28 = some (.ireturn, 29, 0, 0) := by decide +kernel
theorem xX5_row_29 : xdec cX5_row 29 = some (.aload_n 0, 30, 0, 0) := by decide +kernel
theorem xX5_row_30 : xdec cX5_row 30 = some (.getfield 28, 33, 28, 0) := by decide +kernel
theorem xX5_row_33 : xdec cX5_row 33 = some (.iload_n 1, 34, 1, 0) := by decide +kernel
theorem xX5_row_34 : xdec cX5_row 34 = some (.aaload, 35, 0, 0) := by decide +kernel
theorem xX5_row_35 : xdec cX5_row 35 = some (.iload_n 2, 36, 2, 0) := by decide +kernel
theorem xX5_row_36 : xdec cX5_row 36 = some (.iload_n 3, 37, 3, 0) := by decide +kernel
theorem xX5_row_37 : xdec cX5_row 37 = some (.invokevirtual 264, 40, 0, 0) := by decide +kernel
theorem xX5_row_40 : xdec cX5_row 40 = some (.iconst 0, 41, 0, 0) := by decide +kernel
theorem xX5_row_41 : xdec cX5_row 41 = some (.ireturn, 42, 0, 0) := by decide +kernel
theorem xX5_put_0 : xdec cX5_put 0 = some (.aload_n 0, 1, 0, 0) := by decide +kernel
theorem xX5_put_1 : xdec cX5_put 1 = some (.iload_n 1, 2, 1, 0) := by decide +kernel
theorem xX5_put_2 : xdec cX5_put 2 = some (.invokevirtual 44, 5, 0, 0) := by decide +kernel
theorem xX5_put_5 : xdec cX5_put 5 = some (.istore 4, 7, 4, 0) := by decide +kernel
theorem xX5_put_7 : xdec cX5_put 7 = some (.iload 4, 9, 4, 0) := by decide +kernel
theorem xX5_put_9 : xdec cX5_put 9 = some (.ifCond .eq 6, 12, 15, 0) := by decide +kernel
theorem xX5_put_12 : xdec cX5_put 12 = some (.iload 4, 14, 4, 0) := by decide +kernel
theorem xX5_put_14 : xdec cX5_put 14 = some (.ireturn, 15, 0, 0) := by decide +kernel
theorem xX5_put_15 : xdec cX5_put 15 = some (.aload_n 0, 16, 0, 0) := by decide +kernel
theorem xX5_put_16 : xdec cX5_put 16 = some (.getfield 28, 19, 28, 0) := by decide +kernel
theorem xX5_put_19 : xdec cX5_put 19 = some (.iload_n 1, 20, 1, 0) := by decide +kernel
theorem xX5_put_20 : xdec cX5_put 20 = some (.aaload, 21, 0, 0) := by decide +kernel
theorem xX5_put_21 : xdec cX5_put 21 = some (.astore 5, 23, 5, 0) := by decide +kernel
theorem xX5_put_23 : xdec cX5_put 23 = some (.aload 5, 25, 5, 0) := by decide +kernel
theorem xX5_put_25 : xdec cX5_put 25 = some (.iload_n 2, 26, 2, 0) := by decide +kernel
theorem xX5_put_26 : xdec cX5_put 26 = some (.invokevirtual 267, 29, 0, 0) := by decide +kernel
theorem xX5_put_29 : xdec cX5_put 29 = some (.ifCond .ne 6, 32, 35, 0) := by decide +kernel
theorem xX5_put_32 : xdec cX5_put 32 = some (.bipush (-13), 34, 0, (-13)) := by decide +kernel
theorem xX5_put_34 : xdec cX5_put 34 = some (.ireturn, 35, 0, 0) := by decide +kernel
theorem xX5_put_35 : xdec cX5_put 35 = some (.aload 5, 37, 5, 0) := by decide +kernel
theorem xX5_put_37 : xdec cX5_put 37 = some (.getfield 65, 40, 65, 0) := by decide +kernel
theorem xX5_put_40 : xdec cX5_put 40 = some (.iload_n 2, 41, 2, 0) := by decide +kernel
theorem xX5_put_41 : xdec cX5_put 41 = some (.aload 5, 43, 5, 0) := by decide +kernel
theorem xX5_put_43 : xdec cX5_put 43 = some (.getfield 48, 46, 48, 0) := by decide +kernel
theorem xX5_put_46 : xdec cX5_put 46 = some (.iload_n 3, 47, 3, 0) := by decide +kernel
theorem xX5_put_47 : xdec cX5_put 47 = some (.invokestatic 270, 50, 0, 0) := by decide +kernel
theorem xX5_put_50 : xdec cX5_put 50 = some (.iastore, 51, 0, 0) := by decide +kernel
theorem xX5_put_51 : xdec cX5_put 51 = some (.iconst 0, 52, 0, 0) := by decide +kernel
theorem xX5_put_52 : xdec cX5_put 52 = some (.ireturn, 53, 0, 0) := by decide +kernel
theorem xX5_element_0 : xdec cX5_element 0 = some (.iload_n 1, 1, 1, 0) := by decide +kernel
theorem xX5_element_1 : xdec cX5_element 1 = some (.invokestatic 246, 4, 0, 0) := by decide +kernel
theorem xX5_element_4 : xdec cX5_element 4 = some (.ifCond .ne 14, 7, 18, 0) := by decide +kernel
theorem xX5_element_7 : xdec cX5_element 7 = some (.new 274, 10, 0, 0) := by decide +kernel
theorem xX5_element_10 : xdec cX5_element 10 = some (.dup, 11, 0, 0) := by decide +kernel
theorem xX5_element_11 : xdec cX5_element 11 = some (.ldc_w 276, 14, 276, 0) := by decide +kernel
theorem xX5_element_14 : xdec cX5_element 14 = some (.invokespecial 278, 17, 0, 0) := by decide +kernel
theorem xX5_element_17 : xdec cX5_element 17 = some (.athrow, 18, 0, 0) := by decide +kernel
theorem xX5_element_18 : xdec cX5_element 18 = some (.aload_n 0, 19, 0, 0) := by decide +kernel
theorem xX5_element_19 : xdec cX5_element 19 = some (.getfield 28, 22, 28, 0) := by decide +kernel
theorem xX5_element_22 : xdec cX5_element 22 = some (.iload_n 1, 23, 1, 0) := by decide +kernel
theorem xX5_element_23 : xdec cX5_element 23 = some (.aaload, 24, 0, 0) := by decide +kernel
theorem xX5_element_24 : xdec cX5_element 24 = some (.astore_n 3, 25, 3, 0) := by decide +kernel
theorem xX5_element_25 : xdec cX5_element 25 = some (.aload_n 3, 26, 3, 0) := by decide +kernel
theorem xX5_element_26 : xdec cX5_element 26 = some (.getfield 281, 29, 281, 0) := by decide +kernel
theorem xX5_element_29 : xdec cX5_element 29 = some (.iconst 2, 30, 0, 2) := by decide +kernel
theorem xX5_element_30 : xdec cX5_element 30 = some (.if_icmp .eq 14, 33, 44, 0) := by decide +kernel
theorem xX5_element_33 : xdec cX5_element 33 = some (.new 284, 36, 0, 0) := by decide +kernel
theorem xX5_element_36 : xdec cX5_element 36 = some (.dup, 37, 0, 0) := by decide +kernel
theorem xX5_element_37 : xdec cX5_element 37 = some (.ldc_w 286, 40, 286, 0) := by decide +kernel
theorem xX5_element_40 : xdec cX5_element 40 = some (.invokespecial 288, 43, 0, 0) := by decide +kernel
theorem xX5_element_43 : xdec cX5_element 43 = some (.athrow, 44, 0, 0) := by decide +kernel
theorem xX5_element_44 : xdec cX5_element 44 = some (.aload_n 3, 45, 3, 0) := by decide +kernel
theorem xX5_element_45 : xdec cX5_element 45 = some (.iload_n 2, 46, 2, 0) := by decide +kernel
theorem xX5_element_46 : xdec cX5_element 46 = some (.invokevirtual 267, 49, 0, 0) := by decide +kernel
theorem xX5_element_49 : xdec cX5_element 49 = some (.ifCond .ne 14, 52, 63, 0) := by decide +kernel
theorem xX5_element_52 : xdec cX5_element 52 = some (.new 284, 55, 0, 0) := by decide +kernel
theorem xX5_element_55 : xdec cX5_element 55 = some (.dup, 56, 0, 0) := by decide +kernel
theorem xX5_element_56 : xdec cX5_element 56 = some (.ldc_w 289, 59, 289, 0) := by decide +kernel
theorem xX5_element_59 : xdec cX5_element 59 = some (.invokespecial 288, 62, 0, 0) := by decide +kernel
theorem xX5_element_62 : xdec cX5_element 62 = some (.athrow, 63, 0, 0) := by decide +kernel
theorem xX5_element_63 : xdec cX5_element 63 = some (.aload_n 3, 64, 3, 0) := by decide +kernel
theorem xX5_element_64 : xdec cX5_element 64 = some (.getfield 65, 67, 65, 0) := by decide +kernel
theorem xX5_element_67 : xdec cX5_element 67 = some (.iload_n 2, 68, 2, 0) := by decide +kernel
theorem xX5_element_68 : xdec cX5_element 68 = some (.iaload, 69, 0, 0) := by decide +kernel
theorem xX5_element_69 : xdec cX5_element 69 = some (.i2l, 70, 0, 0) := by decide +kernel
theorem xX5_element_70 : xdec cX5_element 70 = some (.lreturn, 71, 0, 0) := by decide +kernel
theorem xX5_copy_0 : xdec cX5_copy 0 = some (.iload_n 1, 1, 1, 0) := by decide +kernel
theorem xX5_copy_1 : xdec cX5_copy 1 = some (.invokestatic 246, 4, 0, 0) := by decide +kernel
theorem xX5_copy_4 : xdec cX5_copy 4 = some (.ifCond .eq 10, 7, 14, 0) := by decide +kernel
theorem xX5_copy_7 : xdec cX5_copy 7 = some (.iload_n 3, 8, 3, 0) := by decide +kernel
theorem xX5_copy_8 : xdec cX5_copy 8 = some (.invokestatic 246, 11, 0, 0) := by decide +kernel
theorem xX5_copy_11 : xdec cX5_copy 11 = some (.ifCond .ne 5, 14, 16, 0) := by decide +kernel
theorem xX5_copy_14 : xdec cX5_copy 14 = some (.iconst (-1), 15, 0, (-1)) := by decide +kernel
theorem xX5_copy_15 : xdec cX5_copy 15 = some (.ireturn, 16, 0, 0) := by decide +kernel
theorem xX5_copy_16 : xdec cX5_copy 16 = some (.aload_n 0, 17, 0, 0) := by decide +kernel
theorem xX5_copy_17 : xdec cX5_copy 17 = some (.getfield 28, 20, 28, 0) := by decide +kernel
theorem xX5_copy_20 : xdec cX5_copy 20 = some (.iload_n 1, 21, 1, 0) := by decide +kernel
theorem xX5_copy_21 : xdec cX5_copy 21 = some (.aaload, 22, 0, 0) := by decide +kernel
theorem xX5_copy_22 : xdec cX5_copy 22 = some (.astore 6, 24, 6, 0) := by decide +kernel
theorem xX5_copy_24 : xdec cX5_copy 24 = some (.aload_n 0, 25, 0, 0) := by decide +kernel
theorem xX5_copy_25 : xdec cX5_copy 25 = some (.getfield 28, 28, 28, 0) := by decide +kernel
theorem xX5_copy_28 : xdec cX5_copy 28 = some (.iload_n 3, 29, 3, 0) := by decide +kernel
theorem xX5_copy_29 : xdec cX5_copy 29 = some (.aaload, 30, 0, 0) := by decide +kernel
theorem xX5_copy_30 : xdec cX5_copy 30 = some (.astore 7, 32, 7, 0) := by decide +kernel
theorem xX5_copy_32 : xdec cX5_copy 32 = some (.aload 6, 34, 6, 0) := by decide +kernel
theorem xX5_copy_34 : xdec cX5_copy 34 = some (.getfield 281, 37, 281, 0) := by decide +kernel
theorem xX5_copy_37 : xdec cX5_copy 37 = some (.ifCond .eq 11, 40, 48, 0) := by decide +kernel
theorem xX5_copy_40 : xdec cX5_copy 40 = some (.aload 7, 42, 7, 0) := by decide +kernel
theorem xX5_copy_42 : xdec cX5_copy 42 = some (.getfield 281, 45, 281, 0) := by decide +kernel
theorem xX5_copy_45 : xdec cX5_copy 45 = some (.ifCond .ne 6, 48, 51, 0) := by decide +kernel
theorem xX5_copy_48 : xdec cX5_copy 48 = some (.bipush (-11), 50, 0, (-11)) := by decide +kernel
theorem xX5_copy_50 : xdec cX5_copy 50 = some (.ireturn, 51, 0, 0) := by decide +kernel
theorem xX5_copy_51 : xdec cX5_copy 51 = some (.aload 6, 53, 6, 0) := by decide +kernel
theorem xX5_copy_53 : xdec cX5_copy 53 = some (.getfield 281, 56, 281, 0) := by decide +kernel
theorem xX5_copy_56 : xdec cX5_copy 56 = some (.iconst 2, 57, 0, 2) := by decide +kernel
theorem xX5_copy_57 : xdec cX5_copy 57 = some (.if_icmp .ne 25, 60, 82, 0) := by decide +kernel
theorem xX5_copy_60 : xdec cX5_copy 60 = some (.aload 7, 62, 7, 0) := by decide +kernel
theorem xX5_copy_62 : xdec cX5_copy 62 = some (.getfield 281, 65, 281, 0) := by decide +kernel
theorem xX5_copy_65 : xdec cX5_copy 65 = some (.iconst 2, 66, 0, 2) := by decide +kernel
theorem xX5_copy_66 : xdec cX5_copy 66 = some (.if_icmp .ne 16, 69, 82, 0) := by decide +kernel
theorem xX5_copy_69 : xdec cX5_copy 69 = some (.aload 6, 71, 6, 0) := by decide +kernel
theorem xX5_copy_71 : xdec cX5_copy 71 = some (.getfield 48, 74, 48, 0) := by decide +kernel
theorem xX5_copy_74 : xdec cX5_copy 74 = some (.aload 7, 76, 7, 0) := by decide +kernel
theorem xX5_copy_76 : xdec cX5_copy 76 = some (.getfield 48, 79, 48, 0) := by decide +kernel
theorem xX5_copy_79 : xdec cX5_copy 79 = some (.if_icmp .eq 6, 82, 85, 0) := by decide +kernel
theorem xX5_copy_82 : xdec cX5_copy 82 = some (.bipush (-12), 84, 0, (-12)) := by decide +kernel
theorem xX5_copy_84 : xdec cX5_copy 84 = some (.ireturn, 85, 0, 0) := by decide +kernel
theorem xX5_copy_85 : xdec cX5_copy 85 = some (.aload 6, 87, 6, 0) := by decide +kernel
theorem xX5_copy_87 : xdec cX5_copy 87 = some (.iload_n 2, 88, 2, 0) := by decide +kernel
theorem xX5_copy_88 : xdec cX5_copy 88 = some (.iload 5, 90, 5, 0) := by decide +kernel
theorem xX5_copy_90 : xdec cX5_copy 90 = some (.invokevirtual 291, 93, 0, 0) := by decide +kernel
theorem xX5_copy_93 : xdec cX5_copy 93 = some (.ifCond .eq 15, 96, 108, 0) := by decide +kernel
theorem xX5_copy_96 : xdec cX5_copy 96 = some (.aload 7, 98, 7, 0) := by decide +kernel
theorem xX5_copy_98 : xdec cX5_copy 98 = some (.iload 4, 100, 4, 0) := by decide +kernel
theorem xX5_copy_100 : xdec cX5_copy 100 = some (.iload 5, 102, 5, 0) := by decide +kernel
theorem xX5_copy_102 : xdec cX5_copy 102 = some (.invokevirtual 291, 105, 0, 0) := by decide +kernel
theorem xX5_copy_105 : xdec cX5_copy 105 = some (.ifCond .ne 6, 108, 111, 0) := by decide +kernel
theorem xX5_copy_108 : xdec cX5_copy 108 = some (.bipush (-13), 110, 0, (-13)) := by decide +kernel
theorem xX5_copy_110 : xdec cX5_copy 110 = some (.ireturn, 111, 0, 0) := by decide +kernel
theorem xX5_copy_111 : xdec cX5_copy 111 = some (.aload 6, 113, 6, 0) := by decide +kernel
theorem xX5_copy_113 : xdec cX5_copy 113 = some (.getfield 65, 116, 65, 0) := by decide +kernel
theorem xX5_copy_116 : xdec cX5_copy 116 = some (.iload_n 2, 117, 2, 0) := by decide +kernel
theorem xX5_copy_117 : xdec cX5_copy 117 = some (.aload 7, 119, 7, 0) := by decide +kernel
theorem xX5_copy_119 : xdec cX5_copy 119 = some (.getfield 65, 122, 65, 0) := by decide +kernel
theorem xX5_copy_122 : xdec cX5_copy 122 = some (.iload 4, 124, 4, 0) := by decide +kernel
theorem xX5_copy_124 : xdec cX5_copy 124 = some (.iload 5, 126, 5, 0) := by decide +kernel
theorem xX5_copy_126 : xdec cX5_copy 126 = some (.invokestatic 294, 129, 0, 0) := by decide +kernel
theorem xX5_copy_129 : xdec cX5_copy 129 = some (.iload 5, 131, 5, 0) := by decide +kernel
theorem xX5_copy_131 : xdec cX5_copy 131 = some (.ireturn, 132, 0, 0) := by decide +kernel
theorem xX5_cost_0 : xdec cX5_cost 0 = some (.aload_n 0, 1, 0, 0) := by decide +kernel
theorem xX5_cost_1 : xdec cX5_cost 1 = some (.iload_n 1, 2, 1, 0) := by decide +kernel
theorem xX5_cost_2 : xdec cX5_cost 2 = some (.invokevirtual 116, 5, 0, 0) := by decide +kernel
theorem xX5_cost_5 : xdec cX5_cost 5 = some (.istore_n 2, 6, 2, 0) := by decide +kernel
theorem xX5_cost_6 : xdec cX5_cost 6 = some (.iload_n 2, 7, 2, 0) := by decide +kernel
theorem xX5_cost_7 : xdec cX5_cost 7 = some (.ifCond .eq 7, 10, 14, 0) := by decide +kernel
theorem xX5_cost_10 : xdec cX5_cost 10 = some (.iload_n 2, 11, 2, 0) := by decide +kernel
theorem xX5_cost_11 : xdec cX5_cost 11 = some (.goto 24, 14, 35, 0) := by decide +kernel
theorem xX5_cost_14 : xdec cX5_cost 14 = some (.aload_n 0, 15, 0, 0) := by decide +kernel
theorem xX5_cost_15 : xdec cX5_cost 15 = some (.getfield 28, 18, 28, 0) := by decide +kernel
theorem xX5_cost_18 : xdec cX5_cost 18 = some (.iload_n 1, 19, 1, 0) := by decide +kernel
theorem xX5_cost_19 : xdec cX5_cost 19 = some (.aaload, 20, 0, 0) := by decide +kernel
theorem xX5_cost_20 : xdec cX5_cost 20 = some (.getfield 119, 23, 119, 0) := by decide +kernel
theorem xX5_cost_23 : xdec cX5_cost 23 = some (.aload_n 0, 24, 0, 0) := by decide +kernel
theorem xX5_cost_24 : xdec cX5_cost 24 = some (.getfield 28, 27, 28, 0) := by decide +kernel
theorem xX5_cost_27 : xdec cX5_cost 27 = some (.iload_n 1, 28, 1, 0) := by decide +kernel
theorem xX5_cost_28 : xdec cX5_cost 28 = some (.aaload, 29, 0, 0) := by decide +kernel
theorem xX5_cost_29 : xdec cX5_cost 29 = some (.getfield 122, 32, 122, 0) := by decide +kernel
theorem xX5_cost_32 : xdec cX5_cost 32 = some (.invokestatic 300, 35, 0, 0) := by decide +kernel
theorem xX5_cost_35 : xdec cX5_cost 35 = some (.ireturn, 36, 0, 0) := by decide +kernel
theorem xX5_toss_0 : xdec cX5_toss 0 = some (.aload_n 0, 1, 0, 0) := by decide +kernel
theorem xX5_toss_1 : xdec cX5_toss 1 = some (.iload_n 1, 2, 1, 0) := by decide +kernel
theorem xX5_toss_2 : xdec cX5_toss 2 = some (.invokevirtual 116, 5, 0, 0) := by decide +kernel
theorem xX5_toss_5 : xdec cX5_toss 5 = some (.istore_n 2, 6, 2, 0) := by decide +kernel
theorem xX5_toss_6 : xdec cX5_toss 6 = some (.iload_n 2, 7, 2, 0) := by decide +kernel
theorem xX5_toss_7 : xdec cX5_toss 7 = some (.ifCond .eq 5, 10, 12, 0) := by decide +kernel
theorem xX5_toss_10 : xdec cX5_toss 10 = some (.iload_n 2, 11, 2, 0) := by decide +kernel
theorem xX5_toss_11 : xdec cX5_toss 11 = some (.ireturn, 12, 0, 0) := by decide +kernel
theorem xX5_toss_12 : xdec cX5_toss 12 = some (.aload_n 0, 13, 0, 0) := by decide +kernel
theorem xX5_toss_13 : xdec cX5_toss 13 = some (.getfield 28, 16, 28, 0) := by decide +kernel
theorem xX5_toss_16 : xdec cX5_toss 16 = some (.iload_n 1, 17, 1, 0) := by decide +kernel
theorem xX5_toss_17 : xdec cX5_toss 17 = some (.aaload, 18, 0, 0) := by decide +kernel
theorem xX5_toss_18 : xdec cX5_toss 18 = some (.getfield 119, 21, 119, 0) := by decide +kernel
theorem xX5_toss_21 : xdec cX5_toss 21 = some (.istore_n 3, 22, 3, 0) := by decide +kernel
theorem xX5_toss_22 : xdec cX5_toss 22 = some (.aload_n 0, 23, 0, 0) := by decide +kernel
theorem xX5_toss_23 : xdec cX5_toss 23 = some (.getfield 28, 26, 28, 0) := by decide +kernel
theorem xX5_toss_26 : xdec cX5_toss 26 = some (.iload_n 1, 27, 1, 0) := by decide +kernel
theorem xX5_toss_27 : xdec cX5_toss 27 = some (.aaload, 28, 0, 0) := by decide +kernel
theorem xX5_toss_28 : xdec cX5_toss 28 = some (.getfield 122, 31, 122, 0) := by decide +kernel
theorem xX5_toss_31 : xdec cX5_toss 31 = some (.istore 4, 33, 4, 0) := by decide +kernel
theorem xX5_toss_33 : xdec cX5_toss 33 = some (.iload_n 3, 34, 3, 0) := by decide +kernel
theorem xX5_toss_34 : xdec cX5_toss 34 = some (.iload 4, 36, 4, 0) := by decide +kernel
theorem xX5_toss_36 : xdec cX5_toss 36 = some (.invokestatic 303, 39, 0, 0) := by decide +kernel
theorem xX5_toss_39 : xdec cX5_toss 39 = some (.goto 29, 42, 68, 0) := by decide +kernel
theorem xX5_toss_42 : xdec cX5_toss 42 = some (.astore 5, 44, 5, 0) := by decide +kernel
theorem xX5_toss_44 : xdec cX5_toss 44 = some (.bipush 100, 46, 0, 100) := by decide +kernel
theorem xX5_toss_46 : xdec cX5_toss 46 = some (.iload 4, 48, 4, 0) := by decide +kernel
theorem xX5_toss_48 : xdec cX5_toss 48 = some (.iadd, 49, 0, 0) := by decide +kernel
theorem xX5_toss_49 : xdec cX5_toss 49 = some (.ireturn, 50, 0, 0) := by decide +kernel
theorem xX5_toss_50 : xdec cX5_toss 50 = some (.astore 5, 52, 5, 0) := by decide +kernel
theorem xX5_toss_52 : xdec cX5_toss 52 = some (.sipush 200, 55, 0, 200) := by decide +kernel
theorem xX5_toss_55 : xdec cX5_toss 55 = some (.iload_n 3, 56, 3, 0) := by decide +kernel
theorem xX5_toss_56 : xdec cX5_toss 56 = some (.iload 4, 58, 4, 0) := by decide +kernel
theorem xX5_toss_58 : xdec cX5_toss 58 = some (.invokestatic 300, 61, 0, 0) := by decide +kernel
theorem xX5_toss_61 : xdec cX5_toss 61 = some (.iadd, 62, 0, 0) := by decide +kernel
theorem xX5_toss_62 : xdec cX5_toss 62 = some (.ireturn, 63, 0, 0) := by decide +kernel
theorem xX5_toss_63 : xdec cX5_toss 63 = some (.astore 5, 65, 5, 0) := by decide +kernel
theorem xX5_toss_65 : xdec cX5_toss 65 = some (.iload 4, 67, 4, 0) := by decide +kernel
theorem xX5_toss_67 : xdec cX5_toss 67 = some (.ireturn, 68, 0, 0) := by decide +kernel
theorem xX5_toss_68 : xdec cX5_toss 68 = some (.bipush (-15), 70, 0, (-15)) := by decide +kernel
theorem xX5_toss_70 : xdec cX5_toss 70 = some (.ireturn, 71, 0, 0) := by decide +kernel
theorem xX5_inMind_0 : xdec cX5_inMind 0 = some (.aload_n 0, 1, 0, 0) := by decide +kernel
theorem xX5_inMind_1 : xdec cX5_inMind 1 = some (.getfield 16, 4, 16, 0) := by decide +kernel
theorem xX5_inMind_4 : xdec cX5_inMind 4 = some (.aload_n 0, 5, 0, 0) := by decide +kernel
theorem xX5_inMind_5 : xdec cX5_inMind 5 = some (.getfield 10, 8, 10, 0) := by decide +kernel
theorem xX5_inMind_8 : xdec cX5_inMind 8 = some (.invokevirtual 76, 11, 0, 0) := by decide +kernel
theorem xX5_inMind_11 : xdec cX5_inMind 11 = some (.aload_n 0, 12, 0, 0) := by decide +kernel
theorem xX5_inMind_12 : xdec cX5_inMind 12 = some (.getfield 16, 15, 16, 0) := by decide +kernel
theorem xX5_inMind_15 : xdec cX5_inMind 15 = some (.areturn, 16, 0, 0) := by decide +kernel
theorem xX5_rowRefusal_0 : xdec cX5_rowRefusal 0 = some (.aload_n 0, 1, 0, 0) := by decide +kernel
theorem xX5_rowRefusal_1 : xdec cX5_rowRefusal 1 = some (.iload_n 1, 2, 1, 0) := by decide +kernel
theorem xX5_rowRefusal_2 : xdec cX5_rowRefusal 2 = some (.iconst 2, 3, 0, 2) := by decide +kernel
theorem xX5_rowRefusal_3 : xdec cX5_rowRefusal 3 = some (.invokevirtual 308, 6, 0, 0) := by decide +kernel
theorem xX5_rowRefusal_6 : xdec cX5_rowRefusal 6 = some (.ireturn, 7, 0, 0) := by decide +kernel
theorem xX5_kindRefusal_0 : xdec cX5_kindRefusal 0 = some (.aload_n 0, 1, 0, 0) := by decide +kernel
theorem xX5_kindRefusal_1 : xdec cX5_kindRefusal 1 = some (.iload_n 1, 2, 1, 0) := by decide +kernel
theorem xX5_kindRefusal_2 : xdec cX5_kindRefusal 2 = some (.iconst 1, 3, 0, 1) := by decide +kernel
theorem xX5_kindRefusal_3 : xdec cX5_kindRefusal 3 = some (.invokevirtual 308, 6, 0, 0) := by decide +kernel
theorem xX5_kindRefusal_6 : xdec cX5_kindRefusal 6 = some (.ireturn, 7, 0, 0) := by decide +kernel
theorem xX5_refusalUnless_0 : xdec cX5_refusalUnless 0 = some (.iload_n 1, 1, 1, 0) := by decide +kernel
theorem xX5_refusalUnless_1 : xdec cX5_refusalUnless 1 = some (.invokestatic 246, 4, 0, 0) := by decide +kernel
theorem xX5_refusalUnless_4 : xdec cX5_refusalUnless 4 = some (.ifCond .ne 5, 7, 9, 0) := by decide +kernel
theorem xX5_refusalUnless_7 : xdec cX5_refusalUnless 7 = some (.iconst (-1), 8, 0, (-1)) := by decide +kernel
theorem xX5_refusalUnless_8 : xdec cX5_refusalUnless 8 = some (.ireturn, 9, 0, 0) := by decide +kernel
theorem xX5_refusalUnless_9 : xdec cX5_refusalUnless 9 = some (.aload_n 0, 10, 0, 0) := by decide +kernel
theorem xX5_refusalUnless_10 : xdec cX5_refusalUnless 10 = some (.getfield 28, 13, 28, 0) := by decide +kernel
theorem xX5_refusalUnless_13 : xdec cX5_refusalUnless 13 = some (.iload_n 1, 14, 1, 0) := by decide +kernel
theorem xX5_refusalUnless_14 : xdec cX5_refusalUnless 14 = some (.aaload, 15, 0, 0) := by decide +kernel
theorem xX5_refusalUnless_15 : xdec cX5_refusalUnless 15 = some (.getfield 281, 18, 281, 0) := by decide +kernel
theorem xX5_refusalUnless_18 : xdec cX5_refusalUnless 18 = some (.ifCond .ne 6, 21, 24, 0) := by decide +kernel
theorem xX5_refusalUnless_21 : xdec cX5_refusalUnless 21 = some (.bipush (-11), 23, 0, (-11)) := by decide +kernel
theorem xX5_refusalUnless_23 : xdec cX5_refusalUnless 23 = some (.ireturn, 24, 0, 0) := by decide +kernel
theorem xX5_refusalUnless_24 : xdec cX5_refusalUnless 24 = some (.aload_n 0, 25, 0, 0) := by decide +kernel
theorem xX5_refusalUnless_25 : xdec cX5_refusalUnless 25 = some (.getfield 28, 28, 28, 0) := by decide +kernel
theorem xX5_refusalUnless_28 : xdec cX5_refusalUnless 28 = some (.iload_n 1, 29, 1, 0) := by decide +kernel
theorem xX5_refusalUnless_29 : xdec cX5_refusalUnless 29 = some (.aaload, 30, 0, 0) := by decide +kernel
theorem xX5_refusalUnless_30 : xdec cX5_refusalUnless 30 = some (.getfield 281, 33, 281, 0) := by decide +kernel
theorem xX5_refusalUnless_33 : xdec cX5_refusalUnless 33 = some (.iload_n 2, 34, 2, 0) := by decide +kernel
theorem xX5_refusalUnless_34 : xdec cX5_refusalUnless 34 = some (.if_icmp .ne 7, 37, 41, 0) := by decide +kernel
theorem xX5_refusalUnless_37 : xdec cX5_refusalUnless 37 = some (.iconst 0, 38, 0, 0) := by decide +kernel
theorem xX5_refusalUnless_38 : xdec cX5_refusalUnless 38 = some (.goto 5, 41, 43, 0) := by decide +kernel
theorem xX5_refusalUnless_41 : xdec cX5_refusalUnless 41 = some (.bipush (-12), 43, 0, (-12)) := by decide +kernel
theorem xX5_refusalUnless_43 : xdec cX5_refusalUnless 43 = some (.ireturn, 44, 0, 0) := by decide +kernel
theorem xX5_within_0 : xdec cX5_within 0 = some (.iload_n 0, 1, 0, 0) := by decide +kernel
theorem xX5_within_1 : xdec cX5_within 1 = some (.iload_n 1, 2, 1, 0) := by decide +kernel
theorem xX5_within_2 : xdec cX5_within 2 = some (.if_icmp .lt 12, 5, 14, 0) := by decide +kernel
theorem xX5_within_5 : xdec cX5_within 5 = some (.iload_n 0, 6, 0, 0) := by decide +kernel
theorem xX5_within_6 : xdec cX5_within 6 = some (.iload_n 2, 7, 2, 0) := by decide +kernel
theorem xX5_within_7 : xdec cX5_within 7 = some (.if_icmp .gt 7, 10, 14, 0) := by decide +kernel
theorem xX5_within_10 : xdec cX5_within 10 = some (.iconst 1, 11, 0, 1) := by decide +kernel
theorem xX5_within_11 : xdec cX5_within 11 = some (.goto 4, 14, 15, 0) := by decide +kernel
theorem xX5_within_14 : xdec cX5_within 14 = some (.iconst 0, 15, 0, 0) := by decide +kernel
theorem xX5_within_15 : xdec cX5_within 15 = some (.ireturn, 16, 0, 0) := by decide +kernel
theorem xX5_isPlate_0 : xdec cX5_isPlate 0 = some (.iload_n 0, 1, 0, 0) := by decide +kernel
theorem xX5_isPlate_1 : xdec cX5_isPlate 1 = some (.iconst 0, 2, 0, 0) := by decide +kernel
theorem xX5_isPlate_2 : xdec cX5_isPlate 2 = some (.bipush 9, 4, 0, 9) := by decide +kernel
theorem xX5_isPlate_4 : xdec cX5_isPlate 4 = some (.invokestatic 129, 7, 0, 0) := by decide +kernel
theorem xX5_isPlate_7 : xdec cX5_isPlate 7 = some (.ireturn, 8, 0, 0) := by decide +kernel
theorem xX5_isWhile_0 : xdec cX5_isWhile 0 = some (.iload_n 0, 1, 0, 0) := by decide +kernel
theorem xX5_isWhile_1 : xdec cX5_isWhile 1 = some (.iconst 0, 2, 0, 0) := by decide +kernel
theorem xX5_isWhile_2 : xdec cX5_isWhile 2 = some (.bipush 60, 4, 0, 60) := by decide +kernel
theorem xX5_isWhile_4 : xdec cX5_isWhile 4 = some (.invokestatic 129, 7, 0, 0) := by decide +kernel
theorem xX5_isWhile_7 : xdec cX5_isWhile 7 = some (.ireturn, 8, 0, 0) := by decide +kernel
theorem xX5_isShelf_0 : xdec cX5_isShelf 0 = some (.iload_n 0, 1, 0, 0) := by decide +kernel
theorem xX5_isShelf_1 : xdec cX5_isShelf 1 = some (.iconst 0, 2, 0, 0) := by decide +kernel
theorem xX5_isShelf_2 : xdec cX5_isShelf 2 = some (.bipush 7, 4, 0, 7) := by decide +kernel
theorem xX5_isShelf_4 : xdec cX5_isShelf 4 = some (.invokestatic 129, 7, 0, 0) := by decide +kernel
theorem xX5_isShelf_7 : xdec cX5_isShelf 7 = some (.ireturn, 8, 0, 0) := by decide +kernel
theorem xX5_isDigit_0 : xdec cX5_isDigit 0 = some (.iload_n 0, 1, 0, 0) := by decide +kernel
theorem xX5_isDigit_1 : xdec cX5_isDigit 1 = some (.iconst 0, 2, 0, 0) := by decide +kernel
theorem xX5_isDigit_2 : xdec cX5_isDigit 2 = some (.bipush 9, 4, 0, 9) := by decide +kernel
theorem xX5_isDigit_4 : xdec cX5_isDigit 4 = some (.invokestatic 129, 7, 0, 0) := by decide +kernel
theorem xX5_isDigit_7 : xdec cX5_isDigit 7 = some (.ireturn, 8, 0, 0) := by decide +kernel
theorem xX5_leastOf_0 : xdec cX5_leastOf 0 = some (.iconst 0, 1, 0, 0) := by decide +kernel
theorem xX5_leastOf_1 : xdec cX5_leastOf 1 = some (.istore_n 1, 2, 1, 0) := by decide +kernel
theorem xX5_leastOf_2 : xdec cX5_leastOf 2 = some (.iload_n 1, 3, 1, 0) := by decide +kernel
theorem xX5_leastOf_3 : xdec cX5_leastOf 3 = some (.bipush 32, 5, 0, 32) := by decide +kernel
theorem xX5_leastOf_5 : xdec cX5_leastOf 5 = some (.if_icmp .ge 19, 8, 24, 0) := by decide +kernel
theorem xX5_leastOf_8 : xdec cX5_leastOf 8 = some (.iload_n 0, 9, 0, 0) := by decide +kernel
theorem xX5_leastOf_9 : xdec cX5_leastOf 9 = some (.iload_n 1, 10, 1, 0) := by decide +kernel
theorem xX5_leastOf_10 : xdec cX5_leastOf 10 = some (.ishr, 11, 0, 0) := by decide +kernel
theorem xX5_leastOf_11 : xdec cX5_leastOf 11 = some (.iconst 1, 12, 0, 1) := by decide +kernel
theorem xX5_leastOf_12 : xdec cX5_leastOf 12 = some (.iand, 13, 0, 0) := by decide +kernel
theorem xX5_leastOf_13 : xdec cX5_leastOf 13 = some (.ifCond .eq 5, 16, 18, 0) := by decide +kernel
theorem xX5_leastOf_16 : xdec cX5_leastOf 16 = some (.iload_n 1, 17, 1, 0) := by decide +kernel
theorem xX5_leastOf_17 : xdec cX5_leastOf 17 = some (.ireturn, 18, 0, 0) := by decide +kernel
theorem xX5_leastOf_18 : xdec cX5_leastOf 18 = some (.iinc 1 1, 21, 1, 1) := by decide +kernel
theorem xX5_leastOf_21 : xdec cX5_leastOf 21 = some (.goto (-19), 24, 2, 0) := by decide +kernel
theorem xX5_leastOf_24 : xdec cX5_leastOf 24 = some (.bipush (-4), 26, 0, (-4)) := by decide +kernel
theorem xX5_leastOf_26 : xdec cX5_leastOf 26 = some (.ireturn, 27, 0, 0) := by decide +kernel
theorem xX5_refusedLong_0 : xdec cX5_refusedLong 0 = some (.ldc2_w 311, 3, 311, 0) := by decide +kernel
theorem xX5_refusedLong_3 : xdec cX5_refusedLong 3 = some (.iload_n 0, 4, 0, 0) := by decide +kernel
theorem xX5_refusedLong_4 : xdec cX5_refusedLong 4 = some (.i2l, 5, 0, 0) := by decide +kernel
theorem xX5_refusedLong_5 : xdec cX5_refusedLong 5 = some (.lsub, 6, 0, 0) := by decide +kernel
theorem xX5_refusedLong_6 : xdec cX5_refusedLong 6 = some (.lreturn, 7, 0, 0) := by decide +kernel
theorem xX5_partOf_0 : xdec cX5_partOf 0 = some (.lload_n 0, 1, 0, 0) := by decide +kernel
theorem xX5_partOf_1 : xdec cX5_partOf 1 = some (.lload_n 2, 2, 2, 0) := by decide +kernel
theorem xX5_partOf_2 : xdec cX5_partOf 2 = some (.invokestatic 313, 5, 0, 0) := by decide +kernel
theorem xX5_partOf_5 : xdec cX5_partOf 5 = some (.lstore 5, 7, 5, 0) := by decide +kernel
theorem xX5_partOf_7 : xdec cX5_partOf 7 = some (.lload 5, 9, 5, 0) := by decide +kernel
theorem xX5_partOf_9 : xdec cX5_partOf 9 = some (.lconst 0, 10, 0, 0) := by decide +kernel
theorem xX5_partOf_10 : xdec cX5_partOf 10 = some (.lcmp, 11, 0, 0) := by decide +kernel
theorem xX5_partOf_11 : xdec cX5_partOf 11 = some (.ifCond .le 9, 14, 20, 0) := by decide +kernel
theorem xX5_partOf_14 : xdec cX5_partOf 14 = some (.lload_n 2, 15, 2, 0) := by decide +kernel
theorem xX5_partOf_15 : xdec cX5_partOf 15 = some (.lconst 0, 16, 0, 0) := by decide +kernel
theorem xX5_partOf_16 : xdec cX5_partOf 16 = some (.lcmp, 17, 0, 0) := by decide +kernel
theorem xX5_partOf_17 : xdec cX5_partOf 17 = some (.ifCond .gt 14, 20, 31, 0) := by decide +kernel
theorem xX5_partOf_20 : xdec cX5_partOf 20 = some (.iload 4, 22, 4, 0) := by decide +kernel
theorem xX5_partOf_22 : xdec cX5_partOf 22 = some (.ifCond .ne 7, 25, 29, 0) := by decide +kernel
theorem xX5_partOf_25 : xdec cX5_partOf 25 = some (.lconst 0, 26, 0, 0) := by decide +kernel
theorem xX5_partOf_26 : xdec cX5_partOf 26 = some (.goto 4, 29, 30, 0) := by decide +kernel
theorem xX5_partOf_29 : xdec cX5_partOf 29 = some (.lconst 1, 30, 0, 1) := by decide +kernel
theorem xX5_partOf_30 : xdec cX5_partOf 30 = some (.lreturn, 31, 0, 0) := by decide +kernel
theorem xX5_partOf_31 : xdec cX5_partOf 31 = some (.iload 4, 33, 4, 0) := by decide +kernel
theorem xX5_partOf_33 : xdec cX5_partOf 33 = some (.ifCond .ne 10, 36, 43, 0) := by decide +kernel
theorem xX5_partOf_36 : xdec cX5_partOf 36 = some (.lload_n 0, 37, 0, 0) := by decide +kernel
theorem xX5_partOf_37 : xdec cX5_partOf 37 = some (.lload 5, 39, 5, 0) := by decide +kernel
theorem xX5_partOf_39 : xdec cX5_partOf 39 = some (.ldiv, 40, 0, 0) := by decide +kernel
theorem xX5_partOf_40 : xdec cX5_partOf 40 = some (.goto 7, 43, 47, 0) := by decide +kernel
theorem xX5_partOf_43 : xdec cX5_partOf 43 = some (.lload_n 2, 44, 2, 0) := by decide +kernel
theorem xX5_partOf_44 : xdec cX5_partOf 44 = some (.lload 5, 46, 5, 0) := by decide +kernel
theorem xX5_partOf_46 : xdec cX5_partOf 46 = some (.ldiv, 47, 0, 0) := by decide +kernel
theorem xX5_partOf_47 : xdec cX5_partOf 47 = some (.lreturn, 48, 0, 0) := by decide +kernel
theorem xX5_sharedDivisor_0 : xdec cX5_sharedDivisor 0 = some (.lload_n 0, 1, 0, 0) := by decide +kernel
theorem xX5_sharedDivisor_1 : xdec cX5_sharedDivisor 1 = some (.lstore 4, 3, 4, 0) := by decide +kernel
theorem xX5_sharedDivisor_3 : xdec cX5_sharedDivisor 3 = some (.lload_n 2, 4, 2, 0) := by decide +kernel
theorem xX5_sharedDivisor_4 : xdec cX5_sharedDivisor 4 = some (.lstore 6, 6, 6, 0) := by decide +kernel
theorem xX5_sharedDivisor_6 : xdec cX5_sharedDivisor 6 = some (.iconst 0, 7, 0, 0) := by decide +kernel
theorem xX5_sharedDivisor_7 : xdec cX5_sharedDivisor 7 = some (.istore 8, 9, 8, 0) := by decide +kernel
theorem xX5_sharedDivisor_9 : xdec cX5_sharedDivisor 9 = some (.iload 8, 11, 8, 0) := by decide +kernel
theorem xX5_sharedDivisor_11 : xdec cX5_sharedDivisor 11 = some (.sipush 1000, 14, 0, 1000) := by decide +kernel
theorem xX5_sharedDivisor_14 : xdec cX5_sharedDivisor 14 = some (.if_icmp .ge 31, 17, 45, 0) := by decide +kernel
theorem xX5_sharedDivisor_17 : xdec cX5_sharedDivisor 17 = some (.lload 6, 19, 6, 0) := by decide +kernel
theorem xX5_sharedDivisor_19 : xdec cX5_sharedDivisor 19 = some (.lconst 0, 20, 0, 0) := by decide +kernel
theorem xX5_sharedDivisor_20 : xdec cX5_sharedDivisor 20 = some (.lcmp, 21, 0, 0) := by decide +kernel
theorem xX5_sharedDivisor_21 : xdec cX5_sharedDivisor 21 = some (.ifCond .eq 24, 24, 45, 0) := by decide +kernel
theorem xX5_sharedDivisor_24 : xdec cX5_sharedDivisor 24 = some (.lload 4, 26, 4, 0) := by decide +kernel
theorem xX5_sharedDivisor_26 : xdec cX5_sharedDivisor 26 = some (.lload 6, 28, 6, 0) := by decide +kernel
theorem xX5_sharedDivisor_28 : xdec cX5_sharedDivisor 28 = some (.lrem, 29, 0, 0) := by decide +kernel
theorem xX5_sharedDivisor_29 : xdec cX5_sharedDivisor 29 = some (.lstore 9, 31, 9, 0) := by decide +kernel
theorem xX5_sharedDivisor_31 : xdec cX5_sharedDivisor 31 = some (.lload 6, 33, 6, 0) := by decide +kernel
theorem xX5_sharedDivisor_33 : xdec cX5_sharedDivisor 33 = some (.lstore 4, 35, 4, 0) := by decide +kernel
theorem xX5_sharedDivisor_35 : xdec cX5_sharedDivisor 35 = some (.lload 9, 37, 9, 0) := by decide +kernel
theorem xX5_sharedDivisor_37 : xdec cX5_sharedDivisor 37 = some (.lstore 6, 39, 6, 0) := by decide +kernel
theorem xX5_sharedDivisor_39 : xdec cX5_sharedDivisor 39 = some (.iinc 8 1, 42, 8, 1) := by decide +kernel
theorem xX5_sharedDivisor_42 : xdec cX5_sharedDivisor 42 = some (.goto (-33), 45, 9, 0) := by decide +kernel
theorem xX5_sharedDivisor_45 : xdec cX5_sharedDivisor 45 = some (.lload 4, 47, 4, 0) := by decide +kernel
theorem xX5_sharedDivisor_47 : xdec cX5_sharedDivisor 47 = some (.lreturn, 48, 0, 0) := by decide +kernel
end
section
theorem xX6_init_0 : xdec cX6_init 0 = some (.aload_n 0, 1, 0, 0) := by decide +kernel
theorem xX6_init_1 : xdec cX6_init 1 = some (.invokespecial 1, 4, 0, 0) := by decide +kernel
theorem xX6_init_4 : xdec cX6_init 4 = some (.aload_n 0, 5, 0, 0) := by decide +kernel
theorem xX6_init_5 : xdec cX6_init 5 = some (.bipush 10, 7, 0, 10) := by decide +kernel
theorem xX6_init_7 : xdec cX6_init 7 = some (.newarray .int, 9, 0, 0) := by decide +kernel
theorem xX6_init_9 : xdec cX6_init 9 = some (.putfield 7, 12, 7, 0) := by decide +kernel
theorem xX6_init_12 : xdec cX6_init 12 = some (.aload_n 0, 13, 0, 0) := by decide +kernel
theorem xX6_init_13 : xdec cX6_init 13 = some (.bipush 7, 15, 0, 7) := by decide +kernel
theorem xX6_init_15 : xdec cX6_init 15 = some (.newarray .int, 17, 0, 0) := by decide +kernel
theorem xX6_init_17 : xdec cX6_init 17 = some (.putfield 13, 20, 13, 0) := by decide +kernel
theorem xX6_init_20 : xdec cX6_init 20 = some (.aload_n 0, 21, 0, 0) := by decide +kernel
theorem xX6_init_21 : xdec cX6_init 21 = some (.bipush 7, 23, 0, 7) := by decide +kernel
theorem xX6_init_23 : xdec cX6_init 23 = some (.newarray .int, 25, 0, 0) := by decide +kernel
theorem xX6_init_25 : xdec cX6_init 25 = some (.putfield 16, 28, 16, 0) := by decide +kernel
theorem xX6_init_28 : xdec cX6_init 28 = some (.aload_n 0, 29, 0, 0) := by decide +kernel
theorem xX6_init_29 : xdec cX6_init 29 = some (.bipush 7, 31, 0, 7) := by decide +kernel
theorem xX6_init_31 : xdec cX6_init 31 = some (.newarray .int, 33, 0, 0) := by decide +kernel
theorem xX6_init_33 : xdec cX6_init 33 = some (.putfield 19, 36, 19, 0) := by decide +kernel
theorem xX6_init_36 : xdec cX6_init 36 = some (.aload_n 0, 37, 0, 0) := by decide +kernel
theorem xX6_init_37 : xdec cX6_init 37 = some (.bipush 7, 39, 0, 7) := by decide +kernel
theorem xX6_init_39 : xdec cX6_init 39 = some (.newarray .int, 41, 0, 0) := by decide +kernel
theorem xX6_init_41 : xdec cX6_init 41 = some (.putfield 22, 44, 22, 0) := by decide +kernel
theorem xX6_init_44 : xdec cX6_init 44 = some (.aload_n 0, 45, 0, 0) := by decide +kernel
theorem xX6_init_45 : xdec cX6_init 45 = some (.bipush 7, 47, 0, 7) := by decide +kernel
theorem xX6_init_47 : xdec cX6_init 47 = some (.newarray .int, 49, 0, 0) := by decide +kernel
theorem xX6_init_49 : xdec cX6_init 49 = some (.putfield 25, 52, 25, 0) := by decide +kernel
theorem xX6_init_52 : xdec cX6_init 52 = some (.aload_n 0, 53, 0, 0) := by decide +kernel
theorem xX6_init_53 : xdec cX6_init 53 = some (.bipush 8, 55, 0, 8) := by decide +kernel
theorem xX6_init_55 : xdec cX6_init 55 = some (.newarray .int, 57, 0, 0) := by decide +kernel
theorem xX6_init_57 : xdec cX6_init 57 = some (.putfield 28, 60, 28, 0) := by decide +kernel
theorem xX6_init_60 : xdec cX6_init 60 = some (.aload_n 0, 61, 0, 0) := by decide +kernel
theorem xX6_init_61 : xdec cX6_init 61 = some (.bipush 8, 63, 0, 8) := by decide +kernel
theorem xX6_init_63 : xdec cX6_init 63 = some (.newarray .int, 65, 0, 0) := by decide +kernel
theorem xX6_init_65 : xdec cX6_init 65 = some (.putfield 31, 68, 31, 0) := by decide +kernel
theorem xX6_init_68 : xdec cX6_init 68 = some (.aload_n 0, 69, 0, 0) := by decide +kernel
theorem xX6_init_69 : xdec cX6_init 69 = some (.bipush 8, 71, 0, 8) := by decide +kernel
theorem xX6_init_71 : xdec cX6_init 71 = some (.newarray .int, 73, 0, 0) := by decide +kernel
theorem xX6_init_73 : xdec cX6_init 73 = some (.putfield 34, 76, 34, 0) := by decide +kernel
theorem xX6_init_76 : xdec cX6_init 76 = some (.aload_n 0, 77, 0, 0) := by decide +kernel
theorem xX6_init_77 : xdec cX6_init 77 = some (.bipush 8, 79, 0, 8) := by decide +kernel
theorem xX6_init_79 : xdec cX6_init 79 = some (.newarray .int, 81, 0, 0) := by decide +kernel
theorem xX6_init_81 : xdec cX6_init 81 = some (.putfield 37, 84, 37, 0) := by decide +kernel
theorem xX6_init_84 : xdec cX6_init 84 = some (.aload_n 0, 85, 0, 0) := by decide +kernel
theorem xX6_init_85 : xdec cX6_init 85 = some (.bipush 8, 87, 0, 8) := by decide +kernel
theorem xX6_init_87 : xdec cX6_init 87 = some (.newarray .int, 89, 0, 0) := by decide +kernel
theorem xX6_init_89 : xdec cX6_init 89 = some (.putfield 40, 92, 40, 0) := by decide +kernel
theorem xX6_init_92 : xdec cX6_init 92 = some (.aload_n 0, 93, 0, 0) := by decide +kernel
theorem xX6_init_93 : xdec cX6_init 93 = some (.sipush 800, 96, 0, 800) := by decide +kernel
theorem xX6_init_96 : xdec cX6_init 96 = some (.newarray .long, 98, 0, 0) := by decide +kernel
theorem xX6_init_98 : xdec cX6_init 98 = some (.putfield 43, 101, 43, 0) := by decide +kernel
theorem xX6_init_101 : xdec cX6_init 101 = some (.aload_n 0, 102, 0, 0) := by decide +kernel
theorem xX6_init_102 : xdec cX6_init 102 = some (.bipush 51, 104, 0, 51) := by decide +kernel
theorem xX6_init_104 : xdec cX6_init 104 = some (.newarray .int, 106, 0, 0) := by decide +kernel
theorem xX6_init_106 : xdec cX6_init 106 = some (.putfield 47, 109, 47, 0) := by decide +kernel
theorem xX6_init_109 : xdec cX6_init 109 = some (.aload_n 0, 110, 0, 0) := by decide +kernel
theorem xX6_init_110 : xdec cX6_init 110 = some (.bipush 51, 112, 0, 51) := by decide +kernel
theorem xX6_init_112 : xdec cX6_init 112 = some (.newarray .int, 114, 0, 0) := by decide +kernel
theorem xX6_init_114 : xdec cX6_init 114 = some (.putfield 50, 117, 50, 0) := by decide +kernel
theorem xX6_init_117 : xdec cX6_init 117 = some (.aload_n 0, 118, 0, 0) := by decide +kernel
theorem xX6_init_118 : xdec cX6_init 118 = some (.sipush 153, 121, 0, 153) := by decide +kernel
theorem xX6_init_121 : xdec cX6_init 121 = some (.newarray .int, 123, 0, 0) := by decide +kernel
theorem xX6_init_123 : xdec cX6_init 123 = some (.putfield 53, 126, 53, 0) := by decide +kernel
theorem xX6_init_126 : xdec cX6_init 126 = some (.aload_n 0, 127, 0, 0) := by decide +kernel
theorem xX6_init_127 : xdec cX6_init 127 = some (.bipush 50, 129, 0, 50) := by decide +kernel
theorem xX6_init_129 : xdec cX6_init 129 = some (.newarray .int, 131, 0, 0) := by decide +kernel
theorem xX6_init_131 : xdec cX6_init 131 = some (.putfield 56, 134, 56, 0) := by decide +kernel
theorem xX6_init_134 : xdec cX6_init 134 = some (.aload_n 0, 135, 0, 0) := by decide +kernel
theorem xX6_init_135 : xdec cX6_init 135 = some (.bipush 50, 137, 0, 50) := by decide +kernel
theorem xX6_init_137 : xdec cX6_init 137 = some (.newarray .int, 139, 0, 0) := by decide +kernel
theorem xX6_init_139 : xdec cX6_init 139 = some (.putfield 59, 142, 59, 0) := by decide +kernel
theorem xX6_init_142 : xdec cX6_init 142 = some (.aload_n 0, 143, 0, 0) := by decide +kernel
theorem xX6_init_143 : xdec cX6_init 143 = some (.bipush 7, 145, 0, 7) := by decide +kernel
theorem xX6_init_145 : xdec cX6_init 145 = some (.newarray .int, 147, 0, 0) := by decide +kernel
theorem xX6_init_147 : xdec cX6_init 147 = some (.putfield 62, 150, 62, 0) := by decide +kernel
theorem xX6_init_150 : xdec cX6_init 150 = some (.aload_n 0, 151, 0, 0) := by decide +kernel
theorem xX6_init_151 : xdec cX6_init 151 = some (.sipush 1024, 154, 0, 1024) := by decide +kernel
theorem xX6_init_154 : xdec cX6_init 154 = some (.newarray .boolean, 156, 0, 0) := by decide +kernel
theorem xX6_init_156 : xdec cX6_init 156 = some (.putfield 65, 159, 65, 0) := by decide +kernel
theorem xX6_init_159 : xdec cX6_init 159 = some (.aload_n 0, 160, 0, 0) := by decide +kernel
theorem xX6_init_160 : xdec cX6_init 160 = some (.bipush 8, 162, 0, 8) := by decide +kernel
theorem xX6_init_162 : xdec cX6_init 162 = some (.newarray .int, 164, 0, 0) := by decide +kernel
theorem xX6_init_164 : xdec cX6_init 164 = some (.putfield 69, 167, 69, 0) := by decide +kernel
theorem xX6_init_167 : xdec cX6_init 167 = some (.aload_n 0, 168, 0, 0) := by decide +kernel
theorem xX6_init_168 : xdec cX6_init 168 = some (.bipush 100, 170, 0, 100) := by decide +kernel
theorem xX6_init_170 : xdec cX6_init 170 = some (.newarray .long, 172, 0, 0) := by decide +kernel
theorem xX6_init_172 : xdec cX6_init 172 = some (.putfield 72, 175, 72, 0) := by decide +kernel
theorem xX6_init_175 : xdec cX6_init 175 = some (.aload_n 0, 176, 0, 0) := by decide +kernel
theorem xX6_init_176 : xdec cX6_init 176 = some (.iconst 0, 177, 0, 0) := by decide +kernel
theorem xX6_init_177 : xdec cX6_init 177 = some (.putfield 75, 180, 75, 0) := by decide +kernel
theorem xX6_init_180 : xdec cX6_init 180 = some (.iconst 0, 181, 0, 0) := by decide +kernel
theorem xX6_init_181 : xdec cX6_init 181 = some (.istore_n 1, 182, 1, 0) := by decide +kernel
theorem xX6_init_182 : xdec cX6_init 182 = some (.iload_n 1, 183, 1, 0) := by decide +kernel
theorem xX6_init_183 : xdec cX6_init 183 = some (.bipush 10, 185, 0, 10) := by decide +kernel
theorem xX6_init_185 : xdec cX6_init 185 = some (.if_icmp .ge 16, 188, 201, 0) := by decide +kernel
theorem xX6_init_188 : xdec cX6_init 188 = some (.aload_n 0, 189, 0, 0) := by decide +kernel
theorem xX6_init_189 : xdec cX6_init 189 = some (.getfield 7, 192, 7, 0) := by decide +kernel
theorem xX6_init_192 : xdec cX6_init 192 = some (.iload_n 1, 193, 1, 0) := by decide +kernel
theorem xX6_init_193 : xdec cX6_init 193 = some (.iconst 5, 194, 0, 5) := by decide +kernel
theorem xX6_init_194 : xdec cX6_init 194 = some (.iastore, 195, 0, 0) := by decide +kernel
theorem xX6_init_195 : xdec cX6_init 195 = some (.iinc 1 1, 198, 1, 1) := by decide +kernel
theorem xX6_init_198 : xdec cX6_init 198 = some (.goto (-16), 201, 182, 0) := by decide +kernel
theorem xX6_init_201 : xdec cX6_init 201 = some (.return_, 202, 0, 0) := by decide +kernel
theorem xX6_thrown_0 : xdec cX6_thrown 0 = some (.aload_n 0, 1, 0, 0) := by decide +kernel
theorem xX6_thrown_1 : xdec cX6_thrown 1 = some (.getfield 75, 4, 75, 0) := by decide +kernel
theorem xX6_thrown_4 : xdec cX6_thrown 4 = some (.ireturn, 5, 0, 0) := by decide +kernel
theorem xX6_in_0 : xdec cX6_in 0 = some (.lload_n 0, 1, 0, 0) := by decide +kernel
theorem xX6_in_1 : xdec cX6_in 1 = some (.lload_n 2, 2, 2, 0) := by decide +kernel
theorem xX6_in_2 : xdec cX6_in 2 = some (.lcmp, 3, 0, 0) := by decide +kernel
theorem xX6_in_3 : xdec cX6_in 3 = some (.ifCond .lt 14, 6, 17, 0) := by decide +kernel
theorem xX6_in_6 : xdec cX6_in 6 = some (.lload_n 0, 7, 0, 0) := by decide +kernel
theorem xX6_in_7 : xdec cX6_in 7 = some (.lload 4, 9, 4, 0) := by decide +kernel
theorem xX6_in_9 : xdec cX6_in 9 = some (.lcmp, 10, 0, 0) := by decide +kernel
theorem xX6_in_10 : xdec cX6_in 10 = some (.ifCond .gt 7, 13, 17, 0) := by decide +kernel
theorem xX6_in_13 : xdec cX6_in 13 = some (.iconst 1, 14, 0, 1) := by decide +kernel
theorem xX6_in_14 : xdec cX6_in 14 = some (.goto 4, 17, 18, 0) := by decide +kernel
theorem xX6_in_17 : xdec cX6_in 17 = some (.iconst 0, 18, 0, 0) := by decide +kernel
theorem xX6_in_18 : xdec cX6_in 18 = some (.ireturn, 19, 0, 0) := by decide +kernel
theorem xX6_hasBit_0 : xdec cX6_hasBit 0 = some (.iload_n 0, 1, 0, 0) := by decide +kernel
theorem xX6_hasBit_1 : xdec cX6_hasBit 1 = some (.iload_n 1, 2, 1, 0) := by decide +kernel
theorem xX6_hasBit_2 : xdec cX6_hasBit 2 = some (.ishr, 3, 0, 0) := by decide +kernel
theorem xX6_hasBit_3 : xdec cX6_hasBit 3 = some (.iconst 1, 4, 0, 1) := by decide +kernel
theorem xX6_hasBit_4 : xdec cX6_hasBit 4 = some (.iand, 5, 0, 0) := by decide +kernel
theorem xX6_hasBit_5 : xdec cX6_hasBit 5 = some (.iconst 1, 6, 0, 1) := by decide +kernel
theorem xX6_hasBit_6 : xdec cX6_hasBit 6 = some (.if_icmp .ne 7, 9, 13, 0) := by decide +kernel
theorem xX6_hasBit_9 : xdec cX6_hasBit 9 = some (.iconst 1, 10, 0, 1) := by decide +kernel
theorem xX6_hasBit_10 : xdec cX6_hasBit 10 = some (.goto 4, 13, 14, 0) := by decide +kernel
theorem xX6_hasBit_13 : xdec cX6_hasBit 13 = some (.iconst 0, 14, 0, 0) := by decide +kernel
theorem xX6_hasBit_14 : xdec cX6_hasBit 14 = some (.ireturn, 15, 0, 0) := by decide +kernel
theorem xX6_onesOf_0 : xdec cX6_onesOf 0 = some (.iconst 0, 1, 0, 0) := by decide +kernel
theorem xX6_onesOf_1 : xdec cX6_onesOf 1 = some (.istore_n 1, 2, 1, 0) := by decide +kernel
theorem xX6_onesOf_2 : xdec cX6_onesOf 2 = some (.iload_n 0, 3, 0, 0) := by decide +kernel
theorem xX6_onesOf_3 : xdec cX6_onesOf 3 = some (.istore_n 2, 4, 2, 0) := by decide +kernel
theorem xX6_onesOf_4 : xdec cX6_onesOf 4 = some (.iload_n 2, 5, 2, 0) := by decide +kernel
theorem xX6_onesOf_5 : xdec cX6_onesOf 5 = some (.ifCond .eq 15, 8, 20, 0) := by decide +kernel
theorem xX6_onesOf_8 : xdec cX6_onesOf 8 = some (.iinc 1 1, 11, 1, 1) := by decide +kernel
theorem xX6_onesOf_11 : xdec cX6_onesOf 11 = some (.iload_n 2, 12, 2, 0) := by decide +kernel
theorem xX6_onesOf_12 : xdec cX6_onesOf 12 = some (.iload_n 2, 13, 2, 0) := by decide +kernel
theorem xX6_onesOf_13 : xdec cX6_onesOf 13 = some (.iconst 1, 14, 0, 1) := by decide +kernel
theorem xX6_onesOf_14 : xdec cX6_onesOf 14 = some (.isub, 15, 0, 0) := by decide +kernel
theorem xX6_onesOf_15 : xdec cX6_onesOf 15 = some (.iand, 16, 0, 0) := by decide +kernel
theorem xX6_onesOf_16 : xdec cX6_onesOf 16 = some (.istore_n 2, 17, 2, 0) := by decide +kernel
theorem xX6_onesOf_17 : xdec cX6_onesOf 17 = some (.goto (-13), 20, 4, 0) := by decide +kernel
theorem xX6_onesOf_20 : xdec cX6_onesOf 20 = some (.iload_n 1, 21, 1, 0) := by decide +kernel
theorem xX6_onesOf_21 : xdec cX6_onesOf 21 = some (.ireturn, 22, 0, 0) := by decide +kernel
theorem xX6_held_0 : xdec cX6_held 0 = some (.iload_n 0, 1, 0, 0) := by decide +kernel
theorem xX6_held_1 : xdec cX6_held 1 = some (.ifCond .ge 7, 4, 8, 0) := by decide +kernel
theorem xX6_held_4 : xdec cX6_held 4 = some (.iconst 0, 5, 0, 0) := by decide +kernel
theorem xX6_held_5 : xdec cX6_held 5 = some (.goto 13, 8, 18, 0) := by decide +kernel
theorem xX6_held_8 : xdec cX6_held 8 = some (.iload_n 0, 9, 0, 0) := by decide +kernel
theorem xX6_held_9 : xdec cX6_held 9 = some (.iload_n 1, 10, 1, 0) := by decide +kernel
theorem xX6_held_10 : xdec cX6_held 10 = some (.if_icmp .le 7, 13, 17, 0) := by decide +kernel
theorem xX6_held_13 : xdec cX6_held 13 = some (.iload_n 1, 14, 1, 0) := by decide +kernel
theorem xX6_held_14 : xdec cX6_held 14 = some (.goto 4, 17, 18, 0) := by decide +kernel
theorem xX6_held_17 : xdec cX6_held 17 = some (.iload_n 0, 18, 0, 0) := by decide +kernel
theorem xX6_held_18 : xdec cX6_held 18 = some (.ireturn, 19, 0, 0) := by decide +kernel
theorem xX6_isPlate_0 : xdec cX6_isPlate 0 = some (.iload_n 0, 1, 0, 0) := by decide +kernel
theorem xX6_isPlate_1 : xdec cX6_isPlate 1 = some (.i2l, 2, 0, 0) := by decide +kernel
theorem xX6_isPlate_2 : xdec cX6_isPlate 2 = some (.lconst 0, 3, 0, 0) := by decide +kernel
theorem xX6_isPlate_3 : xdec cX6_isPlate 3 = some (.ldc2_w 79, 6, 79, 0) := by decide +kernel
theorem xX6_isPlate_6 : xdec cX6_isPlate 6 = some (.invokestatic 81, 9, 0, 0) := by decide +kernel
theorem xX6_isPlate_9 : xdec cX6_isPlate 9 = some (.ireturn, 10, 0, 0) := by decide +kernel
theorem xX6_isOne_0 : xdec cX6_isOne 0 = some (.iload_n 1, 1, 1, 0) := by decide +kernel
theorem xX6_isOne_1 : xdec cX6_isOne 1 = some (.i2l, 2, 0, 0) := by decide +kernel
theorem xX6_isOne_2 : xdec cX6_isOne 2 = some (.lconst 0, 3, 0, 0) := by decide +kernel
theorem xX6_isOne_3 : xdec cX6_isOne 3 = some (.aload_n 0, 4, 0, 0) := by decide +kernel
theorem xX6_isOne_4 : xdec cX6_isOne 4 = some (.getfield 85, 7, 85, 0) := by decide +kernel
theorem xX6_isOne_7 : xdec cX6_isOne 7 = some (.iconst 1, 8, 0, 1) := by decide +kernel
theorem xX6_isOne_8 : xdec cX6_isOne 8 = some (.isub, 9, 0, 0) := by decide +kernel
theorem xX6_isOne_9 : xdec cX6_isOne 9 = some (.i2l, 10, 0, 0) := by decide +kernel
theorem xX6_isOne_10 : xdec cX6_isOne 10 = some (.invokestatic 81, 13, 0, 0) := by decide +kernel
theorem xX6_isOne_13 : xdec cX6_isOne 13 = some (.ireturn, 14, 0, 0) := by decide +kernel
theorem xX6_dreamsOf_0 : xdec cX6_dreamsOf 0 = some (.aload_n 0, 1, 0, 0) := by decide +kernel
theorem xX6_dreamsOf_1 : xdec cX6_dreamsOf 1 = some (.getfield 16, 4, 16, 0) := by decide +kernel
theorem xX6_dreamsOf_4 : xdec cX6_dreamsOf 4 = some (.iload_n 1, 5, 1, 0) := by decide +kernel
theorem xX6_dreamsOf_5 : xdec cX6_dreamsOf 5 = some (.iaload, 6, 0, 0) := by decide +kernel
theorem xX6_dreamsOf_6 : xdec cX6_dreamsOf 6 = some (.istore_n 3, 7, 3, 0) := by decide +kernel
theorem xX6_dreamsOf_7 : xdec cX6_dreamsOf 7 = some (.iload_n 2, 8, 2, 0) := by decide +kernel
theorem xX6_dreamsOf_8 : xdec cX6_dreamsOf 8 = some (.iload_n 3, 9, 3, 0) := by decide +kernel
theorem xX6_dreamsOf_9 : xdec cX6_dreamsOf 9 = some (.iconst 2, 10, 0, 2) := by decide +kernel
theorem xX6_dreamsOf_10 : xdec cX6_dreamsOf 10 = some (.iadd, 11, 0, 0) := by decide +kernel
theorem xX6_dreamsOf_11 : xdec cX6_dreamsOf 11 = some (.irem, 12, 0, 0) := by decide +kernel
theorem xX6_dreamsOf_12 : xdec cX6_dreamsOf 12 = some (.ifCond .ne 12, 15, 24, 0) := by decide +kernel
theorem xX6_dreamsOf_15 : xdec cX6_dreamsOf 15 = some (.aload_n 0, 16, 0, 0) := by decide +kernel
theorem xX6_dreamsOf_16 : xdec cX6_dreamsOf 16 = some (.getfield 19, 19, 19, 0) := by decide +kernel
theorem xX6_dreamsOf_19 : xdec cX6_dreamsOf 19 = some (.iload_n 1, 20, 1, 0) := by decide +kernel
theorem xX6_dreamsOf_20 : xdec cX6_dreamsOf 20 = some (.iaload, 21, 0, 0) := by decide +kernel
theorem xX6_dreamsOf_21 : xdec cX6_dreamsOf 21 = some (.goto 5, 24, 26, 0) := by decide +kernel
theorem xX6_dreamsOf_24 : xdec cX6_dreamsOf 24 = some (.bipush (-4), 26, 0, (-4)) := by decide +kernel
theorem xX6_dreamsOf_26 : xdec cX6_dreamsOf 26 = some (.istore 4, 28, 4, 0) := by decide +kernel
theorem xX6_dreamsOf_28 : xdec cX6_dreamsOf 28 = some (.aload_n 0, 29, 0, 0) := by decide +kernel
theorem xX6_dreamsOf_29 : xdec cX6_dreamsOf 29 = some (.getfield 13, 32, 13, 0) := by decide +kernel
theorem xX6_dreamsOf_32 : xdec cX6_dreamsOf 32 = some (.iload_n 1, 33, 1, 0) := by decide +kernel
theorem xX6_dreamsOf_33 : xdec cX6_dreamsOf 33 = some (.iaload, 34, 0, 0) := by decide +kernel
theorem xX6_dreamsOf_34 : xdec cX6_dreamsOf 34 = some (.tableswitch 96 1 7 #[42, 44, 56, 59, 61, 75, 78], 76, 0, 0) := by decide +kernel
theorem xX6_dreamsOf_76 : xdec cX6_dreamsOf 76 = some (.iconst 1, 77, 0, 1) := by decide +kernel
theorem xX6_dreamsOf_77 : xdec cX6_dreamsOf 77 = some (.ireturn, 78, 0, 0) := by decide +kernel
theorem xX6_dreamsOf_78 : xdec cX6_dreamsOf 78 = some (.aload_n 0, 79, 0, 0) := by decide +kernel
theorem xX6_dreamsOf_79 : xdec cX6_dreamsOf 79 = some (.getfield 19, 82, 19, 0) := by decide +kernel
theorem xX6_dreamsOf_82 : xdec cX6_dreamsOf 82 = some (.iload_n 1, 83, 1, 0) := by decide +kernel
theorem xX6_dreamsOf_83 : xdec cX6_dreamsOf 83 = some (.iaload, 84, 0, 0) := by decide +kernel
theorem xX6_dreamsOf_84 : xdec cX6_dreamsOf 84 = some (.iload_n 2, 85, 2, 0) := by decide +kernel
theorem xX6_dreamsOf_85 : xdec cX6_dreamsOf 85 = some (.iadd, 86, 0, 0) := by decide +kernel
theorem xX6_dreamsOf_86 : xdec cX6_dreamsOf 86 = some (.bipush 10, 88, 0, 10) := by decide +kernel
theorem xX6_dreamsOf_88 : xdec cX6_dreamsOf 88 = some (.irem, 89, 0, 0) := by decide +kernel
theorem xX6_dreamsOf_89 : xdec cX6_dreamsOf 89 = some (.ireturn, 90, 0, 0) := by decide +kernel
theorem xX6_dreamsOf_90 : xdec cX6_dreamsOf 90 = some (.iload 4, 92, 4, 0) := by decide +kernel
theorem xX6_dreamsOf_92 : xdec cX6_dreamsOf 92 = some (.ireturn, 93, 0, 0) := by decide +kernel
theorem xX6_dreamsOf_93 : xdec cX6_dreamsOf 93 = some (.iconst 0, 94, 0, 0) := by decide +kernel
theorem xX6_dreamsOf_94 : xdec cX6_dreamsOf 94 = some (.ireturn, 95, 0, 0) := by decide +kernel
theorem xX6_dreamsOf_95 : xdec cX6_dreamsOf 95 = some (.aload_n 0, 96, 0, 0) := by decide +kernel
theorem xX6_dreamsOf_96 : xdec cX6_dreamsOf 96 = some (.getfield 22, 99, 22, 0) := by decide +kernel
theorem xX6_dreamsOf_99 : xdec cX6_dreamsOf 99 = some (.iload_n 1, 100, 1, 0) := by decide +kernel
theorem xX6_dreamsOf_100 : xdec cX6_dreamsOf 100 = some (.iaload, 101, 0, 0) := by decide +kernel
theorem xX6_dreamsOf_101 : xdec cX6_dreamsOf 101 = some (.iconst 1, 102, 0, 1) := by decide +kernel
theorem xX6_dreamsOf_102 : xdec cX6_dreamsOf 102 = some (.iadd, 103, 0, 0) := by decide +kernel
theorem xX6_dreamsOf_103 : xdec cX6_dreamsOf 103 = some (.iload_n 3, 104, 3, 0) := by decide +kernel
theorem xX6_dreamsOf_104 : xdec cX6_dreamsOf 104 = some (.iadd, 105, 0, 0) := by decide +kernel
theorem xX6_dreamsOf_105 : xdec cX6_dreamsOf 105 = some (.bipush 10, 107, 0, 10) := by decide +kernel
theorem xX6_dreamsOf_107 : xdec cX6_dreamsOf 107 = some (.irem, 108, 0, 0) := by decide +kernel
theorem xX6_dreamsOf_108 : xdec cX6_dreamsOf 108 = some (.ireturn, 109, 0, 0) := by decide +kernel
theorem xX6_dreamsOf_109 : xdec cX6_dreamsOf 109 = some (.bipush 9, 111, 0, 9) := by decide +kernel
theorem xX6_dreamsOf_111 : xdec cX6_dreamsOf 111 = some (.ireturn, 112, 0, 0) := by decide +kernel
theorem xX6_dreamsOf_112 : xdec cX6_dreamsOf 112 = some (.iload_n 2, 113, 2, 0) := by decide +kernel
theorem xX6_dreamsOf_113 : xdec cX6_dreamsOf 113 = some (.iconst 2, 114, 0, 2) := by decide +kernel
theorem xX6_dreamsOf_114 : xdec cX6_dreamsOf 114 = some (.irem, 115, 0, 0) := by decide +kernel
theorem xX6_dreamsOf_115 : xdec cX6_dreamsOf 115 = some (.ifCond .ne 12, 118, 127, 0) := by decide +kernel
theorem xX6_dreamsOf_118 : xdec cX6_dreamsOf 118 = some (.aload_n 0, 119, 0, 0) := by decide +kernel
theorem xX6_dreamsOf_119 : xdec cX6_dreamsOf 119 = some (.getfield 22, 122, 22, 0) := by decide +kernel
theorem xX6_dreamsOf_122 : xdec cX6_dreamsOf 122 = some (.iload_n 1, 123, 1, 0) := by decide +kernel
theorem xX6_dreamsOf_123 : xdec cX6_dreamsOf 123 = some (.iaload, 124, 0, 0) := by decide +kernel
theorem xX6_dreamsOf_124 : xdec cX6_dreamsOf 124 = some (.goto 5, 127, 129, 0) := by decide +kernel
theorem xX6_dreamsOf_127 : xdec cX6_dreamsOf 127 = some (.iload 4, 129, 4, 0) := by decide +kernel
theorem xX6_dreamsOf_129 : xdec cX6_dreamsOf 129 = some (.ireturn, 130, 0, 0) := by decide +kernel
theorem xX6_dreamsOf_130 : xdec cX6_dreamsOf 130 = some (.aload_n 0, 131, 0, 0) := by decide +kernel
theorem xX6_dreamsOf_131 : xdec cX6_dreamsOf 131 = some (.getfield 19, 134, 19, 0) := by decide +kernel
theorem xX6_dreamsOf_134 : xdec cX6_dreamsOf 134 = some (.iload_n 1, 135, 1, 0) := by decide +kernel
theorem xX6_dreamsOf_135 : xdec cX6_dreamsOf 135 = some (.iaload, 136, 0, 0) := by decide +kernel
theorem xX6_dreamsOf_136 : xdec cX6_dreamsOf 136 = some (.ireturn, 137, 0, 0) := by decide +kernel
theorem xX6_eatsOf_0 : xdec cX6_eatsOf 0 = some (.aload_n 0, 1, 0, 0) := by decide +kernel
theorem xX6_eatsOf_1 : xdec cX6_eatsOf 1 = some (.getfield 13, 4, 13, 0) := by decide +kernel
theorem xX6_eatsOf_4 : xdec cX6_eatsOf 4 = some (.iload_n 1, 5, 1, 0) := by decide +kernel
theorem xX6_eatsOf_5 : xdec cX6_eatsOf 5 = some (.iaload, 6, 0, 0) := by decide +kernel
theorem xX6_eatsOf_6 : xdec cX6_eatsOf 6 = some (.iconst 2, 7, 0, 2) := by decide +kernel
theorem xX6_eatsOf_7 : xdec cX6_eatsOf 7 = some (.if_icmp .eq 14, 10, 21, 0) := by decide +kernel
theorem xX6_eatsOf_10 : xdec cX6_eatsOf 10 = some (.aload_n 0, 11, 0, 0) := by decide +kernel
theorem xX6_eatsOf_11 : xdec cX6_eatsOf 11 = some (.getfield 13, 14, 13, 0) := by decide +kernel
theorem xX6_eatsOf_14 : xdec cX6_eatsOf 14 = some (.iload_n 1, 15, 1, 0) := by decide +kernel
theorem xX6_eatsOf_15 : xdec cX6_eatsOf 15 = some (.iaload, 16, 0, 0) := by decide +kernel
theorem xX6_eatsOf_16 : xdec cX6_eatsOf 16 = some (.bipush 7, 18, 0, 7) := by decide +kernel
theorem xX6_eatsOf_18 : xdec cX6_eatsOf 18 = some (.if_icmp .ne 7, 21, 25, 0) := by decide +kernel
theorem xX6_eatsOf_21 : xdec cX6_eatsOf 21 = some (.iconst 2, 22, 0, 2) := by decide +kernel
theorem xX6_eatsOf_22 : xdec cX6_eatsOf 22 = some (.goto 4, 25, 26, 0) := by decide +kernel
theorem xX6_eatsOf_25 : xdec cX6_eatsOf 25 = some (.iconst 1, 26, 0, 1) := by decide +kernel
theorem xX6_eatsOf_26 : xdec cX6_eatsOf 26 = some (.ireturn, 27, 0, 0) := by decide +kernel
theorem xX6_gainsOf_0 : xdec cX6_gainsOf 0 = some (.aload_n 0, 1, 0, 0) := by decide +kernel
theorem xX6_gainsOf_1 : xdec cX6_gainsOf 1 = some (.getfield 13, 4, 13, 0) := by decide +kernel
theorem xX6_gainsOf_4 : xdec cX6_gainsOf 4 = some (.iload_n 1, 5, 1, 0) := by decide +kernel
theorem xX6_gainsOf_5 : xdec cX6_gainsOf 5 = some (.iaload, 6, 0, 0) := by decide +kernel
theorem xX6_gainsOf_6 : xdec cX6_gainsOf 6 = some (.tableswitch 76 1 7 #[42, 44, 48, 42, 53, 59, 66], 48, 0, 0) := by decide +kernel
theorem xX6_gainsOf_48 : xdec cX6_gainsOf 48 = some (.iconst 1, 49, 0, 1) := by decide +kernel
theorem xX6_gainsOf_49 : xdec cX6_gainsOf 49 = some (.ireturn, 50, 0, 0) := by decide +kernel
theorem xX6_gainsOf_50 : xdec cX6_gainsOf 50 = some (.iload_n 2, 51, 2, 0) := by decide +kernel
theorem xX6_gainsOf_51 : xdec cX6_gainsOf 51 = some (.iconst 2, 52, 0, 2) := by decide +kernel
theorem xX6_gainsOf_52 : xdec cX6_gainsOf 52 = some (.idiv, 53, 0, 0) := by decide +kernel
theorem xX6_gainsOf_53 : xdec cX6_gainsOf 53 = some (.ireturn, 54, 0, 0) := by decide +kernel
theorem xX6_gainsOf_54 : xdec cX6_gainsOf 54 = some (.bipush 9, 56, 0, 9) := by decide +kernel
theorem xX6_gainsOf_56 : xdec cX6_gainsOf 56 = some (.iload_n 2, 57, 2, 0) := by decide +kernel
theorem xX6_gainsOf_57 : xdec cX6_gainsOf 57 = some (.isub, 58, 0, 0) := by decide +kernel
theorem xX6_gainsOf_58 : xdec cX6_gainsOf 58 = some (.ireturn, 59, 0, 0) := by decide +kernel
theorem xX6_gainsOf_59 : xdec cX6_gainsOf 59 = some (.iload_n 2, 60, 2, 0) := by decide +kernel
theorem xX6_gainsOf_60 : xdec cX6_gainsOf 60 = some (.iconst 2, 61, 0, 2) := by decide +kernel
theorem xX6_gainsOf_61 : xdec cX6_gainsOf 61 = some (.idiv, 62, 0, 0) := by decide +kernel
theorem xX6_gainsOf_62 : xdec cX6_gainsOf 62 = some (.iconst 3, 63, 0, 3) := by decide +kernel
theorem xX6_gainsOf_63 : xdec cX6_gainsOf 63 = some (.isub, 64, 0, 0) := by decide +kernel
theorem xX6_gainsOf_64 : xdec cX6_gainsOf 64 = some (.ireturn, 65, 0, 0) := by decide +kernel
theorem xX6_gainsOf_65 : xdec cX6_gainsOf 65 = some (.aload_n 0, 66, 0, 0) := by decide +kernel
theorem xX6_gainsOf_66 : xdec cX6_gainsOf 66 = some (.getfield 16, 69, 16, 0) := by decide +kernel
theorem xX6_gainsOf_69 : xdec cX6_gainsOf 69 = some (.iload_n 1, 70, 1, 0) := by decide +kernel
theorem xX6_gainsOf_70 : xdec cX6_gainsOf 70 = some (.iaload, 71, 0, 0) := by decide +kernel
theorem xX6_gainsOf_71 : xdec cX6_gainsOf 71 = some (.ireturn, 72, 0, 0) := by decide +kernel
theorem xX6_gainsOf_72 : xdec cX6_gainsOf 72 = some (.bipush 8, 74, 0, 8) := by decide +kernel
theorem xX6_gainsOf_74 : xdec cX6_gainsOf 74 = some (.iload_n 2, 75, 2, 0) := by decide +kernel
theorem xX6_gainsOf_75 : xdec cX6_gainsOf 75 = some (.isub, 76, 0, 0) := by decide +kernel
theorem xX6_gainsOf_76 : xdec cX6_gainsOf 76 = some (.bipush 9, 78, 0, 9) := by decide +kernel
theorem xX6_gainsOf_78 : xdec cX6_gainsOf 78 = some (.invokestatic 88, 81, 0, 0) := by decide +kernel
theorem xX6_gainsOf_81 : xdec cX6_gainsOf 81 = some (.ireturn, 82, 0, 0) := by decide +kernel
theorem xX6_gainsOf_82 : xdec cX6_gainsOf 82 = some (.iload_n 2, 83, 2, 0) := by decide +kernel
theorem xX6_gainsOf_83 : xdec cX6_gainsOf 83 = some (.aload_n 0, 84, 0, 0) := by decide +kernel
theorem xX6_gainsOf_84 : xdec cX6_gainsOf 84 = some (.getfield 22, 87, 22, 0) := by decide +kernel
theorem xX6_gainsOf_87 : xdec cX6_gainsOf 87 = some (.iload_n 1, 88, 1, 0) := by decide +kernel
theorem xX6_gainsOf_88 : xdec cX6_gainsOf 88 = some (.iaload, 89, 0, 0) := by decide +kernel
theorem xX6_gainsOf_89 : xdec cX6_gainsOf 89 = some (.if_icmp .ne 7, 92, 96, 0) := by decide +kernel
theorem xX6_gainsOf_92 : xdec cX6_gainsOf 92 = some (.iconst 0, 93, 0, 0) := by decide +kernel
theorem xX6_gainsOf_93 : xdec cX6_gainsOf 93 = some (.goto 4, 96, 97, 0) := by decide +kernel
theorem xX6_gainsOf_96 : xdec cX6_gainsOf 96 = some (.iconst 2, 97, 0, 2) := by decide +kernel
theorem xX6_gainsOf_97 : xdec cX6_gainsOf 97 = some (.ireturn, 98, 0, 0) := by decide +kernel
theorem xX6_breakfast_0 : xdec cX6_breakfast 0 = some (.aload_n 0, 1, 0, 0) := by decide +kernel
theorem xX6_breakfast_1 : xdec cX6_breakfast 1 = some (.iload_n 1, 2, 1, 0) := by decide +kernel
theorem xX6_breakfast_2 : xdec cX6_breakfast 2 = some (.aload_n 0, 3, 0, 0) := by decide +kernel
theorem xX6_breakfast_3 : xdec cX6_breakfast 3 = some (.getfield 92, 6, 92, 0) := by decide +kernel
theorem xX6_breakfast_6 : xdec cX6_breakfast 6 = some (.invokevirtual 95, 9, 0, 0) := by decide +kernel
theorem xX6_breakfast_9 : xdec cX6_breakfast 9 = some (.istore_n 2, 10, 2, 0) := by decide +kernel
theorem xX6_breakfast_10 : xdec cX6_breakfast 10 = some (.aload_n 0, 11, 0, 0) := by decide +kernel
theorem xX6_breakfast_11 : xdec cX6_breakfast 11 = some (.getfield 98, 14, 98, 0) := by decide +kernel
theorem xX6_breakfast_14 : xdec cX6_breakfast 14 = some (.ifCond .eq 12, 17, 26, 0) := by decide +kernel
theorem xX6_breakfast_17 : xdec cX6_breakfast 17 = some (.iload_n 2, 18, 2, 0) := by decide +kernel
theorem xX6_breakfast_18 : xdec cX6_breakfast 18 = some (.ifCond .lt 8, 21, 26, 0) := by decide +kernel
theorem xX6_breakfast_21 : xdec cX6_breakfast 21 = some (.bipush 7, 23, 0, 7) := by decide +kernel
theorem xX6_breakfast_23 : xdec cX6_breakfast 23 = some (.goto 4, 26, 27, 0) := by decide +kernel
theorem xX6_breakfast_26 : xdec cX6_breakfast 26 = some (.iload_n 2, 27, 2, 0) := by decide +kernel
theorem xX6_breakfast_27 : xdec cX6_breakfast 27 = some (.istore_n 2, 28, 2, 0) := by decide +kernel
theorem xX6_breakfast_28 : xdec cX6_breakfast 28 = some (.aload_n 0, 29, 0, 0) := by decide +kernel
theorem xX6_breakfast_29 : xdec cX6_breakfast 29 = some (.getfield 102, 32, 102, 0) := by decide +kernel
theorem xX6_breakfast_32 : xdec cX6_breakfast 32 = some (.iload_n 1, 33, 1, 0) := by decide +kernel
theorem xX6_breakfast_33 : xdec cX6_breakfast 33 = some (.invokestatic 105, 36, 0, 0) := by decide +kernel
theorem xX6_breakfast_36 : xdec cX6_breakfast 36 = some (.ifCond .eq 7, 39, 43, 0) := by decide +kernel
theorem xX6_breakfast_39 : xdec cX6_breakfast 39 = some (.iconst 1, 40, 0, 1) := by decide +kernel
theorem xX6_breakfast_40 : xdec cX6_breakfast 40 = some (.goto 4, 43, 44, 0) := by decide +kernel
theorem xX6_breakfast_43 : xdec cX6_breakfast 43 = some (.iload_n 2, 44, 2, 0) := by decide +kernel
theorem xX6_breakfast_44 : xdec cX6_breakfast 44 = some (.istore_n 2, 45, 2, 0) := by decide +kernel
theorem xX6_breakfast_45 : xdec cX6_breakfast 45 = some (.iload_n 2, 46, 2, 0) := by decide +kernel
theorem xX6_breakfast_46 : xdec cX6_breakfast 46 = some (.ifCond .ge 25, 49, 71, 0) := by decide +kernel
theorem xX6_breakfast_49 : xdec cX6_breakfast 49 = some (.aload_n 0, 50, 0, 0) := by decide +kernel
theorem xX6_breakfast_50 : xdec cX6_breakfast 50 = some (.getfield 25, 53, 25, 0) := by decide +kernel
theorem xX6_breakfast_53 : xdec cX6_breakfast 53 = some (.iload_n 1, 54, 1, 0) := by decide +kernel
theorem xX6_breakfast_54 : xdec cX6_breakfast 54 = some (.aload_n 0, 55, 0, 0) := by decide +kernel
theorem xX6_breakfast_55 : xdec cX6_breakfast 55 = some (.getfield 25, 58, 25, 0) := by decide +kernel
theorem xX6_breakfast_58 : xdec cX6_breakfast 58 = some (.iload_n 1, 59, 1, 0) := by decide +kernel
theorem xX6_breakfast_59 : xdec cX6_breakfast 59 = some (.iaload, 60, 0, 0) := by decide +kernel
theorem xX6_breakfast_60 : xdec cX6_breakfast 60 = some (.iconst 5, 61, 0, 5) := by decide +kernel
theorem xX6_breakfast_61 : xdec cX6_breakfast 61 = some (.isub, 62, 0, 0) := by decide +kernel
theorem xX6_breakfast_62 : xdec cX6_breakfast 62 = some (.bipush 99, 64, 0, 99) := by decide +kernel
theorem xX6_breakfast_64 : xdec cX6_breakfast 64 = some (.invokestatic 88, 67, 0, 0) := by decide +kernel
theorem xX6_breakfast_67 : xdec cX6_breakfast 67 = some (.iastore, 68, 0, 0) := by decide +kernel
theorem xX6_breakfast_68 : xdec cX6_breakfast 68 = some (.goto 128, 71, 196, 0) := by decide +kernel
theorem xX6_breakfast_71 : xdec cX6_breakfast 71 = some (.aload_n 0, 72, 0, 0) := by decide +kernel
theorem xX6_breakfast_72 : xdec cX6_breakfast 72 = some (.getfield 7, 75, 7, 0) := by decide +kernel
theorem xX6_breakfast_75 : xdec cX6_breakfast 75 = some (.iload_n 2, 76, 2, 0) := by decide +kernel
theorem xX6_breakfast_76 : xdec cX6_breakfast 76 = some (.iaload, 77, 0, 0) := by decide +kernel
theorem xX6_breakfast_77 : xdec cX6_breakfast 77 = some (.aload_n 0, 78, 0, 0) := by decide +kernel
theorem xX6_breakfast_78 : xdec cX6_breakfast 78 = some (.iload_n 1, 79, 1, 0) := by decide +kernel
theorem xX6_breakfast_79 : xdec cX6_breakfast 79 = some (.invokevirtual 109, 82, 0, 0) := by decide +kernel
theorem xX6_breakfast_82 : xdec cX6_breakfast 82 = some (.if_icmp .lt 79, 85, 161, 0) := by decide +kernel
theorem xX6_breakfast_85 : xdec cX6_breakfast 85 = some (.aload_n 0, 86, 0, 0) := by decide +kernel
theorem xX6_breakfast_86 : xdec cX6_breakfast 86 = some (.getfield 7, 89, 7, 0) := by decide +kernel
theorem xX6_breakfast_89 : xdec cX6_breakfast 89 = some (.iload_n 2, 90, 2, 0) := by decide +kernel
theorem xX6_breakfast_90 : xdec cX6_breakfast 90 = some (.dup2, 91, 0, 0) := by decide +kernel
theorem xX6_breakfast_91 : xdec cX6_breakfast 91 = some (.iaload, 92, 0, 0) := by decide +kernel
theorem xX6_breakfast_92 : xdec cX6_breakfast 92 = some (.aload_n 0, 93, 0, 0) := by decide +kernel
theorem xX6_breakfast_93 : xdec cX6_breakfast 93 = some (.iload_n 1, 94, 1, 0) := by decide +kernel
theorem xX6_breakfast_94 : xdec cX6_breakfast 94 = some (.invokevirtual 109, 97, 0, 0) := by decide +kernel
theorem xX6_breakfast_97 : xdec cX6_breakfast 97 = some (.isub, 98, 0, 0) := by decide +kernel
theorem xX6_breakfast_98 : xdec cX6_breakfast 98 = some (.iastore, 99, 0, 0) := by decide +kernel
theorem xX6_breakfast_99 : xdec cX6_breakfast 99 = some (.aload_n 0, 100, 0, 0) := by decide +kernel
theorem xX6_breakfast_100 : xdec cX6_breakfast 100 = some (.getfield 25, 103, 25, 0) := by decide +kernel
theorem xX6_breakfast_103 : xdec cX6_breakfast 103 = some (.iload_n 1, 104, 1, 0) := by decide +kernel
theorem xX6_breakfast_104 : xdec cX6_breakfast 104 = some (.aload_n 0, 105, 0, 0) := by decide +kernel
theorem xX6_breakfast_105 : xdec cX6_breakfast 105 = some (.getfield 25, 108, 25, 0) := by decide +kernel
theorem xX6_breakfast_108 : xdec cX6_breakfast 108 = some (.iload_n 1, 109, 1, 0) := by decide +kernel
theorem xX6_breakfast_109 : xdec cX6_breakfast 109 = some (.iaload, 110, 0, 0) := by decide +kernel
theorem xX6_breakfast_110 : xdec cX6_breakfast 110 = some (.aload_n 0, 111, 0, 0) := by decide +kernel
theorem xX6_breakfast_111 : xdec cX6_breakfast 111 = some (.iload_n 1, 112, 1, 0) := by decide +kernel
theorem xX6_breakfast_112 : xdec cX6_breakfast 112 = some (.iload_n 2, 113, 2, 0) := by decide +kernel
theorem xX6_breakfast_113 : xdec cX6_breakfast 113 = some (.invokevirtual 113, 116, 0, 0) := by decide +kernel
theorem xX6_breakfast_116 : xdec cX6_breakfast 116 = some (.iadd, 117, 0, 0) := by decide +kernel
theorem xX6_breakfast_117 : xdec cX6_breakfast 117 = some (.bipush 99, 119, 0, 99) := by decide +kernel
theorem xX6_breakfast_119 : xdec cX6_breakfast 119 = some (.invokestatic 88, 122, 0, 0) := by decide +kernel
theorem xX6_breakfast_122 : xdec cX6_breakfast 122 = some (.iastore, 123, 0, 0) := by decide +kernel
theorem xX6_breakfast_123 : xdec cX6_breakfast 123 = some (.aload_n 0, 124, 0, 0) := by decide +kernel
theorem xX6_breakfast_124 : xdec cX6_breakfast 124 = some (.getfield 22, 127, 22, 0) := by decide +kernel
theorem xX6_breakfast_127 : xdec cX6_breakfast 127 = some (.iload_n 1, 128, 1, 0) := by decide +kernel
theorem xX6_breakfast_128 : xdec cX6_breakfast 128 = some (.iload_n 2, 129, 2, 0) := by decide +kernel
theorem xX6_breakfast_129 : xdec cX6_breakfast 129 = some (.iastore, 130, 0, 0) := by decide +kernel
theorem xX6_breakfast_130 : xdec cX6_breakfast 130 = some (.aload_n 0, 131, 0, 0) := by decide +kernel
theorem xX6_breakfast_131 : xdec cX6_breakfast 131 = some (.aload_n 0, 132, 0, 0) := by decide +kernel
theorem xX6_breakfast_132 : xdec cX6_breakfast 132 = some (.getfield 116, 135, 116, 0) := by decide +kernel
theorem xX6_breakfast_135 : xdec cX6_breakfast 135 = some (.iconst 1, 136, 0, 1) := by decide +kernel
theorem xX6_breakfast_136 : xdec cX6_breakfast 136 = some (.iadd, 137, 0, 0) := by decide +kernel
theorem xX6_breakfast_137 : xdec cX6_breakfast 137 = some (.sipush 9999, 140, 0, 9999) := by decide +kernel
theorem xX6_breakfast_140 : xdec cX6_breakfast 140 = some (.invokestatic 88, 143, 0, 0) := by decide +kernel
theorem xX6_breakfast_143 : xdec cX6_breakfast 143 = some (.putfield 116, 146, 116, 0) := by decide +kernel
theorem xX6_breakfast_146 : xdec cX6_breakfast 146 = some (.aload_n 0, 147, 0, 0) := by decide +kernel
theorem xX6_breakfast_147 : xdec cX6_breakfast 147 = some (.dup, 148, 0, 0) := by decide +kernel
theorem xX6_breakfast_148 : xdec cX6_breakfast 148 = some (.getfield 119, 151, 119, 0) := by decide +kernel
theorem xX6_breakfast_151 : xdec cX6_breakfast 151 = some (.iconst 1, 152, 0, 1) := by decide +kernel
theorem xX6_breakfast_152 : xdec cX6_breakfast 152 = some (.iload_n 1, 153, 1, 0) := by decide +kernel
theorem xX6_breakfast_153 : xdec cX6_breakfast 153 = some (.ishl, 154, 0, 0) := by decide +kernel
theorem xX6_breakfast_154 : xdec cX6_breakfast 154 = some (.ior, 155, 0, 0) := by decide +kernel
theorem xX6_breakfast_155 : xdec cX6_breakfast 155 = some (.putfield 119, 158, 119, 0) := by decide +kernel
theorem xX6_breakfast_158 : xdec cX6_breakfast 158 = some (.goto 38, 161, 196, 0) := by decide +kernel
theorem xX6_breakfast_161 : xdec cX6_breakfast 161 = some (.aload_n 0, 162, 0, 0) := by decide +kernel
theorem xX6_breakfast_162 : xdec cX6_breakfast 162 = some (.getfield 25, 165, 25, 0) := by decide +kernel
theorem xX6_breakfast_165 : xdec cX6_breakfast 165 = some (.iload_n 1, 166, 1, 0) := by decide +kernel
theorem xX6_breakfast_166 : xdec cX6_breakfast 166 = some (.aload_n 0, 167, 0, 0) := by decide +kernel
theorem xX6_breakfast_167 : xdec cX6_breakfast 167 = some (.getfield 25, 170, 25, 0) := by decide +kernel
theorem xX6_breakfast_170 : xdec cX6_breakfast 170 = some (.iload_n 1, 171, 1, 0) := by decide +kernel
theorem xX6_breakfast_171 : xdec cX6_breakfast 171 = some (.iaload, 172, 0, 0) := by decide +kernel
theorem xX6_breakfast_172 : xdec cX6_breakfast 172 = some (.iconst 3, 173, 0, 3) := by decide +kernel
theorem xX6_breakfast_173 : xdec cX6_breakfast 173 = some (.isub, 174, 0, 0) := by decide +kernel
theorem xX6_breakfast_174 : xdec cX6_breakfast 174 = some (.bipush 99, 176, 0, 99) := by decide +kernel
theorem xX6_breakfast_176 : xdec cX6_breakfast 176 = some (.invokestatic 88, 179, 0, 0) := by decide +kernel
theorem xX6_breakfast_179 : xdec cX6_breakfast 179 = some (.iastore, 180, 0, 0) := by decide +kernel
theorem xX6_breakfast_180 : xdec cX6_breakfast 180 = some (.aload_n 0, 181, 0, 0) := by decide +kernel
theorem xX6_breakfast_181 : xdec cX6_breakfast 181 = some (.aload_n 0, 182, 0, 0) := by decide +kernel
theorem xX6_breakfast_182 : xdec cX6_breakfast 182 = some (.getfield 122, 185, 122, 0) := by decide +kernel
theorem xX6_breakfast_185 : xdec cX6_breakfast 185 = some (.iconst 1, 186, 0, 1) := by decide +kernel
theorem xX6_breakfast_186 : xdec cX6_breakfast 186 = some (.iadd, 187, 0, 0) := by decide +kernel
theorem xX6_breakfast_187 : xdec cX6_breakfast 187 = some (.sipush 9999, 190, 0, 9999) := by decide +kernel
theorem xX6_breakfast_190 : xdec cX6_breakfast 190 = some (.invokestatic 88, 193, 0, 0) := by decide +kernel
theorem xX6_breakfast_193 : xdec cX6_breakfast 193 = some (.putfield 122, 196, 122, 0) := by decide +kernel
theorem xX6_breakfast_196 : xdec cX6_breakfast 196 = some (.aload_n 0, 197, 0, 0) := by decide +kernel
theorem xX6_breakfast_197 : xdec cX6_breakfast 197 = some (.dup, 198, 0, 0) := by decide +kernel
theorem xX6_breakfast_198 : xdec cX6_breakfast 198 = some (.getfield 125, 201, 125, 0) := by decide +kernel
theorem xX6_breakfast_201 : xdec cX6_breakfast 201 = some (.aload_n 0, 202, 0, 0) := by decide +kernel
theorem xX6_breakfast_202 : xdec cX6_breakfast 202 = some (.getfield 25, 205, 25, 0) := by decide +kernel
theorem xX6_breakfast_205 : xdec cX6_breakfast 205 = some (.iload_n 1, 206, 1, 0) := by decide +kernel
theorem xX6_breakfast_206 : xdec cX6_breakfast 206 = some (.iaload, 207, 0, 0) := by decide +kernel
theorem xX6_breakfast_207 : xdec cX6_breakfast 207 = some (.ifCond .ne 11, 210, 218, 0) := by decide +kernel
theorem xX6_breakfast_210 : xdec cX6_breakfast 210 = some (.iconst 1, 211, 0, 1) := by decide +kernel
theorem xX6_breakfast_211 : xdec cX6_breakfast 211 = some (.iload_n 1, 212, 1, 0) := by decide +kernel
theorem xX6_breakfast_212 : xdec cX6_breakfast 212 = some (.ishl, 213, 0, 0) := by decide +kernel
theorem xX6_breakfast_213 : xdec cX6_breakfast 213 = some (.iconst (-1), 214, 0, (-1)) := by decide +kernel
theorem xX6_breakfast_214 : xdec cX6_breakfast 214 = some (.ixor, 215, 0, 0) := by decide +kernel
theorem xX6_breakfast_215 : xdec cX6_breakfast 215 = some (.goto 4, 218, 219, 0) := by decide +kernel
theorem xX6_breakfast_218 : xdec cX6_breakfast 218 = some (.iconst (-1), 219, 0, (-1)) := by decide +kernel
theorem xX6_breakfast_219 : xdec cX6_breakfast 219 = some (.iand, 220, 0, 0) := by decide +kernel
theorem xX6_breakfast_220 : xdec cX6_breakfast 220 = some (.putfield 125, 223, 125, 0) := by decide +kernel
theorem xX6_breakfast_223 : xdec cX6_breakfast 223 = some (.return_, 224, 0, 0) := by decide +kernel
theorem xX6_nightOn_0 : xdec cX6_nightOn 0 = some (.aload_n 0, 1, 0, 0) := by decide +kernel
theorem xX6_nightOn_1 : xdec cX6_nightOn 1 = some (.dup, 2, 0, 0) := by decide +kernel
theorem xX6_nightOn_2 : xdec cX6_nightOn 2 = some (.getfield 92, 5, 92, 0) := by decide +kernel
theorem xX6_nightOn_5 : xdec cX6_nightOn 5 = some (.iconst 1, 6, 0, 1) := by decide +kernel
theorem xX6_nightOn_6 : xdec cX6_nightOn 6 = some (.iadd, 7, 0, 0) := by decide +kernel
theorem xX6_nightOn_7 : xdec cX6_nightOn 7 = some (.putfield 92, 10, 92, 0) := by decide +kernel
theorem xX6_nightOn_10 : xdec cX6_nightOn 10 = some (.aload_n 0, 11, 0, 0) := by decide +kernel
theorem xX6_nightOn_11 : xdec cX6_nightOn 11 = some (.iconst 0, 12, 0, 0) := by decide +kernel
theorem xX6_nightOn_12 : xdec cX6_nightOn 12 = some (.putfield 119, 15, 119, 0) := by decide +kernel
theorem xX6_nightOn_15 : xdec cX6_nightOn 15 = some (.aload_n 0, 16, 0, 0) := by decide +kernel
theorem xX6_nightOn_16 : xdec cX6_nightOn 16 = some (.getfield 7, 19, 7, 0) := by decide +kernel
theorem xX6_nightOn_19 : xdec cX6_nightOn 19 = some (.aload_n 0, 20, 0, 0) := by decide +kernel
theorem xX6_nightOn_20 : xdec cX6_nightOn 20 = some (.getfield 92, 23, 92, 0) := by decide +kernel
theorem xX6_nightOn_23 : xdec cX6_nightOn 23 = some (.bipush 10, 25, 0, 10) := by decide +kernel
theorem xX6_nightOn_25 : xdec cX6_nightOn 25 = some (.irem, 26, 0, 0) := by decide +kernel
theorem xX6_nightOn_26 : xdec cX6_nightOn 26 = some (.aload_n 0, 27, 0, 0) := by decide +kernel
theorem xX6_nightOn_27 : xdec cX6_nightOn 27 = some (.getfield 7, 30, 7, 0) := by decide +kernel
theorem xX6_nightOn_30 : xdec cX6_nightOn 30 = some (.aload_n 0, 31, 0, 0) := by decide +kernel
theorem xX6_nightOn_31 : xdec cX6_nightOn 31 = some (.getfield 92, 34, 92, 0) := by decide +kernel
theorem xX6_nightOn_34 : xdec cX6_nightOn 34 = some (.bipush 10, 36, 0, 10) := by decide +kernel
theorem xX6_nightOn_36 : xdec cX6_nightOn 36 = some (.irem, 37, 0, 0) := by decide +kernel
theorem xX6_nightOn_37 : xdec cX6_nightOn 37 = some (.iaload, 38, 0, 0) := by decide +kernel
theorem xX6_nightOn_38 : xdec cX6_nightOn 38 = some (.iconst 2, 39, 0, 2) := by decide +kernel
theorem xX6_nightOn_39 : xdec cX6_nightOn 39 = some (.iadd, 40, 0, 0) := by decide +kernel
theorem xX6_nightOn_40 : xdec cX6_nightOn 40 = some (.bipush 99, 42, 0, 99) := by decide +kernel
theorem xX6_nightOn_42 : xdec cX6_nightOn 42 = some (.invokestatic 88, 45, 0, 0) := by decide +kernel
theorem xX6_nightOn_45 : xdec cX6_nightOn 45 = some (.iastore, 46, 0, 0) := by decide +kernel
theorem xX6_nightOn_46 : xdec cX6_nightOn 46 = some (.iconst 0, 47, 0, 0) := by decide +kernel
theorem xX6_nightOn_47 : xdec cX6_nightOn 47 = some (.istore_n 1, 48, 1, 0) := by decide +kernel
theorem xX6_nightOn_48 : xdec cX6_nightOn 48 = some (.iload_n 1, 49, 1, 0) := by decide +kernel
theorem xX6_nightOn_49 : xdec cX6_nightOn 49 = some (.aload_n 0, 50, 0, 0) := by decide +kernel
theorem xX6_nightOn_50 : xdec cX6_nightOn 50 = some (.getfield 85, 53, 85, 0) := by decide +kernel
theorem xX6_nightOn_53 : xdec cX6_nightOn 53 = some (.if_icmp .ge 25, 56, 78, 0) := by decide +kernel
theorem xX6_nightOn_56 : xdec cX6_nightOn 56 = some (.aload_n 0, 57, 0, 0) := by decide +kernel
theorem xX6_nightOn_57 : xdec cX6_nightOn 57 = some (.getfield 125, 60, 125, 0) := by decide +kernel
theorem xX6_nightOn_60 : xdec cX6_nightOn 60 = some (.iload_n 1, 61, 1, 0) := by decide +kernel
theorem xX6_nightOn_61 : xdec cX6_nightOn 61 = some (.invokestatic 105, 64, 0, 0) := by decide +kernel
theorem xX6_nightOn_64 : xdec cX6_nightOn 64 = some (.ifCond .eq 8, 67, 72, 0) := by decide +kernel
theorem xX6_nightOn_67 : xdec cX6_nightOn 67 = some (.aload_n 0, 68, 0, 0) := by decide +kernel
theorem xX6_nightOn_68 : xdec cX6_nightOn 68 = some (.iload_n 1, 69, 1, 0) := by decide +kernel
theorem xX6_nightOn_69 : xdec cX6_nightOn 69 = some (.invokevirtual 128, 72, 0, 0) := by decide +kernel
theorem xX6_nightOn_72 : xdec cX6_nightOn 72 = some (.iinc 1 1, 75, 1, 1) := by decide +kernel
theorem xX6_nightOn_75 : xdec cX6_nightOn 75 = some (.goto (-27), 78, 48, 0) := by decide +kernel
theorem xX6_nightOn_78 : xdec cX6_nightOn 78 = some (.aload_n 0, 79, 0, 0) := by decide +kernel
theorem xX6_nightOn_79 : xdec cX6_nightOn 79 = some (.iconst 0, 80, 0, 0) := by decide +kernel
theorem xX6_nightOn_80 : xdec cX6_nightOn 80 = some (.putfield 102, 83, 102, 0) := by decide +kernel
theorem xX6_nightOn_83 : xdec cX6_nightOn 83 = some (.aload_n 0, 84, 0, 0) := by decide +kernel
theorem xX6_nightOn_84 : xdec cX6_nightOn 84 = some (.iconst 0, 85, 0, 0) := by decide +kernel
theorem xX6_nightOn_85 : xdec cX6_nightOn 85 = some (.putfield 98, 88, 98, 0) := by decide +kernel
theorem xX6_nightOn_88 : xdec cX6_nightOn 88 = some (.return_, 89, 0, 0) := by decide +kernel
theorem xX6_goNights_0 : xdec cX6_goNights 0 = some (.iconst 0, 1, 0, 0) := by decide +kernel
theorem xX6_goNights_1 : xdec cX6_goNights 1 = some (.istore_n 2, 2, 2, 0) := by decide +kernel
theorem xX6_goNights_2 : xdec cX6_goNights 2 = some (.iload_n 2, 3, 2, 0) := by decide +kernel
theorem xX6_goNights_3 : xdec cX6_goNights 3 = some (.iload_n 1, 4, 1, 0) := by decide +kernel
theorem xX6_goNights_4 : xdec cX6_goNights 4 = some (.if_icmp .ge 13, 7, 17, 0) := by decide +kernel
theorem xX6_goNights_7 : xdec cX6_goNights 7 = some (.aload_n 0, 8, 0, 0) := by decide +kernel
theorem xX6_goNights_8 : xdec cX6_goNights 8 = some (.invokevirtual 132, 11, 0, 0) := by decide +kernel
theorem xX6_goNights_11 : xdec cX6_goNights 11 = some (.iinc 2 1, 14, 2, 1) := by decide +kernel
theorem xX6_goNights_14 : xdec cX6_goNights 14 = some (.goto (-12), 17, 2, 0) := by decide +kernel
theorem xX6_goNights_17 : xdec cX6_goNights 17 = some (.return_, 18, 0, 0) := by decide +kernel
theorem xX6_allPlates_0 : xdec cX6_allPlates 0 = some (.iconst 0, 1, 0, 0) := by decide +kernel
theorem xX6_allPlates_1 : xdec cX6_allPlates 1 = some (.istore_n 1, 2, 1, 0) := by decide +kernel
theorem xX6_allPlates_2 : xdec cX6_allPlates 2 = some (.iconst 0, 3, 0, 0) := by decide +kernel
theorem xX6_allPlates_3 : xdec cX6_allPlates 3 = some (.istore_n 2, 4, 2, 0) := by decide +kernel
theorem xX6_allPlates_4 : xdec cX6_allPlates 4 = some (.iload_n 2, 5, 2, 0) := by decide +kernel
theorem xX6_allPlates_5 : xdec cX6_allPlates 5 = some (.bipush 10, 7, 0, 10) := by decide +kernel
theorem xX6_allPlates_7 : xdec cX6_allPlates 7 = some (.if_icmp .ge 18, 10, 25, 0) := by decide +kernel
theorem xX6_allPlates_10 : xdec cX6_allPlates 10 = some (.iload_n 1, 11, 1, 0) := by decide +kernel
theorem xX6_allPlates_11 : xdec cX6_allPlates 11 = some (.aload_n 0, 12, 0, 0) := by decide +kernel
theorem xX6_allPlates_12 : xdec cX6_allPlates 12 = some (.getfield 7, 15, 7, 0) := by decide +kernel
theorem xX6_allPlates_15 : xdec cX6_allPlates 15 = some (.iload_n 2, 16, 2, 0) := by decide +kernel
theorem xX6_allPlates_16 : xdec cX6_allPlates 16 = some (.iaload, 17, 0, 0) := by decide +kernel
theorem xX6_allPlates_17 : xdec cX6_allPlates 17 = some (.iadd, 18, 0, 0) := by decide +kernel
theorem xX6_allPlates_18 : xdec cX6_allPlates 18 = some (.istore_n 1, 19, 1, 0) := by decide +kernel
theorem xX6_allPlates_19 : xdec cX6_allPlates 19 = some (.iinc 2 1, 22, 2, 1) := by decide +kernel
theorem xX6_allPlates_22 : xdec cX6_allPlates 22 = some (.goto (-18), 25, 4, 0) := by decide +kernel
theorem xX6_allPlates_25 : xdec cX6_allPlates 25 = some (.iload_n 1, 26, 1, 0) := by decide +kernel
theorem xX6_allPlates_26 : xdec cX6_allPlates 26 = some (.ireturn, 27, 0, 0) := by decide +kernel
theorem xX6_here_0 : xdec cX6_here 0 = some (.aload_n 0, 1, 0, 0) := by decide +kernel
theorem xX6_here_1 : xdec cX6_here 1 = some (.getfield 135, 4, 135, 0) := by decide +kernel
theorem xX6_here_4 : xdec cX6_here 4 = some (.aload_n 0, 5, 0, 0) := by decide +kernel
theorem xX6_here_5 : xdec cX6_here 5 = some (.getfield 40, 8, 40, 0) := by decide +kernel
theorem xX6_here_8 : xdec cX6_here 8 = some (.aload_n 0, 9, 0, 0) := by decide +kernel
theorem xX6_here_9 : xdec cX6_here 9 = some (.getfield 138, 12, 138, 0) := by decide +kernel
theorem xX6_here_12 : xdec cX6_here 12 = some (.iaload, 13, 0, 0) := by decide +kernel
theorem xX6_here_13 : xdec cX6_here 13 = some (.if_icmp .ge 24, 16, 37, 0) := by decide +kernel
theorem xX6_here_16 : xdec cX6_here 16 = some (.aload_n 0, 17, 0, 0) := by decide +kernel
theorem xX6_here_17 : xdec cX6_here 17 = some (.getfield 43, 20, 43, 0) := by decide +kernel
theorem xX6_here_20 : xdec cX6_here 20 = some (.bipush 100, 22, 0, 100) := by decide +kernel
theorem xX6_here_22 : xdec cX6_here 22 = some (.aload_n 0, 23, 0, 0) := by decide +kernel
theorem xX6_here_23 : xdec cX6_here 23 = some (.getfield 138, 26, 138, 0) := by decide +kernel
theorem xX6_here_26 : xdec cX6_here 26 = some (.imul, 27, 0, 0) := by decide +kernel
theorem xX6_here_27 : xdec cX6_here 27 = some (.aload_n 0, 28, 0, 0) := by decide +kernel
theorem xX6_here_28 : xdec cX6_here 28 = some (.getfield 135, 31, 135, 0) := by decide +kernel
theorem xX6_here_31 : xdec cX6_here 31 = some (.iadd, 32, 0, 0) := by decide +kernel
theorem xX6_here_32 : xdec cX6_here 32 = some (.laload, 33, 0, 0) := by decide +kernel
theorem xX6_here_33 : xdec cX6_here 33 = some (.l2i, 34, 0, 0) := by decide +kernel
theorem xX6_here_34 : xdec cX6_here 34 = some (.goto 6, 37, 40, 0) := by decide +kernel
theorem xX6_here_37 : xdec cX6_here 37 = some (.sipush (-999), 40, 0, (-999)) := by decide +kernel
theorem xX6_here_40 : xdec cX6_here 40 = some (.ireturn, 41, 0, 0) := by decide +kernel
theorem xX6_readDigits_0 : xdec cX6_readDigits 0 = some (.iconst 0, 1, 0, 0) := by decide +kernel
theorem xX6_readDigits_1 : xdec cX6_readDigits 1 = some (.istore_n 2, 2, 2, 0) := by decide +kernel
theorem xX6_readDigits_2 : xdec cX6_readDigits 2 = some (.iconst 0, 3, 0, 0) := by decide +kernel
theorem xX6_readDigits_3 : xdec cX6_readDigits 3 = some (.istore_n 3, 4, 3, 0) := by decide +kernel
theorem xX6_readDigits_4 : xdec cX6_readDigits 4 = some (.iload_n 3, 5, 3, 0) := by decide +kernel
theorem xX6_readDigits_5 : xdec cX6_readDigits 5 = some (.iload_n 1, 6, 1, 0) := by decide +kernel
theorem xX6_readDigits_6 : xdec cX6_readDigits 6 = some (.if_icmp .ge 87, 9, 93, 0) := by decide +kernel
theorem xX6_readDigits_9 : xdec cX6_readDigits 9 = some (.aload_n 0, 10, 0, 0) := by decide +kernel
theorem xX6_readDigits_10 : xdec cX6_readDigits 10 = some (.aload_n 0, 11, 0, 0) := by decide +kernel
theorem xX6_readDigits_11 : xdec cX6_readDigits 11 = some (.getfield 141, 14, 141, 0) := by decide +kernel
theorem xX6_readDigits_14 : xdec cX6_readDigits 14 = some (.ifCond .ne 20, 17, 34, 0) := by decide +kernel
theorem xX6_readDigits_17 : xdec cX6_readDigits 17 = some (.aload_n 0, 18, 0, 0) := by decide +kernel
theorem xX6_readDigits_18 : xdec cX6_readDigits 18 = some (.invokevirtual 144, 21, 0, 0) := by decide +kernel
theorem xX6_readDigits_21 : xdec cX6_readDigits 21 = some (.i2l, 22, 0, 0) := by decide +kernel
theorem xX6_readDigits_22 : xdec cX6_readDigits 22 = some (.ldc2_w 148, 25, 148, 0) := by decide +kernel
theorem xX6_readDigits_25 : xdec cX6_readDigits 25 = some (.ldc2_w 150, 28, 150, 0) := by decide +kernel
theorem xX6_readDigits_28 : xdec cX6_readDigits 28 = some (.invokestatic 81, 31, 0, 0) := by decide +kernel
theorem xX6_readDigits_31 : xdec cX6_readDigits 31 = some (.ifCond .ne 7, 34, 38, 0) := by decide +kernel
theorem xX6_readDigits_34 : xdec cX6_readDigits 34 = some (.iconst 1, 35, 0, 1) := by decide +kernel
theorem xX6_readDigits_35 : xdec cX6_readDigits 35 = some (.goto 4, 38, 39, 0) := by decide +kernel
theorem xX6_readDigits_38 : xdec cX6_readDigits 38 = some (.iconst 0, 39, 0, 0) := by decide +kernel
theorem xX6_readDigits_39 : xdec cX6_readDigits 39 = some (.putfield 141, 42, 141, 0) := by decide +kernel
theorem xX6_readDigits_42 : xdec cX6_readDigits 42 = some (.aload_n 0, 43, 0, 0) := by decide +kernel
theorem xX6_readDigits_43 : xdec cX6_readDigits 43 = some (.getfield 141, 46, 141, 0) := by decide +kernel
theorem xX6_readDigits_46 : xdec cX6_readDigits 46 = some (.ifCond .eq 7, 49, 53, 0) := by decide +kernel
theorem xX6_readDigits_49 : xdec cX6_readDigits 49 = some (.iconst 0, 50, 0, 0) := by decide +kernel
theorem xX6_readDigits_50 : xdec cX6_readDigits 50 = some (.goto 15, 53, 65, 0) := by decide +kernel
theorem xX6_readDigits_53 : xdec cX6_readDigits 53 = some (.bipush 10, 55, 0, 10) := by decide +kernel
theorem xX6_readDigits_55 : xdec cX6_readDigits 55 = some (.iload_n 2, 56, 2, 0) := by decide +kernel
theorem xX6_readDigits_56 : xdec cX6_readDigits 56 = some (.imul, 57, 0, 0) := by decide +kernel
theorem xX6_readDigits_57 : xdec cX6_readDigits 57 = some (.aload_n 0, 58, 0, 0) := by decide +kernel
theorem xX6_readDigits_58 : xdec cX6_readDigits 58 = some (.invokevirtual 144, 61, 0, 0) := by decide +kernel
theorem xX6_readDigits_61 : xdec cX6_readDigits 61 = some (.iadd, 62, 0, 0) := by decide +kernel
theorem xX6_readDigits_62 : xdec cX6_readDigits 62 = some (.bipush 48, 64, 0, 48) := by decide +kernel
theorem xX6_readDigits_64 : xdec cX6_readDigits 64 = some (.isub, 65, 0, 0) := by decide +kernel
theorem xX6_readDigits_65 : xdec cX6_readDigits 65 = some (.istore_n 2, 66, 2, 0) := by decide +kernel
theorem xX6_readDigits_66 : xdec cX6_readDigits 66 = some (.aload_n 0, 67, 0, 0) := by decide +kernel
theorem xX6_readDigits_67 : xdec cX6_readDigits 67 = some (.dup, 68, 0, 0) := by decide +kernel
theorem xX6_readDigits_68 : xdec cX6_readDigits 68 = some (.getfield 135, 71, 135, 0) := by decide +kernel
theorem xX6_readDigits_71 : xdec cX6_readDigits 71 = some (.aload_n 0, 72, 0, 0) := by decide +kernel
theorem xX6_readDigits_72 : xdec cX6_readDigits 72 = some (.getfield 141, 75, 141, 0) := by decide +kernel
theorem xX6_readDigits_75 : xdec cX6_readDigits 75 = some (.ifCond .eq 7, 78, 82, 0) := by decide +kernel
theorem xX6_readDigits_78 : xdec cX6_readDigits 78 = some (.iconst 0, 79, 0, 0) := by decide +kernel
theorem xX6_readDigits_79 : xdec cX6_readDigits 79 = some (.goto 4, 82, 83, 0) := by decide +kernel
theorem xX6_readDigits_82 : xdec cX6_readDigits 82 = some (.iconst 1, 83, 0, 1) := by decide +kernel
theorem xX6_readDigits_83 : xdec cX6_readDigits 83 = some (.iadd, 84, 0, 0) := by decide +kernel
theorem xX6_readDigits_84 : xdec cX6_readDigits 84 = some (.putfield 135, 87, 135, 0) := by decide +kernel
theorem xX6_readDigits_87 : xdec cX6_readDigits 87 = some (.iinc 3 1, 90, 3, 1) := by decide +kernel
theorem xX6_readDigits_90 : xdec cX6_readDigits 90 = some (.goto (-86), 93, 4, 0) := by decide +kernel
theorem xX6_readDigits_93 : xdec cX6_readDigits 93 = some (.iload_n 2, 94, 2, 0) := by decide +kernel
theorem xX6_readDigits_94 : xdec cX6_readDigits 94 = some (.ireturn, 95, 0, 0) := by decide +kernel
theorem xX6_isLetter_0 : xdec cX6_isLetter 0 = some (.iload_n 0, 1, 0, 0) := by decide +kernel
theorem xX6_isLetter_1 : xdec cX6_isLetter 1 = some (.bipush 103, 3, 0, 103) := by decide +kernel
theorem xX6_isLetter_3 : xdec cX6_isLetter 3 = some (.if_icmp .eq 39, 6, 42, 0) := by decide +kernel
theorem xX6_isLetter_6 : xdec cX6_isLetter 6 = some (.iload_n 0, 7, 0, 0) := by decide +kernel
theorem xX6_isLetter_7 : xdec cX6_isLetter 7 = some (.bipush 108, 9, 0, 108) := by decide +kernel
theorem xX6_isLetter_9 : xdec cX6_isLetter 9 = some (.if_icmp .eq 33, 12, 42, 0) := by decide +kernel
theorem xX6_isLetter_12 : xdec cX6_isLetter 12 = some (.iload_n 0, 13, 0, 0) := by decide +kernel
theorem xX6_isLetter_13 : xdec cX6_isLetter 13 = some (.bipush 119, 15, 0, 119) := by decide +kernel
theorem xX6_isLetter_15 : xdec cX6_isLetter 15 = some (.if_icmp .eq 27, 18, 42, 0) := by decide +kernel
theorem xX6_isLetter_18 : xdec cX6_isLetter 18 = some (.iload_n 0, 19, 0, 0) := by decide +kernel
theorem xX6_isLetter_19 : xdec cX6_isLetter 19 = some (.bipush 104, 21, 0, 104) := by decide +kernel
theorem xX6_isLetter_21 : xdec cX6_isLetter 21 = some (.if_icmp .eq 21, 24, 42, 0) := by decide +kernel
theorem xX6_isLetter_24 : xdec cX6_isLetter 24 = some (.iload_n 0, 25, 0, 0) := by decide +kernel
theorem xX6_isLetter_25 : xdec cX6_isLetter 25 = some (.bipush 101, 27, 0, 101) := by decide +kernel
theorem xX6_isLetter_27 : xdec cX6_isLetter 27 = some (.if_icmp .eq 15, 30, 42, 0) := by decide +kernel
theorem xX6_isLetter_30 : xdec cX6_isLetter 30 = some (.iload_n 0, 31, 0, 0) := by decide +kernel
theorem xX6_isLetter_31 : xdec cX6_isLetter 31 = some (.bipush 98, 33, 0, 98) := by decide +kernel
theorem xX6_isLetter_33 : xdec cX6_isLetter 33 = some (.if_icmp .eq 9, 36, 42, 0) := by decide +kernel
theorem xX6_isLetter_36 : xdec cX6_isLetter 36 = some (.iload_n 0, 37, 0, 0) := by decide +kernel
theorem xX6_isLetter_37 : xdec cX6_isLetter 37 = some (.bipush 100, 39, 0, 100) := by decide +kernel
theorem xX6_isLetter_39 : xdec cX6_isLetter 39 = some (.if_icmp .ne 7, 42, 46, 0) := by decide +kernel
theorem xX6_isLetter_42 : xdec cX6_isLetter 42 = some (.iconst 1, 43, 0, 1) := by decide +kernel
theorem xX6_isLetter_43 : xdec cX6_isLetter 43 = some (.goto 4, 46, 47, 0) := by decide +kernel
theorem xX6_isLetter_46 : xdec cX6_isLetter 46 = some (.iconst 0, 47, 0, 0) := by decide +kernel
theorem xX6_isLetter_47 : xdec cX6_isLetter 47 = some (.ireturn, 48, 0, 0) := by decide +kernel
theorem xX6_readNumbers_0 : xdec cX6_readNumbers 0 = some (.aload_n 0, 1, 0, 0) := by decide +kernel
theorem xX6_readNumbers_1 : xdec cX6_readNumbers 1 = some (.getfield 53, 4, 53, 0) := by decide +kernel
theorem xX6_readNumbers_4 : xdec cX6_readNumbers 4 = some (.iload_n 2, 5, 2, 0) := by decide +kernel
theorem xX6_readNumbers_5 : xdec cX6_readNumbers 5 = some (.aload_n 0, 6, 0, 0) := by decide +kernel
theorem xX6_readNumbers_6 : xdec cX6_readNumbers 6 = some (.iload_n 1, 7, 1, 0) := by decide +kernel
theorem xX6_readNumbers_7 : xdec cX6_readNumbers 7 = some (.bipush 100, 9, 0, 100) := by decide +kernel
theorem xX6_readNumbers_9 : xdec cX6_readNumbers 9 = some (.if_icmp .ne 7, 12, 16, 0) := by decide +kernel
theorem xX6_readNumbers_12 : xdec cX6_readNumbers 12 = some (.iconst 2, 13, 0, 2) := by decide +kernel
theorem xX6_readNumbers_13 : xdec cX6_readNumbers 13 = some (.goto 4, 16, 17, 0) := by decide +kernel
theorem xX6_readNumbers_16 : xdec cX6_readNumbers 16 = some (.iconst 1, 17, 0, 1) := by decide +kernel
theorem xX6_readNumbers_17 : xdec cX6_readNumbers 17 = some (.invokevirtual 152, 20, 0, 0) := by decide +kernel
theorem xX6_readNumbers_20 : xdec cX6_readNumbers 20 = some (.iastore, 21, 0, 0) := by decide +kernel
theorem xX6_readNumbers_21 : xdec cX6_readNumbers 21 = some (.iload_n 1, 22, 1, 0) := by decide +kernel
theorem xX6_readNumbers_22 : xdec cX6_readNumbers 22 = some (.bipush 100, 24, 0, 100) := by decide +kernel
theorem xX6_readNumbers_24 : xdec cX6_readNumbers 24 = some (.if_icmp .eq 32, 27, 56, 0) := by decide +kernel
theorem xX6_readNumbers_27 : xdec cX6_readNumbers 27 = some (.aload_n 0, 28, 0, 0) := by decide +kernel
theorem xX6_readNumbers_28 : xdec cX6_readNumbers 28 = some (.getfield 53, 31, 53, 0) := by decide +kernel
theorem xX6_readNumbers_31 : xdec cX6_readNumbers 31 = some (.iload_n 2, 32, 2, 0) := by decide +kernel
theorem xX6_readNumbers_32 : xdec cX6_readNumbers 32 = some (.iconst 1, 33, 0, 1) := by decide +kernel
theorem xX6_readNumbers_33 : xdec cX6_readNumbers 33 = some (.iadd, 34, 0, 0) := by decide +kernel
theorem xX6_readNumbers_34 : xdec cX6_readNumbers 34 = some (.aload_n 0, 35, 0, 0) := by decide +kernel
theorem xX6_readNumbers_35 : xdec cX6_readNumbers 35 = some (.iload_n 1, 36, 1, 0) := by decide +kernel
theorem xX6_readNumbers_36 : xdec cX6_readNumbers 36 = some (.bipush 108, 38, 0, 108) := by decide +kernel
theorem xX6_readNumbers_38 : xdec cX6_readNumbers 38 = some (.if_icmp .eq 9, 41, 47, 0) := by decide +kernel
theorem xX6_readNumbers_41 : xdec cX6_readNumbers 41 = some (.iload_n 1, 42, 1, 0) := by decide +kernel
theorem xX6_readNumbers_42 : xdec cX6_readNumbers 42 = some (.bipush 104, 44, 0, 104) := by decide +kernel
theorem xX6_readNumbers_44 : xdec cX6_readNumbers 44 = some (.if_icmp .ne 7, 47, 51, 0) := by decide +kernel
theorem xX6_readNumbers_47 : xdec cX6_readNumbers 47 = some (.iconst 2, 48, 0, 2) := by decide +kernel
theorem xX6_readNumbers_48 : xdec cX6_readNumbers 48 = some (.goto 4, 51, 52, 0) := by decide +kernel
theorem xX6_readNumbers_51 : xdec cX6_readNumbers 51 = some (.iconst 1, 52, 0, 1) := by decide +kernel
theorem xX6_readNumbers_52 : xdec cX6_readNumbers 52 = some (.invokevirtual 152, 55, 0, 0) := by decide +kernel
theorem xX6_readNumbers_55 : xdec cX6_readNumbers 55 = some (.iastore, 56, 0, 0) := by decide +kernel
theorem xX6_readNumbers_56 : xdec cX6_readNumbers 56 = some (.iload_n 1, 57, 1, 0) := by decide +kernel
theorem xX6_readNumbers_57 : xdec cX6_readNumbers 57 = some (.bipush 103, 59, 0, 103) := by decide +kernel
theorem xX6_readNumbers_59 : xdec cX6_readNumbers 59 = some (.if_icmp .ne 16, 62, 75, 0) := by decide +kernel
theorem xX6_readNumbers_62 : xdec cX6_readNumbers 62 = some (.aload_n 0, 63, 0, 0) := by decide +kernel
theorem xX6_readNumbers_63 : xdec cX6_readNumbers 63 = some (.getfield 53, 66, 53, 0) := by decide +kernel
theorem xX6_readNumbers_66 : xdec cX6_readNumbers 66 = some (.iload_n 2, 67, 2, 0) := by decide +kernel
theorem xX6_readNumbers_67 : xdec cX6_readNumbers 67 = some (.iconst 2, 68, 0, 2) := by decide +kernel
theorem xX6_readNumbers_68 : xdec cX6_readNumbers 68 = some (.iadd, 69, 0, 0) := by decide +kernel
theorem xX6_readNumbers_69 : xdec cX6_readNumbers 69 = some (.aload_n 0, 70, 0, 0) := by decide +kernel
theorem xX6_readNumbers_70 : xdec cX6_readNumbers 70 = some (.iconst 1, 71, 0, 1) := by decide +kernel
theorem xX6_readNumbers_71 : xdec cX6_readNumbers 71 = some (.invokevirtual 152, 74, 0, 0) := by decide +kernel
theorem xX6_readNumbers_74 : xdec cX6_readNumbers 74 = some (.iastore, 75, 0, 0) := by decide +kernel
theorem xX6_readNumbers_75 : xdec cX6_readNumbers 75 = some (.return_, 76, 0, 0) := by decide +kernel
theorem xX6_readStatement_0 : xdec cX6_readStatement 0 = some (.aload_n 0, 1, 0, 0) := by decide +kernel
theorem xX6_readStatement_1 : xdec cX6_readStatement 1 = some (.getfield 155, 4, 155, 0) := by decide +kernel
theorem xX6_readStatement_4 : xdec cX6_readStatement 4 = some (.istore_n 1, 5, 1, 0) := by decide +kernel
theorem xX6_readStatement_5 : xdec cX6_readStatement 5 = some (.aload_n 0, 6, 0, 0) := by decide +kernel
theorem xX6_readStatement_6 : xdec cX6_readStatement 6 = some (.invokevirtual 144, 9, 0, 0) := by decide +kernel
theorem xX6_readStatement_9 : xdec cX6_readStatement 9 = some (.istore_n 2, 10, 2, 0) := by decide +kernel
theorem xX6_readStatement_10 : xdec cX6_readStatement 10 = some (.aload_n 0, 11, 0, 0) := by decide +kernel
theorem xX6_readStatement_11 : xdec cX6_readStatement 11 = some (.getfield 47, 14, 47, 0) := by decide +kernel
theorem xX6_readStatement_14 : xdec cX6_readStatement 14 = some (.iload_n 1, 15, 1, 0) := by decide +kernel
theorem xX6_readStatement_15 : xdec cX6_readStatement 15 = some (.aload_n 0, 16, 0, 0) := by decide +kernel
theorem xX6_readStatement_16 : xdec cX6_readStatement 16 = some (.getfield 135, 19, 135, 0) := by decide +kernel
theorem xX6_readStatement_19 : xdec cX6_readStatement 19 = some (.iastore, 20, 0, 0) := by decide +kernel
theorem xX6_readStatement_20 : xdec cX6_readStatement 20 = some (.aload_n 0, 21, 0, 0) := by decide +kernel
theorem xX6_readStatement_21 : xdec cX6_readStatement 21 = some (.getfield 50, 24, 50, 0) := by decide +kernel
theorem xX6_readStatement_24 : xdec cX6_readStatement 24 = some (.iload_n 1, 25, 1, 0) := by decide +kernel
theorem xX6_readStatement_25 : xdec cX6_readStatement 25 = some (.iload_n 2, 26, 2, 0) := by decide +kernel
theorem xX6_readStatement_26 : xdec cX6_readStatement 26 = some (.iastore, 27, 0, 0) := by decide +kernel
theorem xX6_readStatement_27 : xdec cX6_readStatement 27 = some (.aload_n 0, 28, 0, 0) := by decide +kernel
theorem xX6_readStatement_28 : xdec cX6_readStatement 28 = some (.aload_n 0, 29, 0, 0) := by decide +kernel
theorem xX6_readStatement_29 : xdec cX6_readStatement 29 = some (.getfield 141, 32, 141, 0) := by decide +kernel
theorem xX6_readStatement_32 : xdec cX6_readStatement 32 = some (.ifCond .ne 10, 35, 42, 0) := by decide +kernel
theorem xX6_readStatement_35 : xdec cX6_readStatement 35 = some (.iload_n 2, 36, 2, 0) := by decide +kernel
theorem xX6_readStatement_36 : xdec cX6_readStatement 36 = some (.invokestatic 158, 39, 0, 0) := by decide +kernel
theorem xX6_readStatement_39 : xdec cX6_readStatement 39 = some (.ifCond .ne 7, 42, 46, 0) := by decide +kernel
theorem xX6_readStatement_42 : xdec cX6_readStatement 42 = some (.iconst 1, 43, 0, 1) := by decide +kernel
theorem xX6_readStatement_43 : xdec cX6_readStatement 43 = some (.goto 4, 46, 47, 0) := by decide +kernel
theorem xX6_readStatement_46 : xdec cX6_readStatement 46 = some (.iconst 0, 47, 0, 0) := by decide +kernel
theorem xX6_readStatement_47 : xdec cX6_readStatement 47 = some (.putfield 141, 50, 141, 0) := by decide +kernel
theorem xX6_readStatement_50 : xdec cX6_readStatement 50 = some (.aload_n 0, 51, 0, 0) := by decide +kernel
theorem xX6_readStatement_51 : xdec cX6_readStatement 51 = some (.dup, 52, 0, 0) := by decide +kernel
theorem xX6_readStatement_52 : xdec cX6_readStatement 52 = some (.getfield 135, 55, 135, 0) := by decide +kernel
theorem xX6_readStatement_55 : xdec cX6_readStatement 55 = some (.aload_n 0, 56, 0, 0) := by decide +kernel
theorem xX6_readStatement_56 : xdec cX6_readStatement 56 = some (.getfield 141, 59, 141, 0) := by decide +kernel
theorem xX6_readStatement_59 : xdec cX6_readStatement 59 = some (.ifCond .eq 7, 62, 66, 0) := by decide +kernel
theorem xX6_readStatement_62 : xdec cX6_readStatement 62 = some (.iconst 0, 63, 0, 0) := by decide +kernel
theorem xX6_readStatement_63 : xdec cX6_readStatement 63 = some (.goto 4, 66, 67, 0) := by decide +kernel
theorem xX6_readStatement_66 : xdec cX6_readStatement 66 = some (.iconst 1, 67, 0, 1) := by decide +kernel
theorem xX6_readStatement_67 : xdec cX6_readStatement 67 = some (.iadd, 68, 0, 0) := by decide +kernel
theorem xX6_readStatement_68 : xdec cX6_readStatement 68 = some (.putfield 135, 71, 135, 0) := by decide +kernel
theorem xX6_readStatement_71 : xdec cX6_readStatement 71 = some (.aload_n 0, 72, 0, 0) := by decide +kernel
theorem xX6_readStatement_72 : xdec cX6_readStatement 72 = some (.getfield 141, 75, 141, 0) := by decide +kernel
theorem xX6_readStatement_75 : xdec cX6_readStatement 75 = some (.ifCond .ne 11, 78, 86, 0) := by decide +kernel
theorem xX6_readStatement_78 : xdec cX6_readStatement 78 = some (.aload_n 0, 79, 0, 0) := by decide +kernel
theorem xX6_readStatement_79 : xdec cX6_readStatement 79 = some (.iload_n 2, 80, 2, 0) := by decide +kernel
theorem xX6_readStatement_80 : xdec cX6_readStatement 80 = some (.iconst 3, 81, 0, 3) := by decide +kernel
theorem xX6_readStatement_81 : xdec cX6_readStatement 81 = some (.iload_n 1, 82, 1, 0) := by decide +kernel
theorem xX6_readStatement_82 : xdec cX6_readStatement 82 = some (.imul, 83, 0, 0) := by decide +kernel
theorem xX6_readStatement_83 : xdec cX6_readStatement 83 = some (.invokevirtual 162, 86, 0, 0) := by decide +kernel
theorem xX6_readStatement_86 : xdec cX6_readStatement 86 = some (.aload_n 0, 87, 0, 0) := by decide +kernel
theorem xX6_readStatement_87 : xdec cX6_readStatement 87 = some (.aload_n 0, 88, 0, 0) := by decide +kernel
theorem xX6_readStatement_88 : xdec cX6_readStatement 88 = some (.getfield 141, 91, 141, 0) := by decide +kernel
theorem xX6_readStatement_91 : xdec cX6_readStatement 91 = some (.ifCond .ne 12, 94, 103, 0) := by decide +kernel
theorem xX6_readStatement_94 : xdec cX6_readStatement 94 = some (.aload_n 0, 95, 0, 0) := by decide +kernel
theorem xX6_readStatement_95 : xdec cX6_readStatement 95 = some (.invokevirtual 144, 98, 0, 0) := by decide +kernel
theorem xX6_readStatement_98 : xdec cX6_readStatement 98 = some (.bipush 59, 100, 0, 59) := by decide +kernel
theorem xX6_readStatement_100 : xdec cX6_readStatement 100 = some (.if_icmp .eq 7, 103, 107, 0) := by decide +kernel
theorem xX6_readStatement_103 : xdec cX6_readStatement 103 = some (.iconst 1, 104, 0, 1) := by decide +kernel
theorem xX6_readStatement_104 : xdec cX6_readStatement 104 = some (.goto 4, 107, 108, 0) := by decide +kernel
theorem xX6_readStatement_107 : xdec cX6_readStatement 107 = some (.iconst 0, 108, 0, 0) := by decide +kernel
theorem xX6_readStatement_108 : xdec cX6_readStatement 108 = some (.putfield 141, 111, 141, 0) := by decide +kernel
theorem xX6_readStatement_111 : xdec cX6_readStatement 111 = some (.aload_n 0, 112, 0, 0) := by decide +kernel
theorem xX6_readStatement_112 : xdec cX6_readStatement 112 = some (.dup, 113, 0, 0) := by decide +kernel
theorem xX6_readStatement_113 : xdec cX6_readStatement 113 = some (.getfield 135, 116, 135, 0) := by decide +kernel
theorem xX6_readStatement_116 : xdec cX6_readStatement 116 = some (.aload_n 0, 117, 0, 0) := by decide +kernel
theorem xX6_readStatement_117 : xdec cX6_readStatement 117 = some (.getfield 141, 120, 141, 0) := by decide +kernel
theorem xX6_readStatement_120 : xdec cX6_readStatement 120 = some (.ifCond .eq 7, 123, 127, 0) := by decide +kernel
theorem xX6_readStatement_123 : xdec cX6_readStatement 123 = some (.iconst 0, 124, 0, 0) := by decide +kernel
theorem xX6_readStatement_124 : xdec cX6_readStatement 124 = some (.goto 4, 127, 128, 0) := by decide +kernel
theorem xX6_readStatement_127 : xdec cX6_readStatement 127 = some (.iconst 1, 128, 0, 1) := by decide +kernel
theorem xX6_readStatement_128 : xdec cX6_readStatement 128 = some (.iadd, 129, 0, 0) := by decide +kernel
theorem xX6_readStatement_129 : xdec cX6_readStatement 129 = some (.putfield 135, 132, 135, 0) := by decide +kernel
theorem xX6_readStatement_132 : xdec cX6_readStatement 132 = some (.aload_n 0, 133, 0, 0) := by decide +kernel
theorem xX6_readStatement_133 : xdec cX6_readStatement 133 = some (.dup, 134, 0, 0) := by decide +kernel
theorem xX6_readStatement_134 : xdec cX6_readStatement 134 = some (.getfield 155, 137, 155, 0) := by decide +kernel
theorem xX6_readStatement_137 : xdec cX6_readStatement 137 = some (.iconst 1, 138, 0, 1) := by decide +kernel
theorem xX6_readStatement_138 : xdec cX6_readStatement 138 = some (.iadd, 139, 0, 0) := by decide +kernel
theorem xX6_readStatement_139 : xdec cX6_readStatement 139 = some (.putfield 155, 142, 155, 0) := by decide +kernel
theorem xX6_readStatement_142 : xdec cX6_readStatement 142 = some (.return_, 143, 0, 0) := by decide +kernel
theorem xX6_guestComes_0 : xdec cX6_guestComes 0 = some (.iload_n 1, 1, 1, 0) := by decide +kernel
theorem xX6_guestComes_1 : xdec cX6_guestComes 1 = some (.bipush 8, 3, 0, 8) := by decide +kernel
theorem xX6_guestComes_3 : xdec cX6_guestComes 3 = some (.if_icmp .ge 16, 6, 19, 0) := by decide +kernel
theorem xX6_guestComes_6 : xdec cX6_guestComes 6 = some (.aload_n 0, 7, 0, 0) := by decide +kernel
theorem xX6_guestComes_7 : xdec cX6_guestComes 7 = some (.getfield 85, 10, 85, 0) := by decide +kernel
theorem xX6_guestComes_10 : xdec cX6_guestComes 10 = some (.bipush 7, 12, 0, 7) := by decide +kernel
theorem xX6_guestComes_12 : xdec cX6_guestComes 12 = some (.if_icmp .ge 7, 15, 19, 0) := by decide +kernel
theorem xX6_guestComes_15 : xdec cX6_guestComes 15 = some (.iconst 1, 16, 0, 1) := by decide +kernel
theorem xX6_guestComes_16 : xdec cX6_guestComes 16 = some (.goto 4, 19, 20, 0) := by decide +kernel
theorem xX6_guestComes_19 : xdec cX6_guestComes 19 = some (.iconst 0, 20, 0, 0) := by decide +kernel
theorem xX6_guestComes_20 : xdec cX6_guestComes 20 = some (.istore 4, 22, 4, 0) := by decide +kernel
theorem xX6_guestComes_22 : xdec cX6_guestComes 22 = some (.iload 4, 24, 4, 0) := by decide +kernel
theorem xX6_guestComes_24 : xdec cX6_guestComes 24 = some (.ifCond .eq 79, 27, 103, 0) := by decide +kernel
theorem xX6_guestComes_27 : xdec cX6_guestComes 27 = some (.aload_n 0, 28, 0, 0) := by decide +kernel
theorem xX6_guestComes_28 : xdec cX6_guestComes 28 = some (.getfield 13, 31, 13, 0) := by decide +kernel
theorem xX6_guestComes_31 : xdec cX6_guestComes 31 = some (.aload_n 0, 32, 0, 0) := by decide +kernel
theorem xX6_guestComes_32 : xdec cX6_guestComes 32 = some (.getfield 85, 35, 85, 0) := by decide +kernel
theorem xX6_guestComes_35 : xdec cX6_guestComes 35 = some (.iload_n 1, 36, 1, 0) := by decide +kernel
theorem xX6_guestComes_36 : xdec cX6_guestComes 36 = some (.iastore, 37, 0, 0) := by decide +kernel
theorem xX6_guestComes_37 : xdec cX6_guestComes 37 = some (.aload_n 0, 38, 0, 0) := by decide +kernel
theorem xX6_guestComes_38 : xdec cX6_guestComes 38 = some (.getfield 16, 41, 16, 0) := by decide +kernel
theorem xX6_guestComes_41 : xdec cX6_guestComes 41 = some (.aload_n 0, 42, 0, 0) := by decide +kernel
theorem xX6_guestComes_42 : xdec cX6_guestComes 42 = some (.getfield 85, 45, 85, 0) := by decide +kernel
theorem xX6_guestComes_45 : xdec cX6_guestComes 45 = some (.iload_n 2, 46, 2, 0) := by decide +kernel
theorem xX6_guestComes_46 : xdec cX6_guestComes 46 = some (.iastore, 47, 0, 0) := by decide +kernel
theorem xX6_guestComes_47 : xdec cX6_guestComes 47 = some (.aload_n 0, 48, 0, 0) := by decide +kernel
theorem xX6_guestComes_48 : xdec cX6_guestComes 48 = some (.getfield 19, 51, 19, 0) := by decide +kernel
theorem xX6_guestComes_51 : xdec cX6_guestComes 51 = some (.aload_n 0, 52, 0, 0) := by decide +kernel
theorem xX6_guestComes_52 : xdec cX6_guestComes 52 = some (.getfield 85, 55, 85, 0) := by decide +kernel
theorem xX6_guestComes_55 : xdec cX6_guestComes 55 = some (.iload_n 3, 56, 3, 0) := by decide +kernel
theorem xX6_guestComes_56 : xdec cX6_guestComes 56 = some (.iastore, 57, 0, 0) := by decide +kernel
theorem xX6_guestComes_57 : xdec cX6_guestComes 57 = some (.aload_n 0, 58, 0, 0) := by decide +kernel
theorem xX6_guestComes_58 : xdec cX6_guestComes 58 = some (.getfield 22, 61, 22, 0) := by decide +kernel
theorem xX6_guestComes_61 : xdec cX6_guestComes 61 = some (.aload_n 0, 62, 0, 0) := by decide +kernel
theorem xX6_guestComes_62 : xdec cX6_guestComes 62 = some (.getfield 85, 65, 85, 0) := by decide +kernel
theorem xX6_guestComes_65 : xdec cX6_guestComes 65 = some (.iconst 0, 66, 0, 0) := by decide +kernel
theorem xX6_guestComes_66 : xdec cX6_guestComes 66 = some (.iastore, 67, 0, 0) := by decide +kernel
theorem xX6_guestComes_67 : xdec cX6_guestComes 67 = some (.aload_n 0, 68, 0, 0) := by decide +kernel
theorem xX6_guestComes_68 : xdec cX6_guestComes 68 = some (.getfield 25, 71, 25, 0) := by decide +kernel
theorem xX6_guestComes_71 : xdec cX6_guestComes 71 = some (.aload_n 0, 72, 0, 0) := by decide +kernel
theorem xX6_guestComes_72 : xdec cX6_guestComes 72 = some (.getfield 85, 75, 85, 0) := by decide +kernel
theorem xX6_guestComes_75 : xdec cX6_guestComes 75 = some (.bipush 50, 77, 0, 50) := by decide +kernel
theorem xX6_guestComes_77 : xdec cX6_guestComes 77 = some (.iastore, 78, 0, 0) := by decide +kernel
theorem xX6_guestComes_78 : xdec cX6_guestComes 78 = some (.aload_n 0, 79, 0, 0) := by decide +kernel
theorem xX6_guestComes_79 : xdec cX6_guestComes 79 = some (.dup, 80, 0, 0) := by decide +kernel
theorem xX6_guestComes_80 : xdec cX6_guestComes 80 = some (.getfield 125, 83, 125, 0) := by decide +kernel
theorem xX6_guestComes_83 : xdec cX6_guestComes 83 = some (.iconst 1, 84, 0, 1) := by decide +kernel
theorem xX6_guestComes_84 : xdec cX6_guestComes 84 = some (.aload_n 0, 85, 0, 0) := by decide +kernel
theorem xX6_guestComes_85 : xdec cX6_guestComes 85 = some (.getfield 85, 88, 85, 0) := by decide +kernel
theorem xX6_guestComes_88 : xdec cX6_guestComes 88 = some (.ishl, 89, 0, 0) := by decide +kernel
theorem xX6_guestComes_89 : xdec cX6_guestComes 89 = some (.ior, 90, 0, 0) := by decide +kernel
theorem xX6_guestComes_90 : xdec cX6_guestComes 90 = some (.putfield 125, 93, 125, 0) := by decide +kernel
theorem xX6_guestComes_93 : xdec cX6_guestComes 93 = some (.aload_n 0, 94, 0, 0) := by decide +kernel
theorem xX6_guestComes_94 : xdec cX6_guestComes 94 = some (.dup, 95, 0, 0) := by decide +kernel
theorem xX6_guestComes_95 : xdec cX6_guestComes 95 = some (.getfield 85, 98, 85, 0) := by decide +kernel
theorem xX6_guestComes_98 : xdec cX6_guestComes 98 = some (.iconst 1, 99, 0, 1) := by decide +kernel
theorem xX6_guestComes_99 : xdec cX6_guestComes 99 = some (.iadd, 100, 0, 0) := by decide +kernel
theorem xX6_guestComes_100 : xdec cX6_guestComes 100 = some (.putfield 85, 103, 85, 0) := by decide +kernel
theorem xX6_guestComes_103 : xdec cX6_guestComes 103 = some (.iload 4, 105, 4, 0) := by decide +kernel
theorem xX6_guestComes_105 : xdec cX6_guestComes 105 = some (.ireturn, 106, 0, 0) := by decide +kernel
theorem xX6_nightsCome_0 : xdec cX6_nightsCome 0 = some (.iload_n 1, 1, 1, 0) := by decide +kernel
theorem xX6_nightsCome_1 : xdec cX6_nightsCome 1 = some (.i2l, 2, 0, 0) := by decide +kernel
theorem xX6_nightsCome_2 : xdec cX6_nightsCome 2 = some (.lconst 1, 3, 0, 1) := by decide +kernel
theorem xX6_nightsCome_3 : xdec cX6_nightsCome 3 = some (.ldc2_w 166, 6, 166, 0) := by decide +kernel
theorem xX6_nightsCome_6 : xdec cX6_nightsCome 6 = some (.invokestatic 81, 9, 0, 0) := by decide +kernel
theorem xX6_nightsCome_9 : xdec cX6_nightsCome 9 = some (.ifCond .eq 19, 12, 28, 0) := by decide +kernel
theorem xX6_nightsCome_12 : xdec cX6_nightsCome 12 = some (.aload_n 0, 13, 0, 0) := by decide +kernel
theorem xX6_nightsCome_13 : xdec cX6_nightsCome 13 = some (.getfield 92, 16, 92, 0) := by decide +kernel
theorem xX6_nightsCome_16 : xdec cX6_nightsCome 16 = some (.iload_n 1, 17, 1, 0) := by decide +kernel
theorem xX6_nightsCome_17 : xdec cX6_nightsCome 17 = some (.iadd, 18, 0, 0) := by decide +kernel
theorem xX6_nightsCome_18 : xdec cX6_nightsCome 18 = some (.sipush 999, 21, 0, 999) := by decide +kernel
theorem xX6_nightsCome_21 : xdec cX6_nightsCome 21 = some (.if_icmp .gt 7, 24, 28, 0) := by decide +kernel
theorem xX6_nightsCome_24 : xdec cX6_nightsCome 24 = some (.iconst 1, 25, 0, 1) := by decide +kernel
theorem xX6_nightsCome_25 : xdec cX6_nightsCome 25 = some (.goto 4, 28, 29, 0) := by decide +kernel
theorem xX6_nightsCome_28 : xdec cX6_nightsCome 28 = some (.iconst 0, 29, 0, 0) := by decide +kernel
theorem xX6_nightsCome_29 : xdec cX6_nightsCome 29 = some (.istore_n 2, 30, 2, 0) := by decide +kernel
theorem xX6_nightsCome_30 : xdec cX6_nightsCome 30 = some (.iload_n 2, 31, 2, 0) := by decide +kernel
theorem xX6_nightsCome_31 : xdec cX6_nightsCome 31 = some (.ifCond .eq 8, 34, 39, 0) := by decide +kernel
theorem xX6_nightsCome_34 : xdec cX6_nightsCome 34 = some (.aload_n 0, 35, 0, 0) := by decide +kernel
theorem xX6_nightsCome_35 : xdec cX6_nightsCome 35 = some (.iload_n 1, 36, 1, 0) := by decide +kernel
theorem xX6_nightsCome_36 : xdec cX6_nightsCome 36 = some (.invokevirtual 168, 39, 0, 0) := by decide +kernel
theorem xX6_nightsCome_39 : xdec cX6_nightsCome 39 = some (.iload_n 2, 40, 2, 0) := by decide +kernel
theorem xX6_nightsCome_40 : xdec cX6_nightsCome 40 = some (.ireturn, 41, 0, 0) := by decide +kernel
theorem xX6_ofGuest_0 : xdec cX6_ofGuest 0 = some (.aload_n 0, 1, 0, 0) := by decide +kernel
theorem xX6_ofGuest_1 : xdec cX6_ofGuest 1 = some (.iload_n 2, 2, 2, 0) := by decide +kernel
theorem xX6_ofGuest_2 : xdec cX6_ofGuest 2 = some (.invokevirtual 171, 5, 0, 0) := by decide +kernel
theorem xX6_ofGuest_5 : xdec cX6_ofGuest 5 = some (.ifCond .eq 17, 8, 22, 0) := by decide +kernel
theorem xX6_ofGuest_8 : xdec cX6_ofGuest 8 = some (.iload_n 1, 9, 1, 0) := by decide +kernel
theorem xX6_ofGuest_9 : xdec cX6_ofGuest 9 = some (.bipush 104, 11, 0, 104) := by decide +kernel
theorem xX6_ofGuest_11 : xdec cX6_ofGuest 11 = some (.if_icmp .ne 7, 14, 18, 0) := by decide +kernel
theorem xX6_ofGuest_14 : xdec cX6_ofGuest 14 = some (.iload_n 3, 15, 3, 0) := by decide +kernel
theorem xX6_ofGuest_15 : xdec cX6_ofGuest 15 = some (.ifCond .le 7, 18, 22, 0) := by decide +kernel
theorem xX6_ofGuest_18 : xdec cX6_ofGuest 18 = some (.iconst 1, 19, 0, 1) := by decide +kernel
theorem xX6_ofGuest_19 : xdec cX6_ofGuest 19 = some (.goto 4, 22, 23, 0) := by decide +kernel
theorem xX6_ofGuest_22 : xdec cX6_ofGuest 22 = some (.iconst 0, 23, 0, 0) := by decide +kernel
theorem xX6_ofGuest_23 : xdec cX6_ofGuest 23 = some (.istore 4, 25, 4, 0) := by decide +kernel
theorem xX6_ofGuest_25 : xdec cX6_ofGuest 25 = some (.iload 4, 27, 4, 0) := by decide +kernel
theorem xX6_ofGuest_27 : xdec cX6_ofGuest 27 = some (.ifCond .eq 16, 30, 43, 0) := by decide +kernel
theorem xX6_ofGuest_30 : xdec cX6_ofGuest 30 = some (.iload_n 1, 31, 1, 0) := by decide +kernel
theorem xX6_ofGuest_31 : xdec cX6_ofGuest 31 = some (.bipush 119, 33, 0, 119) := by decide +kernel
theorem xX6_ofGuest_33 : xdec cX6_ofGuest 33 = some (.if_icmp .ne 10, 36, 43, 0) := by decide +kernel
theorem xX6_ofGuest_36 : xdec cX6_ofGuest 36 = some (.aload_n 0, 37, 0, 0) := by decide +kernel
theorem xX6_ofGuest_37 : xdec cX6_ofGuest 37 = some (.getfield 19, 40, 19, 0) := by decide +kernel
theorem xX6_ofGuest_40 : xdec cX6_ofGuest 40 = some (.iload_n 2, 41, 2, 0) := by decide +kernel
theorem xX6_ofGuest_41 : xdec cX6_ofGuest 41 = some (.iload_n 3, 42, 3, 0) := by decide +kernel
theorem xX6_ofGuest_42 : xdec cX6_ofGuest 42 = some (.iastore, 43, 0, 0) := by decide +kernel
theorem xX6_ofGuest_43 : xdec cX6_ofGuest 43 = some (.iload 4, 45, 4, 0) := by decide +kernel
theorem xX6_ofGuest_45 : xdec cX6_ofGuest 45 = some (.ifCond .eq 16, 48, 61, 0) := by decide +kernel
theorem xX6_ofGuest_48 : xdec cX6_ofGuest 48 = some (.iload_n 1, 49, 1, 0) := by decide +kernel
theorem xX6_ofGuest_49 : xdec cX6_ofGuest 49 = some (.bipush 101, 51, 0, 101) := by decide +kernel
theorem xX6_ofGuest_51 : xdec cX6_ofGuest 51 = some (.if_icmp .ne 10, 54, 61, 0) := by decide +kernel
theorem xX6_ofGuest_54 : xdec cX6_ofGuest 54 = some (.aload_n 0, 55, 0, 0) := by decide +kernel
theorem xX6_ofGuest_55 : xdec cX6_ofGuest 55 = some (.getfield 22, 58, 22, 0) := by decide +kernel
theorem xX6_ofGuest_58 : xdec cX6_ofGuest 58 = some (.iload_n 2, 59, 2, 0) := by decide +kernel
theorem xX6_ofGuest_59 : xdec cX6_ofGuest 59 = some (.iload_n 3, 60, 3, 0) := by decide +kernel
theorem xX6_ofGuest_60 : xdec cX6_ofGuest 60 = some (.iastore, 61, 0, 0) := by decide +kernel
theorem xX6_ofGuest_61 : xdec cX6_ofGuest 61 = some (.iload 4, 63, 4, 0) := by decide +kernel
theorem xX6_ofGuest_63 : xdec cX6_ofGuest 63 = some (.ifCond .eq 28, 66, 91, 0) := by decide +kernel
theorem xX6_ofGuest_66 : xdec cX6_ofGuest 66 = some (.iload_n 1, 67, 1, 0) := by decide +kernel
theorem xX6_ofGuest_67 : xdec cX6_ofGuest 67 = some (.bipush 104, 69, 0, 104) := by decide +kernel
theorem xX6_ofGuest_69 : xdec cX6_ofGuest 69 = some (.if_icmp .ne 22, 72, 91, 0) := by decide +kernel
theorem xX6_ofGuest_72 : xdec cX6_ofGuest 72 = some (.aload_n 0, 73, 0, 0) := by decide +kernel
theorem xX6_ofGuest_73 : xdec cX6_ofGuest 73 = some (.getfield 25, 76, 25, 0) := by decide +kernel
theorem xX6_ofGuest_76 : xdec cX6_ofGuest 76 = some (.iload_n 2, 77, 2, 0) := by decide +kernel
theorem xX6_ofGuest_77 : xdec cX6_ofGuest 77 = some (.iload_n 3, 78, 3, 0) := by decide +kernel
theorem xX6_ofGuest_78 : xdec cX6_ofGuest 78 = some (.iastore, 79, 0, 0) := by decide +kernel
theorem xX6_ofGuest_79 : xdec cX6_ofGuest 79 = some (.aload_n 0, 80, 0, 0) := by decide +kernel
theorem xX6_ofGuest_80 : xdec cX6_ofGuest 80 = some (.dup, 81, 0, 0) := by decide +kernel
theorem xX6_ofGuest_81 : xdec cX6_ofGuest 81 = some (.getfield 125, 84, 125, 0) := by decide +kernel
theorem xX6_ofGuest_84 : xdec cX6_ofGuest 84 = some (.iconst 1, 85, 0, 1) := by decide +kernel
theorem xX6_ofGuest_85 : xdec cX6_ofGuest 85 = some (.iload_n 2, 86, 2, 0) := by decide +kernel
theorem xX6_ofGuest_86 : xdec cX6_ofGuest 86 = some (.ishl, 87, 0, 0) := by decide +kernel
theorem xX6_ofGuest_87 : xdec cX6_ofGuest 87 = some (.ior, 88, 0, 0) := by decide +kernel
theorem xX6_ofGuest_88 : xdec cX6_ofGuest 88 = some (.putfield 125, 91, 125, 0) := by decide +kernel
theorem xX6_ofGuest_91 : xdec cX6_ofGuest 91 = some (.iload 4, 93, 4, 0) := by decide +kernel
theorem xX6_ofGuest_93 : xdec cX6_ofGuest 93 = some (.ireturn, 94, 0, 0) := by decide +kernel
theorem xX6_comesTold_0 : xdec cX6_comesTold 0 = some (.aload_n 0, 1, 0, 0) := by decide +kernel
theorem xX6_comesTold_1 : xdec cX6_comesTold 1 = some (.getfield 53, 4, 53, 0) := by decide +kernel
theorem xX6_comesTold_4 : xdec cX6_comesTold 4 = some (.iconst 3, 5, 0, 3) := by decide +kernel
theorem xX6_comesTold_5 : xdec cX6_comesTold 5 = some (.iload_n 1, 6, 1, 0) := by decide +kernel
theorem xX6_comesTold_6 : xdec cX6_comesTold 6 = some (.imul, 7, 0, 0) := by decide +kernel
theorem xX6_comesTold_7 : xdec cX6_comesTold 7 = some (.iaload, 8, 0, 0) := by decide +kernel
theorem xX6_comesTold_8 : xdec cX6_comesTold 8 = some (.istore_n 2, 9, 2, 0) := by decide +kernel
theorem xX6_comesTold_9 : xdec cX6_comesTold 9 = some (.aload_n 0, 10, 0, 0) := by decide +kernel
theorem xX6_comesTold_10 : xdec cX6_comesTold 10 = some (.getfield 53, 13, 53, 0) := by decide +kernel
theorem xX6_comesTold_13 : xdec cX6_comesTold 13 = some (.iconst 3, 14, 0, 3) := by decide +kernel
theorem xX6_comesTold_14 : xdec cX6_comesTold 14 = some (.iload_n 1, 15, 1, 0) := by decide +kernel
theorem xX6_comesTold_15 : xdec cX6_comesTold 15 = some (.imul, 16, 0, 0) := by decide +kernel
theorem xX6_comesTold_16 : xdec cX6_comesTold 16 = some (.iconst 1, 17, 0, 1) := by decide +kernel
theorem xX6_comesTold_17 : xdec cX6_comesTold 17 = some (.iadd, 18, 0, 0) := by decide +kernel
theorem xX6_comesTold_18 : xdec cX6_comesTold 18 = some (.iaload, 19, 0, 0) := by decide +kernel
theorem xX6_comesTold_19 : xdec cX6_comesTold 19 = some (.istore_n 3, 20, 3, 0) := by decide +kernel
theorem xX6_comesTold_20 : xdec cX6_comesTold 20 = some (.aload_n 0, 21, 0, 0) := by decide +kernel
theorem xX6_comesTold_21 : xdec cX6_comesTold 21 = some (.getfield 50, 24, 50, 0) := by decide +kernel
theorem xX6_comesTold_24 : xdec cX6_comesTold 24 = some (.iload_n 1, 25, 1, 0) := by decide +kernel
theorem xX6_comesTold_25 : xdec cX6_comesTold 25 = some (.iaload, 26, 0, 0) := by decide +kernel
theorem xX6_comesTold_26 : xdec cX6_comesTold 26 = some (.lookupswitch 95 #[(98, 68), (100, 89), (103, 42), (108, 59)], 68, 0, 0) := by decide +kernel
theorem xX6_comesTold_68 : xdec cX6_comesTold 68 = some (.aload_n 0, 69, 0, 0) := by decide +kernel
theorem xX6_comesTold_69 : xdec cX6_comesTold 69 = some (.iload_n 2, 70, 2, 0) := by decide +kernel
theorem xX6_comesTold_70 : xdec cX6_comesTold 70 = some (.iload_n 3, 71, 3, 0) := by decide +kernel
theorem xX6_comesTold_71 : xdec cX6_comesTold 71 = some (.aload_n 0, 72, 0, 0) := by decide +kernel
theorem xX6_comesTold_72 : xdec cX6_comesTold 72 = some (.getfield 53, 75, 53, 0) := by decide +kernel
theorem xX6_comesTold_75 : xdec cX6_comesTold 75 = some (.iconst 3, 76, 0, 3) := by decide +kernel
theorem xX6_comesTold_76 : xdec cX6_comesTold 76 = some (.iload_n 1, 77, 1, 0) := by decide +kernel
theorem xX6_comesTold_77 : xdec cX6_comesTold 77 = some (.imul, 78, 0, 0) := by decide +kernel
theorem xX6_comesTold_78 : xdec cX6_comesTold 78 = some (.iconst 2, 79, 0, 2) := by decide +kernel
theorem xX6_comesTold_79 : xdec cX6_comesTold 79 = some (.iadd, 80, 0, 0) := by decide +kernel
theorem xX6_comesTold_80 : xdec cX6_comesTold 80 = some (.iaload, 81, 0, 0) := by decide +kernel
theorem xX6_comesTold_81 : xdec cX6_comesTold 81 = some (.invokevirtual 174, 84, 0, 0) := by decide +kernel
theorem xX6_comesTold_84 : xdec cX6_comesTold 84 = some (.ireturn, 85, 0, 0) := by decide +kernel
theorem xX6_comesTold_85 : xdec cX6_comesTold 85 = some (.aload_n 0, 86, 0, 0) := by decide +kernel
theorem xX6_comesTold_86 : xdec cX6_comesTold 86 = some (.getfield 7, 89, 7, 0) := by decide +kernel
theorem xX6_comesTold_89 : xdec cX6_comesTold 89 = some (.iload_n 2, 90, 2, 0) := by decide +kernel
theorem xX6_comesTold_90 : xdec cX6_comesTold 90 = some (.iload_n 3, 91, 3, 0) := by decide +kernel
theorem xX6_comesTold_91 : xdec cX6_comesTold 91 = some (.iastore, 92, 0, 0) := by decide +kernel
theorem xX6_comesTold_92 : xdec cX6_comesTold 92 = some (.iconst 1, 93, 0, 1) := by decide +kernel
theorem xX6_comesTold_93 : xdec cX6_comesTold 93 = some (.ireturn, 94, 0, 0) := by decide +kernel
theorem xX6_comesTold_94 : xdec cX6_comesTold 94 = some (.aload_n 0, 95, 0, 0) := by decide +kernel
theorem xX6_comesTold_95 : xdec cX6_comesTold 95 = some (.getfield 7, 98, 7, 0) := by decide +kernel
theorem xX6_comesTold_98 : xdec cX6_comesTold 98 = some (.iload_n 2, 99, 2, 0) := by decide +kernel
theorem xX6_comesTold_99 : xdec cX6_comesTold 99 = some (.aload_n 0, 100, 0, 0) := by decide +kernel
theorem xX6_comesTold_100 : xdec cX6_comesTold 100 = some (.getfield 7, 103, 7, 0) := by decide +kernel
theorem xX6_comesTold_103 : xdec cX6_comesTold 103 = some (.iload_n 2, 104, 2, 0) := by decide +kernel
theorem xX6_comesTold_104 : xdec cX6_comesTold 104 = some (.iaload, 105, 0, 0) := by decide +kernel
theorem xX6_comesTold_105 : xdec cX6_comesTold 105 = some (.iload_n 3, 106, 3, 0) := by decide +kernel
theorem xX6_comesTold_106 : xdec cX6_comesTold 106 = some (.iadd, 107, 0, 0) := by decide +kernel
theorem xX6_comesTold_107 : xdec cX6_comesTold 107 = some (.bipush 99, 109, 0, 99) := by decide +kernel
theorem xX6_comesTold_109 : xdec cX6_comesTold 109 = some (.invokestatic 88, 112, 0, 0) := by decide +kernel
theorem xX6_comesTold_112 : xdec cX6_comesTold 112 = some (.iastore, 113, 0, 0) := by decide +kernel
theorem xX6_comesTold_113 : xdec cX6_comesTold 113 = some (.iconst 1, 114, 0, 1) := by decide +kernel
theorem xX6_comesTold_114 : xdec cX6_comesTold 114 = some (.ireturn, 115, 0, 0) := by decide +kernel
theorem xX6_comesTold_115 : xdec cX6_comesTold 115 = some (.aload_n 0, 116, 0, 0) := by decide +kernel
theorem xX6_comesTold_116 : xdec cX6_comesTold 116 = some (.iload_n 2, 117, 2, 0) := by decide +kernel
theorem xX6_comesTold_117 : xdec cX6_comesTold 117 = some (.invokevirtual 178, 120, 0, 0) := by decide +kernel
theorem xX6_comesTold_120 : xdec cX6_comesTold 120 = some (.ireturn, 121, 0, 0) := by decide +kernel
theorem xX6_comesTold_121 : xdec cX6_comesTold 121 = some (.aload_n 0, 122, 0, 0) := by decide +kernel
theorem xX6_comesTold_122 : xdec cX6_comesTold 122 = some (.aload_n 0, 123, 0, 0) := by decide +kernel
theorem xX6_comesTold_123 : xdec cX6_comesTold 123 = some (.getfield 50, 126, 50, 0) := by decide +kernel
theorem xX6_comesTold_126 : xdec cX6_comesTold 126 = some (.iload_n 1, 127, 1, 0) := by decide +kernel
theorem xX6_comesTold_127 : xdec cX6_comesTold 127 = some (.iaload, 128, 0, 0) := by decide +kernel
theorem xX6_comesTold_128 : xdec cX6_comesTold 128 = some (.iload_n 2, 129, 2, 0) := by decide +kernel
theorem xX6_comesTold_129 : xdec cX6_comesTold 129 = some (.iload_n 3, 130, 3, 0) := by decide +kernel
theorem xX6_comesTold_130 : xdec cX6_comesTold 130 = some (.invokevirtual 181, 133, 0, 0) := by decide +kernel
theorem xX6_comesTold_133 : xdec cX6_comesTold 133 = some (.ireturn, 134, 0, 0) := by decide +kernel
theorem xX6_inn_0 : xdec cX6_inn 0 = some (.aload_n 0, 1, 0, 0) := by decide +kernel
theorem xX6_inn_1 : xdec cX6_inn 1 = some (.iconst 0, 2, 0, 0) := by decide +kernel
theorem xX6_inn_2 : xdec cX6_inn 2 = some (.putfield 75, 5, 75, 0) := by decide +kernel
theorem xX6_inn_5 : xdec cX6_inn 5 = some (.aload_n 0, 6, 0, 0) := by decide +kernel
theorem xX6_inn_6 : xdec cX6_inn 6 = some (.iload_n 1, 7, 1, 0) := by decide +kernel
theorem xX6_inn_7 : xdec cX6_inn 7 = some (.invokevirtual 184, 10, 0, 0) := by decide +kernel
theorem xX6_inn_10 : xdec cX6_inn 10 = some (.istore_n 2, 11, 2, 0) := by decide +kernel
theorem xX6_inn_11 : xdec cX6_inn 11 = some (.iload_n 2, 12, 2, 0) := by decide +kernel
theorem xX6_inn_12 : xdec cX6_inn 12 = some (.ifCond .ne 17, 15, 29, 0) := by decide +kernel
theorem xX6_inn_15 : xdec cX6_inn 15 = some (.aload_n 0, 16, 0, 0) := by decide +kernel
theorem xX6_inn_16 : xdec cX6_inn 16 = some (.getfield 37, 19, 37, 0) := by decide +kernel
theorem xX6_inn_19 : xdec cX6_inn 19 = some (.iload_n 1, 20, 1, 0) := by decide +kernel
theorem xX6_inn_20 : xdec cX6_inn 20 = some (.iaload, 21, 0, 0) := by decide +kernel
theorem xX6_inn_21 : xdec cX6_inn 21 = some (.ifCond .eq 8, 24, 29, 0) := by decide +kernel
theorem xX6_inn_24 : xdec cX6_inn 24 = some (.bipush (-12), 26, 0, (-12)) := by decide +kernel
theorem xX6_inn_26 : xdec cX6_inn 26 = some (.goto 4, 29, 30, 0) := by decide +kernel
theorem xX6_inn_29 : xdec cX6_inn 29 = some (.iload_n 2, 30, 2, 0) := by decide +kernel
theorem xX6_inn_30 : xdec cX6_inn 30 = some (.istore_n 2, 31, 2, 0) := by decide +kernel
theorem xX6_inn_31 : xdec cX6_inn 31 = some (.iload_n 2, 32, 2, 0) := by decide +kernel
theorem xX6_inn_32 : xdec cX6_inn 32 = some (.ifCond .ge 5, 35, 37, 0) := by decide +kernel
theorem xX6_inn_35 : xdec cX6_inn 35 = some (.iload_n 2, 36, 2, 0) := by decide +kernel
theorem xX6_inn_36 : xdec cX6_inn 36 = some (.ireturn, 37, 0, 0) := by decide +kernel
theorem xX6_inn_37 : xdec cX6_inn 37 = some (.aload_n 0, 38, 0, 0) := by decide +kernel
theorem xX6_inn_38 : xdec cX6_inn 38 = some (.iload_n 1, 39, 1, 0) := by decide +kernel
theorem xX6_inn_39 : xdec cX6_inn 39 = some (.putfield 138, 42, 138, 0) := by decide +kernel
theorem xX6_inn_42 : xdec cX6_inn 42 = some (.aload_n 0, 43, 0, 0) := by decide +kernel
theorem xX6_inn_43 : xdec cX6_inn 43 = some (.iconst 0, 44, 0, 0) := by decide +kernel
theorem xX6_inn_44 : xdec cX6_inn 44 = some (.putfield 135, 47, 135, 0) := by decide +kernel
theorem xX6_inn_47 : xdec cX6_inn 47 = some (.aload_n 0, 48, 0, 0) := by decide +kernel
theorem xX6_inn_48 : xdec cX6_inn 48 = some (.iconst 0, 49, 0, 0) := by decide +kernel
theorem xX6_inn_49 : xdec cX6_inn 49 = some (.putfield 141, 52, 141, 0) := by decide +kernel
theorem xX6_inn_52 : xdec cX6_inn 52 = some (.aload_n 0, 53, 0, 0) := by decide +kernel
theorem xX6_inn_53 : xdec cX6_inn 53 = some (.iconst 0, 54, 0, 0) := by decide +kernel
theorem xX6_inn_54 : xdec cX6_inn 54 = some (.putfield 155, 57, 155, 0) := by decide +kernel
theorem xX6_inn_57 : xdec cX6_inn 57 = some (.aload_n 0, 58, 0, 0) := by decide +kernel
theorem xX6_inn_58 : xdec cX6_inn 58 = some (.getfield 141, 61, 141, 0) := by decide +kernel
theorem xX6_inn_61 : xdec cX6_inn 61 = some (.ifCond .ne 30, 64, 91, 0) := by decide +kernel
theorem xX6_inn_64 : xdec cX6_inn 64 = some (.aload_n 0, 65, 0, 0) := by decide +kernel
theorem xX6_inn_65 : xdec cX6_inn 65 = some (.getfield 155, 68, 155, 0) := by decide +kernel
theorem xX6_inn_68 : xdec cX6_inn 68 = some (.ifCond .eq 16, 71, 84, 0) := by decide +kernel
theorem xX6_inn_71 : xdec cX6_inn 71 = some (.aload_n 0, 72, 0, 0) := by decide +kernel
theorem xX6_inn_72 : xdec cX6_inn 72 = some (.getfield 135, 75, 135, 0) := by decide +kernel
theorem xX6_inn_75 : xdec cX6_inn 75 = some (.aload_n 0, 76, 0, 0) := by decide +kernel
theorem xX6_inn_76 : xdec cX6_inn 76 = some (.getfield 40, 79, 40, 0) := by decide +kernel
theorem xX6_inn_79 : xdec cX6_inn 79 = some (.iload_n 1, 80, 1, 0) := by decide +kernel
theorem xX6_inn_80 : xdec cX6_inn 80 = some (.iaload, 81, 0, 0) := by decide +kernel
theorem xX6_inn_81 : xdec cX6_inn 81 = some (.if_icmp .ge 10, 84, 91, 0) := by decide +kernel
theorem xX6_inn_84 : xdec cX6_inn 84 = some (.aload_n 0, 85, 0, 0) := by decide +kernel
theorem xX6_inn_85 : xdec cX6_inn 85 = some (.invokevirtual 187, 88, 0, 0) := by decide +kernel
theorem xX6_inn_88 : xdec cX6_inn 88 = some (.goto (-31), 91, 57, 0) := by decide +kernel
theorem xX6_inn_91 : xdec cX6_inn 91 = some (.aload_n 0, 92, 0, 0) := by decide +kernel
theorem xX6_inn_92 : xdec cX6_inn 92 = some (.getfield 141, 95, 141, 0) := by decide +kernel
theorem xX6_inn_95 : xdec cX6_inn 95 = some (.ifCond .eq 12, 98, 107, 0) := by decide +kernel
theorem xX6_inn_98 : xdec cX6_inn 98 = some (.sipush (-1000), 101, 0, (-1000)) := by decide +kernel
theorem xX6_inn_101 : xdec cX6_inn 101 = some (.aload_n 0, 102, 0, 0) := by decide +kernel
theorem xX6_inn_102 : xdec cX6_inn 102 = some (.getfield 135, 105, 135, 0) := by decide +kernel
theorem xX6_inn_105 : xdec cX6_inn 105 = some (.isub, 106, 0, 0) := by decide +kernel
theorem xX6_inn_106 : xdec cX6_inn 106 = some (.ireturn, 107, 0, 0) := by decide +kernel
theorem xX6_inn_107 : xdec cX6_inn 107 = some (.aload_n 0, 108, 0, 0) := by decide +kernel
theorem xX6_inn_108 : xdec cX6_inn 108 = some (.invokevirtual 190, 111, 0, 0) := by decide +kernel
theorem xX6_inn_111 : xdec cX6_inn 111 = some (.iconst 0, 112, 0, 0) := by decide +kernel
theorem xX6_inn_112 : xdec cX6_inn 112 = some (.istore_n 3, 113, 3, 0) := by decide +kernel
theorem xX6_inn_113 : xdec cX6_inn 113 = some (.iload_n 3, 114, 3, 0) := by decide +kernel
theorem xX6_inn_114 : xdec cX6_inn 114 = some (.aload_n 0, 115, 0, 0) := by decide +kernel
theorem xX6_inn_115 : xdec cX6_inn 115 = some (.getfield 155, 118, 155, 0) := by decide +kernel
theorem xX6_inn_118 : xdec cX6_inn 118 = some (.if_icmp .ge 32, 121, 150, 0) := by decide +kernel
theorem xX6_inn_121 : xdec cX6_inn 121 = some (.aload_n 0, 122, 0, 0) := by decide +kernel
theorem xX6_inn_122 : xdec cX6_inn 122 = some (.iload_n 3, 123, 3, 0) := by decide +kernel
theorem xX6_inn_123 : xdec cX6_inn 123 = some (.invokevirtual 193, 126, 0, 0) := by decide +kernel
theorem xX6_inn_126 : xdec cX6_inn 126 = some (.ifCond .ne 18, 129, 144, 0) := by decide +kernel
theorem xX6_inn_129 : xdec cX6_inn 129 = some (.aload_n 0, 130, 0, 0) := by decide +kernel
theorem xX6_inn_130 : xdec cX6_inn 130 = some (.invokevirtual 196, 133, 0, 0) := by decide +kernel
theorem xX6_inn_133 : xdec cX6_inn 133 = some (.sipush (-2000), 136, 0, (-2000)) := by decide +kernel
theorem xX6_inn_136 : xdec cX6_inn 136 = some (.aload_n 0, 137, 0, 0) := by decide +kernel
theorem xX6_inn_137 : xdec cX6_inn 137 = some (.getfield 47, 140, 47, 0) := by decide +kernel
theorem xX6_inn_140 : xdec cX6_inn 140 = some (.iload_n 3, 141, 3, 0) := by decide +kernel
theorem xX6_inn_141 : xdec cX6_inn 141 = some (.iaload, 142, 0, 0) := by decide +kernel
theorem xX6_inn_142 : xdec cX6_inn 142 = some (.isub, 143, 0, 0) := by decide +kernel
theorem xX6_inn_143 : xdec cX6_inn 143 = some (.ireturn, 144, 0, 0) := by decide +kernel
theorem xX6_inn_144 : xdec cX6_inn 144 = some (.iinc 3 1, 147, 3, 1) := by decide +kernel
theorem xX6_inn_147 : xdec cX6_inn 147 = some (.goto (-34), 150, 113, 0) := by decide +kernel
theorem xX6_inn_150 : xdec cX6_inn 150 = some (.aload_n 0, 151, 0, 0) := by decide +kernel
theorem xX6_inn_151 : xdec cX6_inn 151 = some (.getfield 155, 154, 155, 0) := by decide +kernel
theorem xX6_inn_154 : xdec cX6_inn 154 = some (.ireturn, 155, 0, 0) := by decide +kernel
theorem xX6_carry_0 : xdec cX6_carry 0 = some (.aload_n 0, 1, 0, 0) := by decide +kernel
theorem xX6_carry_1 : xdec cX6_carry 1 = some (.getfield 199, 4, 199, 0) := by decide +kernel
theorem xX6_carry_4 : xdec cX6_carry 4 = some (.ifCond .eq 13, 7, 17, 0) := by decide +kernel
theorem xX6_carry_7 : xdec cX6_carry 7 = some (.aload_n 0, 8, 0, 0) := by decide +kernel
theorem xX6_carry_8 : xdec cX6_carry 8 = some (.getfield 202, 11, 202, 0) := by decide +kernel
theorem xX6_carry_11 : xdec cX6_carry 11 = some (.aload_n 0, 12, 0, 0) := by decide +kernel
theorem xX6_carry_12 : xdec cX6_carry 12 = some (.getfield 205, 15, 205, 0) := by decide +kernel
theorem xX6_carry_15 : xdec cX6_carry 15 = some (.iload_n 1, 16, 1, 0) := by decide +kernel
theorem xX6_carry_16 : xdec cX6_carry 16 = some (.iastore, 17, 0, 0) := by decide +kernel
theorem xX6_carry_17 : xdec cX6_carry 17 = some (.aload_n 0, 18, 0, 0) := by decide +kernel
theorem xX6_carry_18 : xdec cX6_carry 18 = some (.dup, 19, 0, 0) := by decide +kernel
theorem xX6_carry_19 : xdec cX6_carry 19 = some (.getfield 205, 22, 205, 0) := by decide +kernel
theorem xX6_carry_22 : xdec cX6_carry 22 = some (.iconst 1, 23, 0, 1) := by decide +kernel
theorem xX6_carry_23 : xdec cX6_carry 23 = some (.iadd, 24, 0, 0) := by decide +kernel
theorem xX6_carry_24 : xdec cX6_carry 24 = some (.putfield 205, 27, 205, 0) := by decide +kernel
theorem xX6_carry_27 : xdec cX6_carry 27 = some (.aload_n 0, 28, 0, 0) := by decide +kernel
theorem xX6_carry_28 : xdec cX6_carry 28 = some (.getfield 202, 31, 202, 0) := by decide +kernel
theorem xX6_carry_31 : xdec cX6_carry 31 = some (.aload_n 0, 32, 0, 0) := by decide +kernel
theorem xX6_carry_32 : xdec cX6_carry 32 = some (.getfield 205, 35, 205, 0) := by decide +kernel
theorem xX6_carry_35 : xdec cX6_carry 35 = some (.iconst 1, 36, 0, 1) := by decide +kernel
theorem xX6_carry_36 : xdec cX6_carry 36 = some (.isub, 37, 0, 0) := by decide +kernel
theorem xX6_carry_37 : xdec cX6_carry 37 = some (.iaload, 38, 0, 0) := by decide +kernel
theorem xX6_carry_38 : xdec cX6_carry 38 = some (.ireturn, 39, 0, 0) := by decide +kernel
theorem xX6_carryAll_0 : xdec cX6_carryAll 0 = some (.aload_n 0, 1, 0, 0) := by decide +kernel
theorem xX6_carryAll_1 : xdec cX6_carryAll 1 = some (.aload_n 1, 2, 1, 0) := by decide +kernel
theorem xX6_carryAll_2 : xdec cX6_carryAll 2 = some (.putfield 202, 5, 202, 0) := by decide +kernel
theorem xX6_carryAll_5 : xdec cX6_carryAll 5 = some (.aload_n 0, 6, 0, 0) := by decide +kernel
theorem xX6_carryAll_6 : xdec cX6_carryAll 6 = some (.iload_n 2, 7, 2, 0) := by decide +kernel
theorem xX6_carryAll_7 : xdec cX6_carryAll 7 = some (.putfield 199, 10, 199, 0) := by decide +kernel
theorem xX6_carryAll_10 : xdec cX6_carryAll 10 = some (.aload_n 0, 11, 0, 0) := by decide +kernel
theorem xX6_carryAll_11 : xdec cX6_carryAll 11 = some (.iconst 0, 12, 0, 0) := by decide +kernel
theorem xX6_carryAll_12 : xdec cX6_carryAll 12 = some (.putfield 205, 15, 205, 0) := by decide +kernel
theorem xX6_carryAll_15 : xdec cX6_carryAll 15 = some (.aload_n 0, 16, 0, 0) := by decide +kernel
theorem xX6_carryAll_16 : xdec cX6_carryAll 16 = some (.aload_n 0, 17, 0, 0) := by decide +kernel
theorem xX6_carryAll_17 : xdec cX6_carryAll 17 = some (.aload_n 0, 18, 0, 0) := by decide +kernel
theorem xX6_carryAll_18 : xdec cX6_carryAll 18 = some (.getfield 85, 21, 85, 0) := by decide +kernel
theorem xX6_carryAll_21 : xdec cX6_carryAll 21 = some (.invokevirtual 208, 24, 0, 0) := by decide +kernel
theorem xX6_carryAll_24 : xdec cX6_carryAll 24 = some (.putfield 85, 27, 85, 0) := by decide +kernel
theorem xX6_carryAll_27 : xdec cX6_carryAll 27 = some (.aload_n 0, 28, 0, 0) := by decide +kernel
theorem xX6_carryAll_28 : xdec cX6_carryAll 28 = some (.aload_n 0, 29, 0, 0) := by decide +kernel
theorem xX6_carryAll_29 : xdec cX6_carryAll 29 = some (.aload_n 0, 30, 0, 0) := by decide +kernel
theorem xX6_carryAll_30 : xdec cX6_carryAll 30 = some (.getfield 125, 33, 125, 0) := by decide +kernel
theorem xX6_carryAll_33 : xdec cX6_carryAll 33 = some (.invokevirtual 208, 36, 0, 0) := by decide +kernel
theorem xX6_carryAll_36 : xdec cX6_carryAll 36 = some (.putfield 125, 39, 125, 0) := by decide +kernel
theorem xX6_carryAll_39 : xdec cX6_carryAll 39 = some (.aload_n 0, 40, 0, 0) := by decide +kernel
theorem xX6_carryAll_40 : xdec cX6_carryAll 40 = some (.aload_n 0, 41, 0, 0) := by decide +kernel
theorem xX6_carryAll_41 : xdec cX6_carryAll 41 = some (.aload_n 0, 42, 0, 0) := by decide +kernel
theorem xX6_carryAll_42 : xdec cX6_carryAll 42 = some (.getfield 116, 45, 116, 0) := by decide +kernel
theorem xX6_carryAll_45 : xdec cX6_carryAll 45 = some (.invokevirtual 208, 48, 0, 0) := by decide +kernel
theorem xX6_carryAll_48 : xdec cX6_carryAll 48 = some (.putfield 116, 51, 116, 0) := by decide +kernel
theorem xX6_carryAll_51 : xdec cX6_carryAll 51 = some (.aload_n 0, 52, 0, 0) := by decide +kernel
theorem xX6_carryAll_52 : xdec cX6_carryAll 52 = some (.aload_n 0, 53, 0, 0) := by decide +kernel
theorem xX6_carryAll_53 : xdec cX6_carryAll 53 = some (.aload_n 0, 54, 0, 0) := by decide +kernel
theorem xX6_carryAll_54 : xdec cX6_carryAll 54 = some (.getfield 122, 57, 122, 0) := by decide +kernel
theorem xX6_carryAll_57 : xdec cX6_carryAll 57 = some (.invokevirtual 208, 60, 0, 0) := by decide +kernel
theorem xX6_carryAll_60 : xdec cX6_carryAll 60 = some (.putfield 122, 63, 122, 0) := by decide +kernel
theorem xX6_carryAll_63 : xdec cX6_carryAll 63 = some (.aload_n 0, 64, 0, 0) := by decide +kernel
theorem xX6_carryAll_64 : xdec cX6_carryAll 64 = some (.aload_n 0, 65, 0, 0) := by decide +kernel
theorem xX6_carryAll_65 : xdec cX6_carryAll 65 = some (.aload_n 0, 66, 0, 0) := by decide +kernel
theorem xX6_carryAll_66 : xdec cX6_carryAll 66 = some (.getfield 92, 69, 92, 0) := by decide +kernel
theorem xX6_carryAll_69 : xdec cX6_carryAll 69 = some (.invokevirtual 208, 72, 0, 0) := by decide +kernel
theorem xX6_carryAll_72 : xdec cX6_carryAll 72 = some (.putfield 92, 75, 92, 0) := by decide +kernel
theorem xX6_carryAll_75 : xdec cX6_carryAll 75 = some (.iconst 0, 76, 0, 0) := by decide +kernel
theorem xX6_carryAll_76 : xdec cX6_carryAll 76 = some (.istore_n 3, 77, 3, 0) := by decide +kernel
theorem xX6_carryAll_77 : xdec cX6_carryAll 77 = some (.iload_n 3, 78, 3, 0) := by decide +kernel
theorem xX6_carryAll_78 : xdec cX6_carryAll 78 = some (.bipush 10, 80, 0, 10) := by decide +kernel
theorem xX6_carryAll_80 : xdec cX6_carryAll 80 = some (.if_icmp .ge 25, 83, 105, 0) := by decide +kernel
theorem xX6_carryAll_83 : xdec cX6_carryAll 83 = some (.aload_n 0, 84, 0, 0) := by decide +kernel
theorem xX6_carryAll_84 : xdec cX6_carryAll 84 = some (.getfield 7, 87, 7, 0) := by decide +kernel
theorem xX6_carryAll_87 : xdec cX6_carryAll 87 = some (.iload_n 3, 88, 3, 0) := by decide +kernel
theorem xX6_carryAll_88 : xdec cX6_carryAll 88 = some (.aload_n 0, 89, 0, 0) := by decide +kernel
theorem xX6_carryAll_89 : xdec cX6_carryAll 89 = some (.aload_n 0, 90, 0, 0) := by decide +kernel
theorem xX6_carryAll_90 : xdec cX6_carryAll 90 = some (.getfield 7, 93, 7, 0) := by decide +kernel
theorem xX6_carryAll_93 : xdec cX6_carryAll 93 = some (.iload_n 3, 94, 3, 0) := by decide +kernel
theorem xX6_carryAll_94 : xdec cX6_carryAll 94 = some (.iaload, 95, 0, 0) := by decide +kernel
theorem xX6_carryAll_95 : xdec cX6_carryAll 95 = some (.invokevirtual 208, 98, 0, 0) := by decide +kernel
theorem xX6_carryAll_98 : xdec cX6_carryAll 98 = some (.iastore, 99, 0, 0) := by decide +kernel
theorem xX6_carryAll_99 : xdec cX6_carryAll 99 = some (.iinc 3 1, 102, 3, 1) := by decide +kernel
theorem xX6_carryAll_102 : xdec cX6_carryAll 102 = some (.goto (-25), 105, 77, 0) := by decide +kernel
theorem xX6_carryAll_105 : xdec cX6_carryAll 105 = some (.iconst 0, 106, 0, 0) := by decide +kernel
theorem xX6_carryAll_106 : xdec cX6_carryAll 106 = some (.istore_n 3, 107, 3, 0) := by decide +kernel
theorem xX6_carryAll_107 : xdec cX6_carryAll 107 = some (.iload_n 3, 108, 3, 0) := by decide +kernel
theorem xX6_carryAll_108 : xdec cX6_carryAll 108 = some (.bipush 7, 110, 0, 7) := by decide +kernel
theorem xX6_carryAll_110 : xdec cX6_carryAll 110 = some (.if_icmp .ge 89, 113, 199, 0) := by decide +kernel
theorem xX6_carryAll_113 : xdec cX6_carryAll 113 = some (.aload_n 0, 114, 0, 0) := by decide +kernel
theorem xX6_carryAll_114 : xdec cX6_carryAll 114 = some (.getfield 13, 117, 13, 0) := by decide +kernel
theorem xX6_carryAll_117 : xdec cX6_carryAll 117 = some (.iload_n 3, 118, 3, 0) := by decide +kernel
theorem xX6_carryAll_118 : xdec cX6_carryAll 118 = some (.aload_n 0, 119, 0, 0) := by decide +kernel
theorem xX6_carryAll_119 : xdec cX6_carryAll 119 = some (.aload_n 0, 120, 0, 0) := by decide +kernel
theorem xX6_carryAll_120 : xdec cX6_carryAll 120 = some (.getfield 13, 123, 13, 0) := by decide +kernel
theorem xX6_carryAll_123 : xdec cX6_carryAll 123 = some (.iload_n 3, 124, 3, 0) := by decide +kernel
theorem xX6_carryAll_124 : xdec cX6_carryAll 124 = some (.iaload, 125, 0, 0) := by decide +kernel
theorem xX6_carryAll_125 : xdec cX6_carryAll 125 = some (.invokevirtual 208, 128, 0, 0) := by decide +kernel
theorem xX6_carryAll_128 : xdec cX6_carryAll 128 = some (.iastore, 129, 0, 0) := by decide +kernel
theorem xX6_carryAll_129 : xdec cX6_carryAll 129 = some (.aload_n 0, 130, 0, 0) := by decide +kernel
theorem xX6_carryAll_130 : xdec cX6_carryAll 130 = some (.getfield 16, 133, 16, 0) := by decide +kernel
theorem xX6_carryAll_133 : xdec cX6_carryAll 133 = some (.iload_n 3, 134, 3, 0) := by decide +kernel
theorem xX6_carryAll_134 : xdec cX6_carryAll 134 = some (.aload_n 0, 135, 0, 0) := by decide +kernel
theorem xX6_carryAll_135 : xdec cX6_carryAll 135 = some (.aload_n 0, 136, 0, 0) := by decide +kernel
theorem xX6_carryAll_136 : xdec cX6_carryAll 136 = some (.getfield 16, 139, 16, 0) := by decide +kernel
theorem xX6_carryAll_139 : xdec cX6_carryAll 139 = some (.iload_n 3, 140, 3, 0) := by decide +kernel
theorem xX6_carryAll_140 : xdec cX6_carryAll 140 = some (.iaload, 141, 0, 0) := by decide +kernel
theorem xX6_carryAll_141 : xdec cX6_carryAll 141 = some (.invokevirtual 208, 144, 0, 0) := by decide +kernel
theorem xX6_carryAll_144 : xdec cX6_carryAll 144 = some (.iastore, 145, 0, 0) := by decide +kernel
theorem xX6_carryAll_145 : xdec cX6_carryAll 145 = some (.aload_n 0, 146, 0, 0) := by decide +kernel
theorem xX6_carryAll_146 : xdec cX6_carryAll 146 = some (.getfield 19, 149, 19, 0) := by decide +kernel
theorem xX6_carryAll_149 : xdec cX6_carryAll 149 = some (.iload_n 3, 150, 3, 0) := by decide +kernel
theorem xX6_carryAll_150 : xdec cX6_carryAll 150 = some (.aload_n 0, 151, 0, 0) := by decide +kernel
theorem xX6_carryAll_151 : xdec cX6_carryAll 151 = some (.aload_n 0, 152, 0, 0) := by decide +kernel
theorem xX6_carryAll_152 : xdec cX6_carryAll 152 = some (.getfield 19, 155, 19, 0) := by decide +kernel
theorem xX6_carryAll_155 : xdec cX6_carryAll 155 = some (.iload_n 3, 156, 3, 0) := by decide +kernel
theorem xX6_carryAll_156 : xdec cX6_carryAll 156 = some (.iaload, 157, 0, 0) := by decide +kernel
theorem xX6_carryAll_157 : xdec cX6_carryAll 157 = some (.invokevirtual 208, 160, 0, 0) := by decide +kernel
theorem xX6_carryAll_160 : xdec cX6_carryAll 160 = some (.iastore, 161, 0, 0) := by decide +kernel
theorem xX6_carryAll_161 : xdec cX6_carryAll 161 = some (.aload_n 0, 162, 0, 0) := by decide +kernel
theorem xX6_carryAll_162 : xdec cX6_carryAll 162 = some (.getfield 22, 165, 22, 0) := by decide +kernel
theorem xX6_carryAll_165 : xdec cX6_carryAll 165 = some (.iload_n 3, 166, 3, 0) := by decide +kernel
theorem xX6_carryAll_166 : xdec cX6_carryAll 166 = some (.aload_n 0, 167, 0, 0) := by decide +kernel
theorem xX6_carryAll_167 : xdec cX6_carryAll 167 = some (.aload_n 0, 168, 0, 0) := by decide +kernel
theorem xX6_carryAll_168 : xdec cX6_carryAll 168 = some (.getfield 22, 171, 22, 0) := by decide +kernel
theorem xX6_carryAll_171 : xdec cX6_carryAll 171 = some (.iload_n 3, 172, 3, 0) := by decide +kernel
theorem xX6_carryAll_172 : xdec cX6_carryAll 172 = some (.iaload, 173, 0, 0) := by decide +kernel
theorem xX6_carryAll_173 : xdec cX6_carryAll 173 = some (.invokevirtual 208, 176, 0, 0) := by decide +kernel
theorem xX6_carryAll_176 : xdec cX6_carryAll 176 = some (.iastore, 177, 0, 0) := by decide +kernel
theorem xX6_carryAll_177 : xdec cX6_carryAll 177 = some (.aload_n 0, 178, 0, 0) := by decide +kernel
theorem xX6_carryAll_178 : xdec cX6_carryAll 178 = some (.getfield 25, 181, 25, 0) := by decide +kernel
theorem xX6_carryAll_181 : xdec cX6_carryAll 181 = some (.iload_n 3, 182, 3, 0) := by decide +kernel
theorem xX6_carryAll_182 : xdec cX6_carryAll 182 = some (.aload_n 0, 183, 0, 0) := by decide +kernel
theorem xX6_carryAll_183 : xdec cX6_carryAll 183 = some (.aload_n 0, 184, 0, 0) := by decide +kernel
theorem xX6_carryAll_184 : xdec cX6_carryAll 184 = some (.getfield 25, 187, 25, 0) := by decide +kernel
theorem xX6_carryAll_187 : xdec cX6_carryAll 187 = some (.iload_n 3, 188, 3, 0) := by decide +kernel
theorem xX6_carryAll_188 : xdec cX6_carryAll 188 = some (.iaload, 189, 0, 0) := by decide +kernel
theorem xX6_carryAll_189 : xdec cX6_carryAll 189 = some (.invokevirtual 208, 192, 0, 0) := by decide +kernel
theorem xX6_carryAll_192 : xdec cX6_carryAll 192 = some (.iastore, 193, 0, 0) := by decide +kernel
theorem xX6_carryAll_193 : xdec cX6_carryAll 193 = some (.iinc 3 1, 196, 3, 1) := by decide +kernel
theorem xX6_carryAll_196 : xdec cX6_carryAll 196 = some (.goto (-89), 199, 107, 0) := by decide +kernel
theorem xX6_carryAll_199 : xdec cX6_carryAll 199 = some (.return_, 200, 0, 0) := by decide +kernel
theorem xX6_think_0 : xdec cX6_think 0 = some (.aload_n 0, 1, 0, 0) := by decide +kernel
theorem xX6_think_1 : xdec cX6_think 1 = some (.aload_n 0, 2, 0, 0) := by decide +kernel
theorem xX6_think_2 : xdec cX6_think 2 = some (.getfield 56, 5, 56, 0) := by decide +kernel
theorem xX6_think_5 : xdec cX6_think 5 = some (.iconst 1, 6, 0, 1) := by decide +kernel
theorem xX6_think_6 : xdec cX6_think 6 = some (.invokevirtual 211, 9, 0, 0) := by decide +kernel
theorem xX6_think_9 : xdec cX6_think 9 = some (.return_, 10, 0, 0) := by decide +kernel
theorem xX6_again_0 : xdec cX6_again 0 = some (.aload_n 0, 1, 0, 0) := by decide +kernel
theorem xX6_again_1 : xdec cX6_again 1 = some (.aload_n 0, 2, 0, 0) := by decide +kernel
theorem xX6_again_2 : xdec cX6_again 2 = some (.getfield 56, 5, 56, 0) := by decide +kernel
theorem xX6_again_5 : xdec cX6_again 5 = some (.iconst 0, 6, 0, 0) := by decide +kernel
theorem xX6_again_6 : xdec cX6_again 6 = some (.invokevirtual 211, 9, 0, 0) := by decide +kernel
theorem xX6_again_9 : xdec cX6_again 9 = some (.return_, 10, 0, 0) := by decide +kernel
theorem xX6_image_0 : xdec cX6_image 0 = some (.aload_n 0, 1, 0, 0) := by decide +kernel
theorem xX6_image_1 : xdec cX6_image 1 = some (.iconst 0, 2, 0, 0) := by decide +kernel
theorem xX6_image_2 : xdec cX6_image 2 = some (.putfield 75, 5, 75, 0) := by decide +kernel
theorem xX6_image_5 : xdec cX6_image 5 = some (.aload_n 0, 6, 0, 0) := by decide +kernel
theorem xX6_image_6 : xdec cX6_image 6 = some (.iconst 1, 7, 0, 1) := by decide +kernel
theorem xX6_image_7 : xdec cX6_image 7 = some (.putfield 215, 10, 215, 0) := by decide +kernel
theorem xX6_image_10 : xdec cX6_image 10 = some (.aload_n 0, 11, 0, 0) := by decide +kernel
theorem xX6_image_11 : xdec cX6_image 11 = some (.aload_n 0, 12, 0, 0) := by decide +kernel
theorem xX6_image_12 : xdec cX6_image 12 = some (.getfield 59, 15, 59, 0) := by decide +kernel
theorem xX6_image_15 : xdec cX6_image 15 = some (.iconst 1, 16, 0, 1) := by decide +kernel
theorem xX6_image_16 : xdec cX6_image 16 = some (.invokevirtual 211, 19, 0, 0) := by decide +kernel
theorem xX6_image_19 : xdec cX6_image 19 = some (.aload_n 0, 20, 0, 0) := by decide +kernel
theorem xX6_image_20 : xdec cX6_image 20 = some (.getfield 92, 23, 92, 0) := by decide +kernel
theorem xX6_image_23 : xdec cX6_image 23 = some (.ireturn, 24, 0, 0) := by decide +kernel
theorem xX6_restore_0 : xdec cX6_restore 0 = some (.aload_n 0, 1, 0, 0) := by decide +kernel
theorem xX6_restore_1 : xdec cX6_restore 1 = some (.iconst 0, 2, 0, 0) := by decide +kernel
theorem xX6_restore_2 : xdec cX6_restore 2 = some (.putfield 75, 5, 75, 0) := by decide +kernel
theorem xX6_restore_5 : xdec cX6_restore 5 = some (.aload_n 0, 6, 0, 0) := by decide +kernel
theorem xX6_restore_6 : xdec cX6_restore 6 = some (.getfield 215, 9, 215, 0) := by decide +kernel
theorem xX6_restore_9 : xdec cX6_restore 9 = some (.ifCond .ne 6, 12, 15, 0) := by decide +kernel
theorem xX6_restore_12 : xdec cX6_restore 12 = some (.bipush (-3), 14, 0, (-3)) := by decide +kernel
theorem xX6_restore_14 : xdec cX6_restore 14 = some (.ireturn, 15, 0, 0) := by decide +kernel
theorem xX6_restore_15 : xdec cX6_restore 15 = some (.aload_n 0, 16, 0, 0) := by decide +kernel
theorem xX6_restore_16 : xdec cX6_restore 16 = some (.aload_n 0, 17, 0, 0) := by decide +kernel
theorem xX6_restore_17 : xdec cX6_restore 17 = some (.getfield 59, 20, 59, 0) := by decide +kernel
theorem xX6_restore_20 : xdec cX6_restore 20 = some (.iconst 0, 21, 0, 0) := by decide +kernel
theorem xX6_restore_21 : xdec cX6_restore 21 = some (.invokevirtual 211, 24, 0, 0) := by decide +kernel
theorem xX6_restore_24 : xdec cX6_restore 24 = some (.aload_n 0, 25, 0, 0) := by decide +kernel
theorem xX6_restore_25 : xdec cX6_restore 25 = some (.getfield 92, 28, 92, 0) := by decide +kernel
theorem xX6_restore_28 : xdec cX6_restore 28 = some (.ireturn, 29, 0, 0) := by decide +kernel
theorem xX6_guest_0 : xdec cX6_guest 0 = some (.aload_n 0, 1, 0, 0) := by decide +kernel
theorem xX6_guest_1 : xdec cX6_guest 1 = some (.iconst 0, 2, 0, 0) := by decide +kernel
theorem xX6_guest_2 : xdec cX6_guest 2 = some (.putfield 75, 5, 75, 0) := by decide +kernel
theorem xX6_guest_5 : xdec cX6_guest 5 = some (.aload_n 0, 6, 0, 0) := by decide +kernel
theorem xX6_guest_6 : xdec cX6_guest 6 = some (.iload_n 1, 7, 1, 0) := by decide +kernel
theorem xX6_guest_7 : xdec cX6_guest 7 = some (.invokevirtual 171, 10, 0, 0) := by decide +kernel
theorem xX6_guest_10 : xdec cX6_guest 10 = some (.ifCond .eq 15, 13, 25, 0) := by decide +kernel
theorem xX6_guest_13 : xdec cX6_guest 13 = some (.iload_n 2, 14, 2, 0) := by decide +kernel
theorem xX6_guest_14 : xdec cX6_guest 14 = some (.i2l, 15, 0, 0) := by decide +kernel
theorem xX6_guest_15 : xdec cX6_guest 15 = some (.lconst 0, 16, 0, 0) := by decide +kernel
theorem xX6_guest_16 : xdec cX6_guest 16 = some (.ldc2_w 218, 19, 218, 0) := by decide +kernel
theorem xX6_guest_19 : xdec cX6_guest 19 = some (.invokestatic 81, 22, 0, 0) := by decide +kernel
theorem xX6_guest_22 : xdec cX6_guest 22 = some (.ifCond .ne 5, 25, 27, 0) := by decide +kernel
theorem xX6_guest_25 : xdec cX6_guest 25 = some (.iconst (-1), 26, 0, (-1)) := by decide +kernel
theorem xX6_guest_26 : xdec cX6_guest 26 = some (.ireturn, 27, 0, 0) := by decide +kernel
theorem xX6_guest_27 : xdec cX6_guest 27 = some (.iload_n 2, 28, 2, 0) := by decide +kernel
theorem xX6_guest_28 : xdec cX6_guest 28 = some (.tableswitch 102 0 6 #[44, 51, 58, 65, 72, 79, 96], 72, 0, 0) := by decide +kernel
theorem xX6_guest_72 : xdec cX6_guest 72 = some (.aload_n 0, 73, 0, 0) := by decide +kernel
theorem xX6_guest_73 : xdec cX6_guest 73 = some (.getfield 13, 76, 13, 0) := by decide +kernel
theorem xX6_guest_76 : xdec cX6_guest 76 = some (.iload_n 1, 77, 1, 0) := by decide +kernel
theorem xX6_guest_77 : xdec cX6_guest 77 = some (.iaload, 78, 0, 0) := by decide +kernel
theorem xX6_guest_78 : xdec cX6_guest 78 = some (.ireturn, 79, 0, 0) := by decide +kernel
theorem xX6_guest_79 : xdec cX6_guest 79 = some (.aload_n 0, 80, 0, 0) := by decide +kernel
theorem xX6_guest_80 : xdec cX6_guest 80 = some (.getfield 16, 83, 16, 0) := by decide +kernel
theorem xX6_guest_83 : xdec cX6_guest 83 = some (.iload_n 1, 84, 1, 0) := by decide +kernel
theorem xX6_guest_84 : xdec cX6_guest 84 = some (.iaload, 85, 0, 0) := by decide +kernel
theorem xX6_guest_85 : xdec cX6_guest 85 = some (.ireturn, 86, 0, 0) := by decide +kernel
theorem xX6_guest_86 : xdec cX6_guest 86 = some (.aload_n 0, 87, 0, 0) := by decide +kernel
theorem xX6_guest_87 : xdec cX6_guest 87 = some (.getfield 19, 90, 19, 0) := by decide +kernel
theorem xX6_guest_90 : xdec cX6_guest 90 = some (.iload_n 1, 91, 1, 0) := by decide +kernel
theorem xX6_guest_91 : xdec cX6_guest 91 = some (.iaload, 92, 0, 0) := by decide +kernel
theorem xX6_guest_92 : xdec cX6_guest 92 = some (.ireturn, 93, 0, 0) := by decide +kernel
theorem xX6_guest_93 : xdec cX6_guest 93 = some (.aload_n 0, 94, 0, 0) := by decide +kernel
theorem xX6_guest_94 : xdec cX6_guest 94 = some (.getfield 22, 97, 22, 0) := by decide +kernel
theorem xX6_guest_97 : xdec cX6_guest 97 = some (.iload_n 1, 98, 1, 0) := by decide +kernel
theorem xX6_guest_98 : xdec cX6_guest 98 = some (.iaload, 99, 0, 0) := by decide +kernel
theorem xX6_guest_99 : xdec cX6_guest 99 = some (.ireturn, 100, 0, 0) := by decide +kernel
theorem xX6_guest_100 : xdec cX6_guest 100 = some (.aload_n 0, 101, 0, 0) := by decide +kernel
theorem xX6_guest_101 : xdec cX6_guest 101 = some (.getfield 25, 104, 25, 0) := by decide +kernel
theorem xX6_guest_104 : xdec cX6_guest 104 = some (.iload_n 1, 105, 1, 0) := by decide +kernel
theorem xX6_guest_105 : xdec cX6_guest 105 = some (.iaload, 106, 0, 0) := by decide +kernel
theorem xX6_guest_106 : xdec cX6_guest 106 = some (.ireturn, 107, 0, 0) := by decide +kernel
theorem xX6_guest_107 : xdec cX6_guest 107 = some (.aload_n 0, 108, 0, 0) := by decide +kernel
theorem xX6_guest_108 : xdec cX6_guest 108 = some (.getfield 125, 111, 125, 0) := by decide +kernel
theorem xX6_guest_111 : xdec cX6_guest 111 = some (.iload_n 1, 112, 1, 0) := by decide +kernel
theorem xX6_guest_112 : xdec cX6_guest 112 = some (.invokestatic 105, 115, 0, 0) := by decide +kernel
theorem xX6_guest_115 : xdec cX6_guest 115 = some (.ifCond .eq 7, 118, 122, 0) := by decide +kernel
theorem xX6_guest_118 : xdec cX6_guest 118 = some (.iconst 1, 119, 0, 1) := by decide +kernel
theorem xX6_guest_119 : xdec cX6_guest 119 = some (.goto 4, 122, 123, 0) := by decide +kernel
theorem xX6_guest_122 : xdec cX6_guest 122 = some (.iconst 0, 123, 0, 0) := by decide +kernel
theorem xX6_guest_123 : xdec cX6_guest 123 = some (.ireturn, 124, 0, 0) := by decide +kernel
theorem xX6_guest_124 : xdec cX6_guest 124 = some (.aload_n 0, 125, 0, 0) := by decide +kernel
theorem xX6_guest_125 : xdec cX6_guest 125 = some (.iload_n 1, 126, 1, 0) := by decide +kernel
theorem xX6_guest_126 : xdec cX6_guest 126 = some (.invokevirtual 109, 129, 0, 0) := by decide +kernel
theorem xX6_guest_129 : xdec cX6_guest 129 = some (.ireturn, 130, 0, 0) := by decide +kernel
theorem xX6_guest_130 : xdec cX6_guest 130 = some (.aload_n 0, 131, 0, 0) := by decide +kernel
theorem xX6_guest_131 : xdec cX6_guest 131 = some (.iload_n 1, 132, 1, 0) := by decide +kernel
theorem xX6_guest_132 : xdec cX6_guest 132 = some (.aload_n 0, 133, 0, 0) := by decide +kernel
theorem xX6_guest_133 : xdec cX6_guest 133 = some (.getfield 19, 136, 19, 0) := by decide +kernel
theorem xX6_guest_136 : xdec cX6_guest 136 = some (.iload_n 1, 137, 1, 0) := by decide +kernel
theorem xX6_guest_137 : xdec cX6_guest 137 = some (.iaload, 138, 0, 0) := by decide +kernel
theorem xX6_guest_138 : xdec cX6_guest 138 = some (.invokevirtual 113, 141, 0, 0) := by decide +kernel
theorem xX6_guest_141 : xdec cX6_guest 141 = some (.bipush 10, 143, 0, 10) := by decide +kernel
theorem xX6_guest_143 : xdec cX6_guest 143 = some (.iadd, 144, 0, 0) := by decide +kernel
theorem xX6_guest_144 : xdec cX6_guest 144 = some (.ireturn, 145, 0, 0) := by decide +kernel
theorem xX6_larder_0 : xdec cX6_larder 0 = some (.aload_n 0, 1, 0, 0) := by decide +kernel
theorem xX6_larder_1 : xdec cX6_larder 1 = some (.iconst 0, 2, 0, 0) := by decide +kernel
theorem xX6_larder_2 : xdec cX6_larder 2 = some (.putfield 75, 5, 75, 0) := by decide +kernel
theorem xX6_larder_5 : xdec cX6_larder 5 = some (.iload_n 1, 6, 1, 0) := by decide +kernel
theorem xX6_larder_6 : xdec cX6_larder 6 = some (.invokestatic 220, 9, 0, 0) := by decide +kernel
theorem xX6_larder_9 : xdec cX6_larder 9 = some (.ifCond .eq 12, 12, 21, 0) := by decide +kernel
theorem xX6_larder_12 : xdec cX6_larder 12 = some (.aload_n 0, 13, 0, 0) := by decide +kernel
theorem xX6_larder_13 : xdec cX6_larder 13 = some (.getfield 7, 16, 7, 0) := by decide +kernel
theorem xX6_larder_16 : xdec cX6_larder 16 = some (.iload_n 1, 17, 1, 0) := by decide +kernel
theorem xX6_larder_17 : xdec cX6_larder 17 = some (.iaload, 18, 0, 0) := by decide +kernel
theorem xX6_larder_18 : xdec cX6_larder 18 = some (.goto 4, 21, 22, 0) := by decide +kernel
theorem xX6_larder_21 : xdec cX6_larder 21 = some (.iconst (-1), 22, 0, (-1)) := by decide +kernel
theorem xX6_larder_22 : xdec cX6_larder 22 = some (.ireturn, 23, 0, 0) := by decide +kernel
theorem xX6_comes_0 : xdec cX6_comes 0 = some (.aload_n 0, 1, 0, 0) := by decide +kernel
theorem xX6_comes_1 : xdec cX6_comes 1 = some (.iconst 0, 2, 0, 0) := by decide +kernel
theorem xX6_comes_2 : xdec cX6_comes 2 = some (.putfield 75, 5, 75, 0) := by decide +kernel
theorem xX6_comes_5 : xdec cX6_comes 5 = some (.iload_n 1, 6, 1, 0) := by decide +kernel
theorem xX6_comes_6 : xdec cX6_comes 6 = some (.i2l, 7, 0, 0) := by decide +kernel
theorem xX6_comes_7 : xdec cX6_comes 7 = some (.lconst 0, 8, 0, 0) := by decide +kernel
theorem xX6_comes_8 : xdec cX6_comes 8 = some (.ldc2_w 218, 11, 218, 0) := by decide +kernel
theorem xX6_comes_11 : xdec cX6_comes 11 = some (.invokestatic 81, 14, 0, 0) := by decide +kernel
theorem xX6_comes_14 : xdec cX6_comes 14 = some (.ifCond .eq 10, 17, 24, 0) := by decide +kernel
theorem xX6_comes_17 : xdec cX6_comes 17 = some (.iload_n 2, 18, 2, 0) := by decide +kernel
theorem xX6_comes_18 : xdec cX6_comes 18 = some (.invokestatic 220, 21, 0, 0) := by decide +kernel
theorem xX6_comes_21 : xdec cX6_comes 21 = some (.ifCond .ne 5, 24, 26, 0) := by decide +kernel
theorem xX6_comes_24 : xdec cX6_comes 24 = some (.iconst (-1), 25, 0, (-1)) := by decide +kernel
theorem xX6_comes_25 : xdec cX6_comes 25 = some (.ireturn, 26, 0, 0) := by decide +kernel
theorem xX6_comes_26 : xdec cX6_comes 26 = some (.aload_n 0, 27, 0, 0) := by decide +kernel
theorem xX6_comes_27 : xdec cX6_comes 27 = some (.iload_n 1, 28, 1, 0) := by decide +kernel
theorem xX6_comes_28 : xdec cX6_comes 28 = some (.invokevirtual 223, 31, 0, 0) := by decide +kernel
theorem xX6_comes_31 : xdec cX6_comes 31 = some (.ifCond .lt 12, 34, 43, 0) := by decide +kernel
theorem xX6_comes_34 : xdec cX6_comes 34 = some (.aload_n 0, 35, 0, 0) := by decide +kernel
theorem xX6_comes_35 : xdec cX6_comes 35 = some (.getfield 85, 38, 85, 0) := by decide +kernel
theorem xX6_comes_38 : xdec cX6_comes 38 = some (.bipush 7, 40, 0, 7) := by decide +kernel
theorem xX6_comes_40 : xdec cX6_comes 40 = some (.if_icmp .ne 22, 43, 62, 0) := by decide +kernel
theorem xX6_comes_43 : xdec cX6_comes 43 = some (.aload_n 0, 44, 0, 0) := by decide +kernel
theorem xX6_comes_44 : xdec cX6_comes 44 = some (.iload_n 1, 45, 1, 0) := by decide +kernel
theorem xX6_comes_45 : xdec cX6_comes 45 = some (.invokevirtual 223, 48, 0, 0) := by decide +kernel
theorem xX6_comes_48 : xdec cX6_comes 48 = some (.ifCond .ge 11, 51, 59, 0) := by decide +kernel
theorem xX6_comes_51 : xdec cX6_comes 51 = some (.aload_n 0, 52, 0, 0) := by decide +kernel
theorem xX6_comes_52 : xdec cX6_comes 52 = some (.iload_n 1, 53, 1, 0) := by decide +kernel
theorem xX6_comes_53 : xdec cX6_comes 53 = some (.invokevirtual 223, 56, 0, 0) := by decide +kernel
theorem xX6_comes_56 : xdec cX6_comes 56 = some (.goto 5, 59, 61, 0) := by decide +kernel
theorem xX6_comes_59 : xdec cX6_comes 59 = some (.bipush (-2), 61, 0, (-2)) := by decide +kernel
theorem xX6_comes_61 : xdec cX6_comes 61 = some (.ireturn, 62, 0, 0) := by decide +kernel
theorem xX6_comes_62 : xdec cX6_comes 62 = some (.aload_n 0, 63, 0, 0) := by decide +kernel
theorem xX6_comes_63 : xdec cX6_comes 63 = some (.aload_n 0, 64, 0, 0) := by decide +kernel
theorem xX6_comes_64 : xdec cX6_comes 64 = some (.getfield 31, 67, 31, 0) := by decide +kernel
theorem xX6_comes_67 : xdec cX6_comes 67 = some (.iload_n 1, 68, 1, 0) := by decide +kernel
theorem xX6_comes_68 : xdec cX6_comes 68 = some (.iaload, 69, 0, 0) := by decide +kernel
theorem xX6_comes_69 : xdec cX6_comes 69 = some (.aload_n 0, 70, 0, 0) := by decide +kernel
theorem xX6_comes_70 : xdec cX6_comes 70 = some (.getfield 34, 73, 34, 0) := by decide +kernel
theorem xX6_comes_73 : xdec cX6_comes 73 = some (.iload_n 1, 74, 1, 0) := by decide +kernel
theorem xX6_comes_74 : xdec cX6_comes 74 = some (.iaload, 75, 0, 0) := by decide +kernel
theorem xX6_comes_75 : xdec cX6_comes 75 = some (.iload_n 2, 76, 2, 0) := by decide +kernel
theorem xX6_comes_76 : xdec cX6_comes 76 = some (.invokevirtual 174, 79, 0, 0) := by decide +kernel
theorem xX6_comes_79 : xdec cX6_comes 79 = some (.pop, 80, 0, 0) := by decide +kernel
theorem xX6_comes_80 : xdec cX6_comes 80 = some (.aload_n 0, 81, 0, 0) := by decide +kernel
theorem xX6_comes_81 : xdec cX6_comes 81 = some (.getfield 85, 84, 85, 0) := by decide +kernel
theorem xX6_comes_84 : xdec cX6_comes 84 = some (.iconst 1, 85, 0, 1) := by decide +kernel
theorem xX6_comes_85 : xdec cX6_comes 85 = some (.isub, 86, 0, 0) := by decide +kernel
theorem xX6_comes_86 : xdec cX6_comes 86 = some (.ireturn, 87, 0, 0) := by decide +kernel
theorem xX6_wishes_0 : xdec cX6_wishes 0 = some (.aload_n 0, 1, 0, 0) := by decide +kernel
theorem xX6_wishes_1 : xdec cX6_wishes 1 = some (.iconst 0, 2, 0, 0) := by decide +kernel
theorem xX6_wishes_2 : xdec cX6_wishes 2 = some (.putfield 75, 5, 75, 0) := by decide +kernel
theorem xX6_wishes_5 : xdec cX6_wishes 5 = some (.aload_n 0, 6, 0, 0) := by decide +kernel
theorem xX6_wishes_6 : xdec cX6_wishes 6 = some (.iload_n 1, 7, 1, 0) := by decide +kernel
theorem xX6_wishes_7 : xdec cX6_wishes 7 = some (.invokevirtual 171, 10, 0, 0) := by decide +kernel
theorem xX6_wishes_10 : xdec cX6_wishes 10 = some (.ifCond .eq 10, 13, 20, 0) := by decide +kernel
theorem xX6_wishes_13 : xdec cX6_wishes 13 = some (.iload_n 2, 14, 2, 0) := by decide +kernel
theorem xX6_wishes_14 : xdec cX6_wishes 14 = some (.invokestatic 220, 17, 0, 0) := by decide +kernel
theorem xX6_wishes_17 : xdec cX6_wishes 17 = some (.ifCond .ne 5, 20, 22, 0) := by decide +kernel
theorem xX6_wishes_20 : xdec cX6_wishes 20 = some (.iconst (-1), 21, 0, (-1)) := by decide +kernel
theorem xX6_wishes_21 : xdec cX6_wishes 21 = some (.ireturn, 22, 0, 0) := by decide +kernel
theorem xX6_wishes_22 : xdec cX6_wishes 22 = some (.aload_n 0, 23, 0, 0) := by decide +kernel
theorem xX6_wishes_23 : xdec cX6_wishes 23 = some (.getfield 19, 26, 19, 0) := by decide +kernel
theorem xX6_wishes_26 : xdec cX6_wishes 26 = some (.iload_n 1, 27, 1, 0) := by decide +kernel
theorem xX6_wishes_27 : xdec cX6_wishes 27 = some (.iaload, 28, 0, 0) := by decide +kernel
theorem xX6_wishes_28 : xdec cX6_wishes 28 = some (.istore_n 3, 29, 3, 0) := by decide +kernel
theorem xX6_wishes_29 : xdec cX6_wishes 29 = some (.aload_n 0, 30, 0, 0) := by decide +kernel
theorem xX6_wishes_30 : xdec cX6_wishes 30 = some (.getfield 19, 33, 19, 0) := by decide +kernel
theorem xX6_wishes_33 : xdec cX6_wishes 33 = some (.iload_n 1, 34, 1, 0) := by decide +kernel
theorem xX6_wishes_34 : xdec cX6_wishes 34 = some (.iload_n 2, 35, 2, 0) := by decide +kernel
theorem xX6_wishes_35 : xdec cX6_wishes 35 = some (.iastore, 36, 0, 0) := by decide +kernel
theorem xX6_wishes_36 : xdec cX6_wishes 36 = some (.iload_n 3, 37, 3, 0) := by decide +kernel
theorem xX6_wishes_37 : xdec cX6_wishes 37 = some (.ireturn, 38, 0, 0) := by decide +kernel
theorem xX6_heals_0 : xdec cX6_heals 0 = some (.aload_n 0, 1, 0, 0) := by decide +kernel
theorem xX6_heals_1 : xdec cX6_heals 1 = some (.iconst 0, 2, 0, 0) := by decide +kernel
theorem xX6_heals_2 : xdec cX6_heals 2 = some (.putfield 75, 5, 75, 0) := by decide +kernel
theorem xX6_heals_5 : xdec cX6_heals 5 = some (.aload_n 0, 6, 0, 0) := by decide +kernel
theorem xX6_heals_6 : xdec cX6_heals 6 = some (.iload_n 1, 7, 1, 0) := by decide +kernel
theorem xX6_heals_7 : xdec cX6_heals 7 = some (.invokevirtual 171, 10, 0, 0) := by decide +kernel
theorem xX6_heals_10 : xdec cX6_heals 10 = some (.ifCond .eq 15, 13, 25, 0) := by decide +kernel
theorem xX6_heals_13 : xdec cX6_heals 13 = some (.iload_n 2, 14, 2, 0) := by decide +kernel
theorem xX6_heals_14 : xdec cX6_heals 14 = some (.i2l, 15, 0, 0) := by decide +kernel
theorem xX6_heals_15 : xdec cX6_heals 15 = some (.lconst 1, 16, 0, 1) := by decide +kernel
theorem xX6_heals_16 : xdec cX6_heals 16 = some (.ldc2_w 226, 19, 226, 0) := by decide +kernel
theorem xX6_heals_19 : xdec cX6_heals 19 = some (.invokestatic 81, 22, 0, 0) := by decide +kernel
theorem xX6_heals_22 : xdec cX6_heals 22 = some (.ifCond .ne 5, 25, 27, 0) := by decide +kernel
theorem xX6_heals_25 : xdec cX6_heals 25 = some (.iconst (-1), 26, 0, (-1)) := by decide +kernel
theorem xX6_heals_26 : xdec cX6_heals 26 = some (.ireturn, 27, 0, 0) := by decide +kernel
theorem xX6_heals_27 : xdec cX6_heals 27 = some (.aload_n 0, 28, 0, 0) := by decide +kernel
theorem xX6_heals_28 : xdec cX6_heals 28 = some (.getfield 125, 31, 125, 0) := by decide +kernel
theorem xX6_heals_31 : xdec cX6_heals 31 = some (.iload_n 1, 32, 1, 0) := by decide +kernel
theorem xX6_heals_32 : xdec cX6_heals 32 = some (.invokestatic 105, 35, 0, 0) := by decide +kernel
theorem xX6_heals_35 : xdec cX6_heals 35 = some (.ifCond .ne 6, 38, 41, 0) := by decide +kernel
theorem xX6_heals_38 : xdec cX6_heals 38 = some (.bipush (-3), 40, 0, (-3)) := by decide +kernel
theorem xX6_heals_40 : xdec cX6_heals 40 = some (.ireturn, 41, 0, 0) := by decide +kernel
theorem xX6_heals_41 : xdec cX6_heals 41 = some (.aload_n 0, 42, 0, 0) := by decide +kernel
theorem xX6_heals_42 : xdec cX6_heals 42 = some (.getfield 25, 45, 25, 0) := by decide +kernel
theorem xX6_heals_45 : xdec cX6_heals 45 = some (.iload_n 1, 46, 1, 0) := by decide +kernel
theorem xX6_heals_46 : xdec cX6_heals 46 = some (.iaload, 47, 0, 0) := by decide +kernel
theorem xX6_heals_47 : xdec cX6_heals 47 = some (.istore_n 3, 48, 3, 0) := by decide +kernel
theorem xX6_heals_48 : xdec cX6_heals 48 = some (.aload_n 0, 49, 0, 0) := by decide +kernel
theorem xX6_heals_49 : xdec cX6_heals 49 = some (.getfield 25, 52, 25, 0) := by decide +kernel
theorem xX6_heals_52 : xdec cX6_heals 52 = some (.iload_n 1, 53, 1, 0) := by decide +kernel
theorem xX6_heals_53 : xdec cX6_heals 53 = some (.iload_n 2, 54, 2, 0) := by decide +kernel
theorem xX6_heals_54 : xdec cX6_heals 54 = some (.iastore, 55, 0, 0) := by decide +kernel
theorem xX6_heals_55 : xdec cX6_heals 55 = some (.iload_n 3, 56, 3, 0) := by decide +kernel
theorem xX6_heals_56 : xdec cX6_heals 56 = some (.ireturn, 57, 0, 0) := by decide +kernel
theorem xX6_fills_0 : xdec cX6_fills 0 = some (.aload_n 0, 1, 0, 0) := by decide +kernel
theorem xX6_fills_1 : xdec cX6_fills 1 = some (.iconst 0, 2, 0, 0) := by decide +kernel
theorem xX6_fills_2 : xdec cX6_fills 2 = some (.putfield 75, 5, 75, 0) := by decide +kernel
theorem xX6_fills_5 : xdec cX6_fills 5 = some (.iload_n 1, 6, 1, 0) := by decide +kernel
theorem xX6_fills_6 : xdec cX6_fills 6 = some (.invokestatic 220, 9, 0, 0) := by decide +kernel
theorem xX6_fills_9 : xdec cX6_fills 9 = some (.ifCond .eq 15, 12, 24, 0) := by decide +kernel
theorem xX6_fills_12 : xdec cX6_fills 12 = some (.iload_n 2, 13, 2, 0) := by decide +kernel
theorem xX6_fills_13 : xdec cX6_fills 13 = some (.i2l, 14, 0, 0) := by decide +kernel
theorem xX6_fills_14 : xdec cX6_fills 14 = some (.lconst 0, 15, 0, 0) := by decide +kernel
theorem xX6_fills_15 : xdec cX6_fills 15 = some (.ldc2_w 226, 18, 226, 0) := by decide +kernel
theorem xX6_fills_18 : xdec cX6_fills 18 = some (.invokestatic 81, 21, 0, 0) := by decide +kernel
theorem xX6_fills_21 : xdec cX6_fills 21 = some (.ifCond .ne 5, 24, 26, 0) := by decide +kernel
theorem xX6_fills_24 : xdec cX6_fills 24 = some (.iconst (-1), 25, 0, (-1)) := by decide +kernel
theorem xX6_fills_25 : xdec cX6_fills 25 = some (.ireturn, 26, 0, 0) := by decide +kernel
theorem xX6_fills_26 : xdec cX6_fills 26 = some (.aload_n 0, 27, 0, 0) := by decide +kernel
theorem xX6_fills_27 : xdec cX6_fills 27 = some (.getfield 7, 30, 7, 0) := by decide +kernel
theorem xX6_fills_30 : xdec cX6_fills 30 = some (.iload_n 1, 31, 1, 0) := by decide +kernel
theorem xX6_fills_31 : xdec cX6_fills 31 = some (.iaload, 32, 0, 0) := by decide +kernel
theorem xX6_fills_32 : xdec cX6_fills 32 = some (.istore_n 3, 33, 3, 0) := by decide +kernel
theorem xX6_fills_33 : xdec cX6_fills 33 = some (.aload_n 0, 34, 0, 0) := by decide +kernel
theorem xX6_fills_34 : xdec cX6_fills 34 = some (.getfield 7, 37, 7, 0) := by decide +kernel
theorem xX6_fills_37 : xdec cX6_fills 37 = some (.iload_n 1, 38, 1, 0) := by decide +kernel
theorem xX6_fills_38 : xdec cX6_fills 38 = some (.iload_n 2, 39, 2, 0) := by decide +kernel
theorem xX6_fills_39 : xdec cX6_fills 39 = some (.iastore, 40, 0, 0) := by decide +kernel
theorem xX6_fills_40 : xdec cX6_fills 40 = some (.iload_n 3, 41, 3, 0) := by decide +kernel
theorem xX6_fills_41 : xdec cX6_fills 41 = some (.ireturn, 42, 0, 0) := by decide +kernel
theorem xX6_nights_0 : xdec cX6_nights 0 = some (.aload_n 0, 1, 0, 0) := by decide +kernel
theorem xX6_nights_1 : xdec cX6_nights 1 = some (.iconst 0, 2, 0, 0) := by decide +kernel
theorem xX6_nights_2 : xdec cX6_nights 2 = some (.putfield 75, 5, 75, 0) := by decide +kernel
theorem xX6_nights_5 : xdec cX6_nights 5 = some (.iload_n 1, 6, 1, 0) := by decide +kernel
theorem xX6_nights_6 : xdec cX6_nights 6 = some (.i2l, 7, 0, 0) := by decide +kernel
theorem xX6_nights_7 : xdec cX6_nights 7 = some (.lconst 1, 8, 0, 1) := by decide +kernel
theorem xX6_nights_8 : xdec cX6_nights 8 = some (.ldc2_w 166, 11, 166, 0) := by decide +kernel
theorem xX6_nights_11 : xdec cX6_nights 11 = some (.invokestatic 81, 14, 0, 0) := by decide +kernel
theorem xX6_nights_14 : xdec cX6_nights 14 = some (.ifCond .ne 5, 17, 19, 0) := by decide +kernel
theorem xX6_nights_17 : xdec cX6_nights 17 = some (.iconst (-1), 18, 0, (-1)) := by decide +kernel
theorem xX6_nights_18 : xdec cX6_nights 18 = some (.ireturn, 19, 0, 0) := by decide +kernel
theorem xX6_nights_19 : xdec cX6_nights 19 = some (.aload_n 0, 20, 0, 0) := by decide +kernel
theorem xX6_nights_20 : xdec cX6_nights 20 = some (.getfield 92, 23, 92, 0) := by decide +kernel
theorem xX6_nights_23 : xdec cX6_nights 23 = some (.iload_n 1, 24, 1, 0) := by decide +kernel
theorem xX6_nights_24 : xdec cX6_nights 24 = some (.iadd, 25, 0, 0) := by decide +kernel
theorem xX6_nights_25 : xdec cX6_nights 25 = some (.sipush 999, 28, 0, 999) := by decide +kernel
theorem xX6_nights_28 : xdec cX6_nights 28 = some (.if_icmp .le 6, 31, 34, 0) := by decide +kernel
theorem xX6_nights_31 : xdec cX6_nights 31 = some (.bipush (-3), 33, 0, (-3)) := by decide +kernel
theorem xX6_nights_33 : xdec cX6_nights 33 = some (.ireturn, 34, 0, 0) := by decide +kernel
theorem xX6_nights_34 : xdec cX6_nights 34 = some (.aload_n 0, 35, 0, 0) := by decide +kernel
theorem xX6_nights_35 : xdec cX6_nights 35 = some (.iload_n 1, 36, 1, 0) := by decide +kernel
theorem xX6_nights_36 : xdec cX6_nights 36 = some (.invokevirtual 168, 39, 0, 0) := by decide +kernel
theorem xX6_nights_39 : xdec cX6_nights 39 = some (.aload_n 0, 40, 0, 0) := by decide +kernel
theorem xX6_nights_40 : xdec cX6_nights 40 = some (.getfield 125, 43, 125, 0) := by decide +kernel
theorem xX6_nights_43 : xdec cX6_nights 43 = some (.invokestatic 228, 46, 0, 0) := by decide +kernel
theorem xX6_nights_46 : xdec cX6_nights 46 = some (.ireturn, 47, 0, 0) := by decide +kernel
theorem xX6_guestThen_0 : xdec cX6_guestThen 0 = some (.aload_n 0, 1, 0, 0) := by decide +kernel
theorem xX6_guestThen_1 : xdec cX6_guestThen 1 = some (.iconst 0, 2, 0, 0) := by decide +kernel
theorem xX6_guestThen_2 : xdec cX6_guestThen 2 = some (.putfield 75, 5, 75, 0) := by decide +kernel
theorem xX6_guestThen_5 : xdec cX6_guestThen 5 = some (.aload_n 0, 6, 0, 0) := by decide +kernel
theorem xX6_guestThen_6 : xdec cX6_guestThen 6 = some (.iload_n 1, 7, 1, 0) := by decide +kernel
theorem xX6_guestThen_7 : xdec cX6_guestThen 7 = some (.invokevirtual 171, 10, 0, 0) := by decide +kernel
theorem xX6_guestThen_10 : xdec cX6_guestThen 10 = some (.ifCond .eq 25, 13, 35, 0) := by decide +kernel
theorem xX6_guestThen_13 : xdec cX6_guestThen 13 = some (.iload_n 2, 14, 2, 0) := by decide +kernel
theorem xX6_guestThen_14 : xdec cX6_guestThen 14 = some (.i2l, 15, 0, 0) := by decide +kernel
theorem xX6_guestThen_15 : xdec cX6_guestThen 15 = some (.lconst 0, 16, 0, 0) := by decide +kernel
theorem xX6_guestThen_16 : xdec cX6_guestThen 16 = some (.ldc2_w 166, 19, 166, 0) := by decide +kernel
theorem xX6_guestThen_19 : xdec cX6_guestThen 19 = some (.invokestatic 81, 22, 0, 0) := by decide +kernel
theorem xX6_guestThen_22 : xdec cX6_guestThen 22 = some (.ifCond .eq 13, 25, 35, 0) := by decide +kernel
theorem xX6_guestThen_25 : xdec cX6_guestThen 25 = some (.iload_n 3, 26, 3, 0) := by decide +kernel
theorem xX6_guestThen_26 : xdec cX6_guestThen 26 = some (.i2l, 27, 0, 0) := by decide +kernel
theorem xX6_guestThen_27 : xdec cX6_guestThen 27 = some (.lconst 0, 28, 0, 0) := by decide +kernel
theorem xX6_guestThen_28 : xdec cX6_guestThen 28 = some (.lconst 1, 29, 0, 1) := by decide +kernel
theorem xX6_guestThen_29 : xdec cX6_guestThen 29 = some (.invokestatic 81, 32, 0, 0) := by decide +kernel
theorem xX6_guestThen_32 : xdec cX6_guestThen 32 = some (.ifCond .ne 5, 35, 37, 0) := by decide +kernel
theorem xX6_guestThen_35 : xdec cX6_guestThen 35 = some (.iconst (-1), 36, 0, (-1)) := by decide +kernel
theorem xX6_guestThen_36 : xdec cX6_guestThen 36 = some (.ireturn, 37, 0, 0) := by decide +kernel
theorem xX6_guestThen_37 : xdec cX6_guestThen 37 = some (.aload_n 0, 38, 0, 0) := by decide +kernel
theorem xX6_guestThen_38 : xdec cX6_guestThen 38 = some (.invokevirtual 190, 41, 0, 0) := by decide +kernel
theorem xX6_guestThen_41 : xdec cX6_guestThen 41 = some (.aload_n 0, 42, 0, 0) := by decide +kernel
theorem xX6_guestThen_42 : xdec cX6_guestThen 42 = some (.iload_n 2, 43, 2, 0) := by decide +kernel
theorem xX6_guestThen_43 : xdec cX6_guestThen 43 = some (.invokevirtual 168, 46, 0, 0) := by decide +kernel
theorem xX6_guestThen_46 : xdec cX6_guestThen 46 = some (.iload_n 3, 47, 3, 0) := by decide +kernel
theorem xX6_guestThen_47 : xdec cX6_guestThen 47 = some (.ifCond .ne 12, 50, 59, 0) := by decide +kernel
theorem xX6_guestThen_50 : xdec cX6_guestThen 50 = some (.aload_n 0, 51, 0, 0) := by decide +kernel
theorem xX6_guestThen_51 : xdec cX6_guestThen 51 = some (.getfield 25, 54, 25, 0) := by decide +kernel
theorem xX6_guestThen_54 : xdec cX6_guestThen 54 = some (.iload_n 1, 55, 1, 0) := by decide +kernel
theorem xX6_guestThen_55 : xdec cX6_guestThen 55 = some (.iaload, 56, 0, 0) := by decide +kernel
theorem xX6_guestThen_56 : xdec cX6_guestThen 56 = some (.goto 9, 59, 65, 0) := by decide +kernel
theorem xX6_guestThen_59 : xdec cX6_guestThen 59 = some (.aload_n 0, 60, 0, 0) := by decide +kernel
theorem xX6_guestThen_60 : xdec cX6_guestThen 60 = some (.getfield 22, 63, 22, 0) := by decide +kernel
theorem xX6_guestThen_63 : xdec cX6_guestThen 63 = some (.iload_n 1, 64, 1, 0) := by decide +kernel
theorem xX6_guestThen_64 : xdec cX6_guestThen 64 = some (.iaload, 65, 0, 0) := by decide +kernel
theorem xX6_guestThen_65 : xdec cX6_guestThen 65 = some (.istore 4, 67, 4, 0) := by decide +kernel
theorem xX6_guestThen_67 : xdec cX6_guestThen 67 = some (.aload_n 0, 68, 0, 0) := by decide +kernel
theorem xX6_guestThen_68 : xdec cX6_guestThen 68 = some (.invokevirtual 196, 71, 0, 0) := by decide +kernel
theorem xX6_guestThen_71 : xdec cX6_guestThen 71 = some (.iload 4, 73, 4, 0) := by decide +kernel
theorem xX6_guestThen_73 : xdec cX6_guestThen 73 = some (.ireturn, 74, 0, 0) := by decide +kernel
theorem xX6_larderThen_0 : xdec cX6_larderThen 0 = some (.aload_n 0, 1, 0, 0) := by decide +kernel
theorem xX6_larderThen_1 : xdec cX6_larderThen 1 = some (.iconst 0, 2, 0, 0) := by decide +kernel
theorem xX6_larderThen_2 : xdec cX6_larderThen 2 = some (.putfield 75, 5, 75, 0) := by decide +kernel
theorem xX6_larderThen_5 : xdec cX6_larderThen 5 = some (.iload_n 1, 6, 1, 0) := by decide +kernel
theorem xX6_larderThen_6 : xdec cX6_larderThen 6 = some (.invokestatic 220, 9, 0, 0) := by decide +kernel
theorem xX6_larderThen_9 : xdec cX6_larderThen 9 = some (.ifCond .eq 15, 12, 24, 0) := by decide +kernel
theorem xX6_larderThen_12 : xdec cX6_larderThen 12 = some (.iload_n 2, 13, 2, 0) := by decide +kernel
theorem xX6_larderThen_13 : xdec cX6_larderThen 13 = some (.i2l, 14, 0, 0) := by decide +kernel
theorem xX6_larderThen_14 : xdec cX6_larderThen 14 = some (.lconst 0, 15, 0, 0) := by decide +kernel
theorem xX6_larderThen_15 : xdec cX6_larderThen 15 = some (.ldc2_w 166, 18, 166, 0) := by decide +kernel
theorem xX6_larderThen_18 : xdec cX6_larderThen 18 = some (.invokestatic 81, 21, 0, 0) := by decide +kernel
theorem xX6_larderThen_21 : xdec cX6_larderThen 21 = some (.ifCond .ne 5, 24, 26, 0) := by decide +kernel
theorem xX6_larderThen_24 : xdec cX6_larderThen 24 = some (.iconst (-1), 25, 0, (-1)) := by decide +kernel
theorem xX6_larderThen_25 : xdec cX6_larderThen 25 = some (.ireturn, 26, 0, 0) := by decide +kernel
theorem xX6_larderThen_26 : xdec cX6_larderThen 26 = some (.aload_n 0, 27, 0, 0) := by decide +kernel
theorem xX6_larderThen_27 : xdec cX6_larderThen 27 = some (.invokevirtual 190, 30, 0, 0) := by decide +kernel
theorem xX6_larderThen_30 : xdec cX6_larderThen 30 = some (.aload_n 0, 31, 0, 0) := by decide +kernel
theorem xX6_larderThen_31 : xdec cX6_larderThen 31 = some (.iload_n 2, 32, 2, 0) := by decide +kernel
theorem xX6_larderThen_32 : xdec cX6_larderThen 32 = some (.invokevirtual 168, 35, 0, 0) := by decide +kernel
theorem xX6_larderThen_35 : xdec cX6_larderThen 35 = some (.aload_n 0, 36, 0, 0) := by decide +kernel
theorem xX6_larderThen_36 : xdec cX6_larderThen 36 = some (.getfield 7, 39, 7, 0) := by decide +kernel
theorem xX6_larderThen_39 : xdec cX6_larderThen 39 = some (.iload_n 1, 40, 1, 0) := by decide +kernel
theorem xX6_larderThen_40 : xdec cX6_larderThen 40 = some (.iaload, 41, 0, 0) := by decide +kernel
theorem xX6_larderThen_41 : xdec cX6_larderThen 41 = some (.istore_n 3, 42, 3, 0) := by decide +kernel
theorem xX6_larderThen_42 : xdec cX6_larderThen 42 = some (.aload_n 0, 43, 0, 0) := by decide +kernel
theorem xX6_larderThen_43 : xdec cX6_larderThen 43 = some (.invokevirtual 196, 46, 0, 0) := by decide +kernel
theorem xX6_larderThen_46 : xdec cX6_larderThen 46 = some (.iload_n 3, 47, 3, 0) := by decide +kernel
theorem xX6_larderThen_47 : xdec cX6_larderThen 47 = some (.ireturn, 48, 0, 0) := by decide +kernel
theorem xX6_then_0 : xdec cX6_then 0 = some (.aload_n 0, 1, 0, 0) := by decide +kernel
theorem xX6_then_1 : xdec cX6_then 1 = some (.iconst 0, 2, 0, 0) := by decide +kernel
theorem xX6_then_2 : xdec cX6_then 2 = some (.putfield 75, 5, 75, 0) := by decide +kernel
theorem xX6_then_5 : xdec cX6_then 5 = some (.iload_n 1, 6, 1, 0) := by decide +kernel
theorem xX6_then_6 : xdec cX6_then 6 = some (.i2l, 7, 0, 0) := by decide +kernel
theorem xX6_then_7 : xdec cX6_then 7 = some (.lconst 0, 8, 0, 0) := by decide +kernel
theorem xX6_then_8 : xdec cX6_then 8 = some (.ldc2_w 166, 11, 166, 0) := by decide +kernel
theorem xX6_then_11 : xdec cX6_then 11 = some (.invokestatic 81, 14, 0, 0) := by decide +kernel
theorem xX6_then_14 : xdec cX6_then 14 = some (.ifCond .eq 15, 17, 29, 0) := by decide +kernel
theorem xX6_then_17 : xdec cX6_then 17 = some (.iload_n 2, 18, 2, 0) := by decide +kernel
theorem xX6_then_18 : xdec cX6_then 18 = some (.i2l, 19, 0, 0) := by decide +kernel
theorem xX6_then_19 : xdec cX6_then 19 = some (.lconst 0, 20, 0, 0) := by decide +kernel
theorem xX6_then_20 : xdec cX6_then 20 = some (.ldc2_w 231, 23, 231, 0) := by decide +kernel
theorem xX6_then_23 : xdec cX6_then 23 = some (.invokestatic 81, 26, 0, 0) := by decide +kernel
theorem xX6_then_26 : xdec cX6_then 26 = some (.ifCond .ne 5, 29, 31, 0) := by decide +kernel
theorem xX6_then_29 : xdec cX6_then 29 = some (.iconst (-1), 30, 0, (-1)) := by decide +kernel
theorem xX6_then_30 : xdec cX6_then 30 = some (.ireturn, 31, 0, 0) := by decide +kernel
theorem xX6_then_31 : xdec cX6_then 31 = some (.aload_n 0, 32, 0, 0) := by decide +kernel
theorem xX6_then_32 : xdec cX6_then 32 = some (.invokevirtual 190, 35, 0, 0) := by decide +kernel
theorem xX6_then_35 : xdec cX6_then 35 = some (.aload_n 0, 36, 0, 0) := by decide +kernel
theorem xX6_then_36 : xdec cX6_then 36 = some (.iload_n 1, 37, 1, 0) := by decide +kernel
theorem xX6_then_37 : xdec cX6_then 37 = some (.invokevirtual 168, 40, 0, 0) := by decide +kernel
theorem xX6_then_40 : xdec cX6_then 40 = some (.iload_n 2, 41, 2, 0) := by decide +kernel
theorem xX6_then_41 : xdec cX6_then 41 = some (.ifCond .ne 10, 44, 51, 0) := by decide +kernel
theorem xX6_then_44 : xdec cX6_then 44 = some (.aload_n 0, 45, 0, 0) := by decide +kernel
theorem xX6_then_45 : xdec cX6_then 45 = some (.getfield 125, 48, 125, 0) := by decide +kernel
theorem xX6_then_48 : xdec cX6_then 48 = some (.goto 19, 51, 67, 0) := by decide +kernel
theorem xX6_then_51 : xdec cX6_then 51 = some (.iload_n 2, 52, 2, 0) := by decide +kernel
theorem xX6_then_52 : xdec cX6_then 52 = some (.iconst 1, 53, 0, 1) := by decide +kernel
theorem xX6_then_53 : xdec cX6_then 53 = some (.if_icmp .ne 10, 56, 63, 0) := by decide +kernel
theorem xX6_then_56 : xdec cX6_then 56 = some (.aload_n 0, 57, 0, 0) := by decide +kernel
theorem xX6_then_57 : xdec cX6_then 57 = some (.getfield 116, 60, 116, 0) := by decide +kernel
theorem xX6_then_60 : xdec cX6_then 60 = some (.goto 7, 63, 67, 0) := by decide +kernel
theorem xX6_then_63 : xdec cX6_then 63 = some (.aload_n 0, 64, 0, 0) := by decide +kernel
theorem xX6_then_64 : xdec cX6_then 64 = some (.getfield 122, 67, 122, 0) := by decide +kernel
theorem xX6_then_67 : xdec cX6_then 67 = some (.istore_n 3, 68, 3, 0) := by decide +kernel
theorem xX6_then_68 : xdec cX6_then 68 = some (.aload_n 0, 69, 0, 0) := by decide +kernel
theorem xX6_then_69 : xdec cX6_then 69 = some (.invokevirtual 196, 72, 0, 0) := by decide +kernel
theorem xX6_then_72 : xdec cX6_then 72 = some (.iload_n 3, 73, 3, 0) := by decide +kernel
theorem xX6_then_73 : xdec cX6_then 73 = some (.ireturn, 74, 0, 0) := by decide +kernel
theorem xX6_leavesIn_0 : xdec cX6_leavesIn 0 = some (.bipush 61, 2, 0, 61) := by decide +kernel
theorem xX6_leavesIn_2 : xdec cX6_leavesIn 2 = some (.istore_n 2, 3, 2, 0) := by decide +kernel
theorem xX6_leavesIn_3 : xdec cX6_leavesIn 3 = some (.aload_n 0, 4, 0, 0) := by decide +kernel
theorem xX6_leavesIn_4 : xdec cX6_leavesIn 4 = some (.invokevirtual 190, 7, 0, 0) := by decide +kernel
theorem xX6_leavesIn_7 : xdec cX6_leavesIn 7 = some (.iconst 0, 8, 0, 0) := by decide +kernel
theorem xX6_leavesIn_8 : xdec cX6_leavesIn 8 = some (.istore_n 3, 9, 3, 0) := by decide +kernel
theorem xX6_leavesIn_9 : xdec cX6_leavesIn 9 = some (.iload_n 3, 10, 3, 0) := by decide +kernel
theorem xX6_leavesIn_10 : xdec cX6_leavesIn 10 = some (.bipush 60, 12, 0, 60) := by decide +kernel
theorem xX6_leavesIn_12 : xdec cX6_leavesIn 12 = some (.if_icmp .gt 37, 15, 49, 0) := by decide +kernel
theorem xX6_leavesIn_15 : xdec cX6_leavesIn 15 = some (.iload_n 2, 16, 2, 0) := by decide +kernel
theorem xX6_leavesIn_16 : xdec cX6_leavesIn 16 = some (.bipush 61, 18, 0, 61) := by decide +kernel
theorem xX6_leavesIn_18 : xdec cX6_leavesIn 18 = some (.if_icmp .ne 31, 21, 49, 0) := by decide +kernel
theorem xX6_leavesIn_21 : xdec cX6_leavesIn 21 = some (.aload_n 0, 22, 0, 0) := by decide +kernel
theorem xX6_leavesIn_22 : xdec cX6_leavesIn 22 = some (.getfield 125, 25, 125, 0) := by decide +kernel
theorem xX6_leavesIn_25 : xdec cX6_leavesIn 25 = some (.iload_n 1, 26, 1, 0) := by decide +kernel
theorem xX6_leavesIn_26 : xdec cX6_leavesIn 26 = some (.invokestatic 105, 29, 0, 0) := by decide +kernel
theorem xX6_leavesIn_29 : xdec cX6_leavesIn 29 = some (.ifCond .eq 8, 32, 37, 0) := by decide +kernel
theorem xX6_leavesIn_32 : xdec cX6_leavesIn 32 = some (.bipush 61, 34, 0, 61) := by decide +kernel
theorem xX6_leavesIn_34 : xdec cX6_leavesIn 34 = some (.goto 4, 37, 38, 0) := by decide +kernel
theorem xX6_leavesIn_37 : xdec cX6_leavesIn 37 = some (.iload_n 3, 38, 3, 0) := by decide +kernel
theorem xX6_leavesIn_38 : xdec cX6_leavesIn 38 = some (.istore_n 2, 39, 2, 0) := by decide +kernel
theorem xX6_leavesIn_39 : xdec cX6_leavesIn 39 = some (.aload_n 0, 40, 0, 0) := by decide +kernel
theorem xX6_leavesIn_40 : xdec cX6_leavesIn 40 = some (.invokevirtual 132, 43, 0, 0) := by decide +kernel
theorem xX6_leavesIn_43 : xdec cX6_leavesIn 43 = some (.iinc 3 1, 46, 3, 1) := by decide +kernel
theorem xX6_leavesIn_46 : xdec cX6_leavesIn 46 = some (.goto (-37), 49, 9, 0) := by decide +kernel
theorem xX6_leavesIn_49 : xdec cX6_leavesIn 49 = some (.aload_n 0, 50, 0, 0) := by decide +kernel
theorem xX6_leavesIn_50 : xdec cX6_leavesIn 50 = some (.invokevirtual 196, 53, 0, 0) := by decide +kernel
theorem xX6_leavesIn_53 : xdec cX6_leavesIn 53 = some (.iload_n 2, 54, 2, 0) := by decide +kernel
theorem xX6_leavesIn_54 : xdec cX6_leavesIn 54 = some (.ireturn, 55, 0, 0) := by decide +kernel
theorem xX6_leaves_0 : xdec cX6_leaves 0 = some (.aload_n 0, 1, 0, 0) := by decide +kernel
theorem xX6_leaves_1 : xdec cX6_leaves 1 = some (.iconst 0, 2, 0, 0) := by decide +kernel
theorem xX6_leaves_2 : xdec cX6_leaves 2 = some (.putfield 75, 5, 75, 0) := by decide +kernel
theorem xX6_leaves_5 : xdec cX6_leaves 5 = some (.iload_n 1, 6, 1, 0) := by decide +kernel
theorem xX6_leaves_6 : xdec cX6_leaves 6 = some (.i2l, 7, 0, 0) := by decide +kernel
theorem xX6_leaves_7 : xdec cX6_leaves 7 = some (.ldc2_w 233, 10, 233, 0) := by decide +kernel
theorem xX6_leaves_10 : xdec cX6_leaves 10 = some (.aload_n 0, 11, 0, 0) := by decide +kernel
theorem xX6_leaves_11 : xdec cX6_leaves 11 = some (.getfield 85, 14, 85, 0) := by decide +kernel
theorem xX6_leaves_14 : xdec cX6_leaves 14 = some (.iconst 1, 15, 0, 1) := by decide +kernel
theorem xX6_leaves_15 : xdec cX6_leaves 15 = some (.isub, 16, 0, 0) := by decide +kernel
theorem xX6_leaves_16 : xdec cX6_leaves 16 = some (.i2l, 17, 0, 0) := by decide +kernel
theorem xX6_leaves_17 : xdec cX6_leaves 17 = some (.invokestatic 81, 20, 0, 0) := by decide +kernel
theorem xX6_leaves_20 : xdec cX6_leaves 20 = some (.ifCond .ne 5, 23, 25, 0) := by decide +kernel
theorem xX6_leaves_23 : xdec cX6_leaves 23 = some (.iconst (-1), 24, 0, (-1)) := by decide +kernel
theorem xX6_leaves_24 : xdec cX6_leaves 24 = some (.ireturn, 25, 0, 0) := by decide +kernel
theorem xX6_leaves_25 : xdec cX6_leaves 25 = some (.iload_n 1, 26, 1, 0) := by decide +kernel
theorem xX6_leaves_26 : xdec cX6_leaves 26 = some (.ifCond .lt 22, 29, 48, 0) := by decide +kernel
theorem xX6_leaves_29 : xdec cX6_leaves 29 = some (.aload_n 0, 30, 0, 0) := by decide +kernel
theorem xX6_leaves_30 : xdec cX6_leaves 30 = some (.iload_n 1, 31, 1, 0) := by decide +kernel
theorem xX6_leaves_31 : xdec cX6_leaves 31 = some (.invokevirtual 235, 34, 0, 0) := by decide +kernel
theorem xX6_leaves_34 : xdec cX6_leaves 34 = some (.istore_n 2, 35, 2, 0) := by decide +kernel
theorem xX6_leaves_35 : xdec cX6_leaves 35 = some (.iload_n 2, 36, 2, 0) := by decide +kernel
theorem xX6_leaves_36 : xdec cX6_leaves 36 = some (.bipush 61, 38, 0, 61) := by decide +kernel
theorem xX6_leaves_38 : xdec cX6_leaves 38 = some (.if_icmp .ne 8, 41, 46, 0) := by decide +kernel
theorem xX6_leaves_41 : xdec cX6_leaves 41 = some (.bipush (-4), 43, 0, (-4)) := by decide +kernel
theorem xX6_leaves_43 : xdec cX6_leaves 43 = some (.goto 4, 46, 47, 0) := by decide +kernel
theorem xX6_leaves_46 : xdec cX6_leaves 46 = some (.iload_n 2, 47, 2, 0) := by decide +kernel
theorem xX6_leaves_47 : xdec cX6_leaves 47 = some (.ireturn, 48, 0, 0) := by decide +kernel
theorem xX6_leaves_48 : xdec cX6_leaves 48 = some (.bipush (-4), 50, 0, (-4)) := by decide +kernel
theorem xX6_leaves_50 : xdec cX6_leaves 50 = some (.istore_n 2, 51, 2, 0) := by decide +kernel
theorem xX6_leaves_51 : xdec cX6_leaves 51 = some (.bipush 61, 53, 0, 61) := by decide +kernel
theorem xX6_leaves_53 : xdec cX6_leaves 53 = some (.istore_n 3, 54, 3, 0) := by decide +kernel
theorem xX6_leaves_54 : xdec cX6_leaves 54 = some (.iconst 0, 55, 0, 0) := by decide +kernel
theorem xX6_leaves_55 : xdec cX6_leaves 55 = some (.istore 4, 57, 4, 0) := by decide +kernel
theorem xX6_leaves_57 : xdec cX6_leaves 57 = some (.iload 4, 59, 4, 0) := by decide +kernel
theorem xX6_leaves_59 : xdec cX6_leaves 59 = some (.aload_n 0, 60, 0, 0) := by decide +kernel
theorem xX6_leaves_60 : xdec cX6_leaves 60 = some (.getfield 85, 63, 85, 0) := by decide +kernel
theorem xX6_leaves_63 : xdec cX6_leaves 63 = some (.if_icmp .ge 60, 66, 123, 0) := by decide +kernel
theorem xX6_leaves_66 : xdec cX6_leaves 66 = some (.aload_n 0, 67, 0, 0) := by decide +kernel
theorem xX6_leaves_67 : xdec cX6_leaves 67 = some (.getfield 125, 70, 125, 0) := by decide +kernel
theorem xX6_leaves_70 : xdec cX6_leaves 70 = some (.iload 4, 72, 4, 0) := by decide +kernel
theorem xX6_leaves_72 : xdec cX6_leaves 72 = some (.invokestatic 105, 75, 0, 0) := by decide +kernel
theorem xX6_leaves_75 : xdec cX6_leaves 75 = some (.ifCond .eq 12, 78, 87, 0) := by decide +kernel
theorem xX6_leaves_78 : xdec cX6_leaves 78 = some (.aload_n 0, 79, 0, 0) := by decide +kernel
theorem xX6_leaves_79 : xdec cX6_leaves 79 = some (.iload 4, 81, 4, 0) := by decide +kernel
theorem xX6_leaves_81 : xdec cX6_leaves 81 = some (.invokevirtual 235, 84, 0, 0) := by decide +kernel
theorem xX6_leaves_84 : xdec cX6_leaves 84 = some (.goto 5, 87, 89, 0) := by decide +kernel
theorem xX6_leaves_87 : xdec cX6_leaves 87 = some (.bipush 61, 89, 0, 61) := by decide +kernel
theorem xX6_leaves_89 : xdec cX6_leaves 89 = some (.istore 5, 91, 5, 0) := by decide +kernel
theorem xX6_leaves_91 : xdec cX6_leaves 91 = some (.iload 5, 93, 5, 0) := by decide +kernel
theorem xX6_leaves_93 : xdec cX6_leaves 93 = some (.iload_n 3, 94, 3, 0) := by decide +kernel
theorem xX6_leaves_94 : xdec cX6_leaves 94 = some (.if_icmp .ge 8, 97, 102, 0) := by decide +kernel
theorem xX6_leaves_97 : xdec cX6_leaves 97 = some (.iload 4, 99, 4, 0) := by decide +kernel
theorem xX6_leaves_99 : xdec cX6_leaves 99 = some (.goto 4, 102, 103, 0) := by decide +kernel
theorem xX6_leaves_102 : xdec cX6_leaves 102 = some (.iload_n 2, 103, 2, 0) := by decide +kernel
theorem xX6_leaves_103 : xdec cX6_leaves 103 = some (.istore_n 2, 104, 2, 0) := by decide +kernel
theorem xX6_leaves_104 : xdec cX6_leaves 104 = some (.iload 5, 106, 5, 0) := by decide +kernel
theorem xX6_leaves_106 : xdec cX6_leaves 106 = some (.iload_n 3, 107, 3, 0) := by decide +kernel
theorem xX6_leaves_107 : xdec cX6_leaves 107 = some (.if_icmp .ge 8, 110, 115, 0) := by decide +kernel
theorem xX6_leaves_110 : xdec cX6_leaves 110 = some (.iload 5, 112, 5, 0) := by decide +kernel
theorem xX6_leaves_112 : xdec cX6_leaves 112 = some (.goto 4, 115, 116, 0) := by decide +kernel
theorem xX6_leaves_115 : xdec cX6_leaves 115 = some (.iload_n 3, 116, 3, 0) := by decide +kernel
theorem xX6_leaves_116 : xdec cX6_leaves 116 = some (.istore_n 3, 117, 3, 0) := by decide +kernel
theorem xX6_leaves_117 : xdec cX6_leaves 117 = some (.iinc 4 1, 120, 4, 1) := by decide +kernel
theorem xX6_leaves_120 : xdec cX6_leaves 120 = some (.goto (-63), 123, 57, 0) := by decide +kernel
theorem xX6_leaves_123 : xdec cX6_leaves 123 = some (.iload_n 2, 124, 2, 0) := by decide +kernel
theorem xX6_leaves_124 : xdec cX6_leaves 124 = some (.ireturn, 125, 0, 0) := by decide +kernel
theorem xX6_out_0 : xdec cX6_out 0 = some (.aload_n 0, 1, 0, 0) := by decide +kernel
theorem xX6_out_1 : xdec cX6_out 1 = some (.iconst 0, 2, 0, 0) := by decide +kernel
theorem xX6_out_2 : xdec cX6_out 2 = some (.putfield 75, 5, 75, 0) := by decide +kernel
theorem xX6_out_5 : xdec cX6_out 5 = some (.iload_n 1, 6, 1, 0) := by decide +kernel
theorem xX6_out_6 : xdec cX6_out 6 = some (.invokestatic 220, 9, 0, 0) := by decide +kernel
theorem xX6_out_9 : xdec cX6_out 9 = some (.ifCond .ne 5, 12, 14, 0) := by decide +kernel
theorem xX6_out_12 : xdec cX6_out 12 = some (.iconst (-1), 13, 0, (-1)) := by decide +kernel
theorem xX6_out_13 : xdec cX6_out 13 = some (.ireturn, 14, 0, 0) := by decide +kernel
theorem xX6_out_14 : xdec cX6_out 14 = some (.bipush (-4), 16, 0, (-4)) := by decide +kernel
theorem xX6_out_16 : xdec cX6_out 16 = some (.istore_n 2, 17, 2, 0) := by decide +kernel
theorem xX6_out_17 : xdec cX6_out 17 = some (.aload_n 0, 18, 0, 0) := by decide +kernel
theorem xX6_out_18 : xdec cX6_out 18 = some (.invokevirtual 190, 21, 0, 0) := by decide +kernel
theorem xX6_out_21 : xdec cX6_out 21 = some (.iconst 0, 22, 0, 0) := by decide +kernel
theorem xX6_out_22 : xdec cX6_out 22 = some (.istore_n 3, 23, 3, 0) := by decide +kernel
theorem xX6_out_23 : xdec cX6_out 23 = some (.iload_n 3, 24, 3, 0) := by decide +kernel
theorem xX6_out_24 : xdec cX6_out 24 = some (.bipush 60, 26, 0, 60) := by decide +kernel
theorem xX6_out_26 : xdec cX6_out 26 = some (.if_icmp .gt 33, 29, 59, 0) := by decide +kernel
theorem xX6_out_29 : xdec cX6_out 29 = some (.iload_n 2, 30, 2, 0) := by decide +kernel
theorem xX6_out_30 : xdec cX6_out 30 = some (.ifCond .ge 29, 33, 59, 0) := by decide +kernel
theorem xX6_out_33 : xdec cX6_out 33 = some (.aload_n 0, 34, 0, 0) := by decide +kernel
theorem xX6_out_34 : xdec cX6_out 34 = some (.getfield 7, 37, 7, 0) := by decide +kernel
theorem xX6_out_37 : xdec cX6_out 37 = some (.iload_n 1, 38, 1, 0) := by decide +kernel
theorem xX6_out_38 : xdec cX6_out 38 = some (.iaload, 39, 0, 0) := by decide +kernel
theorem xX6_out_39 : xdec cX6_out 39 = some (.ifCond .ne 7, 42, 46, 0) := by decide +kernel
theorem xX6_out_42 : xdec cX6_out 42 = some (.iload_n 3, 43, 3, 0) := by decide +kernel
theorem xX6_out_43 : xdec cX6_out 43 = some (.goto 5, 46, 48, 0) := by decide +kernel
theorem xX6_out_46 : xdec cX6_out 46 = some (.bipush (-4), 48, 0, (-4)) := by decide +kernel
theorem xX6_out_48 : xdec cX6_out 48 = some (.istore_n 2, 49, 2, 0) := by decide +kernel
theorem xX6_out_49 : xdec cX6_out 49 = some (.aload_n 0, 50, 0, 0) := by decide +kernel
theorem xX6_out_50 : xdec cX6_out 50 = some (.invokevirtual 132, 53, 0, 0) := by decide +kernel
theorem xX6_out_53 : xdec cX6_out 53 = some (.iinc 3 1, 56, 3, 1) := by decide +kernel
theorem xX6_out_56 : xdec cX6_out 56 = some (.goto (-33), 59, 23, 0) := by decide +kernel
theorem xX6_out_59 : xdec cX6_out 59 = some (.aload_n 0, 60, 0, 0) := by decide +kernel
theorem xX6_out_60 : xdec cX6_out 60 = some (.invokevirtual 196, 63, 0, 0) := by decide +kernel
theorem xX6_out_63 : xdec cX6_out 63 = some (.iload_n 2, 64, 2, 0) := by decide +kernel
theorem xX6_out_64 : xdec cX6_out 64 = some (.ireturn, 65, 0, 0) := by decide +kernel
theorem xX6_dreamsNext_0 : xdec cX6_dreamsNext 0 = some (.aload_n 0, 1, 0, 0) := by decide +kernel
theorem xX6_dreamsNext_1 : xdec cX6_dreamsNext 1 = some (.getfield 125, 4, 125, 0) := by decide +kernel
theorem xX6_dreamsNext_4 : xdec cX6_dreamsNext 4 = some (.iload_n 1, 5, 1, 0) := by decide +kernel
theorem xX6_dreamsNext_5 : xdec cX6_dreamsNext 5 = some (.invokestatic 105, 8, 0, 0) := by decide +kernel
theorem xX6_dreamsNext_8 : xdec cX6_dreamsNext 8 = some (.ifCond .eq 17, 11, 25, 0) := by decide +kernel
theorem xX6_dreamsNext_11 : xdec cX6_dreamsNext 11 = some (.aload_n 0, 12, 0, 0) := by decide +kernel
theorem xX6_dreamsNext_12 : xdec cX6_dreamsNext 12 = some (.iload_n 1, 13, 1, 0) := by decide +kernel
theorem xX6_dreamsNext_13 : xdec cX6_dreamsNext 13 = some (.aload_n 0, 14, 0, 0) := by decide +kernel
theorem xX6_dreamsNext_14 : xdec cX6_dreamsNext 14 = some (.getfield 92, 17, 92, 0) := by decide +kernel
theorem xX6_dreamsNext_17 : xdec cX6_dreamsNext 17 = some (.iconst 1, 18, 0, 1) := by decide +kernel
theorem xX6_dreamsNext_18 : xdec cX6_dreamsNext 18 = some (.iadd, 19, 0, 0) := by decide +kernel
theorem xX6_dreamsNext_19 : xdec cX6_dreamsNext 19 = some (.invokevirtual 95, 22, 0, 0) := by decide +kernel
theorem xX6_dreamsNext_22 : xdec cX6_dreamsNext 22 = some (.goto 5, 25, 27, 0) := by decide +kernel
theorem xX6_dreamsNext_25 : xdec cX6_dreamsNext 25 = some (.bipush (-4), 27, 0, (-4)) := by decide +kernel
theorem xX6_dreamsNext_27 : xdec cX6_dreamsNext 27 = some (.ireturn, 28, 0, 0) := by decide +kernel
theorem xX6_table_0 : xdec cX6_table 0 = some (.aload_n 0, 1, 0, 0) := by decide +kernel
theorem xX6_table_1 : xdec cX6_table 1 = some (.iconst 0, 2, 0, 0) := by decide +kernel
theorem xX6_table_2 : xdec cX6_table 2 = some (.putfield 75, 5, 75, 0) := by decide +kernel
theorem xX6_table_5 : xdec cX6_table 5 = some (.aload_n 0, 6, 0, 0) := by decide +kernel
theorem xX6_table_6 : xdec cX6_table 6 = some (.iload_n 1, 7, 1, 0) := by decide +kernel
theorem xX6_table_7 : xdec cX6_table 7 = some (.invokevirtual 171, 10, 0, 0) := by decide +kernel
theorem xX6_table_10 : xdec cX6_table 10 = some (.ifCond .eq 13, 13, 23, 0) := by decide +kernel
theorem xX6_table_13 : xdec cX6_table 13 = some (.iload_n 2, 14, 2, 0) := by decide +kernel
theorem xX6_table_14 : xdec cX6_table 14 = some (.i2l, 15, 0, 0) := by decide +kernel
theorem xX6_table_15 : xdec cX6_table 15 = some (.lconst 0, 16, 0, 0) := by decide +kernel
theorem xX6_table_16 : xdec cX6_table 16 = some (.lconst 1, 17, 0, 1) := by decide +kernel
theorem xX6_table_17 : xdec cX6_table 17 = some (.invokestatic 81, 20, 0, 0) := by decide +kernel
theorem xX6_table_20 : xdec cX6_table 20 = some (.ifCond .ne 5, 23, 25, 0) := by decide +kernel
theorem xX6_table_23 : xdec cX6_table 23 = some (.iconst (-1), 24, 0, (-1)) := by decide +kernel
theorem xX6_table_24 : xdec cX6_table 24 = some (.ireturn, 25, 0, 0) := by decide +kernel
theorem xX6_table_25 : xdec cX6_table 25 = some (.iload_n 2, 26, 2, 0) := by decide +kernel
theorem xX6_table_26 : xdec cX6_table 26 = some (.ifCond .ne 9, 29, 35, 0) := by decide +kernel
theorem xX6_table_29 : xdec cX6_table 29 = some (.aload_n 0, 30, 0, 0) := by decide +kernel
theorem xX6_table_30 : xdec cX6_table 30 = some (.iload_n 1, 31, 1, 0) := by decide +kernel
theorem xX6_table_31 : xdec cX6_table 31 = some (.invokevirtual 238, 34, 0, 0) := by decide +kernel
theorem xX6_table_34 : xdec cX6_table 34 = some (.ireturn, 35, 0, 0) := by decide +kernel
theorem xX6_table_35 : xdec cX6_table 35 = some (.aload_n 0, 36, 0, 0) := by decide +kernel
theorem xX6_table_36 : xdec cX6_table 36 = some (.invokevirtual 190, 39, 0, 0) := by decide +kernel
theorem xX6_table_39 : xdec cX6_table 39 = some (.aload_n 0, 40, 0, 0) := by decide +kernel
theorem xX6_table_40 : xdec cX6_table 40 = some (.invokevirtual 132, 43, 0, 0) := by decide +kernel
theorem xX6_table_43 : xdec cX6_table 43 = some (.aload_n 0, 44, 0, 0) := by decide +kernel
theorem xX6_table_44 : xdec cX6_table 44 = some (.getfield 119, 47, 119, 0) := by decide +kernel
theorem xX6_table_47 : xdec cX6_table 47 = some (.iload_n 1, 48, 1, 0) := by decide +kernel
theorem xX6_table_48 : xdec cX6_table 48 = some (.invokestatic 105, 51, 0, 0) := by decide +kernel
theorem xX6_table_51 : xdec cX6_table 51 = some (.ifCond .eq 7, 54, 58, 0) := by decide +kernel
theorem xX6_table_54 : xdec cX6_table 54 = some (.iconst 1, 55, 0, 1) := by decide +kernel
theorem xX6_table_55 : xdec cX6_table 55 = some (.goto 4, 58, 59, 0) := by decide +kernel
theorem xX6_table_58 : xdec cX6_table 58 = some (.iconst 0, 59, 0, 0) := by decide +kernel
theorem xX6_table_59 : xdec cX6_table 59 = some (.istore_n 3, 60, 3, 0) := by decide +kernel
theorem xX6_table_60 : xdec cX6_table 60 = some (.aload_n 0, 61, 0, 0) := by decide +kernel
theorem xX6_table_61 : xdec cX6_table 61 = some (.invokevirtual 196, 64, 0, 0) := by decide +kernel
theorem xX6_table_64 : xdec cX6_table 64 = some (.iload_n 3, 65, 3, 0) := by decide +kernel
theorem xX6_table_65 : xdec cX6_table 65 = some (.ireturn, 66, 0, 0) := by decide +kernel
theorem xX6_bestWish_0 : xdec cX6_bestWish 0 = some (.aload_n 0, 1, 0, 0) := by decide +kernel
theorem xX6_bestWish_1 : xdec cX6_bestWish 1 = some (.iconst 0, 2, 0, 0) := by decide +kernel
theorem xX6_bestWish_2 : xdec cX6_bestWish 2 = some (.putfield 75, 5, 75, 0) := by decide +kernel
theorem xX6_bestWish_5 : xdec cX6_bestWish 5 = some (.aload_n 0, 6, 0, 0) := by decide +kernel
theorem xX6_bestWish_6 : xdec cX6_bestWish 6 = some (.iload_n 1, 7, 1, 0) := by decide +kernel
theorem xX6_bestWish_7 : xdec cX6_bestWish 7 = some (.invokevirtual 171, 10, 0, 0) := by decide +kernel
theorem xX6_bestWish_10 : xdec cX6_bestWish 10 = some (.ifCond .eq 25, 13, 35, 0) := by decide +kernel
theorem xX6_bestWish_13 : xdec cX6_bestWish 13 = some (.iload_n 2, 14, 2, 0) := by decide +kernel
theorem xX6_bestWish_14 : xdec cX6_bestWish 14 = some (.i2l, 15, 0, 0) := by decide +kernel
theorem xX6_bestWish_15 : xdec cX6_bestWish 15 = some (.lconst 0, 16, 0, 0) := by decide +kernel
theorem xX6_bestWish_16 : xdec cX6_bestWish 16 = some (.ldc2_w 166, 19, 166, 0) := by decide +kernel
theorem xX6_bestWish_19 : xdec cX6_bestWish 19 = some (.invokestatic 81, 22, 0, 0) := by decide +kernel
theorem xX6_bestWish_22 : xdec cX6_bestWish 22 = some (.ifCond .eq 13, 25, 35, 0) := by decide +kernel
theorem xX6_bestWish_25 : xdec cX6_bestWish 25 = some (.iload_n 3, 26, 3, 0) := by decide +kernel
theorem xX6_bestWish_26 : xdec cX6_bestWish 26 = some (.i2l, 27, 0, 0) := by decide +kernel
theorem xX6_bestWish_27 : xdec cX6_bestWish 27 = some (.lconst 0, 28, 0, 0) := by decide +kernel
theorem xX6_bestWish_28 : xdec cX6_bestWish 28 = some (.lconst 1, 29, 0, 1) := by decide +kernel
theorem xX6_bestWish_29 : xdec cX6_bestWish 29 = some (.invokestatic 81, 32, 0, 0) := by decide +kernel
theorem xX6_bestWish_32 : xdec cX6_bestWish 32 = some (.ifCond .ne 5, 35, 37, 0) := by decide +kernel
theorem xX6_bestWish_35 : xdec cX6_bestWish 35 = some (.iconst (-1), 36, 0, (-1)) := by decide +kernel
theorem xX6_bestWish_36 : xdec cX6_bestWish 36 = some (.ireturn, 37, 0, 0) := by decide +kernel
theorem xX6_bestWish_37 : xdec cX6_bestWish 37 = some (.iconst 0, 38, 0, 0) := by decide +kernel
theorem xX6_bestWish_38 : xdec cX6_bestWish 38 = some (.istore 4, 40, 4, 0) := by decide +kernel
theorem xX6_bestWish_40 : xdec cX6_bestWish 40 = some (.iconst (-1), 41, 0, (-1)) := by decide +kernel
theorem xX6_bestWish_41 : xdec cX6_bestWish 41 = some (.istore 5, 43, 5, 0) := by decide +kernel
theorem xX6_bestWish_43 : xdec cX6_bestWish 43 = some (.aload_n 0, 44, 0, 0) := by decide +kernel
theorem xX6_bestWish_44 : xdec cX6_bestWish 44 = some (.invokevirtual 190, 47, 0, 0) := by decide +kernel
theorem xX6_bestWish_47 : xdec cX6_bestWish 47 = some (.iconst 0, 48, 0, 0) := by decide +kernel
theorem xX6_bestWish_48 : xdec cX6_bestWish 48 = some (.istore 6, 50, 6, 0) := by decide +kernel
theorem xX6_bestWish_50 : xdec cX6_bestWish 50 = some (.iload 6, 52, 6, 0) := by decide +kernel
theorem xX6_bestWish_52 : xdec cX6_bestWish 52 = some (.bipush 10, 54, 0, 10) := by decide +kernel
theorem xX6_bestWish_54 : xdec cX6_bestWish 54 = some (.if_icmp .ge 66, 57, 120, 0) := by decide +kernel
theorem xX6_bestWish_57 : xdec cX6_bestWish 57 = some (.aload_n 0, 58, 0, 0) := by decide +kernel
theorem xX6_bestWish_58 : xdec cX6_bestWish 58 = some (.getfield 19, 61, 19, 0) := by decide +kernel
theorem xX6_bestWish_61 : xdec cX6_bestWish 61 = some (.iload_n 1, 62, 1, 0) := by decide +kernel
theorem xX6_bestWish_62 : xdec cX6_bestWish 62 = some (.iload 6, 64, 6, 0) := by decide +kernel
theorem xX6_bestWish_64 : xdec cX6_bestWish 64 = some (.iastore, 65, 0, 0) := by decide +kernel
theorem xX6_bestWish_65 : xdec cX6_bestWish 65 = some (.aload_n 0, 66, 0, 0) := by decide +kernel
theorem xX6_bestWish_66 : xdec cX6_bestWish 66 = some (.iload_n 2, 67, 2, 0) := by decide +kernel
theorem xX6_bestWish_67 : xdec cX6_bestWish 67 = some (.invokevirtual 168, 70, 0, 0) := by decide +kernel
theorem xX6_bestWish_70 : xdec cX6_bestWish 70 = some (.aload_n 0, 71, 0, 0) := by decide +kernel
theorem xX6_bestWish_71 : xdec cX6_bestWish 71 = some (.getfield 25, 74, 25, 0) := by decide +kernel
theorem xX6_bestWish_74 : xdec cX6_bestWish 74 = some (.iload_n 1, 75, 1, 0) := by decide +kernel
theorem xX6_bestWish_75 : xdec cX6_bestWish 75 = some (.iaload, 76, 0, 0) := by decide +kernel
theorem xX6_bestWish_76 : xdec cX6_bestWish 76 = some (.istore 7, 78, 7, 0) := by decide +kernel
theorem xX6_bestWish_78 : xdec cX6_bestWish 78 = some (.aload_n 0, 79, 0, 0) := by decide +kernel
theorem xX6_bestWish_79 : xdec cX6_bestWish 79 = some (.invokevirtual 196, 82, 0, 0) := by decide +kernel
theorem xX6_bestWish_82 : xdec cX6_bestWish 82 = some (.iload 7, 84, 7, 0) := by decide +kernel
theorem xX6_bestWish_84 : xdec cX6_bestWish 84 = some (.iload 5, 86, 5, 0) := by decide +kernel
theorem xX6_bestWish_86 : xdec cX6_bestWish 86 = some (.if_icmp .le 8, 89, 94, 0) := by decide +kernel
theorem xX6_bestWish_89 : xdec cX6_bestWish 89 = some (.iload 6, 91, 6, 0) := by decide +kernel
theorem xX6_bestWish_91 : xdec cX6_bestWish 91 = some (.goto 5, 94, 96, 0) := by decide +kernel
theorem xX6_bestWish_94 : xdec cX6_bestWish 94 = some (.iload 4, 96, 4, 0) := by decide +kernel
theorem xX6_bestWish_96 : xdec cX6_bestWish 96 = some (.istore 4, 98, 4, 0) := by decide +kernel
theorem xX6_bestWish_98 : xdec cX6_bestWish 98 = some (.iload 7, 100, 7, 0) := by decide +kernel
theorem xX6_bestWish_100 : xdec cX6_bestWish 100 = some (.iload 5, 102, 5, 0) := by decide +kernel
theorem xX6_bestWish_102 : xdec cX6_bestWish 102 = some (.if_icmp .le 8, 105, 110, 0) := by decide +kernel
theorem xX6_bestWish_105 : xdec cX6_bestWish 105 = some (.iload 7, 107, 7, 0) := by decide +kernel
theorem xX6_bestWish_107 : xdec cX6_bestWish 107 = some (.goto 5, 110, 112, 0) := by decide +kernel
theorem xX6_bestWish_110 : xdec cX6_bestWish 110 = some (.iload 5, 112, 5, 0) := by decide +kernel
theorem xX6_bestWish_112 : xdec cX6_bestWish 112 = some (.istore 5, 114, 5, 0) := by decide +kernel
theorem xX6_bestWish_114 : xdec cX6_bestWish 114 = some (.iinc 6 1, 117, 6, 1) := by decide +kernel
theorem xX6_bestWish_117 : xdec cX6_bestWish 117 = some (.goto (-67), 120, 50, 0) := by decide +kernel
theorem xX6_bestWish_120 : xdec cX6_bestWish 120 = some (.iload_n 3, 121, 3, 0) := by decide +kernel
theorem xX6_bestWish_121 : xdec cX6_bestWish 121 = some (.ifCond .ne 8, 124, 129, 0) := by decide +kernel
theorem xX6_bestWish_124 : xdec cX6_bestWish 124 = some (.iload 4, 126, 4, 0) := by decide +kernel
theorem xX6_bestWish_126 : xdec cX6_bestWish 126 = some (.goto 5, 129, 131, 0) := by decide +kernel
theorem xX6_bestWish_129 : xdec cX6_bestWish 129 = some (.iload 5, 131, 5, 0) := by decide +kernel
theorem xX6_bestWish_131 : xdec cX6_bestWish 131 = some (.ireturn, 132, 0, 0) := by decide +kernel
theorem xX6_lackingThen_0 : xdec cX6_lackingThen 0 = some (.aload_n 0, 1, 0, 0) := by decide +kernel
theorem xX6_lackingThen_1 : xdec cX6_lackingThen 1 = some (.iload_n 1, 2, 1, 0) := by decide +kernel
theorem xX6_lackingThen_2 : xdec cX6_lackingThen 2 = some (.invokevirtual 168, 5, 0, 0) := by decide +kernel
theorem xX6_lackingThen_5 : xdec cX6_lackingThen 5 = some (.aload_n 0, 6, 0, 0) := by decide +kernel
theorem xX6_lackingThen_6 : xdec cX6_lackingThen 6 = some (.getfield 122, 9, 122, 0) := by decide +kernel
theorem xX6_lackingThen_9 : xdec cX6_lackingThen 9 = some (.istore_n 2, 10, 2, 0) := by decide +kernel
theorem xX6_lackingThen_10 : xdec cX6_lackingThen 10 = some (.aload_n 0, 11, 0, 0) := by decide +kernel
theorem xX6_lackingThen_11 : xdec cX6_lackingThen 11 = some (.invokevirtual 196, 14, 0, 0) := by decide +kernel
theorem xX6_lackingThen_14 : xdec cX6_lackingThen 14 = some (.iload_n 2, 15, 2, 0) := by decide +kernel
theorem xX6_lackingThen_15 : xdec cX6_lackingThen 15 = some (.ireturn, 16, 0, 0) := by decide +kernel
theorem xX6_buy_0 : xdec cX6_buy 0 = some (.aload_n 0, 1, 0, 0) := by decide +kernel
theorem xX6_buy_1 : xdec cX6_buy 1 = some (.iconst 0, 2, 0, 0) := by decide +kernel
theorem xX6_buy_2 : xdec cX6_buy 2 = some (.putfield 75, 5, 75, 0) := by decide +kernel
theorem xX6_buy_5 : xdec cX6_buy 5 = some (.iload_n 1, 6, 1, 0) := by decide +kernel
theorem xX6_buy_6 : xdec cX6_buy 6 = some (.i2l, 7, 0, 0) := by decide +kernel
theorem xX6_buy_7 : xdec cX6_buy 7 = some (.lconst 0, 8, 0, 0) := by decide +kernel
theorem xX6_buy_8 : xdec cX6_buy 8 = some (.ldc2_w 166, 11, 166, 0) := by decide +kernel
theorem xX6_buy_11 : xdec cX6_buy 11 = some (.invokestatic 81, 14, 0, 0) := by decide +kernel
theorem xX6_buy_14 : xdec cX6_buy 14 = some (.ifCond .ne 5, 17, 19, 0) := by decide +kernel
theorem xX6_buy_17 : xdec cX6_buy 17 = some (.iconst (-1), 18, 0, (-1)) := by decide +kernel
theorem xX6_buy_18 : xdec cX6_buy 18 = some (.ireturn, 19, 0, 0) := by decide +kernel
theorem xX6_buy_19 : xdec cX6_buy 19 = some (.bipush (-4), 21, 0, (-4)) := by decide +kernel
theorem xX6_buy_21 : xdec cX6_buy 21 = some (.istore_n 2, 22, 2, 0) := by decide +kernel
theorem xX6_buy_22 : xdec cX6_buy 22 = some (.aload_n 0, 23, 0, 0) := by decide +kernel
theorem xX6_buy_23 : xdec cX6_buy 23 = some (.invokevirtual 190, 26, 0, 0) := by decide +kernel
theorem xX6_buy_26 : xdec cX6_buy 26 = some (.aload_n 0, 27, 0, 0) := by decide +kernel
theorem xX6_buy_27 : xdec cX6_buy 27 = some (.iload_n 1, 28, 1, 0) := by decide +kernel
theorem xX6_buy_28 : xdec cX6_buy 28 = some (.invokevirtual 241, 31, 0, 0) := by decide +kernel
theorem xX6_buy_31 : xdec cX6_buy 31 = some (.istore_n 3, 32, 3, 0) := by decide +kernel
theorem xX6_buy_32 : xdec cX6_buy 32 = some (.iconst 0, 33, 0, 0) := by decide +kernel
theorem xX6_buy_33 : xdec cX6_buy 33 = some (.istore 4, 35, 4, 0) := by decide +kernel
theorem xX6_buy_35 : xdec cX6_buy 35 = some (.iload 4, 37, 4, 0) := by decide +kernel
theorem xX6_buy_37 : xdec cX6_buy 37 = some (.bipush 10, 39, 0, 10) := by decide +kernel
theorem xX6_buy_39 : xdec cX6_buy 39 = some (.if_icmp .ge 63, 42, 102, 0) := by decide +kernel
theorem xX6_buy_42 : xdec cX6_buy 42 = some (.aload_n 0, 43, 0, 0) := by decide +kernel
theorem xX6_buy_43 : xdec cX6_buy 43 = some (.getfield 7, 46, 7, 0) := by decide +kernel
theorem xX6_buy_46 : xdec cX6_buy 46 = some (.iload 4, 48, 4, 0) := by decide +kernel
theorem xX6_buy_48 : xdec cX6_buy 48 = some (.aload_n 0, 49, 0, 0) := by decide +kernel
theorem xX6_buy_49 : xdec cX6_buy 49 = some (.getfield 7, 52, 7, 0) := by decide +kernel
theorem xX6_buy_52 : xdec cX6_buy 52 = some (.iload 4, 54, 4, 0) := by decide +kernel
theorem xX6_buy_54 : xdec cX6_buy 54 = some (.iaload, 55, 0, 0) := by decide +kernel
theorem xX6_buy_55 : xdec cX6_buy 55 = some (.iconst 5, 56, 0, 5) := by decide +kernel
theorem xX6_buy_56 : xdec cX6_buy 56 = some (.iadd, 57, 0, 0) := by decide +kernel
theorem xX6_buy_57 : xdec cX6_buy 57 = some (.bipush 99, 59, 0, 99) := by decide +kernel
theorem xX6_buy_59 : xdec cX6_buy 59 = some (.invokestatic 88, 62, 0, 0) := by decide +kernel
theorem xX6_buy_62 : xdec cX6_buy 62 = some (.iastore, 63, 0, 0) := by decide +kernel
theorem xX6_buy_63 : xdec cX6_buy 63 = some (.aload_n 0, 64, 0, 0) := by decide +kernel
theorem xX6_buy_64 : xdec cX6_buy 64 = some (.iload_n 1, 65, 1, 0) := by decide +kernel
theorem xX6_buy_65 : xdec cX6_buy 65 = some (.invokevirtual 241, 68, 0, 0) := by decide +kernel
theorem xX6_buy_68 : xdec cX6_buy 68 = some (.istore 5, 70, 5, 0) := by decide +kernel
theorem xX6_buy_70 : xdec cX6_buy 70 = some (.iload 5, 72, 5, 0) := by decide +kernel
theorem xX6_buy_72 : xdec cX6_buy 72 = some (.iload_n 3, 73, 3, 0) := by decide +kernel
theorem xX6_buy_73 : xdec cX6_buy 73 = some (.if_icmp .ge 8, 76, 81, 0) := by decide +kernel
theorem xX6_buy_76 : xdec cX6_buy 76 = some (.iload 4, 78, 4, 0) := by decide +kernel
theorem xX6_buy_78 : xdec cX6_buy 78 = some (.goto 4, 81, 82, 0) := by decide +kernel
theorem xX6_buy_81 : xdec cX6_buy 81 = some (.iload_n 2, 82, 2, 0) := by decide +kernel
theorem xX6_buy_82 : xdec cX6_buy 82 = some (.istore_n 2, 83, 2, 0) := by decide +kernel
theorem xX6_buy_83 : xdec cX6_buy 83 = some (.iload 5, 85, 5, 0) := by decide +kernel
theorem xX6_buy_85 : xdec cX6_buy 85 = some (.iload_n 3, 86, 3, 0) := by decide +kernel
theorem xX6_buy_86 : xdec cX6_buy 86 = some (.if_icmp .ge 8, 89, 94, 0) := by decide +kernel
theorem xX6_buy_89 : xdec cX6_buy 89 = some (.iload 5, 91, 5, 0) := by decide +kernel
theorem xX6_buy_91 : xdec cX6_buy 91 = some (.goto 4, 94, 95, 0) := by decide +kernel
theorem xX6_buy_94 : xdec cX6_buy 94 = some (.iload_n 3, 95, 3, 0) := by decide +kernel
theorem xX6_buy_95 : xdec cX6_buy 95 = some (.istore_n 3, 96, 3, 0) := by decide +kernel
theorem xX6_buy_96 : xdec cX6_buy 96 = some (.iinc 4 1, 99, 4, 1) := by decide +kernel
theorem xX6_buy_99 : xdec cX6_buy 99 = some (.goto (-64), 102, 35, 0) := by decide +kernel
theorem xX6_buy_102 : xdec cX6_buy 102 = some (.iload_n 2, 103, 2, 0) := by decide +kernel
theorem xX6_buy_103 : xdec cX6_buy 103 = some (.ireturn, 104, 0, 0) := by decide +kernel
theorem xX6_least_0 : xdec cX6_least 0 = some (.aload_n 0, 1, 0, 0) := by decide +kernel
theorem xX6_least_1 : xdec cX6_least 1 = some (.iconst 0, 2, 0, 0) := by decide +kernel
theorem xX6_least_2 : xdec cX6_least 2 = some (.putfield 75, 5, 75, 0) := by decide +kernel
theorem xX6_least_5 : xdec cX6_least 5 = some (.iload_n 1, 6, 1, 0) := by decide +kernel
theorem xX6_least_6 : xdec cX6_least 6 = some (.invokestatic 220, 9, 0, 0) := by decide +kernel
theorem xX6_least_9 : xdec cX6_least 9 = some (.ifCond .eq 15, 12, 24, 0) := by decide +kernel
theorem xX6_least_12 : xdec cX6_least 12 = some (.iload_n 2, 13, 2, 0) := by decide +kernel
theorem xX6_least_13 : xdec cX6_least 13 = some (.i2l, 14, 0, 0) := by decide +kernel
theorem xX6_least_14 : xdec cX6_least 14 = some (.lconst 1, 15, 0, 1) := by decide +kernel
theorem xX6_least_15 : xdec cX6_least 15 = some (.ldc2_w 244, 18, 244, 0) := by decide +kernel
theorem xX6_least_18 : xdec cX6_least 18 = some (.invokestatic 81, 21, 0, 0) := by decide +kernel
theorem xX6_least_21 : xdec cX6_least 21 = some (.ifCond .ne 5, 24, 26, 0) := by decide +kernel
theorem xX6_least_24 : xdec cX6_least 24 = some (.iconst (-1), 25, 0, (-1)) := by decide +kernel
theorem xX6_least_25 : xdec cX6_least 25 = some (.ireturn, 26, 0, 0) := by decide +kernel
theorem xX6_least_26 : xdec cX6_least 26 = some (.bipush (-4), 28, 0, (-4)) := by decide +kernel
theorem xX6_least_28 : xdec cX6_least 28 = some (.istore_n 3, 29, 3, 0) := by decide +kernel
theorem xX6_least_29 : xdec cX6_least 29 = some (.aload_n 0, 30, 0, 0) := by decide +kernel
theorem xX6_least_30 : xdec cX6_least 30 = some (.getfield 122, 33, 122, 0) := by decide +kernel
theorem xX6_least_33 : xdec cX6_least 33 = some (.istore 4, 35, 4, 0) := by decide +kernel
theorem xX6_least_35 : xdec cX6_least 35 = some (.aload_n 0, 36, 0, 0) := by decide +kernel
theorem xX6_least_36 : xdec cX6_least 36 = some (.invokevirtual 190, 39, 0, 0) := by decide +kernel
theorem xX6_least_39 : xdec cX6_least 39 = some (.iconst 0, 40, 0, 0) := by decide +kernel
theorem xX6_least_40 : xdec cX6_least 40 = some (.istore 5, 42, 5, 0) := by decide +kernel
theorem xX6_least_42 : xdec cX6_least 42 = some (.iload 5, 44, 5, 0) := by decide +kernel
theorem xX6_least_44 : xdec cX6_least 44 = some (.bipush 100, 46, 0, 100) := by decide +kernel
theorem xX6_least_46 : xdec cX6_least 46 = some (.if_icmp .ge 39, 49, 85, 0) := by decide +kernel
theorem xX6_least_49 : xdec cX6_least 49 = some (.iload_n 3, 50, 3, 0) := by decide +kernel
theorem xX6_least_50 : xdec cX6_least 50 = some (.ifCond .ge 35, 53, 85, 0) := by decide +kernel
theorem xX6_least_53 : xdec cX6_least 53 = some (.aload_n 0, 54, 0, 0) := by decide +kernel
theorem xX6_least_54 : xdec cX6_least 54 = some (.getfield 7, 57, 7, 0) := by decide +kernel
theorem xX6_least_57 : xdec cX6_least 57 = some (.iload_n 1, 58, 1, 0) := by decide +kernel
theorem xX6_least_58 : xdec cX6_least 58 = some (.iload 5, 60, 5, 0) := by decide +kernel
theorem xX6_least_60 : xdec cX6_least 60 = some (.iastore, 61, 0, 0) := by decide +kernel
theorem xX6_least_61 : xdec cX6_least 61 = some (.aload_n 0, 62, 0, 0) := by decide +kernel
theorem xX6_least_62 : xdec cX6_least 62 = some (.iload_n 2, 63, 2, 0) := by decide +kernel
theorem xX6_least_63 : xdec cX6_least 63 = some (.invokevirtual 241, 66, 0, 0) := by decide +kernel
theorem xX6_least_66 : xdec cX6_least 66 = some (.iload 4, 68, 4, 0) := by decide +kernel
theorem xX6_least_68 : xdec cX6_least 68 = some (.if_icmp .ne 8, 71, 76, 0) := by decide +kernel
theorem xX6_least_71 : xdec cX6_least 71 = some (.iload 5, 73, 5, 0) := by decide +kernel
theorem xX6_least_73 : xdec cX6_least 73 = some (.goto 5, 76, 78, 0) := by decide +kernel
theorem xX6_least_76 : xdec cX6_least 76 = some (.bipush (-4), 78, 0, (-4)) := by decide +kernel
theorem xX6_least_78 : xdec cX6_least 78 = some (.istore_n 3, 79, 3, 0) := by decide +kernel
theorem xX6_least_79 : xdec cX6_least 79 = some (.iinc 5 1, 82, 5, 1) := by decide +kernel
theorem xX6_least_82 : xdec cX6_least 82 = some (.goto (-40), 85, 42, 0) := by decide +kernel
theorem xX6_least_85 : xdec cX6_least 85 = some (.iload_n 3, 86, 3, 0) := by decide +kernel
theorem xX6_least_86 : xdec cX6_least 86 = some (.ireturn, 87, 0, 0) := by decide +kernel
theorem xX6_healthBut_0 : xdec cX6_healthBut 0 = some (.aload_n 0, 1, 0, 0) := by decide +kernel
theorem xX6_healthBut_1 : xdec cX6_healthBut 1 = some (.getfield 125, 4, 125, 0) := by decide +kernel
theorem xX6_healthBut_4 : xdec cX6_healthBut 4 = some (.istore_n 3, 5, 3, 0) := by decide +kernel
theorem xX6_healthBut_5 : xdec cX6_healthBut 5 = some (.aload_n 0, 6, 0, 0) := by decide +kernel
theorem xX6_healthBut_6 : xdec cX6_healthBut 6 = some (.iload_n 2, 7, 2, 0) := by decide +kernel
theorem xX6_healthBut_7 : xdec cX6_healthBut 7 = some (.invokevirtual 168, 10, 0, 0) := by decide +kernel
theorem xX6_healthBut_10 : xdec cX6_healthBut 10 = some (.iconst 0, 11, 0, 0) := by decide +kernel
theorem xX6_healthBut_11 : xdec cX6_healthBut 11 = some (.istore 4, 13, 4, 0) := by decide +kernel
theorem xX6_healthBut_13 : xdec cX6_healthBut 13 = some (.iconst 0, 14, 0, 0) := by decide +kernel
theorem xX6_healthBut_14 : xdec cX6_healthBut 14 = some (.istore 5, 16, 5, 0) := by decide +kernel
theorem xX6_healthBut_16 : xdec cX6_healthBut 16 = some (.iload 5, 18, 5, 0) := by decide +kernel
theorem xX6_healthBut_18 : xdec cX6_healthBut 18 = some (.aload_n 0, 19, 0, 0) := by decide +kernel
theorem xX6_healthBut_19 : xdec cX6_healthBut 19 = some (.getfield 85, 22, 85, 0) := by decide +kernel
theorem xX6_healthBut_22 : xdec cX6_healthBut 22 = some (.if_icmp .ge 45, 25, 67, 0) := by decide +kernel
theorem xX6_healthBut_25 : xdec cX6_healthBut 25 = some (.iload 4, 27, 4, 0) := by decide +kernel
theorem xX6_healthBut_27 : xdec cX6_healthBut 27 = some (.iload 5, 29, 5, 0) := by decide +kernel
theorem xX6_healthBut_29 : xdec cX6_healthBut 29 = some (.iload_n 1, 30, 1, 0) := by decide +kernel
theorem xX6_healthBut_30 : xdec cX6_healthBut 30 = some (.if_icmp .eq 27, 33, 57, 0) := by decide +kernel
theorem xX6_healthBut_33 : xdec cX6_healthBut 33 = some (.iload_n 3, 34, 3, 0) := by decide +kernel
theorem xX6_healthBut_34 : xdec cX6_healthBut 34 = some (.aload_n 0, 35, 0, 0) := by decide +kernel
theorem xX6_healthBut_35 : xdec cX6_healthBut 35 = some (.getfield 125, 38, 125, 0) := by decide +kernel
theorem xX6_healthBut_38 : xdec cX6_healthBut 38 = some (.iand, 39, 0, 0) := by decide +kernel
theorem xX6_healthBut_39 : xdec cX6_healthBut 39 = some (.iload 5, 41, 5, 0) := by decide +kernel
theorem xX6_healthBut_41 : xdec cX6_healthBut 41 = some (.invokestatic 105, 44, 0, 0) := by decide +kernel
theorem xX6_healthBut_44 : xdec cX6_healthBut 44 = some (.ifCond .eq 13, 47, 57, 0) := by decide +kernel
theorem xX6_healthBut_47 : xdec cX6_healthBut 47 = some (.aload_n 0, 48, 0, 0) := by decide +kernel
theorem xX6_healthBut_48 : xdec cX6_healthBut 48 = some (.getfield 25, 51, 25, 0) := by decide +kernel
theorem xX6_healthBut_51 : xdec cX6_healthBut 51 = some (.iload 5, 53, 5, 0) := by decide +kernel
theorem xX6_healthBut_53 : xdec cX6_healthBut 53 = some (.iaload, 54, 0, 0) := by decide +kernel
theorem xX6_healthBut_54 : xdec cX6_healthBut 54 = some (.goto 4, 57, 58, 0) := by decide +kernel
theorem xX6_healthBut_57 : xdec cX6_healthBut 57 = some (.iconst 0, 58, 0, 0) := by decide +kernel
theorem xX6_healthBut_58 : xdec cX6_healthBut 58 = some (.iadd, 59, 0, 0) := by decide +kernel
theorem xX6_healthBut_59 : xdec cX6_healthBut 59 = some (.istore 4, 61, 4, 0) := by decide +kernel
theorem xX6_healthBut_61 : xdec cX6_healthBut 61 = some (.iinc 5 1, 64, 5, 1) := by decide +kernel
theorem xX6_healthBut_64 : xdec cX6_healthBut 64 = some (.goto (-48), 67, 16, 0) := by decide +kernel
theorem xX6_healthBut_67 : xdec cX6_healthBut 67 = some (.aload_n 0, 68, 0, 0) := by decide +kernel
theorem xX6_healthBut_68 : xdec cX6_healthBut 68 = some (.invokevirtual 196, 71, 0, 0) := by decide +kernel
theorem xX6_healthBut_71 : xdec cX6_healthBut 71 = some (.iload 4, 73, 4, 0) := by decide +kernel
theorem xX6_healthBut_73 : xdec cX6_healthBut 73 = some (.ireturn, 74, 0, 0) := by decide +kernel
theorem xX6_send_0 : xdec cX6_send 0 = some (.aload_n 0, 1, 0, 0) := by decide +kernel
theorem xX6_send_1 : xdec cX6_send 1 = some (.iconst 0, 2, 0, 0) := by decide +kernel
theorem xX6_send_2 : xdec cX6_send 2 = some (.putfield 75, 5, 75, 0) := by decide +kernel
theorem xX6_send_5 : xdec cX6_send 5 = some (.iload_n 1, 6, 1, 0) := by decide +kernel
theorem xX6_send_6 : xdec cX6_send 6 = some (.i2l, 7, 0, 0) := by decide +kernel
theorem xX6_send_7 : xdec cX6_send 7 = some (.lconst 0, 8, 0, 0) := by decide +kernel
theorem xX6_send_8 : xdec cX6_send 8 = some (.ldc2_w 166, 11, 166, 0) := by decide +kernel
theorem xX6_send_11 : xdec cX6_send 11 = some (.invokestatic 81, 14, 0, 0) := by decide +kernel
theorem xX6_send_14 : xdec cX6_send 14 = some (.ifCond .ne 5, 17, 19, 0) := by decide +kernel
theorem xX6_send_17 : xdec cX6_send 17 = some (.iconst (-1), 18, 0, (-1)) := by decide +kernel
theorem xX6_send_18 : xdec cX6_send 18 = some (.ireturn, 19, 0, 0) := by decide +kernel
theorem xX6_send_19 : xdec cX6_send 19 = some (.bipush (-4), 21, 0, (-4)) := by decide +kernel
theorem xX6_send_21 : xdec cX6_send 21 = some (.istore_n 2, 22, 2, 0) := by decide +kernel
theorem xX6_send_22 : xdec cX6_send 22 = some (.iconst (-1), 23, 0, (-1)) := by decide +kernel
theorem xX6_send_23 : xdec cX6_send 23 = some (.istore_n 3, 24, 3, 0) := by decide +kernel
theorem xX6_send_24 : xdec cX6_send 24 = some (.aload_n 0, 25, 0, 0) := by decide +kernel
theorem xX6_send_25 : xdec cX6_send 25 = some (.invokevirtual 190, 28, 0, 0) := by decide +kernel
theorem xX6_send_28 : xdec cX6_send 28 = some (.iconst 0, 29, 0, 0) := by decide +kernel
theorem xX6_send_29 : xdec cX6_send 29 = some (.istore 4, 31, 4, 0) := by decide +kernel
theorem xX6_send_31 : xdec cX6_send 31 = some (.iload 4, 33, 4, 0) := by decide +kernel
theorem xX6_send_33 : xdec cX6_send 33 = some (.aload_n 0, 34, 0, 0) := by decide +kernel
theorem xX6_send_34 : xdec cX6_send 34 = some (.getfield 85, 37, 85, 0) := by decide +kernel
theorem xX6_send_37 : xdec cX6_send 37 = some (.if_icmp .ge 94, 40, 131, 0) := by decide +kernel
theorem xX6_send_40 : xdec cX6_send 40 = some (.aload_n 0, 41, 0, 0) := by decide +kernel
theorem xX6_send_41 : xdec cX6_send 41 = some (.getfield 125, 44, 125, 0) := by decide +kernel
theorem xX6_send_44 : xdec cX6_send 44 = some (.iload 4, 46, 4, 0) := by decide +kernel
theorem xX6_send_46 : xdec cX6_send 46 = some (.invokestatic 105, 49, 0, 0) := by decide +kernel
theorem xX6_send_49 : xdec cX6_send 49 = some (.ifCond .eq 76, 52, 125, 0) := by decide +kernel
theorem xX6_send_52 : xdec cX6_send 52 = some (.aload_n 0, 53, 0, 0) := by decide +kernel
theorem xX6_send_53 : xdec cX6_send 53 = some (.iload 4, 55, 4, 0) := by decide +kernel
theorem xX6_send_55 : xdec cX6_send 55 = some (.iload_n 1, 56, 1, 0) := by decide +kernel
theorem xX6_send_56 : xdec cX6_send 56 = some (.invokevirtual 246, 59, 0, 0) := by decide +kernel
theorem xX6_send_59 : xdec cX6_send 59 = some (.istore 5, 61, 5, 0) := by decide +kernel
theorem xX6_send_61 : xdec cX6_send 61 = some (.aload_n 0, 62, 0, 0) := by decide +kernel
theorem xX6_send_62 : xdec cX6_send 62 = some (.dup, 63, 0, 0) := by decide +kernel
theorem xX6_send_63 : xdec cX6_send 63 = some (.getfield 125, 66, 125, 0) := by decide +kernel
theorem xX6_send_66 : xdec cX6_send 66 = some (.iconst 1, 67, 0, 1) := by decide +kernel
theorem xX6_send_67 : xdec cX6_send 67 = some (.iload 4, 69, 4, 0) := by decide +kernel
theorem xX6_send_69 : xdec cX6_send 69 = some (.ishl, 70, 0, 0) := by decide +kernel
theorem xX6_send_70 : xdec cX6_send 70 = some (.iconst (-1), 71, 0, (-1)) := by decide +kernel
theorem xX6_send_71 : xdec cX6_send 71 = some (.ixor, 72, 0, 0) := by decide +kernel
theorem xX6_send_72 : xdec cX6_send 72 = some (.iand, 73, 0, 0) := by decide +kernel
theorem xX6_send_73 : xdec cX6_send 73 = some (.putfield 125, 76, 125, 0) := by decide +kernel
theorem xX6_send_76 : xdec cX6_send 76 = some (.aload_n 0, 77, 0, 0) := by decide +kernel
theorem xX6_send_77 : xdec cX6_send 77 = some (.iload 4, 79, 4, 0) := by decide +kernel
theorem xX6_send_79 : xdec cX6_send 79 = some (.iload_n 1, 80, 1, 0) := by decide +kernel
theorem xX6_send_80 : xdec cX6_send 80 = some (.invokevirtual 246, 83, 0, 0) := by decide +kernel
theorem xX6_send_83 : xdec cX6_send 83 = some (.istore 6, 85, 6, 0) := by decide +kernel
theorem xX6_send_85 : xdec cX6_send 85 = some (.iload 6, 87, 6, 0) := by decide +kernel
theorem xX6_send_87 : xdec cX6_send 87 = some (.iload 5, 89, 5, 0) := by decide +kernel
theorem xX6_send_89 : xdec cX6_send 89 = some (.if_icmp .le 14, 92, 103, 0) := by decide +kernel
theorem xX6_send_92 : xdec cX6_send 92 = some (.iload 6, 94, 6, 0) := by decide +kernel
end
section
theorem xX6_send_94 : xdec cX6_send 94 = some (.iload_n 3, 95, 3, 0) := by decide +kernel
theorem xX6_send_95 : xdec cX6_send 95 = some (.if_icmp .le 8, 98, 103, 0) := by decide +kernel
theorem xX6_send_98 : xdec cX6_send 98 = some (.iload 4, 100, 4, 0) := by decide +kernel
theorem xX6_send_100 : xdec cX6_send 100 = some (.goto 4, 103, 104, 0) := by decide +kernel
theorem xX6_send_103 : xdec cX6_send 103 = some (.iload_n 2, 104, 2, 0) := by decide +kernel
theorem xX6_send_104 : xdec cX6_send 104 = some (.istore_n 2, 105, 2, 0) := by decide +kernel
theorem xX6_send_105 : xdec cX6_send 105 = some (.iload 6, 107, 6, 0) := by decide +kernel
theorem xX6_send_107 : xdec cX6_send 107 = some (.iload 5, 109, 5, 0) := by decide +kernel
theorem xX6_send_109 : xdec cX6_send 109 = some (.if_icmp .le 14, 112, 123, 0) := by decide +kernel
theorem xX6_send_112 : xdec cX6_send 112 = some (.iload 6, 114, 6, 0) := by decide +kernel
theorem xX6_send_114 : xdec cX6_send 114 = some (.iload_n 3, 115, 3, 0) := by decide +kernel
theorem xX6_send_115 : xdec cX6_send 115 = some (.if_icmp .le 8, 118, 123, 0) := by decide +kernel
theorem xX6_send_118 : xdec cX6_send 118 = some (.iload 6, 120, 6, 0) := by decide +kernel
theorem xX6_send_120 : xdec cX6_send 120 = some (.goto 4, 123, 124, 0) := by decide +kernel
theorem xX6_send_123 : xdec cX6_send 123 = some (.iload_n 3, 124, 3, 0) := by decide +kernel
theorem xX6_send_124 : xdec cX6_send 124 = some (.istore_n 3, 125, 3, 0) := by decide +kernel
theorem xX6_send_125 : xdec cX6_send 125 = some (.iinc 4 1, 128, 4, 1) := by decide +kernel
theorem xX6_send_128 : xdec cX6_send 128 = some (.goto (-97), 131, 31, 0) := by decide +kernel
theorem xX6_send_131 : xdec cX6_send 131 = some (.iload_n 2, 132, 2, 0) := by decide +kernel
theorem xX6_send_132 : xdec cX6_send 132 = some (.ireturn, 133, 0, 0) := by decide +kernel
theorem xX6_isUnlike_0 : xdec cX6_isUnlike 0 = some (.aload_n 0, 1, 0, 0) := by decide +kernel
theorem xX6_isUnlike_1 : xdec cX6_isUnlike 1 = some (.getfield 62, 4, 62, 0) := by decide +kernel
theorem xX6_isUnlike_4 : xdec cX6_isUnlike 4 = some (.iload_n 1, 5, 1, 0) := by decide +kernel
theorem xX6_isUnlike_5 : xdec cX6_isUnlike 5 = some (.iaload, 6, 0, 0) := by decide +kernel
theorem xX6_isUnlike_6 : xdec cX6_isUnlike 6 = some (.ifCond .lt 18, 9, 24, 0) := by decide +kernel
theorem xX6_isUnlike_9 : xdec cX6_isUnlike 9 = some (.aload_n 0, 10, 0, 0) := by decide +kernel
theorem xX6_isUnlike_10 : xdec cX6_isUnlike 10 = some (.getfield 62, 13, 62, 0) := by decide +kernel
theorem xX6_isUnlike_13 : xdec cX6_isUnlike 13 = some (.iload_n 1, 14, 1, 0) := by decide +kernel
theorem xX6_isUnlike_14 : xdec cX6_isUnlike 14 = some (.iaload, 15, 0, 0) := by decide +kernel
theorem xX6_isUnlike_15 : xdec cX6_isUnlike 15 = some (.aload_n 0, 16, 0, 0) := by decide +kernel
theorem xX6_isUnlike_16 : xdec cX6_isUnlike 16 = some (.getfield 62, 19, 62, 0) := by decide +kernel
theorem xX6_isUnlike_19 : xdec cX6_isUnlike 19 = some (.iload_n 2, 20, 2, 0) := by decide +kernel
theorem xX6_isUnlike_20 : xdec cX6_isUnlike 20 = some (.iaload, 21, 0, 0) := by decide +kernel
theorem xX6_isUnlike_21 : xdec cX6_isUnlike 21 = some (.if_icmp .eq 7, 24, 28, 0) := by decide +kernel
theorem xX6_isUnlike_24 : xdec cX6_isUnlike 24 = some (.iconst 1, 25, 0, 1) := by decide +kernel
theorem xX6_isUnlike_25 : xdec cX6_isUnlike 25 = some (.goto 4, 28, 29, 0) := by decide +kernel
theorem xX6_isUnlike_28 : xdec cX6_isUnlike 28 = some (.iconst 0, 29, 0, 0) := by decide +kernel
theorem xX6_isUnlike_29 : xdec cX6_isUnlike 29 = some (.ireturn, 30, 0, 0) := by decide +kernel
theorem xX6_laySeats_0 : xdec cX6_laySeats 0 = some (.iconst 0, 1, 0, 0) := by decide +kernel
theorem xX6_laySeats_1 : xdec cX6_laySeats 1 = some (.istore_n 1, 2, 1, 0) := by decide +kernel
theorem xX6_laySeats_2 : xdec cX6_laySeats 2 = some (.iload_n 1, 3, 1, 0) := by decide +kernel
theorem xX6_laySeats_3 : xdec cX6_laySeats 3 = some (.aload_n 0, 4, 0, 0) := by decide +kernel
theorem xX6_laySeats_4 : xdec cX6_laySeats 4 = some (.getfield 85, 7, 85, 0) := by decide +kernel
theorem xX6_laySeats_7 : xdec cX6_laySeats 7 = some (.if_icmp .ge 20, 10, 27, 0) := by decide +kernel
theorem xX6_laySeats_10 : xdec cX6_laySeats 10 = some (.aload_n 0, 11, 0, 0) := by decide +kernel
theorem xX6_laySeats_11 : xdec cX6_laySeats 11 = some (.getfield 62, 14, 62, 0) := by decide +kernel
theorem xX6_laySeats_14 : xdec cX6_laySeats 14 = some (.iload_n 1, 15, 1, 0) := by decide +kernel
theorem xX6_laySeats_15 : xdec cX6_laySeats 15 = some (.aload_n 0, 16, 0, 0) := by decide +kernel
theorem xX6_laySeats_16 : xdec cX6_laySeats 16 = some (.iload_n 1, 17, 1, 0) := by decide +kernel
theorem xX6_laySeats_17 : xdec cX6_laySeats 17 = some (.invokevirtual 238, 20, 0, 0) := by decide +kernel
theorem xX6_laySeats_20 : xdec cX6_laySeats 20 = some (.iastore, 21, 0, 0) := by decide +kernel
theorem xX6_laySeats_21 : xdec cX6_laySeats 21 = some (.iinc 1 1, 24, 1, 1) := by decide +kernel
theorem xX6_laySeats_24 : xdec cX6_laySeats 24 = some (.goto (-22), 27, 2, 0) := by decide +kernel
theorem xX6_laySeats_27 : xdec cX6_laySeats 27 = some (.sipush 1023, 30, 0, 1023) := by decide +kernel
theorem xX6_laySeats_30 : xdec cX6_laySeats 30 = some (.istore_n 1, 31, 1, 0) := by decide +kernel
theorem xX6_laySeats_31 : xdec cX6_laySeats 31 = some (.iload_n 1, 32, 1, 0) := by decide +kernel
theorem xX6_laySeats_32 : xdec cX6_laySeats 32 = some (.ifCond .lt 136, 35, 168, 0) := by decide +kernel
theorem xX6_laySeats_35 : xdec cX6_laySeats 35 = some (.iload_n 1, 36, 1, 0) := by decide +kernel
theorem xX6_laySeats_36 : xdec cX6_laySeats 36 = some (.bipush 8, 38, 0, 8) := by decide +kernel
theorem xX6_laySeats_38 : xdec cX6_laySeats 38 = some (.idiv, 39, 0, 0) := by decide +kernel
theorem xX6_laySeats_39 : xdec cX6_laySeats 39 = some (.istore_n 2, 40, 2, 0) := by decide +kernel
theorem xX6_laySeats_40 : xdec cX6_laySeats 40 = some (.iload_n 1, 41, 1, 0) := by decide +kernel
theorem xX6_laySeats_41 : xdec cX6_laySeats 41 = some (.bipush 8, 43, 0, 8) := by decide +kernel
theorem xX6_laySeats_43 : xdec cX6_laySeats 43 = some (.irem, 44, 0, 0) := by decide +kernel
theorem xX6_laySeats_44 : xdec cX6_laySeats 44 = some (.istore_n 3, 45, 3, 0) := by decide +kernel
theorem xX6_laySeats_45 : xdec cX6_laySeats 45 = some (.iload_n 2, 46, 2, 0) := by decide +kernel
theorem xX6_laySeats_46 : xdec cX6_laySeats 46 = some (.aload_n 0, 47, 0, 0) := by decide +kernel
theorem xX6_laySeats_47 : xdec cX6_laySeats 47 = some (.getfield 125, 50, 125, 0) := by decide +kernel
theorem xX6_laySeats_50 : xdec cX6_laySeats 50 = some (.if_icmp .ne 7, 53, 57, 0) := by decide +kernel
theorem xX6_laySeats_53 : xdec cX6_laySeats 53 = some (.iconst 1, 54, 0, 1) := by decide +kernel
theorem xX6_laySeats_54 : xdec cX6_laySeats 54 = some (.goto 4, 57, 58, 0) := by decide +kernel
theorem xX6_laySeats_57 : xdec cX6_laySeats 57 = some (.iconst 0, 58, 0, 0) := by decide +kernel
theorem xX6_laySeats_58 : xdec cX6_laySeats 58 = some (.istore 4, 60, 4, 0) := by decide +kernel
theorem xX6_laySeats_60 : xdec cX6_laySeats 60 = some (.iconst 0, 61, 0, 0) := by decide +kernel
theorem xX6_laySeats_61 : xdec cX6_laySeats 61 = some (.istore 5, 63, 5, 0) := by decide +kernel
theorem xX6_laySeats_63 : xdec cX6_laySeats 63 = some (.iload 5, 65, 5, 0) := by decide +kernel
theorem xX6_laySeats_65 : xdec cX6_laySeats 65 = some (.aload_n 0, 66, 0, 0) := by decide +kernel
theorem xX6_laySeats_66 : xdec cX6_laySeats 66 = some (.getfield 85, 69, 85, 0) := by decide +kernel
theorem xX6_laySeats_69 : xdec cX6_laySeats 69 = some (.if_icmp .ge 85, 72, 154, 0) := by decide +kernel
theorem xX6_laySeats_72 : xdec cX6_laySeats 72 = some (.iload 4, 74, 4, 0) := by decide +kernel
theorem xX6_laySeats_74 : xdec cX6_laySeats 74 = some (.ifCond .ne 80, 77, 154, 0) := by decide +kernel
theorem xX6_laySeats_77 : xdec cX6_laySeats 77 = some (.iload_n 3, 78, 3, 0) := by decide +kernel
theorem xX6_laySeats_78 : xdec cX6_laySeats 78 = some (.bipush 7, 80, 0, 7) := by decide +kernel
theorem xX6_laySeats_80 : xdec cX6_laySeats 80 = some (.if_icmp .ge 74, 83, 154, 0) := by decide +kernel
theorem xX6_laySeats_83 : xdec cX6_laySeats 83 = some (.aload_n 0, 84, 0, 0) := by decide +kernel
theorem xX6_laySeats_84 : xdec cX6_laySeats 84 = some (.getfield 125, 87, 125, 0) := by decide +kernel
theorem xX6_laySeats_87 : xdec cX6_laySeats 87 = some (.iload_n 2, 88, 2, 0) := by decide +kernel
theorem xX6_laySeats_88 : xdec cX6_laySeats 88 = some (.iconst (-1), 89, 0, (-1)) := by decide +kernel
theorem xX6_laySeats_89 : xdec cX6_laySeats 89 = some (.ixor, 90, 0, 0) := by decide +kernel
theorem xX6_laySeats_90 : xdec cX6_laySeats 90 = some (.iand, 91, 0, 0) := by decide +kernel
theorem xX6_laySeats_91 : xdec cX6_laySeats 91 = some (.iload 5, 93, 5, 0) := by decide +kernel
theorem xX6_laySeats_93 : xdec cX6_laySeats 93 = some (.invokestatic 105, 96, 0, 0) := by decide +kernel
theorem xX6_laySeats_96 : xdec cX6_laySeats 96 = some (.ifCond .eq 17, 99, 113, 0) := by decide +kernel
theorem xX6_laySeats_99 : xdec cX6_laySeats 99 = some (.aload_n 0, 100, 0, 0) := by decide +kernel
theorem xX6_laySeats_100 : xdec cX6_laySeats 100 = some (.iload_n 3, 101, 3, 0) := by decide +kernel
theorem xX6_laySeats_101 : xdec cX6_laySeats 101 = some (.iload 5, 103, 5, 0) := by decide +kernel
theorem xX6_laySeats_103 : xdec cX6_laySeats 103 = some (.invokevirtual 249, 106, 0, 0) := by decide +kernel
theorem xX6_laySeats_106 : xdec cX6_laySeats 106 = some (.ifCond .eq 7, 109, 113, 0) := by decide +kernel
theorem xX6_laySeats_109 : xdec cX6_laySeats 109 = some (.iconst 1, 110, 0, 1) := by decide +kernel
theorem xX6_laySeats_110 : xdec cX6_laySeats 110 = some (.goto 4, 113, 114, 0) := by decide +kernel
theorem xX6_laySeats_113 : xdec cX6_laySeats 113 = some (.iconst 0, 114, 0, 0) := by decide +kernel
theorem xX6_laySeats_114 : xdec cX6_laySeats 114 = some (.istore 6, 116, 6, 0) := by decide +kernel
theorem xX6_laySeats_116 : xdec cX6_laySeats 116 = some (.iload 6, 118, 6, 0) := by decide +kernel
theorem xX6_laySeats_118 : xdec cX6_laySeats 118 = some (.ifCond .eq 27, 121, 145, 0) := by decide +kernel
theorem xX6_laySeats_121 : xdec cX6_laySeats 121 = some (.aload_n 0, 122, 0, 0) := by decide +kernel
theorem xX6_laySeats_122 : xdec cX6_laySeats 122 = some (.getfield 65, 125, 65, 0) := by decide +kernel
theorem xX6_laySeats_125 : xdec cX6_laySeats 125 = some (.bipush 8, 127, 0, 8) := by decide +kernel
theorem xX6_laySeats_127 : xdec cX6_laySeats 127 = some (.iload_n 2, 128, 2, 0) := by decide +kernel
theorem xX6_laySeats_128 : xdec cX6_laySeats 128 = some (.iconst 1, 129, 0, 1) := by decide +kernel
theorem xX6_laySeats_129 : xdec cX6_laySeats 129 = some (.iload 5, 131, 5, 0) := by decide +kernel
theorem xX6_laySeats_131 : xdec cX6_laySeats 131 = some (.ishl, 132, 0, 0) := by decide +kernel
theorem xX6_laySeats_132 : xdec cX6_laySeats 132 = some (.ior, 133, 0, 0) := by decide +kernel
theorem xX6_laySeats_133 : xdec cX6_laySeats 133 = some (.imul, 134, 0, 0) := by decide +kernel
theorem xX6_laySeats_134 : xdec cX6_laySeats 134 = some (.iload 5, 136, 5, 0) := by decide +kernel
theorem xX6_laySeats_136 : xdec cX6_laySeats 136 = some (.iadd, 137, 0, 0) := by decide +kernel
theorem xX6_laySeats_137 : xdec cX6_laySeats 137 = some (.baload, 138, 0, 0) := by decide +kernel
theorem xX6_laySeats_138 : xdec cX6_laySeats 138 = some (.ifCond .eq 7, 141, 145, 0) := by decide +kernel
theorem xX6_laySeats_141 : xdec cX6_laySeats 141 = some (.iconst 1, 142, 0, 1) := by decide +kernel
theorem xX6_laySeats_142 : xdec cX6_laySeats 142 = some (.goto 4, 145, 146, 0) := by decide +kernel
theorem xX6_laySeats_145 : xdec cX6_laySeats 145 = some (.iconst 0, 146, 0, 0) := by decide +kernel
theorem xX6_laySeats_146 : xdec cX6_laySeats 146 = some (.istore 4, 148, 4, 0) := by decide +kernel
theorem xX6_laySeats_148 : xdec cX6_laySeats 148 = some (.iinc 5 1, 151, 5, 1) := by decide +kernel
theorem xX6_laySeats_151 : xdec cX6_laySeats 151 = some (.goto (-88), 154, 63, 0) := by decide +kernel
theorem xX6_laySeats_154 : xdec cX6_laySeats 154 = some (.aload_n 0, 155, 0, 0) := by decide +kernel
theorem xX6_laySeats_155 : xdec cX6_laySeats 155 = some (.getfield 65, 158, 65, 0) := by decide +kernel
theorem xX6_laySeats_158 : xdec cX6_laySeats 158 = some (.iload_n 1, 159, 1, 0) := by decide +kernel
theorem xX6_laySeats_159 : xdec cX6_laySeats 159 = some (.iload 4, 161, 4, 0) := by decide +kernel
theorem xX6_laySeats_161 : xdec cX6_laySeats 161 = some (.bastore, 162, 0, 0) := by decide +kernel
theorem xX6_laySeats_162 : xdec cX6_laySeats 162 = some (.iinc 1 (-1), 165, 1, (-1)) := by decide +kernel
theorem xX6_laySeats_165 : xdec cX6_laySeats 165 = some (.goto (-134), 168, 31, 0) := by decide +kernel
theorem xX6_laySeats_168 : xdec cX6_laySeats 168 = some (.return_, 169, 0, 0) := by decide +kernel
theorem xX6_seats_0 : xdec cX6_seats 0 = some (.aload_n 0, 1, 0, 0) := by decide +kernel
theorem xX6_seats_1 : xdec cX6_seats 1 = some (.iconst 0, 2, 0, 0) := by decide +kernel
theorem xX6_seats_2 : xdec cX6_seats 2 = some (.putfield 75, 5, 75, 0) := by decide +kernel
theorem xX6_seats_5 : xdec cX6_seats 5 = some (.iload_n 1, 6, 1, 0) := by decide +kernel
theorem xX6_seats_6 : xdec cX6_seats 6 = some (.ifCond .ge 5, 9, 11, 0) := by decide +kernel
theorem xX6_seats_9 : xdec cX6_seats 9 = some (.iconst (-1), 10, 0, (-1)) := by decide +kernel
theorem xX6_seats_10 : xdec cX6_seats 10 = some (.ireturn, 11, 0, 0) := by decide +kernel
theorem xX6_seats_11 : xdec cX6_seats 11 = some (.aload_n 0, 12, 0, 0) := by decide +kernel
theorem xX6_seats_12 : xdec cX6_seats 12 = some (.invokevirtual 252, 15, 0, 0) := by decide +kernel
theorem xX6_seats_15 : xdec cX6_seats 15 = some (.iconst 0, 16, 0, 0) := by decide +kernel
theorem xX6_seats_16 : xdec cX6_seats 16 = some (.istore_n 2, 17, 2, 0) := by decide +kernel
theorem xX6_seats_17 : xdec cX6_seats 17 = some (.bipush 7, 19, 0, 7) := by decide +kernel
theorem xX6_seats_19 : xdec cX6_seats 19 = some (.istore_n 3, 20, 3, 0) := by decide +kernel
theorem xX6_seats_20 : xdec cX6_seats 20 = some (.iconst 0, 21, 0, 0) := by decide +kernel
theorem xX6_seats_21 : xdec cX6_seats 21 = some (.istore 4, 23, 4, 0) := by decide +kernel
theorem xX6_seats_23 : xdec cX6_seats 23 = some (.iload 4, 25, 4, 0) := by decide +kernel
theorem xX6_seats_25 : xdec cX6_seats 25 = some (.iload_n 1, 26, 1, 0) := by decide +kernel
theorem xX6_seats_26 : xdec cX6_seats 26 = some (.if_icmp .gt 130, 29, 156, 0) := by decide +kernel
theorem xX6_seats_29 : xdec cX6_seats 29 = some (.iload 4, 31, 4, 0) := by decide +kernel
theorem xX6_seats_31 : xdec cX6_seats 31 = some (.bipush 7, 33, 0, 7) := by decide +kernel
theorem xX6_seats_33 : xdec cX6_seats 33 = some (.if_icmp .ge 123, 36, 156, 0) := by decide +kernel
theorem xX6_seats_36 : xdec cX6_seats 36 = some (.bipush (-4), 38, 0, (-4)) := by decide +kernel
theorem xX6_seats_38 : xdec cX6_seats 38 = some (.istore 5, 40, 5, 0) := by decide +kernel
theorem xX6_seats_40 : xdec cX6_seats 40 = some (.aload_n 0, 41, 0, 0) := by decide +kernel
theorem xX6_seats_41 : xdec cX6_seats 41 = some (.getfield 85, 44, 85, 0) := by decide +kernel
theorem xX6_seats_44 : xdec cX6_seats 44 = some (.iconst 1, 45, 0, 1) := by decide +kernel
theorem xX6_seats_45 : xdec cX6_seats 45 = some (.isub, 46, 0, 0) := by decide +kernel
theorem xX6_seats_46 : xdec cX6_seats 46 = some (.istore 6, 48, 6, 0) := by decide +kernel
theorem xX6_seats_48 : xdec cX6_seats 48 = some (.iload 6, 50, 6, 0) := by decide +kernel
theorem xX6_seats_50 : xdec cX6_seats 50 = some (.ifCond .lt 82, 53, 132, 0) := by decide +kernel
theorem xX6_seats_53 : xdec cX6_seats 53 = some (.aload_n 0, 54, 0, 0) := by decide +kernel
theorem xX6_seats_54 : xdec cX6_seats 54 = some (.getfield 125, 57, 125, 0) := by decide +kernel
theorem xX6_seats_57 : xdec cX6_seats 57 = some (.iload_n 2, 58, 2, 0) := by decide +kernel
theorem xX6_seats_58 : xdec cX6_seats 58 = some (.iconst (-1), 59, 0, (-1)) := by decide +kernel
theorem xX6_seats_59 : xdec cX6_seats 59 = some (.ixor, 60, 0, 0) := by decide +kernel
theorem xX6_seats_60 : xdec cX6_seats 60 = some (.iand, 61, 0, 0) := by decide +kernel
theorem xX6_seats_61 : xdec cX6_seats 61 = some (.iload 6, 63, 6, 0) := by decide +kernel
theorem xX6_seats_63 : xdec cX6_seats 63 = some (.invokestatic 105, 66, 0, 0) := by decide +kernel
theorem xX6_seats_66 : xdec cX6_seats 66 = some (.ifCond .eq 23, 69, 89, 0) := by decide +kernel
theorem xX6_seats_69 : xdec cX6_seats 69 = some (.iload_n 3, 70, 3, 0) := by decide +kernel
theorem xX6_seats_70 : xdec cX6_seats 70 = some (.bipush 7, 72, 0, 7) := by decide +kernel
theorem xX6_seats_72 : xdec cX6_seats 72 = some (.if_icmp .eq 13, 75, 85, 0) := by decide +kernel
theorem xX6_seats_75 : xdec cX6_seats 75 = some (.aload_n 0, 76, 0, 0) := by decide +kernel
theorem xX6_seats_76 : xdec cX6_seats 76 = some (.iload_n 3, 77, 3, 0) := by decide +kernel
theorem xX6_seats_77 : xdec cX6_seats 77 = some (.iload 6, 79, 6, 0) := by decide +kernel
theorem xX6_seats_79 : xdec cX6_seats 79 = some (.invokevirtual 249, 82, 0, 0) := by decide +kernel
theorem xX6_seats_82 : xdec cX6_seats 82 = some (.ifCond .eq 7, 85, 89, 0) := by decide +kernel
theorem xX6_seats_85 : xdec cX6_seats 85 = some (.iconst 1, 86, 0, 1) := by decide +kernel
theorem xX6_seats_86 : xdec cX6_seats 86 = some (.goto 4, 89, 90, 0) := by decide +kernel
theorem xX6_seats_89 : xdec cX6_seats 89 = some (.iconst 0, 90, 0, 0) := by decide +kernel
theorem xX6_seats_90 : xdec cX6_seats 90 = some (.istore 7, 92, 7, 0) := by decide +kernel
theorem xX6_seats_92 : xdec cX6_seats 92 = some (.iload 7, 94, 7, 0) := by decide +kernel
theorem xX6_seats_94 : xdec cX6_seats 94 = some (.ifCond .eq 28, 97, 122, 0) := by decide +kernel
theorem xX6_seats_97 : xdec cX6_seats 97 = some (.aload_n 0, 98, 0, 0) := by decide +kernel
theorem xX6_seats_98 : xdec cX6_seats 98 = some (.getfield 65, 101, 65, 0) := by decide +kernel
theorem xX6_seats_101 : xdec cX6_seats 101 = some (.bipush 8, 103, 0, 8) := by decide +kernel
theorem xX6_seats_103 : xdec cX6_seats 103 = some (.iload_n 2, 104, 2, 0) := by decide +kernel
theorem xX6_seats_104 : xdec cX6_seats 104 = some (.iconst 1, 105, 0, 1) := by decide +kernel
theorem xX6_seats_105 : xdec cX6_seats 105 = some (.iload 6, 107, 6, 0) := by decide +kernel
theorem xX6_seats_107 : xdec cX6_seats 107 = some (.ishl, 108, 0, 0) := by decide +kernel
theorem xX6_seats_108 : xdec cX6_seats 108 = some (.ior, 109, 0, 0) := by decide +kernel
theorem xX6_seats_109 : xdec cX6_seats 109 = some (.imul, 110, 0, 0) := by decide +kernel
theorem xX6_seats_110 : xdec cX6_seats 110 = some (.iload 6, 112, 6, 0) := by decide +kernel
theorem xX6_seats_112 : xdec cX6_seats 112 = some (.iadd, 113, 0, 0) := by decide +kernel
theorem xX6_seats_113 : xdec cX6_seats 113 = some (.baload, 114, 0, 0) := by decide +kernel
theorem xX6_seats_114 : xdec cX6_seats 114 = some (.ifCond .eq 8, 117, 122, 0) := by decide +kernel
theorem xX6_seats_117 : xdec cX6_seats 117 = some (.iload 6, 119, 6, 0) := by decide +kernel
theorem xX6_seats_119 : xdec cX6_seats 119 = some (.goto 5, 122, 124, 0) := by decide +kernel
theorem xX6_seats_122 : xdec cX6_seats 122 = some (.iload 5, 124, 5, 0) := by decide +kernel
theorem xX6_seats_124 : xdec cX6_seats 124 = some (.istore 5, 126, 5, 0) := by decide +kernel
theorem xX6_seats_126 : xdec cX6_seats 126 = some (.iinc 6 (-1), 129, 6, (-1)) := by decide +kernel
theorem xX6_seats_129 : xdec cX6_seats 129 = some (.goto (-81), 132, 48, 0) := by decide +kernel
theorem xX6_seats_132 : xdec cX6_seats 132 = some (.iload 5, 134, 5, 0) := by decide +kernel
theorem xX6_seats_134 : xdec cX6_seats 134 = some (.ifCond .ge 6, 137, 140, 0) := by decide +kernel
theorem xX6_seats_137 : xdec cX6_seats 137 = some (.bipush (-4), 139, 0, (-4)) := by decide +kernel
theorem xX6_seats_139 : xdec cX6_seats 139 = some (.ireturn, 140, 0, 0) := by decide +kernel
theorem xX6_seats_140 : xdec cX6_seats 140 = some (.iload_n 2, 141, 2, 0) := by decide +kernel
theorem xX6_seats_141 : xdec cX6_seats 141 = some (.iconst 1, 142, 0, 1) := by decide +kernel
theorem xX6_seats_142 : xdec cX6_seats 142 = some (.iload 5, 144, 5, 0) := by decide +kernel
theorem xX6_seats_144 : xdec cX6_seats 144 = some (.ishl, 145, 0, 0) := by decide +kernel
theorem xX6_seats_145 : xdec cX6_seats 145 = some (.ior, 146, 0, 0) := by decide +kernel
theorem xX6_seats_146 : xdec cX6_seats 146 = some (.istore_n 2, 147, 2, 0) := by decide +kernel
theorem xX6_seats_147 : xdec cX6_seats 147 = some (.iload 5, 149, 5, 0) := by decide +kernel
theorem xX6_seats_149 : xdec cX6_seats 149 = some (.istore_n 3, 150, 3, 0) := by decide +kernel
theorem xX6_seats_150 : xdec cX6_seats 150 = some (.iinc 4 1, 153, 4, 1) := by decide +kernel
theorem xX6_seats_153 : xdec cX6_seats 153 = some (.goto (-130), 156, 23, 0) := by decide +kernel
theorem xX6_seats_156 : xdec cX6_seats 156 = some (.iload_n 1, 157, 1, 0) := by decide +kernel
theorem xX6_seats_157 : xdec cX6_seats 157 = some (.bipush 7, 159, 0, 7) := by decide +kernel
theorem xX6_seats_159 : xdec cX6_seats 159 = some (.if_icmp .ge 7, 162, 166, 0) := by decide +kernel
theorem xX6_seats_162 : xdec cX6_seats 162 = some (.iload_n 3, 163, 3, 0) := by decide +kernel
theorem xX6_seats_163 : xdec cX6_seats 163 = some (.goto 5, 166, 168, 0) := by decide +kernel
theorem xX6_seats_166 : xdec cX6_seats 166 = some (.bipush (-4), 168, 0, (-4)) := by decide +kernel
theorem xX6_seats_168 : xdec cX6_seats 168 = some (.ireturn, 169, 0, 0) := by decide +kernel
theorem xX6_sameTwos_0 : xdec cX6_sameTwos 0 = some (.iconst 0, 1, 0, 0) := by decide +kernel
theorem xX6_sameTwos_1 : xdec cX6_sameTwos 1 = some (.istore_n 1, 2, 1, 0) := by decide +kernel
theorem xX6_sameTwos_2 : xdec cX6_sameTwos 2 = some (.iconst 0, 3, 0, 0) := by decide +kernel
theorem xX6_sameTwos_3 : xdec cX6_sameTwos 3 = some (.istore_n 2, 4, 2, 0) := by decide +kernel
theorem xX6_sameTwos_4 : xdec cX6_sameTwos 4 = some (.iload_n 2, 5, 2, 0) := by decide +kernel
theorem xX6_sameTwos_5 : xdec cX6_sameTwos 5 = some (.aload_n 0, 6, 0, 0) := by decide +kernel
theorem xX6_sameTwos_6 : xdec cX6_sameTwos 6 = some (.getfield 85, 9, 85, 0) := by decide +kernel
theorem xX6_sameTwos_9 : xdec cX6_sameTwos 9 = some (.if_icmp .ge 56, 12, 65, 0) := by decide +kernel
theorem xX6_sameTwos_12 : xdec cX6_sameTwos 12 = some (.iload_n 2, 13, 2, 0) := by decide +kernel
theorem xX6_sameTwos_13 : xdec cX6_sameTwos 13 = some (.iconst 1, 14, 0, 1) := by decide +kernel
theorem xX6_sameTwos_14 : xdec cX6_sameTwos 14 = some (.iadd, 15, 0, 0) := by decide +kernel
theorem xX6_sameTwos_15 : xdec cX6_sameTwos 15 = some (.istore_n 3, 16, 3, 0) := by decide +kernel
theorem xX6_sameTwos_16 : xdec cX6_sameTwos 16 = some (.iload_n 3, 17, 3, 0) := by decide +kernel
theorem xX6_sameTwos_17 : xdec cX6_sameTwos 17 = some (.aload_n 0, 18, 0, 0) := by decide +kernel
theorem xX6_sameTwos_18 : xdec cX6_sameTwos 18 = some (.getfield 85, 21, 85, 0) := by decide +kernel
theorem xX6_sameTwos_21 : xdec cX6_sameTwos 21 = some (.if_icmp .ge 38, 24, 59, 0) := by decide +kernel
theorem xX6_sameTwos_24 : xdec cX6_sameTwos 24 = some (.iload_n 1, 25, 1, 0) := by decide +kernel
theorem xX6_sameTwos_25 : xdec cX6_sameTwos 25 = some (.aload_n 0, 26, 0, 0) := by decide +kernel
theorem xX6_sameTwos_26 : xdec cX6_sameTwos 26 = some (.iload_n 2, 27, 2, 0) := by decide +kernel
theorem xX6_sameTwos_27 : xdec cX6_sameTwos 27 = some (.invokevirtual 238, 30, 0, 0) := by decide +kernel
theorem xX6_sameTwos_30 : xdec cX6_sameTwos 30 = some (.ifCond .lt 20, 33, 50, 0) := by decide +kernel
theorem xX6_sameTwos_33 : xdec cX6_sameTwos 33 = some (.aload_n 0, 34, 0, 0) := by decide +kernel
theorem xX6_sameTwos_34 : xdec cX6_sameTwos 34 = some (.iload_n 2, 35, 2, 0) := by decide +kernel
theorem xX6_sameTwos_35 : xdec cX6_sameTwos 35 = some (.invokevirtual 238, 38, 0, 0) := by decide +kernel
theorem xX6_sameTwos_38 : xdec cX6_sameTwos 38 = some (.aload_n 0, 39, 0, 0) := by decide +kernel
theorem xX6_sameTwos_39 : xdec cX6_sameTwos 39 = some (.iload_n 3, 40, 3, 0) := by decide +kernel
theorem xX6_sameTwos_40 : xdec cX6_sameTwos 40 = some (.invokevirtual 238, 43, 0, 0) := by decide +kernel
theorem xX6_sameTwos_43 : xdec cX6_sameTwos 43 = some (.if_icmp .ne 7, 46, 50, 0) := by decide +kernel
theorem xX6_sameTwos_46 : xdec cX6_sameTwos 46 = some (.iconst 1, 47, 0, 1) := by decide +kernel
theorem xX6_sameTwos_47 : xdec cX6_sameTwos 47 = some (.goto 4, 50, 51, 0) := by decide +kernel
theorem xX6_sameTwos_50 : xdec cX6_sameTwos 50 = some (.iconst 0, 51, 0, 0) := by decide +kernel
theorem xX6_sameTwos_51 : xdec cX6_sameTwos 51 = some (.iadd, 52, 0, 0) := by decide +kernel
theorem xX6_sameTwos_52 : xdec cX6_sameTwos 52 = some (.istore_n 1, 53, 1, 0) := by decide +kernel
theorem xX6_sameTwos_53 : xdec cX6_sameTwos 53 = some (.iinc 3 1, 56, 3, 1) := by decide +kernel
theorem xX6_sameTwos_56 : xdec cX6_sameTwos 56 = some (.goto (-40), 59, 16, 0) := by decide +kernel
theorem xX6_sameTwos_59 : xdec cX6_sameTwos 59 = some (.iinc 2 1, 62, 2, 1) := by decide +kernel
theorem xX6_sameTwos_62 : xdec cX6_sameTwos 62 = some (.goto (-58), 65, 4, 0) := by decide +kernel
theorem xX6_sameTwos_65 : xdec cX6_sameTwos 65 = some (.iload_n 1, 66, 1, 0) := by decide +kernel
theorem xX6_sameTwos_66 : xdec cX6_sameTwos 66 = some (.ireturn, 67, 0, 0) := by decide +kernel
theorem xX6_wellest_0 : xdec cX6_wellest 0 = some (.bipush (-4), 2, 0, (-4)) := by decide +kernel
theorem xX6_wellest_2 : xdec cX6_wellest 2 = some (.istore_n 1, 3, 1, 0) := by decide +kernel
theorem xX6_wellest_3 : xdec cX6_wellest 3 = some (.iconst 0, 4, 0, 0) := by decide +kernel
theorem xX6_wellest_4 : xdec cX6_wellest 4 = some (.istore_n 2, 5, 2, 0) := by decide +kernel
theorem xX6_wellest_5 : xdec cX6_wellest 5 = some (.iload_n 2, 6, 2, 0) := by decide +kernel
theorem xX6_wellest_6 : xdec cX6_wellest 6 = some (.aload_n 0, 7, 0, 0) := by decide +kernel
theorem xX6_wellest_7 : xdec cX6_wellest 7 = some (.getfield 85, 10, 85, 0) := by decide +kernel
theorem xX6_wellest_10 : xdec cX6_wellest 10 = some (.if_icmp .ge 45, 13, 55, 0) := by decide +kernel
theorem xX6_wellest_13 : xdec cX6_wellest 13 = some (.aload_n 0, 14, 0, 0) := by decide +kernel
theorem xX6_wellest_14 : xdec cX6_wellest 14 = some (.getfield 125, 17, 125, 0) := by decide +kernel
theorem xX6_wellest_17 : xdec cX6_wellest 17 = some (.iload_n 2, 18, 2, 0) := by decide +kernel
theorem xX6_wellest_18 : xdec cX6_wellest 18 = some (.invokestatic 105, 21, 0, 0) := by decide +kernel
theorem xX6_wellest_21 : xdec cX6_wellest 21 = some (.ifCond .eq 26, 24, 47, 0) := by decide +kernel
theorem xX6_wellest_24 : xdec cX6_wellest 24 = some (.iload_n 1, 25, 1, 0) := by decide +kernel
theorem xX6_wellest_25 : xdec cX6_wellest 25 = some (.ifCond .lt 18, 28, 43, 0) := by decide +kernel
theorem xX6_wellest_28 : xdec cX6_wellest 28 = some (.aload_n 0, 29, 0, 0) := by decide +kernel
theorem xX6_wellest_29 : xdec cX6_wellest 29 = some (.getfield 25, 32, 25, 0) := by decide +kernel
theorem xX6_wellest_32 : xdec cX6_wellest 32 = some (.iload_n 2, 33, 2, 0) := by decide +kernel
theorem xX6_wellest_33 : xdec cX6_wellest 33 = some (.iaload, 34, 0, 0) := by decide +kernel
theorem xX6_wellest_34 : xdec cX6_wellest 34 = some (.aload_n 0, 35, 0, 0) := by decide +kernel
theorem xX6_wellest_35 : xdec cX6_wellest 35 = some (.getfield 25, 38, 25, 0) := by decide +kernel
theorem xX6_wellest_38 : xdec cX6_wellest 38 = some (.iload_n 1, 39, 1, 0) := by decide +kernel
theorem xX6_wellest_39 : xdec cX6_wellest 39 = some (.iaload, 40, 0, 0) := by decide +kernel
theorem xX6_wellest_40 : xdec cX6_wellest 40 = some (.if_icmp .le 7, 43, 47, 0) := by decide +kernel
theorem xX6_wellest_43 : xdec cX6_wellest 43 = some (.iload_n 2, 44, 2, 0) := by decide +kernel
theorem xX6_wellest_44 : xdec cX6_wellest 44 = some (.goto 4, 47, 48, 0) := by decide +kernel
theorem xX6_wellest_47 : xdec cX6_wellest 47 = some (.iload_n 1, 48, 1, 0) := by decide +kernel
theorem xX6_wellest_48 : xdec cX6_wellest 48 = some (.istore_n 1, 49, 1, 0) := by decide +kernel
theorem xX6_wellest_49 : xdec cX6_wellest 49 = some (.iinc 2 1, 52, 2, 1) := by decide +kernel
theorem xX6_wellest_52 : xdec cX6_wellest 52 = some (.goto (-47), 55, 5, 0) := by decide +kernel
theorem xX6_wellest_55 : xdec cX6_wellest 55 = some (.iload_n 1, 56, 1, 0) := by decide +kernel
theorem xX6_wellest_56 : xdec cX6_wellest 56 = some (.ireturn, 57, 0, 0) := by decide +kernel
theorem xX6_fullestPlate_0 : xdec cX6_fullestPlate 0 = some (.iconst 0, 1, 0, 0) := by decide +kernel
theorem xX6_fullestPlate_1 : xdec cX6_fullestPlate 1 = some (.istore_n 1, 2, 1, 0) := by decide +kernel
theorem xX6_fullestPlate_2 : xdec cX6_fullestPlate 2 = some (.iconst 1, 3, 0, 1) := by decide +kernel
theorem xX6_fullestPlate_3 : xdec cX6_fullestPlate 3 = some (.istore_n 2, 4, 2, 0) := by decide +kernel
theorem xX6_fullestPlate_4 : xdec cX6_fullestPlate 4 = some (.iload_n 2, 5, 2, 0) := by decide +kernel
theorem xX6_fullestPlate_5 : xdec cX6_fullestPlate 5 = some (.bipush 10, 7, 0, 10) := by decide +kernel
theorem xX6_fullestPlate_7 : xdec cX6_fullestPlate 7 = some (.if_icmp .ge 30, 10, 37, 0) := by decide +kernel
theorem xX6_fullestPlate_10 : xdec cX6_fullestPlate 10 = some (.aload_n 0, 11, 0, 0) := by decide +kernel
theorem xX6_fullestPlate_11 : xdec cX6_fullestPlate 11 = some (.getfield 7, 14, 7, 0) := by decide +kernel
theorem xX6_fullestPlate_14 : xdec cX6_fullestPlate 14 = some (.iload_n 2, 15, 2, 0) := by decide +kernel
theorem xX6_fullestPlate_15 : xdec cX6_fullestPlate 15 = some (.iaload, 16, 0, 0) := by decide +kernel
theorem xX6_fullestPlate_16 : xdec cX6_fullestPlate 16 = some (.aload_n 0, 17, 0, 0) := by decide +kernel
theorem xX6_fullestPlate_17 : xdec cX6_fullestPlate 17 = some (.getfield 7, 20, 7, 0) := by decide +kernel
theorem xX6_fullestPlate_20 : xdec cX6_fullestPlate 20 = some (.iload_n 1, 21, 1, 0) := by decide +kernel
theorem xX6_fullestPlate_21 : xdec cX6_fullestPlate 21 = some (.iaload, 22, 0, 0) := by decide +kernel
theorem xX6_fullestPlate_22 : xdec cX6_fullestPlate 22 = some (.if_icmp .le 7, 25, 29, 0) := by decide +kernel
theorem xX6_fullestPlate_25 : xdec cX6_fullestPlate 25 = some (.iload_n 2, 26, 2, 0) := by decide +kernel
theorem xX6_fullestPlate_26 : xdec cX6_fullestPlate 26 = some (.goto 4, 29, 30, 0) := by decide +kernel
theorem xX6_fullestPlate_29 : xdec cX6_fullestPlate 29 = some (.iload_n 1, 30, 1, 0) := by decide +kernel
theorem xX6_fullestPlate_30 : xdec cX6_fullestPlate 30 = some (.istore_n 1, 31, 1, 0) := by decide +kernel
theorem xX6_fullestPlate_31 : xdec cX6_fullestPlate 31 = some (.iinc 2 1, 34, 2, 1) := by decide +kernel
theorem xX6_fullestPlate_34 : xdec cX6_fullestPlate 34 = some (.goto (-30), 37, 4, 0) := by decide +kernel
theorem xX6_fullestPlate_37 : xdec cX6_fullestPlate 37 = some (.iload_n 1, 38, 1, 0) := by decide +kernel
theorem xX6_fullestPlate_38 : xdec cX6_fullestPlate 38 = some (.ireturn, 39, 0, 0) := by decide +kernel
theorem xX6_emptyPlates_0 : xdec cX6_emptyPlates 0 = some (.iconst 0, 1, 0, 0) := by decide +kernel
theorem xX6_emptyPlates_1 : xdec cX6_emptyPlates 1 = some (.istore_n 1, 2, 1, 0) := by decide +kernel
theorem xX6_emptyPlates_2 : xdec cX6_emptyPlates 2 = some (.iconst 0, 3, 0, 0) := by decide +kernel
theorem xX6_emptyPlates_3 : xdec cX6_emptyPlates 3 = some (.istore_n 2, 4, 2, 0) := by decide +kernel
theorem xX6_emptyPlates_4 : xdec cX6_emptyPlates 4 = some (.iload_n 2, 5, 2, 0) := by decide +kernel
theorem xX6_emptyPlates_5 : xdec cX6_emptyPlates 5 = some (.bipush 10, 7, 0, 10) := by decide +kernel
theorem xX6_emptyPlates_7 : xdec cX6_emptyPlates 7 = some (.if_icmp .ge 28, 10, 35, 0) := by decide +kernel
theorem xX6_emptyPlates_10 : xdec cX6_emptyPlates 10 = some (.iload_n 1, 11, 1, 0) := by decide +kernel
theorem xX6_emptyPlates_11 : xdec cX6_emptyPlates 11 = some (.aload_n 0, 12, 0, 0) := by decide +kernel
theorem xX6_emptyPlates_12 : xdec cX6_emptyPlates 12 = some (.getfield 7, 15, 7, 0) := by decide +kernel
theorem xX6_emptyPlates_15 : xdec cX6_emptyPlates 15 = some (.iload_n 2, 16, 2, 0) := by decide +kernel
theorem xX6_emptyPlates_16 : xdec cX6_emptyPlates 16 = some (.iaload, 17, 0, 0) := by decide +kernel
theorem xX6_emptyPlates_17 : xdec cX6_emptyPlates 17 = some (.ifCond .ne 9, 20, 26, 0) := by decide +kernel
theorem xX6_emptyPlates_20 : xdec cX6_emptyPlates 20 = some (.iconst 1, 21, 0, 1) := by decide +kernel
theorem xX6_emptyPlates_21 : xdec cX6_emptyPlates 21 = some (.iload_n 2, 22, 2, 0) := by decide +kernel
theorem xX6_emptyPlates_22 : xdec cX6_emptyPlates 22 = some (.ishl, 23, 0, 0) := by decide +kernel
theorem xX6_emptyPlates_23 : xdec cX6_emptyPlates 23 = some (.goto 4, 26, 27, 0) := by decide +kernel
theorem xX6_emptyPlates_26 : xdec cX6_emptyPlates 26 = some (.iconst 0, 27, 0, 0) := by decide +kernel
theorem xX6_emptyPlates_27 : xdec cX6_emptyPlates 27 = some (.ior, 28, 0, 0) := by decide +kernel
theorem xX6_emptyPlates_28 : xdec cX6_emptyPlates 28 = some (.istore_n 1, 29, 1, 0) := by decide +kernel
theorem xX6_emptyPlates_29 : xdec cX6_emptyPlates 29 = some (.iinc 2 1, 32, 2, 1) := by decide +kernel
theorem xX6_emptyPlates_32 : xdec cX6_emptyPlates 32 = some (.goto (-28), 35, 4, 0) := by decide +kernel
theorem xX6_emptyPlates_35 : xdec cX6_emptyPlates 35 = some (.iload_n 1, 36, 1, 0) := by decide +kernel
theorem xX6_emptyPlates_36 : xdec cX6_emptyPlates 36 = some (.ireturn, 37, 0, 0) := by decide +kernel
theorem xX6_platesOf_0 : xdec cX6_platesOf 0 = some (.iconst 0, 1, 0, 0) := by decide +kernel
theorem xX6_platesOf_1 : xdec cX6_platesOf 1 = some (.istore_n 2, 2, 2, 0) := by decide +kernel
theorem xX6_platesOf_2 : xdec cX6_platesOf 2 = some (.iconst 0, 3, 0, 0) := by decide +kernel
theorem xX6_platesOf_3 : xdec cX6_platesOf 3 = some (.istore_n 3, 4, 3, 0) := by decide +kernel
theorem xX6_platesOf_4 : xdec cX6_platesOf 4 = some (.iload_n 3, 5, 3, 0) := by decide +kernel
theorem xX6_platesOf_5 : xdec cX6_platesOf 5 = some (.aload_n 0, 6, 0, 0) := by decide +kernel
theorem xX6_platesOf_6 : xdec cX6_platesOf 6 = some (.getfield 85, 9, 85, 0) := by decide +kernel
theorem xX6_platesOf_9 : xdec cX6_platesOf 9 = some (.if_icmp .ge 48, 12, 57, 0) := by decide +kernel
theorem xX6_platesOf_12 : xdec cX6_platesOf 12 = some (.iload_n 2, 13, 2, 0) := by decide +kernel
theorem xX6_platesOf_13 : xdec cX6_platesOf 13 = some (.aload_n 0, 14, 0, 0) := by decide +kernel
theorem xX6_platesOf_14 : xdec cX6_platesOf 14 = some (.getfield 125, 17, 125, 0) := by decide +kernel
theorem xX6_platesOf_17 : xdec cX6_platesOf 17 = some (.iload_n 3, 18, 3, 0) := by decide +kernel
theorem xX6_platesOf_18 : xdec cX6_platesOf 18 = some (.invokestatic 105, 21, 0, 0) := by decide +kernel
theorem xX6_platesOf_21 : xdec cX6_platesOf 21 = some (.ifCond .eq 27, 24, 48, 0) := by decide +kernel
theorem xX6_platesOf_24 : xdec cX6_platesOf 24 = some (.iconst 1, 25, 0, 1) := by decide +kernel
theorem xX6_platesOf_25 : xdec cX6_platesOf 25 = some (.iload_n 1, 26, 1, 0) := by decide +kernel
theorem xX6_platesOf_26 : xdec cX6_platesOf 26 = some (.ifCond .eq 12, 29, 38, 0) := by decide +kernel
theorem xX6_platesOf_29 : xdec cX6_platesOf 29 = some (.aload_n 0, 30, 0, 0) := by decide +kernel
theorem xX6_platesOf_30 : xdec cX6_platesOf 30 = some (.getfield 19, 33, 19, 0) := by decide +kernel
theorem xX6_platesOf_33 : xdec cX6_platesOf 33 = some (.iload_n 3, 34, 3, 0) := by decide +kernel
theorem xX6_platesOf_34 : xdec cX6_platesOf 34 = some (.iaload, 35, 0, 0) := by decide +kernel
theorem xX6_platesOf_35 : xdec cX6_platesOf 35 = some (.goto 9, 38, 44, 0) := by decide +kernel
theorem xX6_platesOf_38 : xdec cX6_platesOf 38 = some (.aload_n 0, 39, 0, 0) := by decide +kernel
theorem xX6_platesOf_39 : xdec cX6_platesOf 39 = some (.getfield 22, 42, 22, 0) := by decide +kernel
theorem xX6_platesOf_42 : xdec cX6_platesOf 42 = some (.iload_n 3, 43, 3, 0) := by decide +kernel
theorem xX6_platesOf_43 : xdec cX6_platesOf 43 = some (.iaload, 44, 0, 0) := by decide +kernel
theorem xX6_platesOf_44 : xdec cX6_platesOf 44 = some (.ishl, 45, 0, 0) := by decide +kernel
theorem xX6_platesOf_45 : xdec cX6_platesOf 45 = some (.goto 4, 48, 49, 0) := by decide +kernel
theorem xX6_platesOf_48 : xdec cX6_platesOf 48 = some (.iconst 0, 49, 0, 0) := by decide +kernel
theorem xX6_platesOf_49 : xdec cX6_platesOf 49 = some (.ior, 50, 0, 0) := by decide +kernel
theorem xX6_platesOf_50 : xdec cX6_platesOf 50 = some (.istore_n 2, 51, 2, 0) := by decide +kernel
theorem xX6_platesOf_51 : xdec cX6_platesOf 51 = some (.iinc 3 1, 54, 3, 1) := by decide +kernel
theorem xX6_platesOf_54 : xdec cX6_platesOf 54 = some (.goto (-50), 57, 4, 0) := by decide +kernel
theorem xX6_platesOf_57 : xdec cX6_platesOf 57 = some (.iload_n 2, 58, 2, 0) := by decide +kernel
theorem xX6_platesOf_58 : xdec cX6_platesOf 58 = some (.ireturn, 59, 0, 0) := by decide +kernel
theorem xX6_same_0 : xdec cX6_same 0 = some (.aload_n 0, 1, 0, 0) := by decide +kernel
theorem xX6_same_1 : xdec cX6_same 1 = some (.iconst 0, 2, 0, 0) := by decide +kernel
theorem xX6_same_2 : xdec cX6_same 2 = some (.putfield 75, 5, 75, 0) := by decide +kernel
theorem xX6_same_5 : xdec cX6_same 5 = some (.iload_n 1, 6, 1, 0) := by decide +kernel
theorem xX6_same_6 : xdec cX6_same 6 = some (.tableswitch 79 0 6 #[42, 47, 52, 57, 62, 67, 73], 48, 0, 0) := by decide +kernel
theorem xX6_same_48 : xdec cX6_same 48 = some (.aload_n 0, 49, 0, 0) := by decide +kernel
theorem xX6_same_49 : xdec cX6_same 49 = some (.invokevirtual 255, 52, 0, 0) := by decide +kernel
theorem xX6_same_52 : xdec cX6_same 52 = some (.ireturn, 53, 0, 0) := by decide +kernel
theorem xX6_same_53 : xdec cX6_same 53 = some (.aload_n 0, 54, 0, 0) := by decide +kernel
theorem xX6_same_54 : xdec cX6_same 54 = some (.invokevirtual 258, 57, 0, 0) := by decide +kernel
theorem xX6_same_57 : xdec cX6_same 57 = some (.ireturn, 58, 0, 0) := by decide +kernel
theorem xX6_same_58 : xdec cX6_same 58 = some (.aload_n 0, 59, 0, 0) := by decide +kernel
theorem xX6_same_59 : xdec cX6_same 59 = some (.invokevirtual 261, 62, 0, 0) := by decide +kernel
theorem xX6_same_62 : xdec cX6_same 62 = some (.ireturn, 63, 0, 0) := by decide +kernel
theorem xX6_same_63 : xdec cX6_same 63 = some (.aload_n 0, 64, 0, 0) := by decide +kernel
theorem xX6_same_64 : xdec cX6_same 64 = some (.invokevirtual 264, 67, 0, 0) := by decide +kernel
theorem xX6_same_67 : xdec cX6_same 67 = some (.ireturn, 68, 0, 0) := by decide +kernel
theorem xX6_same_68 : xdec cX6_same 68 = some (.aload_n 0, 69, 0, 0) := by decide +kernel
theorem xX6_same_69 : xdec cX6_same 69 = some (.invokevirtual 267, 72, 0, 0) := by decide +kernel
theorem xX6_same_72 : xdec cX6_same 72 = some (.ireturn, 73, 0, 0) := by decide +kernel
theorem xX6_same_73 : xdec cX6_same 73 = some (.aload_n 0, 74, 0, 0) := by decide +kernel
theorem xX6_same_74 : xdec cX6_same 74 = some (.iconst 1, 75, 0, 1) := by decide +kernel
theorem xX6_same_75 : xdec cX6_same 75 = some (.invokevirtual 270, 78, 0, 0) := by decide +kernel
theorem xX6_same_78 : xdec cX6_same 78 = some (.ireturn, 79, 0, 0) := by decide +kernel
theorem xX6_same_79 : xdec cX6_same 79 = some (.aload_n 0, 80, 0, 0) := by decide +kernel
theorem xX6_same_80 : xdec cX6_same 80 = some (.iconst 0, 81, 0, 0) := by decide +kernel
theorem xX6_same_81 : xdec cX6_same 81 = some (.invokevirtual 270, 84, 0, 0) := by decide +kernel
theorem xX6_same_84 : xdec cX6_same 84 = some (.ireturn, 85, 0, 0) := by decide +kernel
theorem xX6_same_85 : xdec cX6_same 85 = some (.iconst (-1), 86, 0, (-1)) := by decide +kernel
theorem xX6_same_86 : xdec cX6_same 86 = some (.ireturn, 87, 0, 0) := by decide +kernel
theorem xX6_leastOf_0 : xdec cX6_leastOf 0 = some (.iload_n 0, 1, 0, 0) := by decide +kernel
theorem xX6_leastOf_1 : xdec cX6_leastOf 1 = some (.ifCond .ne 9, 4, 10, 0) := by decide +kernel
theorem xX6_leastOf_4 : xdec cX6_leastOf 4 = some (.ldc2_w 274, 7, 274, 0) := by decide +kernel
theorem xX6_leastOf_7 : xdec cX6_leastOf 7 = some (.goto 17, 10, 24, 0) := by decide +kernel
theorem xX6_leastOf_10 : xdec cX6_leastOf 10 = some (.iload_n 0, 11, 0, 0) := by decide +kernel
theorem xX6_leastOf_11 : xdec cX6_leastOf 11 = some (.iconst 1, 12, 0, 1) := by decide +kernel
theorem xX6_leastOf_12 : xdec cX6_leastOf 12 = some (.if_icmp .ne 9, 15, 21, 0) := by decide +kernel
theorem xX6_leastOf_15 : xdec cX6_leastOf 15 = some (.ldc2_w 276, 18, 276, 0) := by decide +kernel
theorem xX6_leastOf_18 : xdec cX6_leastOf 18 = some (.goto 6, 21, 24, 0) := by decide +kernel
theorem xX6_leastOf_21 : xdec cX6_leastOf 21 = some (.ldc2_w 278, 24, 278, 0) := by decide +kernel
theorem xX6_leastOf_24 : xdec cX6_leastOf 24 = some (.lreturn, 25, 0, 0) := by decide +kernel
theorem xX6_isSkipped_0 : xdec cX6_isSkipped 0 = some (.aload_n 0, 1, 0, 0) := by decide +kernel
theorem xX6_isSkipped_1 : xdec cX6_isSkipped 1 = some (.getfield 43, 4, 43, 0) := by decide +kernel
theorem xX6_isSkipped_4 : xdec cX6_isSkipped 4 = some (.bipush 100, 6, 0, 100) := by decide +kernel
theorem xX6_isSkipped_6 : xdec cX6_isSkipped 6 = some (.iload_n 1, 7, 1, 0) := by decide +kernel
theorem xX6_isSkipped_7 : xdec cX6_isSkipped 7 = some (.imul, 8, 0, 0) := by decide +kernel
theorem xX6_isSkipped_8 : xdec cX6_isSkipped 8 = some (.iload_n 2, 9, 2, 0) := by decide +kernel
theorem xX6_isSkipped_9 : xdec cX6_isSkipped 9 = some (.iadd, 10, 0, 0) := by decide +kernel
theorem xX6_isSkipped_10 : xdec cX6_isSkipped 10 = some (.laload, 11, 0, 0) := by decide +kernel
theorem xX6_isSkipped_11 : xdec cX6_isSkipped 11 = some (.aload_n 0, 12, 0, 0) := by decide +kernel
theorem xX6_isSkipped_12 : xdec cX6_isSkipped 12 = some (.getfield 37, 15, 37, 0) := by decide +kernel
theorem xX6_isSkipped_15 : xdec cX6_isSkipped 15 = some (.iload_n 1, 16, 1, 0) := by decide +kernel
theorem xX6_isSkipped_16 : xdec cX6_isSkipped 16 = some (.iaload, 17, 0, 0) := by decide +kernel
theorem xX6_isSkipped_17 : xdec cX6_isSkipped 17 = some (.invokestatic 280, 20, 0, 0) := by decide +kernel
theorem xX6_isSkipped_20 : xdec cX6_isSkipped 20 = some (.lcmp, 21, 0, 0) := by decide +kernel
theorem xX6_isSkipped_21 : xdec cX6_isSkipped 21 = some (.ifCond .ne 7, 24, 28, 0) := by decide +kernel
theorem xX6_isSkipped_24 : xdec cX6_isSkipped 24 = some (.iconst 1, 25, 0, 1) := by decide +kernel
theorem xX6_isSkipped_25 : xdec cX6_isSkipped 25 = some (.goto 4, 28, 29, 0) := by decide +kernel
theorem xX6_isSkipped_28 : xdec cX6_isSkipped 28 = some (.iconst 0, 29, 0, 0) := by decide +kernel
theorem xX6_isSkipped_29 : xdec cX6_isSkipped 29 = some (.ireturn, 30, 0, 0) := by decide +kernel
theorem xX6_isHealthRow_0 : xdec cX6_isHealthRow 0 = some (.iconst 1, 1, 0, 1) := by decide +kernel
theorem xX6_isHealthRow_1 : xdec cX6_isHealthRow 1 = some (.istore_n 3, 2, 3, 0) := by decide +kernel
theorem xX6_isHealthRow_2 : xdec cX6_isHealthRow 2 = some (.iconst 0, 3, 0, 0) := by decide +kernel
theorem xX6_isHealthRow_3 : xdec cX6_isHealthRow 3 = some (.istore 4, 5, 4, 0) := by decide +kernel
theorem xX6_isHealthRow_5 : xdec cX6_isHealthRow 5 = some (.iload 4, 7, 4, 0) := by decide +kernel
theorem xX6_isHealthRow_7 : xdec cX6_isHealthRow 7 = some (.aload_n 0, 8, 0, 0) := by decide +kernel
theorem xX6_isHealthRow_8 : xdec cX6_isHealthRow 8 = some (.getfield 40, 11, 40, 0) := by decide +kernel
theorem xX6_isHealthRow_11 : xdec cX6_isHealthRow 11 = some (.iload_n 1, 12, 1, 0) := by decide +kernel
theorem xX6_isHealthRow_12 : xdec cX6_isHealthRow 12 = some (.iaload, 13, 0, 0) := by decide +kernel
theorem xX6_isHealthRow_13 : xdec cX6_isHealthRow 13 = some (.if_icmp .ge 56, 16, 69, 0) := by decide +kernel
theorem xX6_isHealthRow_16 : xdec cX6_isHealthRow 16 = some (.iload_n 3, 17, 3, 0) := by decide +kernel
theorem xX6_isHealthRow_17 : xdec cX6_isHealthRow 17 = some (.ifCond .eq 52, 20, 69, 0) := by decide +kernel
theorem xX6_isHealthRow_20 : xdec cX6_isHealthRow 20 = some (.aload_n 0, 21, 0, 0) := by decide +kernel
theorem xX6_isHealthRow_21 : xdec cX6_isHealthRow 21 = some (.iload_n 1, 22, 1, 0) := by decide +kernel
theorem xX6_isHealthRow_22 : xdec cX6_isHealthRow 22 = some (.iload 4, 24, 4, 0) := by decide +kernel
theorem xX6_isHealthRow_24 : xdec cX6_isHealthRow 24 = some (.invokevirtual 284, 27, 0, 0) := by decide +kernel
theorem xX6_isHealthRow_27 : xdec cX6_isHealthRow 27 = some (.ifCond .ne 26, 30, 53, 0) := by decide +kernel
theorem xX6_isHealthRow_30 : xdec cX6_isHealthRow 30 = some (.aload_n 0, 31, 0, 0) := by decide +kernel
theorem xX6_isHealthRow_31 : xdec cX6_isHealthRow 31 = some (.getfield 43, 34, 43, 0) := by decide +kernel
theorem xX6_isHealthRow_34 : xdec cX6_isHealthRow 34 = some (.bipush 100, 36, 0, 100) := by decide +kernel
theorem xX6_isHealthRow_36 : xdec cX6_isHealthRow 36 = some (.iload_n 1, 37, 1, 0) := by decide +kernel
theorem xX6_isHealthRow_37 : xdec cX6_isHealthRow 37 = some (.imul, 38, 0, 0) := by decide +kernel
theorem xX6_isHealthRow_38 : xdec cX6_isHealthRow 38 = some (.iload 4, 40, 4, 0) := by decide +kernel
theorem xX6_isHealthRow_40 : xdec cX6_isHealthRow 40 = some (.iadd, 41, 0, 0) := by decide +kernel
theorem xX6_isHealthRow_41 : xdec cX6_isHealthRow 41 = some (.laload, 42, 0, 0) := by decide +kernel
theorem xX6_isHealthRow_42 : xdec cX6_isHealthRow 42 = some (.aload_n 0, 43, 0, 0) := by decide +kernel
theorem xX6_isHealthRow_43 : xdec cX6_isHealthRow 43 = some (.getfield 25, 46, 25, 0) := by decide +kernel
theorem xX6_isHealthRow_46 : xdec cX6_isHealthRow 46 = some (.iload_n 2, 47, 2, 0) := by decide +kernel
theorem xX6_isHealthRow_47 : xdec cX6_isHealthRow 47 = some (.iaload, 48, 0, 0) := by decide +kernel
theorem xX6_isHealthRow_48 : xdec cX6_isHealthRow 48 = some (.i2l, 49, 0, 0) := by decide +kernel
theorem xX6_isHealthRow_49 : xdec cX6_isHealthRow 49 = some (.lcmp, 50, 0, 0) := by decide +kernel
theorem xX6_isHealthRow_50 : xdec cX6_isHealthRow 50 = some (.ifCond .ne 7, 53, 57, 0) := by decide +kernel
theorem xX6_isHealthRow_53 : xdec cX6_isHealthRow 53 = some (.iconst 1, 54, 0, 1) := by decide +kernel
theorem xX6_isHealthRow_54 : xdec cX6_isHealthRow 54 = some (.goto 4, 57, 58, 0) := by decide +kernel
theorem xX6_isHealthRow_57 : xdec cX6_isHealthRow 57 = some (.iconst 0, 58, 0, 0) := by decide +kernel
theorem xX6_isHealthRow_58 : xdec cX6_isHealthRow 58 = some (.istore_n 3, 59, 3, 0) := by decide +kernel
theorem xX6_isHealthRow_59 : xdec cX6_isHealthRow 59 = some (.aload_n 0, 60, 0, 0) := by decide +kernel
theorem xX6_isHealthRow_60 : xdec cX6_isHealthRow 60 = some (.invokevirtual 132, 63, 0, 0) := by decide +kernel
theorem xX6_isHealthRow_63 : xdec cX6_isHealthRow 63 = some (.iinc 4 1, 66, 4, 1) := by decide +kernel
theorem xX6_isHealthRow_66 : xdec cX6_isHealthRow 66 = some (.goto (-61), 69, 5, 0) := by decide +kernel
theorem xX6_isHealthRow_69 : xdec cX6_isHealthRow 69 = some (.aload_n 0, 70, 0, 0) := by decide +kernel
theorem xX6_isHealthRow_70 : xdec cX6_isHealthRow 70 = some (.invokevirtual 196, 73, 0, 0) := by decide +kernel
theorem xX6_isHealthRow_73 : xdec cX6_isHealthRow 73 = some (.iload_n 3, 74, 3, 0) := by decide +kernel
theorem xX6_isHealthRow_74 : xdec cX6_isHealthRow 74 = some (.ireturn, 75, 0, 0) := by decide +kernel
theorem xX6_isPlateRow_0 : xdec cX6_isPlateRow 0 = some (.iconst 1, 1, 0, 1) := by decide +kernel
theorem xX6_isPlateRow_1 : xdec cX6_isPlateRow 1 = some (.istore_n 3, 2, 3, 0) := by decide +kernel
theorem xX6_isPlateRow_2 : xdec cX6_isPlateRow 2 = some (.iconst 0, 3, 0, 0) := by decide +kernel
theorem xX6_isPlateRow_3 : xdec cX6_isPlateRow 3 = some (.istore 4, 5, 4, 0) := by decide +kernel
theorem xX6_isPlateRow_5 : xdec cX6_isPlateRow 5 = some (.iload 4, 7, 4, 0) := by decide +kernel
theorem xX6_isPlateRow_7 : xdec cX6_isPlateRow 7 = some (.aload_n 0, 8, 0, 0) := by decide +kernel
theorem xX6_isPlateRow_8 : xdec cX6_isPlateRow 8 = some (.getfield 40, 11, 40, 0) := by decide +kernel
theorem xX6_isPlateRow_11 : xdec cX6_isPlateRow 11 = some (.iload_n 1, 12, 1, 0) := by decide +kernel
theorem xX6_isPlateRow_12 : xdec cX6_isPlateRow 12 = some (.iaload, 13, 0, 0) := by decide +kernel
theorem xX6_isPlateRow_13 : xdec cX6_isPlateRow 13 = some (.if_icmp .ge 56, 16, 69, 0) := by decide +kernel
theorem xX6_isPlateRow_16 : xdec cX6_isPlateRow 16 = some (.iload_n 3, 17, 3, 0) := by decide +kernel
theorem xX6_isPlateRow_17 : xdec cX6_isPlateRow 17 = some (.ifCond .eq 52, 20, 69, 0) := by decide +kernel
theorem xX6_isPlateRow_20 : xdec cX6_isPlateRow 20 = some (.aload_n 0, 21, 0, 0) := by decide +kernel
theorem xX6_isPlateRow_21 : xdec cX6_isPlateRow 21 = some (.invokevirtual 132, 24, 0, 0) := by decide +kernel
theorem xX6_isPlateRow_24 : xdec cX6_isPlateRow 24 = some (.aload_n 0, 25, 0, 0) := by decide +kernel
theorem xX6_isPlateRow_25 : xdec cX6_isPlateRow 25 = some (.iload_n 1, 26, 1, 0) := by decide +kernel
theorem xX6_isPlateRow_26 : xdec cX6_isPlateRow 26 = some (.iload 4, 28, 4, 0) := by decide +kernel
theorem xX6_isPlateRow_28 : xdec cX6_isPlateRow 28 = some (.invokevirtual 284, 31, 0, 0) := by decide +kernel
theorem xX6_isPlateRow_31 : xdec cX6_isPlateRow 31 = some (.ifCond .ne 26, 34, 57, 0) := by decide +kernel
theorem xX6_isPlateRow_34 : xdec cX6_isPlateRow 34 = some (.aload_n 0, 35, 0, 0) := by decide +kernel
theorem xX6_isPlateRow_35 : xdec cX6_isPlateRow 35 = some (.getfield 43, 38, 43, 0) := by decide +kernel
theorem xX6_isPlateRow_38 : xdec cX6_isPlateRow 38 = some (.bipush 100, 40, 0, 100) := by decide +kernel
theorem xX6_isPlateRow_40 : xdec cX6_isPlateRow 40 = some (.iload_n 1, 41, 1, 0) := by decide +kernel
theorem xX6_isPlateRow_41 : xdec cX6_isPlateRow 41 = some (.imul, 42, 0, 0) := by decide +kernel
theorem xX6_isPlateRow_42 : xdec cX6_isPlateRow 42 = some (.iload 4, 44, 4, 0) := by decide +kernel
theorem xX6_isPlateRow_44 : xdec cX6_isPlateRow 44 = some (.iadd, 45, 0, 0) := by decide +kernel
theorem xX6_isPlateRow_45 : xdec cX6_isPlateRow 45 = some (.laload, 46, 0, 0) := by decide +kernel
theorem xX6_isPlateRow_46 : xdec cX6_isPlateRow 46 = some (.aload_n 0, 47, 0, 0) := by decide +kernel
theorem xX6_isPlateRow_47 : xdec cX6_isPlateRow 47 = some (.getfield 22, 50, 22, 0) := by decide +kernel
theorem xX6_isPlateRow_50 : xdec cX6_isPlateRow 50 = some (.iload_n 2, 51, 2, 0) := by decide +kernel
theorem xX6_isPlateRow_51 : xdec cX6_isPlateRow 51 = some (.iaload, 52, 0, 0) := by decide +kernel
theorem xX6_isPlateRow_52 : xdec cX6_isPlateRow 52 = some (.i2l, 53, 0, 0) := by decide +kernel
theorem xX6_isPlateRow_53 : xdec cX6_isPlateRow 53 = some (.lcmp, 54, 0, 0) := by decide +kernel
theorem xX6_isPlateRow_54 : xdec cX6_isPlateRow 54 = some (.ifCond .ne 7, 57, 61, 0) := by decide +kernel
theorem xX6_isPlateRow_57 : xdec cX6_isPlateRow 57 = some (.iconst 1, 58, 0, 1) := by decide +kernel
theorem xX6_isPlateRow_58 : xdec cX6_isPlateRow 58 = some (.goto 4, 61, 62, 0) := by decide +kernel
theorem xX6_isPlateRow_61 : xdec cX6_isPlateRow 61 = some (.iconst 0, 62, 0, 0) := by decide +kernel
theorem xX6_isPlateRow_62 : xdec cX6_isPlateRow 62 = some (.istore_n 3, 63, 3, 0) := by decide +kernel
theorem xX6_isPlateRow_63 : xdec cX6_isPlateRow 63 = some (.iinc 4 1, 66, 4, 1) := by decide +kernel
theorem xX6_isPlateRow_66 : xdec cX6_isPlateRow 66 = some (.goto (-61), 69, 5, 0) := by decide +kernel
theorem xX6_isPlateRow_69 : xdec cX6_isPlateRow 69 = some (.aload_n 0, 70, 0, 0) := by decide +kernel
theorem xX6_isPlateRow_70 : xdec cX6_isPlateRow 70 = some (.invokevirtual 196, 73, 0, 0) := by decide +kernel
theorem xX6_isPlateRow_73 : xdec cX6_isPlateRow 73 = some (.iload_n 3, 74, 3, 0) := by decide +kernel
theorem xX6_isPlateRow_74 : xdec cX6_isPlateRow 74 = some (.ireturn, 75, 0, 0) := by decide +kernel
theorem xX6_whatIs_0 : xdec cX6_whatIs 0 = some (.aload_n 0, 1, 0, 0) := by decide +kernel
theorem xX6_whatIs_1 : xdec cX6_whatIs 1 = some (.iconst 0, 2, 0, 0) := by decide +kernel
theorem xX6_whatIs_2 : xdec cX6_whatIs 2 = some (.putfield 75, 5, 75, 0) := by decide +kernel
theorem xX6_whatIs_5 : xdec cX6_whatIs 5 = some (.aload_n 0, 6, 0, 0) := by decide +kernel
theorem xX6_whatIs_6 : xdec cX6_whatIs 6 = some (.iload_n 2, 7, 2, 0) := by decide +kernel
theorem xX6_whatIs_7 : xdec cX6_whatIs 7 = some (.invokevirtual 171, 10, 0, 0) := by decide +kernel
theorem xX6_whatIs_10 : xdec cX6_whatIs 10 = some (.ifCond .eq 21, 13, 31, 0) := by decide +kernel
theorem xX6_whatIs_13 : xdec cX6_whatIs 13 = some (.iload_n 3, 14, 3, 0) := by decide +kernel
theorem xX6_whatIs_14 : xdec cX6_whatIs 14 = some (.i2l, 15, 0, 0) := by decide +kernel
theorem xX6_whatIs_15 : xdec cX6_whatIs 15 = some (.lconst 0, 16, 0, 0) := by decide +kernel
theorem xX6_whatIs_16 : xdec cX6_whatIs 16 = some (.lconst 1, 17, 0, 1) := by decide +kernel
theorem xX6_whatIs_17 : xdec cX6_whatIs 17 = some (.invokestatic 81, 20, 0, 0) := by decide +kernel
theorem xX6_whatIs_20 : xdec cX6_whatIs 20 = some (.ifCond .eq 11, 23, 31, 0) := by decide +kernel
theorem xX6_whatIs_23 : xdec cX6_whatIs 23 = some (.aload_n 0, 24, 0, 0) := by decide +kernel
theorem xX6_whatIs_24 : xdec cX6_whatIs 24 = some (.iload_n 1, 25, 1, 0) := by decide +kernel
theorem xX6_whatIs_25 : xdec cX6_whatIs 25 = some (.invokevirtual 184, 28, 0, 0) := by decide +kernel
theorem xX6_whatIs_28 : xdec cX6_whatIs 28 = some (.goto 4, 31, 32, 0) := by decide +kernel
theorem xX6_whatIs_31 : xdec cX6_whatIs 31 = some (.iconst (-1), 32, 0, (-1)) := by decide +kernel
theorem xX6_whatIs_32 : xdec cX6_whatIs 32 = some (.istore 4, 34, 4, 0) := by decide +kernel
theorem xX6_whatIs_34 : xdec cX6_whatIs 34 = some (.iload 4, 36, 4, 0) := by decide +kernel
theorem xX6_whatIs_36 : xdec cX6_whatIs 36 = some (.ifCond .ge 6, 39, 42, 0) := by decide +kernel
theorem xX6_whatIs_39 : xdec cX6_whatIs 39 = some (.iload 4, 41, 4, 0) := by decide +kernel
theorem xX6_whatIs_41 : xdec cX6_whatIs 41 = some (.ireturn, 42, 0, 0) := by decide +kernel
theorem xX6_whatIs_42 : xdec cX6_whatIs 42 = some (.iconst 0, 43, 0, 0) := by decide +kernel
theorem xX6_whatIs_43 : xdec cX6_whatIs 43 = some (.istore 5, 45, 5, 0) := by decide +kernel
theorem xX6_whatIs_45 : xdec cX6_whatIs 45 = some (.aload_n 0, 46, 0, 0) := by decide +kernel
theorem xX6_whatIs_46 : xdec cX6_whatIs 46 = some (.invokevirtual 190, 49, 0, 0) := by decide +kernel
theorem xX6_whatIs_49 : xdec cX6_whatIs 49 = some (.iconst 0, 50, 0, 0) := by decide +kernel
theorem xX6_whatIs_50 : xdec cX6_whatIs 50 = some (.istore 6, 52, 6, 0) := by decide +kernel
theorem xX6_whatIs_52 : xdec cX6_whatIs 52 = some (.iload 6, 54, 6, 0) := by decide +kernel
theorem xX6_whatIs_54 : xdec cX6_whatIs 54 = some (.iload_n 3, 55, 3, 0) := by decide +kernel
theorem xX6_whatIs_55 : xdec cX6_whatIs 55 = some (.ifCond .ne 8, 58, 63, 0) := by decide +kernel
theorem xX6_whatIs_58 : xdec cX6_whatIs 58 = some (.bipush 8, 60, 0, 8) := by decide +kernel
theorem xX6_whatIs_60 : xdec cX6_whatIs 60 = some (.goto 5, 63, 65, 0) := by decide +kernel
theorem xX6_whatIs_63 : xdec cX6_whatIs 63 = some (.bipush 10, 65, 0, 10) := by decide +kernel
theorem xX6_whatIs_65 : xdec cX6_whatIs 65 = some (.if_icmp .ge 74, 68, 139, 0) := by decide +kernel
theorem xX6_whatIs_68 : xdec cX6_whatIs 68 = some (.aload_n 0, 69, 0, 0) := by decide +kernel
theorem xX6_whatIs_69 : xdec cX6_whatIs 69 = some (.getfield 13, 72, 13, 0) := by decide +kernel
theorem xX6_whatIs_72 : xdec cX6_whatIs 72 = some (.iload_n 2, 73, 2, 0) := by decide +kernel
theorem xX6_whatIs_73 : xdec cX6_whatIs 73 = some (.iload_n 3, 74, 3, 0) := by decide +kernel
theorem xX6_whatIs_74 : xdec cX6_whatIs 74 = some (.ifCond .ne 8, 77, 82, 0) := by decide +kernel
theorem xX6_whatIs_77 : xdec cX6_whatIs 77 = some (.iload 6, 79, 6, 0) := by decide +kernel
theorem xX6_whatIs_79 : xdec cX6_whatIs 79 = some (.goto 9, 82, 88, 0) := by decide +kernel
theorem xX6_whatIs_82 : xdec cX6_whatIs 82 = some (.aload_n 0, 83, 0, 0) := by decide +kernel
theorem xX6_whatIs_83 : xdec cX6_whatIs 83 = some (.getfield 13, 86, 13, 0) := by decide +kernel
theorem xX6_whatIs_86 : xdec cX6_whatIs 86 = some (.iload_n 2, 87, 2, 0) := by decide +kernel
theorem xX6_whatIs_87 : xdec cX6_whatIs 87 = some (.iaload, 88, 0, 0) := by decide +kernel
theorem xX6_whatIs_88 : xdec cX6_whatIs 88 = some (.iastore, 89, 0, 0) := by decide +kernel
theorem xX6_whatIs_89 : xdec cX6_whatIs 89 = some (.aload_n 0, 90, 0, 0) := by decide +kernel
theorem xX6_whatIs_90 : xdec cX6_whatIs 90 = some (.getfield 16, 93, 16, 0) := by decide +kernel
theorem xX6_whatIs_93 : xdec cX6_whatIs 93 = some (.iload_n 2, 94, 2, 0) := by decide +kernel
theorem xX6_whatIs_94 : xdec cX6_whatIs 94 = some (.iload_n 3, 95, 3, 0) := by decide +kernel
theorem xX6_whatIs_95 : xdec cX6_whatIs 95 = some (.iconst 1, 96, 0, 1) := by decide +kernel
theorem xX6_whatIs_96 : xdec cX6_whatIs 96 = some (.if_icmp .ne 8, 99, 104, 0) := by decide +kernel
theorem xX6_whatIs_99 : xdec cX6_whatIs 99 = some (.iload 6, 101, 6, 0) := by decide +kernel
theorem xX6_whatIs_101 : xdec cX6_whatIs 101 = some (.goto 9, 104, 110, 0) := by decide +kernel
theorem xX6_whatIs_104 : xdec cX6_whatIs 104 = some (.aload_n 0, 105, 0, 0) := by decide +kernel
theorem xX6_whatIs_105 : xdec cX6_whatIs 105 = some (.getfield 16, 108, 16, 0) := by decide +kernel
theorem xX6_whatIs_108 : xdec cX6_whatIs 108 = some (.iload_n 2, 109, 2, 0) := by decide +kernel
theorem xX6_whatIs_109 : xdec cX6_whatIs 109 = some (.iaload, 110, 0, 0) := by decide +kernel
theorem xX6_whatIs_110 : xdec cX6_whatIs 110 = some (.iastore, 111, 0, 0) := by decide +kernel
theorem xX6_whatIs_111 : xdec cX6_whatIs 111 = some (.iload 5, 113, 5, 0) := by decide +kernel
theorem xX6_whatIs_113 : xdec cX6_whatIs 113 = some (.aload_n 0, 114, 0, 0) := by decide +kernel
theorem xX6_whatIs_114 : xdec cX6_whatIs 114 = some (.iload_n 1, 115, 1, 0) := by decide +kernel
theorem xX6_whatIs_115 : xdec cX6_whatIs 115 = some (.iload_n 2, 116, 2, 0) := by decide +kernel
theorem xX6_whatIs_116 : xdec cX6_whatIs 116 = some (.invokevirtual 287, 119, 0, 0) := by decide +kernel
theorem xX6_whatIs_119 : xdec cX6_whatIs 119 = some (.ifCond .eq 10, 122, 129, 0) := by decide +kernel
theorem xX6_whatIs_122 : xdec cX6_whatIs 122 = some (.iconst 1, 123, 0, 1) := by decide +kernel
theorem xX6_whatIs_123 : xdec cX6_whatIs 123 = some (.iload 6, 125, 6, 0) := by decide +kernel
theorem xX6_whatIs_125 : xdec cX6_whatIs 125 = some (.ishl, 126, 0, 0) := by decide +kernel
theorem xX6_whatIs_126 : xdec cX6_whatIs 126 = some (.goto 4, 129, 130, 0) := by decide +kernel
theorem xX6_whatIs_129 : xdec cX6_whatIs 129 = some (.iconst 0, 130, 0, 0) := by decide +kernel
theorem xX6_whatIs_130 : xdec cX6_whatIs 130 = some (.ior, 131, 0, 0) := by decide +kernel
theorem xX6_whatIs_131 : xdec cX6_whatIs 131 = some (.istore 5, 133, 5, 0) := by decide +kernel
theorem xX6_whatIs_133 : xdec cX6_whatIs 133 = some (.iinc 6 1, 136, 6, 1) := by decide +kernel
theorem xX6_whatIs_136 : xdec cX6_whatIs 136 = some (.goto (-84), 139, 52, 0) := by decide +kernel
theorem xX6_whatIs_139 : xdec cX6_whatIs 139 = some (.iload 5, 141, 5, 0) := by decide +kernel
theorem xX6_whatIs_141 : xdec cX6_whatIs 141 = some (.ireturn, 142, 0, 0) := by decide +kernel
theorem xX6_whatWish_0 : xdec cX6_whatWish 0 = some (.aload_n 0, 1, 0, 0) := by decide +kernel
theorem xX6_whatWish_1 : xdec cX6_whatWish 1 = some (.iconst 0, 2, 0, 0) := by decide +kernel
theorem xX6_whatWish_2 : xdec cX6_whatWish 2 = some (.putfield 75, 5, 75, 0) := by decide +kernel
theorem xX6_whatWish_5 : xdec cX6_whatWish 5 = some (.aload_n 0, 6, 0, 0) := by decide +kernel
theorem xX6_whatWish_6 : xdec cX6_whatWish 6 = some (.iload_n 2, 7, 2, 0) := by decide +kernel
theorem xX6_whatWish_7 : xdec cX6_whatWish 7 = some (.invokevirtual 171, 10, 0, 0) := by decide +kernel
theorem xX6_whatWish_10 : xdec cX6_whatWish 10 = some (.ifCond .eq 11, 13, 21, 0) := by decide +kernel
theorem xX6_whatWish_13 : xdec cX6_whatWish 13 = some (.aload_n 0, 14, 0, 0) := by decide +kernel
theorem xX6_whatWish_14 : xdec cX6_whatWish 14 = some (.iload_n 1, 15, 1, 0) := by decide +kernel
theorem xX6_whatWish_15 : xdec cX6_whatWish 15 = some (.invokevirtual 184, 18, 0, 0) := by decide +kernel
theorem xX6_whatWish_18 : xdec cX6_whatWish 18 = some (.goto 4, 21, 22, 0) := by decide +kernel
theorem xX6_whatWish_21 : xdec cX6_whatWish 21 = some (.iconst (-1), 22, 0, (-1)) := by decide +kernel
theorem xX6_whatWish_22 : xdec cX6_whatWish 22 = some (.istore_n 3, 23, 3, 0) := by decide +kernel
theorem xX6_whatWish_23 : xdec cX6_whatWish 23 = some (.iload_n 3, 24, 3, 0) := by decide +kernel
theorem xX6_whatWish_24 : xdec cX6_whatWish 24 = some (.ifCond .ge 5, 27, 29, 0) := by decide +kernel
theorem xX6_whatWish_27 : xdec cX6_whatWish 27 = some (.iload_n 3, 28, 3, 0) := by decide +kernel
theorem xX6_whatWish_28 : xdec cX6_whatWish 28 = some (.ireturn, 29, 0, 0) := by decide +kernel
theorem xX6_whatWish_29 : xdec cX6_whatWish 29 = some (.iconst 0, 30, 0, 0) := by decide +kernel
theorem xX6_whatWish_30 : xdec cX6_whatWish 30 = some (.istore 4, 32, 4, 0) := by decide +kernel
theorem xX6_whatWish_32 : xdec cX6_whatWish 32 = some (.aload_n 0, 33, 0, 0) := by decide +kernel
theorem xX6_whatWish_33 : xdec cX6_whatWish 33 = some (.invokevirtual 190, 36, 0, 0) := by decide +kernel
theorem xX6_whatWish_36 : xdec cX6_whatWish 36 = some (.iconst 0, 37, 0, 0) := by decide +kernel
theorem xX6_whatWish_37 : xdec cX6_whatWish 37 = some (.istore 5, 39, 5, 0) := by decide +kernel
theorem xX6_whatWish_39 : xdec cX6_whatWish 39 = some (.iload 5, 41, 5, 0) := by decide +kernel
theorem xX6_whatWish_41 : xdec cX6_whatWish 41 = some (.bipush 10, 43, 0, 10) := by decide +kernel
theorem xX6_whatWish_43 : xdec cX6_whatWish 43 = some (.if_icmp .ge 39, 46, 82, 0) := by decide +kernel
theorem xX6_whatWish_46 : xdec cX6_whatWish 46 = some (.aload_n 0, 47, 0, 0) := by decide +kernel
theorem xX6_whatWish_47 : xdec cX6_whatWish 47 = some (.getfield 19, 50, 19, 0) := by decide +kernel
theorem xX6_whatWish_50 : xdec cX6_whatWish 50 = some (.iload_n 2, 51, 2, 0) := by decide +kernel
theorem xX6_whatWish_51 : xdec cX6_whatWish 51 = some (.iload 5, 53, 5, 0) := by decide +kernel
theorem xX6_whatWish_53 : xdec cX6_whatWish 53 = some (.iastore, 54, 0, 0) := by decide +kernel
theorem xX6_whatWish_54 : xdec cX6_whatWish 54 = some (.iload 4, 56, 4, 0) := by decide +kernel
theorem xX6_whatWish_56 : xdec cX6_whatWish 56 = some (.aload_n 0, 57, 0, 0) := by decide +kernel
theorem xX6_whatWish_57 : xdec cX6_whatWish 57 = some (.iload_n 1, 58, 1, 0) := by decide +kernel
theorem xX6_whatWish_58 : xdec cX6_whatWish 58 = some (.iload_n 2, 59, 2, 0) := by decide +kernel
theorem xX6_whatWish_59 : xdec cX6_whatWish 59 = some (.invokevirtual 290, 62, 0, 0) := by decide +kernel
theorem xX6_whatWish_62 : xdec cX6_whatWish 62 = some (.ifCond .eq 10, 65, 72, 0) := by decide +kernel
theorem xX6_whatWish_65 : xdec cX6_whatWish 65 = some (.iconst 1, 66, 0, 1) := by decide +kernel
theorem xX6_whatWish_66 : xdec cX6_whatWish 66 = some (.iload 5, 68, 5, 0) := by decide +kernel
theorem xX6_whatWish_68 : xdec cX6_whatWish 68 = some (.ishl, 69, 0, 0) := by decide +kernel
theorem xX6_whatWish_69 : xdec cX6_whatWish 69 = some (.goto 4, 72, 73, 0) := by decide +kernel
theorem xX6_whatWish_72 : xdec cX6_whatWish 72 = some (.iconst 0, 73, 0, 0) := by decide +kernel
theorem xX6_whatWish_73 : xdec cX6_whatWish 73 = some (.ior, 74, 0, 0) := by decide +kernel
theorem xX6_whatWish_74 : xdec cX6_whatWish 74 = some (.istore 4, 76, 4, 0) := by decide +kernel
theorem xX6_whatWish_76 : xdec cX6_whatWish 76 = some (.iinc 5 1, 79, 5, 1) := by decide +kernel
theorem xX6_whatWish_79 : xdec cX6_whatWish 79 = some (.goto (-40), 82, 39, 0) := by decide +kernel
theorem xX6_whatWish_82 : xdec cX6_whatWish 82 = some (.iload 4, 84, 4, 0) := by decide +kernel
theorem xX6_whatWish_84 : xdec cX6_whatWish 84 = some (.ireturn, 85, 0, 0) := by decide +kernel
theorem xX6_two_0 : xdec cX6_two 0 = some (.aload_n 0, 1, 0, 0) := by decide +kernel
theorem xX6_two_1 : xdec cX6_two 1 = some (.iconst 0, 2, 0, 0) := by decide +kernel
theorem xX6_two_2 : xdec cX6_two 2 = some (.putfield 75, 5, 75, 0) := by decide +kernel
theorem xX6_two_5 : xdec cX6_two 5 = some (.aload_n 0, 6, 0, 0) := by decide +kernel
theorem xX6_two_6 : xdec cX6_two 6 = some (.iload_n 1, 7, 1, 0) := by decide +kernel
theorem xX6_two_7 : xdec cX6_two 7 = some (.invokevirtual 171, 10, 0, 0) := by decide +kernel
theorem xX6_two_10 : xdec cX6_two 10 = some (.ifCond .eq 28, 13, 38, 0) := by decide +kernel
theorem xX6_two_13 : xdec cX6_two 13 = some (.aload_n 0, 14, 0, 0) := by decide +kernel
theorem xX6_two_14 : xdec cX6_two 14 = some (.iload_n 2, 15, 2, 0) := by decide +kernel
theorem xX6_two_15 : xdec cX6_two 15 = some (.invokevirtual 171, 18, 0, 0) := by decide +kernel
theorem xX6_two_18 : xdec cX6_two 18 = some (.ifCond .eq 20, 21, 38, 0) := by decide +kernel
theorem xX6_two_21 : xdec cX6_two 21 = some (.iload_n 1, 22, 1, 0) := by decide +kernel
theorem xX6_two_22 : xdec cX6_two 22 = some (.iload_n 2, 23, 2, 0) := by decide +kernel
theorem xX6_two_23 : xdec cX6_two 23 = some (.if_icmp .eq 15, 26, 38, 0) := by decide +kernel
theorem xX6_two_26 : xdec cX6_two 26 = some (.iload_n 3, 27, 3, 0) := by decide +kernel
theorem xX6_two_27 : xdec cX6_two 27 = some (.i2l, 28, 0, 0) := by decide +kernel
theorem xX6_two_28 : xdec cX6_two 28 = some (.lconst 1, 29, 0, 1) := by decide +kernel
theorem xX6_two_29 : xdec cX6_two 29 = some (.ldc2_w 293, 32, 293, 0) := by decide +kernel
theorem xX6_two_32 : xdec cX6_two 32 = some (.invokestatic 81, 35, 0, 0) := by decide +kernel
theorem xX6_two_35 : xdec cX6_two 35 = some (.ifCond .ne 5, 38, 40, 0) := by decide +kernel
theorem xX6_two_38 : xdec cX6_two 38 = some (.iconst (-1), 39, 0, (-1)) := by decide +kernel
theorem xX6_two_39 : xdec cX6_two 39 = some (.ireturn, 40, 0, 0) := by decide +kernel
theorem xX6_two_40 : xdec cX6_two 40 = some (.aload_n 0, 41, 0, 0) := by decide +kernel
theorem xX6_two_41 : xdec cX6_two 41 = some (.getfield 125, 44, 125, 0) := by decide +kernel
theorem xX6_two_44 : xdec cX6_two 44 = some (.iload_n 1, 45, 1, 0) := by decide +kernel
theorem xX6_two_45 : xdec cX6_two 45 = some (.invokestatic 105, 48, 0, 0) := by decide +kernel
theorem xX6_two_48 : xdec cX6_two 48 = some (.ifCond .eq 14, 51, 62, 0) := by decide +kernel
theorem xX6_two_51 : xdec cX6_two 51 = some (.aload_n 0, 52, 0, 0) := by decide +kernel
theorem xX6_two_52 : xdec cX6_two 52 = some (.getfield 125, 55, 125, 0) := by decide +kernel
theorem xX6_two_55 : xdec cX6_two 55 = some (.iload_n 2, 56, 2, 0) := by decide +kernel
theorem xX6_two_56 : xdec cX6_two 56 = some (.invokestatic 105, 59, 0, 0) := by decide +kernel
theorem xX6_two_59 : xdec cX6_two 59 = some (.ifCond .ne 6, 62, 65, 0) := by decide +kernel
theorem xX6_two_62 : xdec cX6_two 62 = some (.bipush (-3), 64, 0, (-3)) := by decide +kernel
theorem xX6_two_64 : xdec cX6_two 64 = some (.ireturn, 65, 0, 0) := by decide +kernel
theorem xX6_two_65 : xdec cX6_two 65 = some (.aload_n 0, 66, 0, 0) := by decide +kernel
theorem xX6_two_66 : xdec cX6_two 66 = some (.invokevirtual 190, 69, 0, 0) := by decide +kernel
theorem xX6_two_69 : xdec cX6_two 69 = some (.iconst 0, 70, 0, 0) := by decide +kernel
theorem xX6_two_70 : xdec cX6_two 70 = some (.istore 4, 72, 4, 0) := by decide +kernel
theorem xX6_two_72 : xdec cX6_two 72 = some (.iload 4, 74, 4, 0) := by decide +kernel
theorem xX6_two_74 : xdec cX6_two 74 = some (.iconst 4, 75, 0, 4) := by decide +kernel
theorem xX6_two_75 : xdec cX6_two 75 = some (.if_icmp .ge 89, 78, 164, 0) := by decide +kernel
theorem xX6_two_78 : xdec cX6_two 78 = some (.aload_n 0, 79, 0, 0) := by decide +kernel
theorem xX6_two_79 : xdec cX6_two 79 = some (.iconst 1, 80, 0, 1) := by decide +kernel
theorem xX6_two_80 : xdec cX6_two 80 = some (.iload 4, 82, 4, 0) := by decide +kernel
theorem xX6_two_82 : xdec cX6_two 82 = some (.iconst 2, 83, 0, 2) := by decide +kernel
theorem xX6_two_83 : xdec cX6_two 83 = some (.idiv, 84, 0, 0) := by decide +kernel
theorem xX6_two_84 : xdec cX6_two 84 = some (.isub, 85, 0, 0) := by decide +kernel
theorem xX6_two_85 : xdec cX6_two 85 = some (.iload_n 1, 86, 1, 0) := by decide +kernel
theorem xX6_two_86 : xdec cX6_two 86 = some (.ishl, 87, 0, 0) := by decide +kernel
theorem xX6_two_87 : xdec cX6_two 87 = some (.iconst 1, 88, 0, 1) := by decide +kernel
theorem xX6_two_88 : xdec cX6_two 88 = some (.iload 4, 90, 4, 0) := by decide +kernel
theorem xX6_two_90 : xdec cX6_two 90 = some (.iconst 2, 91, 0, 2) := by decide +kernel
theorem xX6_two_91 : xdec cX6_two 91 = some (.irem, 92, 0, 0) := by decide +kernel
theorem xX6_two_92 : xdec cX6_two 92 = some (.isub, 93, 0, 0) := by decide +kernel
theorem xX6_two_93 : xdec cX6_two 93 = some (.iload_n 2, 94, 2, 0) := by decide +kernel
theorem xX6_two_94 : xdec cX6_two 94 = some (.ishl, 95, 0, 0) := by decide +kernel
theorem xX6_two_95 : xdec cX6_two 95 = some (.ior, 96, 0, 0) := by decide +kernel
theorem xX6_two_96 : xdec cX6_two 96 = some (.putfield 102, 99, 102, 0) := by decide +kernel
theorem xX6_two_99 : xdec cX6_two 99 = some (.aload_n 0, 100, 0, 0) := by decide +kernel
theorem xX6_two_100 : xdec cX6_two 100 = some (.iload_n 3, 101, 3, 0) := by decide +kernel
theorem xX6_two_101 : xdec cX6_two 101 = some (.invokevirtual 168, 104, 0, 0) := by decide +kernel
theorem xX6_two_104 : xdec cX6_two 104 = some (.aload_n 0, 105, 0, 0) := by decide +kernel
theorem xX6_two_105 : xdec cX6_two 105 = some (.getfield 69, 108, 69, 0) := by decide +kernel
theorem xX6_two_108 : xdec cX6_two 108 = some (.iconst 2, 109, 0, 2) := by decide +kernel
theorem xX6_two_109 : xdec cX6_two 109 = some (.iload 4, 111, 4, 0) := by decide +kernel
theorem xX6_two_111 : xdec cX6_two 111 = some (.imul, 112, 0, 0) := by decide +kernel
theorem xX6_two_112 : xdec cX6_two 112 = some (.aload_n 0, 113, 0, 0) := by decide +kernel
theorem xX6_two_113 : xdec cX6_two 113 = some (.getfield 25, 116, 25, 0) := by decide +kernel
theorem xX6_two_116 : xdec cX6_two 116 = some (.iload_n 1, 117, 1, 0) := by decide +kernel
theorem xX6_two_117 : xdec cX6_two 117 = some (.iaload, 118, 0, 0) := by decide +kernel
theorem xX6_two_118 : xdec cX6_two 118 = some (.iconst 2, 119, 0, 2) := by decide +kernel
theorem xX6_two_119 : xdec cX6_two 119 = some (.iconst 1, 120, 0, 1) := by decide +kernel
theorem xX6_two_120 : xdec cX6_two 120 = some (.iload 4, 122, 4, 0) := by decide +kernel
theorem xX6_two_122 : xdec cX6_two 122 = some (.iconst 2, 123, 0, 2) := by decide +kernel
theorem xX6_two_123 : xdec cX6_two 123 = some (.idiv, 124, 0, 0) := by decide +kernel
theorem xX6_two_124 : xdec cX6_two 124 = some (.isub, 125, 0, 0) := by decide +kernel
theorem xX6_two_125 : xdec cX6_two 125 = some (.imul, 126, 0, 0) := by decide +kernel
theorem xX6_two_126 : xdec cX6_two 126 = some (.isub, 127, 0, 0) := by decide +kernel
theorem xX6_two_127 : xdec cX6_two 127 = some (.iastore, 128, 0, 0) := by decide +kernel
theorem xX6_two_128 : xdec cX6_two 128 = some (.aload_n 0, 129, 0, 0) := by decide +kernel
theorem xX6_two_129 : xdec cX6_two 129 = some (.getfield 69, 132, 69, 0) := by decide +kernel
theorem xX6_two_132 : xdec cX6_two 132 = some (.iconst 2, 133, 0, 2) := by decide +kernel
theorem xX6_two_133 : xdec cX6_two 133 = some (.iload 4, 135, 4, 0) := by decide +kernel
theorem xX6_two_135 : xdec cX6_two 135 = some (.imul, 136, 0, 0) := by decide +kernel
theorem xX6_two_136 : xdec cX6_two 136 = some (.iconst 1, 137, 0, 1) := by decide +kernel
theorem xX6_two_137 : xdec cX6_two 137 = some (.iadd, 138, 0, 0) := by decide +kernel
theorem xX6_two_138 : xdec cX6_two 138 = some (.aload_n 0, 139, 0, 0) := by decide +kernel
theorem xX6_two_139 : xdec cX6_two 139 = some (.getfield 25, 142, 25, 0) := by decide +kernel
theorem xX6_two_142 : xdec cX6_two 142 = some (.iload_n 2, 143, 2, 0) := by decide +kernel
theorem xX6_two_143 : xdec cX6_two 143 = some (.iaload, 144, 0, 0) := by decide +kernel
theorem xX6_two_144 : xdec cX6_two 144 = some (.iconst 2, 145, 0, 2) := by decide +kernel
theorem xX6_two_145 : xdec cX6_two 145 = some (.iconst 1, 146, 0, 1) := by decide +kernel
theorem xX6_two_146 : xdec cX6_two 146 = some (.iload 4, 148, 4, 0) := by decide +kernel
theorem xX6_two_148 : xdec cX6_two 148 = some (.iconst 2, 149, 0, 2) := by decide +kernel
theorem xX6_two_149 : xdec cX6_two 149 = some (.irem, 150, 0, 0) := by decide +kernel
theorem xX6_two_150 : xdec cX6_two 150 = some (.isub, 151, 0, 0) := by decide +kernel
theorem xX6_two_151 : xdec cX6_two 151 = some (.imul, 152, 0, 0) := by decide +kernel
theorem xX6_two_152 : xdec cX6_two 152 = some (.isub, 153, 0, 0) := by decide +kernel
theorem xX6_two_153 : xdec cX6_two 153 = some (.iastore, 154, 0, 0) := by decide +kernel
theorem xX6_two_154 : xdec cX6_two 154 = some (.aload_n 0, 155, 0, 0) := by decide +kernel
theorem xX6_two_155 : xdec cX6_two 155 = some (.invokevirtual 196, 158, 0, 0) := by decide +kernel
theorem xX6_two_158 : xdec cX6_two 158 = some (.iinc 4 1, 161, 4, 1) := by decide +kernel
theorem xX6_two_161 : xdec cX6_two 161 = some (.goto (-89), 164, 72, 0) := by decide +kernel
theorem xX6_two_164 : xdec cX6_two 164 = some (.iconst 0, 165, 0, 0) := by decide +kernel
theorem xX6_two_165 : xdec cX6_two 165 = some (.istore 4, 167, 4, 0) := by decide +kernel
theorem xX6_two_167 : xdec cX6_two 167 = some (.iload 4, 169, 4, 0) := by decide +kernel
theorem xX6_two_169 : xdec cX6_two 169 = some (.iconst 4, 170, 0, 4) := by decide +kernel
theorem xX6_two_170 : xdec cX6_two 170 = some (.if_icmp .ge 98, 173, 268, 0) := by decide +kernel
theorem xX6_two_173 : xdec cX6_two 173 = some (.iconst 2, 174, 0, 2) := by decide +kernel
theorem xX6_two_174 : xdec cX6_two 174 = some (.iconst 1, 175, 0, 1) := by decide +kernel
theorem xX6_two_175 : xdec cX6_two 175 = some (.iload 4, 177, 4, 0) := by decide +kernel
theorem xX6_two_177 : xdec cX6_two 177 = some (.iconst 2, 178, 0, 2) := by decide +kernel
theorem xX6_two_178 : xdec cX6_two 178 = some (.idiv, 179, 0, 0) := by decide +kernel
theorem xX6_two_179 : xdec cX6_two 179 = some (.isub, 180, 0, 0) := by decide +kernel
theorem xX6_two_180 : xdec cX6_two 180 = some (.imul, 181, 0, 0) := by decide +kernel
theorem xX6_two_181 : xdec cX6_two 181 = some (.iload 4, 183, 4, 0) := by decide +kernel
theorem xX6_two_183 : xdec cX6_two 183 = some (.iconst 2, 184, 0, 2) := by decide +kernel
theorem xX6_two_184 : xdec cX6_two 184 = some (.irem, 185, 0, 0) := by decide +kernel
theorem xX6_two_185 : xdec cX6_two 185 = some (.iadd, 186, 0, 0) := by decide +kernel
theorem xX6_two_186 : xdec cX6_two 186 = some (.istore 5, 188, 5, 0) := by decide +kernel
theorem xX6_two_188 : xdec cX6_two 188 = some (.iconst 2, 189, 0, 2) := by decide +kernel
theorem xX6_two_189 : xdec cX6_two 189 = some (.iload 4, 191, 4, 0) := by decide +kernel
theorem xX6_two_191 : xdec cX6_two 191 = some (.iconst 2, 192, 0, 2) := by decide +kernel
theorem xX6_two_192 : xdec cX6_two 192 = some (.idiv, 193, 0, 0) := by decide +kernel
theorem xX6_two_193 : xdec cX6_two 193 = some (.imul, 194, 0, 0) := by decide +kernel
theorem xX6_two_194 : xdec cX6_two 194 = some (.iconst 1, 195, 0, 1) := by decide +kernel
theorem xX6_two_195 : xdec cX6_two 195 = some (.iadd, 196, 0, 0) := by decide +kernel
theorem xX6_two_196 : xdec cX6_two 196 = some (.iload 4, 198, 4, 0) := by decide +kernel
theorem xX6_two_198 : xdec cX6_two 198 = some (.iconst 2, 199, 0, 2) := by decide +kernel
theorem xX6_two_199 : xdec cX6_two 199 = some (.irem, 200, 0, 0) := by decide +kernel
theorem xX6_two_200 : xdec cX6_two 200 = some (.isub, 201, 0, 0) := by decide +kernel
theorem xX6_two_201 : xdec cX6_two 201 = some (.istore 6, 203, 6, 0) := by decide +kernel
theorem xX6_two_203 : xdec cX6_two 203 = some (.aload_n 0, 204, 0, 0) := by decide +kernel
theorem xX6_two_204 : xdec cX6_two 204 = some (.getfield 69, 207, 69, 0) := by decide +kernel
theorem xX6_two_207 : xdec cX6_two 207 = some (.iconst 2, 208, 0, 2) := by decide +kernel
theorem xX6_two_208 : xdec cX6_two 208 = some (.iload 4, 210, 4, 0) := by decide +kernel
theorem xX6_two_210 : xdec cX6_two 210 = some (.imul, 211, 0, 0) := by decide +kernel
theorem xX6_two_211 : xdec cX6_two 211 = some (.iaload, 212, 0, 0) := by decide +kernel
theorem xX6_two_212 : xdec cX6_two 212 = some (.aload_n 0, 213, 0, 0) := by decide +kernel
theorem xX6_two_213 : xdec cX6_two 213 = some (.getfield 69, 216, 69, 0) := by decide +kernel
theorem xX6_two_216 : xdec cX6_two 216 = some (.iconst 2, 217, 0, 2) := by decide +kernel
theorem xX6_two_217 : xdec cX6_two 217 = some (.iload 5, 219, 5, 0) := by decide +kernel
theorem xX6_two_219 : xdec cX6_two 219 = some (.imul, 220, 0, 0) := by decide +kernel
theorem xX6_two_220 : xdec cX6_two 220 = some (.iaload, 221, 0, 0) := by decide +kernel
theorem xX6_two_221 : xdec cX6_two 221 = some (.if_icmp .lt 41, 224, 262, 0) := by decide +kernel
theorem xX6_two_224 : xdec cX6_two 224 = some (.aload_n 0, 225, 0, 0) := by decide +kernel
theorem xX6_two_225 : xdec cX6_two 225 = some (.getfield 69, 228, 69, 0) := by decide +kernel
theorem xX6_two_228 : xdec cX6_two 228 = some (.iconst 2, 229, 0, 2) := by decide +kernel
theorem xX6_two_229 : xdec cX6_two 229 = some (.iload 4, 231, 4, 0) := by decide +kernel
theorem xX6_two_231 : xdec cX6_two 231 = some (.imul, 232, 0, 0) := by decide +kernel
theorem xX6_two_232 : xdec cX6_two 232 = some (.iconst 1, 233, 0, 1) := by decide +kernel
theorem xX6_two_233 : xdec cX6_two 233 = some (.iadd, 234, 0, 0) := by decide +kernel
theorem xX6_two_234 : xdec cX6_two 234 = some (.iaload, 235, 0, 0) := by decide +kernel
theorem xX6_two_235 : xdec cX6_two 235 = some (.aload_n 0, 236, 0, 0) := by decide +kernel
theorem xX6_two_236 : xdec cX6_two 236 = some (.getfield 69, 239, 69, 0) := by decide +kernel
theorem xX6_two_239 : xdec cX6_two 239 = some (.iconst 2, 240, 0, 2) := by decide +kernel
theorem xX6_two_240 : xdec cX6_two 240 = some (.iload 6, 242, 6, 0) := by decide +kernel
theorem xX6_two_242 : xdec cX6_two 242 = some (.imul, 243, 0, 0) := by decide +kernel
theorem xX6_two_243 : xdec cX6_two 243 = some (.iconst 1, 244, 0, 1) := by decide +kernel
theorem xX6_two_244 : xdec cX6_two 244 = some (.iadd, 245, 0, 0) := by decide +kernel
theorem xX6_two_245 : xdec cX6_two 245 = some (.iaload, 246, 0, 0) := by decide +kernel
theorem xX6_two_246 : xdec cX6_two 246 = some (.if_icmp .lt 16, 249, 262, 0) := by decide +kernel
theorem xX6_two_249 : xdec cX6_two 249 = some (.bipush 10, 251, 0, 10) := by decide +kernel
theorem xX6_two_251 : xdec cX6_two 251 = some (.iload 4, 253, 4, 0) := by decide +kernel
theorem xX6_two_253 : xdec cX6_two 253 = some (.iconst 2, 254, 0, 2) := by decide +kernel
theorem xX6_two_254 : xdec cX6_two 254 = some (.idiv, 255, 0, 0) := by decide +kernel
theorem xX6_two_255 : xdec cX6_two 255 = some (.imul, 256, 0, 0) := by decide +kernel
theorem xX6_two_256 : xdec cX6_two 256 = some (.iload 4, 258, 4, 0) := by decide +kernel
theorem xX6_two_258 : xdec cX6_two 258 = some (.iconst 2, 259, 0, 2) := by decide +kernel
theorem xX6_two_259 : xdec cX6_two 259 = some (.irem, 260, 0, 0) := by decide +kernel
theorem xX6_two_260 : xdec cX6_two 260 = some (.iadd, 261, 0, 0) := by decide +kernel
theorem xX6_two_261 : xdec cX6_two 261 = some (.ireturn, 262, 0, 0) := by decide +kernel
theorem xX6_two_262 : xdec cX6_two 262 = some (.iinc 4 1, 265, 4, 1) := by decide +kernel
theorem xX6_two_265 : xdec cX6_two 265 = some (.goto (-98), 268, 167, 0) := by decide +kernel
theorem xX6_two_268 : xdec cX6_two 268 = some (.bipush (-4), 270, 0, (-4)) := by decide +kernel
theorem xX6_two_270 : xdec cX6_two 270 = some (.ireturn, 271, 0, 0) := by decide +kernel
theorem xX6_divisor_0 : xdec cX6_divisor 0 = some (.lload_n 0, 1, 0, 0) := by decide +kernel
theorem xX6_divisor_1 : xdec cX6_divisor 1 = some (.lstore 4, 3, 4, 0) := by decide +kernel
theorem xX6_divisor_3 : xdec cX6_divisor 3 = some (.lload_n 2, 4, 2, 0) := by decide +kernel
theorem xX6_divisor_4 : xdec cX6_divisor 4 = some (.lstore 6, 6, 6, 0) := by decide +kernel
theorem xX6_divisor_6 : xdec cX6_divisor 6 = some (.lload 6, 8, 6, 0) := by decide +kernel
theorem xX6_divisor_8 : xdec cX6_divisor 8 = some (.lconst 0, 9, 0, 0) := by decide +kernel
theorem xX6_divisor_9 : xdec cX6_divisor 9 = some (.lcmp, 10, 0, 0) := by decide +kernel
theorem xX6_divisor_10 : xdec cX6_divisor 10 = some (.ifCond .eq 21, 13, 31, 0) := by decide +kernel
theorem xX6_divisor_13 : xdec cX6_divisor 13 = some (.lload 4, 15, 4, 0) := by decide +kernel
theorem xX6_divisor_15 : xdec cX6_divisor 15 = some (.lload 6, 17, 6, 0) := by decide +kernel
theorem xX6_divisor_17 : xdec cX6_divisor 17 = some (.lrem, 18, 0, 0) := by decide +kernel
theorem xX6_divisor_18 : xdec cX6_divisor 18 = some (.lstore 8, 20, 8, 0) := by decide +kernel
theorem xX6_divisor_20 : xdec cX6_divisor 20 = some (.lload 6, 22, 6, 0) := by decide +kernel
theorem xX6_divisor_22 : xdec cX6_divisor 22 = some (.lstore 4, 24, 4, 0) := by decide +kernel
theorem xX6_divisor_24 : xdec cX6_divisor 24 = some (.lload 8, 26, 8, 0) := by decide +kernel
theorem xX6_divisor_26 : xdec cX6_divisor 26 = some (.lstore 6, 28, 6, 0) := by decide +kernel
theorem xX6_divisor_28 : xdec cX6_divisor 28 = some (.goto (-22), 31, 6, 0) := by decide +kernel
theorem xX6_divisor_31 : xdec cX6_divisor 31 = some (.lload 4, 33, 4, 0) := by decide +kernel
theorem xX6_divisor_33 : xdec cX6_divisor 33 = some (.lreturn, 34, 0, 0) := by decide +kernel
theorem xX6_partOf_0 : xdec cX6_partOf 0 = some (.lload_n 0, 1, 0, 0) := by decide +kernel
theorem xX6_partOf_1 : xdec cX6_partOf 1 = some (.lconst 0, 2, 0, 0) := by decide +kernel
theorem xX6_partOf_2 : xdec cX6_partOf 2 = some (.lcmp, 3, 0, 0) := by decide +kernel
theorem xX6_partOf_3 : xdec cX6_partOf 3 = some (.ifCond .ne 7, 6, 10, 0) := by decide +kernel
theorem xX6_partOf_6 : xdec cX6_partOf 6 = some (.iload 4, 8, 4, 0) := by decide +kernel
theorem xX6_partOf_8 : xdec cX6_partOf 8 = some (.i2l, 9, 0, 0) := by decide +kernel
theorem xX6_partOf_9 : xdec cX6_partOf 9 = some (.lreturn, 10, 0, 0) := by decide +kernel
theorem xX6_partOf_10 : xdec cX6_partOf 10 = some (.lload_n 0, 11, 0, 0) := by decide +kernel
theorem xX6_partOf_11 : xdec cX6_partOf 11 = some (.lload_n 2, 12, 2, 0) := by decide +kernel
theorem xX6_partOf_12 : xdec cX6_partOf 12 = some (.invokestatic 295, 15, 0, 0) := by decide +kernel
theorem xX6_partOf_15 : xdec cX6_partOf 15 = some (.lstore 5, 17, 5, 0) := by decide +kernel
theorem xX6_partOf_17 : xdec cX6_partOf 17 = some (.iload 4, 19, 4, 0) := by decide +kernel
theorem xX6_partOf_19 : xdec cX6_partOf 19 = some (.ifCond .ne 10, 22, 29, 0) := by decide +kernel
theorem xX6_partOf_22 : xdec cX6_partOf 22 = some (.lload_n 0, 23, 0, 0) := by decide +kernel
theorem xX6_partOf_23 : xdec cX6_partOf 23 = some (.lload 5, 25, 5, 0) := by decide +kernel
theorem xX6_partOf_25 : xdec cX6_partOf 25 = some (.ldiv, 26, 0, 0) := by decide +kernel
theorem xX6_partOf_26 : xdec cX6_partOf 26 = some (.goto 7, 29, 33, 0) := by decide +kernel
theorem xX6_partOf_29 : xdec cX6_partOf 29 = some (.lload_n 2, 30, 2, 0) := by decide +kernel
theorem xX6_partOf_30 : xdec cX6_partOf 30 = some (.lload 5, 32, 5, 0) := by decide +kernel
theorem xX6_partOf_32 : xdec cX6_partOf 32 = some (.ldiv, 33, 0, 0) := by decide +kernel
theorem xX6_partOf_33 : xdec cX6_partOf 33 = some (.lreturn, 34, 0, 0) := by decide +kernel
theorem xX6_mares_0 : xdec cX6_mares 0 = some (.aload_n 0, 1, 0, 0) := by decide +kernel
theorem xX6_mares_1 : xdec cX6_mares 1 = some (.iconst 0, 2, 0, 0) := by decide +kernel
theorem xX6_mares_2 : xdec cX6_mares 2 = some (.putfield 75, 5, 75, 0) := by decide +kernel
theorem xX6_mares_5 : xdec cX6_mares 5 = some (.aload_n 0, 6, 0, 0) := by decide +kernel
theorem xX6_mares_6 : xdec cX6_mares 6 = some (.iload_n 1, 7, 1, 0) := by decide +kernel
theorem xX6_mares_7 : xdec cX6_mares 7 = some (.invokevirtual 171, 10, 0, 0) := by decide +kernel
theorem xX6_mares_10 : xdec cX6_mares 10 = some (.ifCond .eq 53, 13, 63, 0) := by decide +kernel
theorem xX6_mares_13 : xdec cX6_mares 13 = some (.iload_n 2, 14, 2, 0) := by decide +kernel
theorem xX6_mares_14 : xdec cX6_mares 14 = some (.i2l, 15, 0, 0) := by decide +kernel
theorem xX6_mares_15 : xdec cX6_mares 15 = some (.lconst 0, 16, 0, 0) := by decide +kernel
theorem xX6_mares_16 : xdec cX6_mares 16 = some (.ldc2_w 218, 19, 218, 0) := by decide +kernel
theorem xX6_mares_19 : xdec cX6_mares 19 = some (.invokestatic 81, 22, 0, 0) := by decide +kernel
theorem xX6_mares_22 : xdec cX6_mares 22 = some (.ifCond .eq 41, 25, 63, 0) := by decide +kernel
theorem xX6_mares_25 : xdec cX6_mares 25 = some (.iload_n 3, 26, 3, 0) := by decide +kernel
theorem xX6_mares_26 : xdec cX6_mares 26 = some (.i2l, 27, 0, 0) := by decide +kernel
theorem xX6_mares_27 : xdec cX6_mares 27 = some (.ldc2_w 231, 30, 231, 0) := by decide +kernel
theorem xX6_mares_30 : xdec cX6_mares 30 = some (.ldc2_w 244, 33, 244, 0) := by decide +kernel
theorem xX6_mares_33 : xdec cX6_mares 33 = some (.invokestatic 81, 36, 0, 0) := by decide +kernel
theorem xX6_mares_36 : xdec cX6_mares 36 = some (.ifCond .eq 27, 39, 63, 0) := by decide +kernel
theorem xX6_mares_39 : xdec cX6_mares 39 = some (.iload 4, 41, 4, 0) := by decide +kernel
theorem xX6_mares_41 : xdec cX6_mares 41 = some (.i2l, 42, 0, 0) := by decide +kernel
theorem xX6_mares_42 : xdec cX6_mares 42 = some (.lconst 0, 43, 0, 0) := by decide +kernel
theorem xX6_mares_43 : xdec cX6_mares 43 = some (.ldc2_w 226, 46, 226, 0) := by decide +kernel
theorem xX6_mares_46 : xdec cX6_mares 46 = some (.invokestatic 81, 49, 0, 0) := by decide +kernel
theorem xX6_mares_49 : xdec cX6_mares 49 = some (.ifCond .eq 14, 52, 63, 0) := by decide +kernel
theorem xX6_mares_52 : xdec cX6_mares 52 = some (.iload 5, 54, 5, 0) := by decide +kernel
theorem xX6_mares_54 : xdec cX6_mares 54 = some (.i2l, 55, 0, 0) := by decide +kernel
theorem xX6_mares_55 : xdec cX6_mares 55 = some (.lconst 0, 56, 0, 0) := by decide +kernel
theorem xX6_mares_56 : xdec cX6_mares 56 = some (.lconst 1, 57, 0, 1) := by decide +kernel
theorem xX6_mares_57 : xdec cX6_mares 57 = some (.invokestatic 81, 60, 0, 0) := by decide +kernel
theorem xX6_mares_60 : xdec cX6_mares 60 = some (.ifCond .ne 7, 63, 67, 0) := by decide +kernel
theorem xX6_mares_63 : xdec cX6_mares 63 = some (.ldc2_w 299, 66, 299, 0) := by decide +kernel
theorem xX6_mares_66 : xdec cX6_mares 66 = some (.lreturn, 67, 0, 0) := by decide +kernel
theorem xX6_mares_67 : xdec cX6_mares 67 = some (.lconst 0, 68, 0, 0) := by decide +kernel
theorem xX6_mares_68 : xdec cX6_mares 68 = some (.lstore 6, 70, 6, 0) := by decide +kernel
theorem xX6_mares_70 : xdec cX6_mares 70 = some (.lconst 1, 71, 0, 1) := by decide +kernel
theorem xX6_mares_71 : xdec cX6_mares 71 = some (.lstore 8, 73, 8, 0) := by decide +kernel
theorem xX6_mares_73 : xdec cX6_mares 73 = some (.iconst 0, 74, 0, 0) := by decide +kernel
theorem xX6_mares_74 : xdec cX6_mares 74 = some (.istore 10, 76, 10, 0) := by decide +kernel
theorem xX6_mares_76 : xdec cX6_mares 76 = some (.iload 10, 78, 10, 0) := by decide +kernel
theorem xX6_mares_78 : xdec cX6_mares 78 = some (.iload_n 2, 79, 2, 0) := by decide +kernel
theorem xX6_mares_79 : xdec cX6_mares 79 = some (.if_icmp .ge 16, 82, 95, 0) := by decide +kernel
theorem xX6_mares_82 : xdec cX6_mares 82 = some (.lload 8, 84, 8, 0) := by decide +kernel
theorem xX6_mares_84 : xdec cX6_mares 84 = some (.iload_n 3, 85, 3, 0) := by decide +kernel
theorem xX6_mares_85 : xdec cX6_mares 85 = some (.i2l, 86, 0, 0) := by decide +kernel
theorem xX6_mares_86 : xdec cX6_mares 86 = some (.lmul, 87, 0, 0) := by decide +kernel
theorem xX6_mares_87 : xdec cX6_mares 87 = some (.lstore 8, 89, 8, 0) := by decide +kernel
theorem xX6_mares_89 : xdec cX6_mares 89 = some (.iinc 10 1, 92, 10, 1) := by decide +kernel
theorem xX6_mares_92 : xdec cX6_mares 92 = some (.goto (-16), 95, 76, 0) := by decide +kernel
theorem xX6_mares_95 : xdec cX6_mares 95 = some (.aload_n 0, 96, 0, 0) := by decide +kernel
theorem xX6_mares_96 : xdec cX6_mares 96 = some (.invokevirtual 190, 99, 0, 0) := by decide +kernel
theorem xX6_mares_99 : xdec cX6_mares 99 = some (.iconst 0, 100, 0, 0) := by decide +kernel
theorem xX6_mares_100 : xdec cX6_mares 100 = some (.istore 10, 102, 10, 0) := by decide +kernel
theorem xX6_mares_102 : xdec cX6_mares 102 = some (.iload 10, 104, 10, 0) := by decide +kernel
theorem xX6_mares_104 : xdec cX6_mares 104 = some (.iconst 1, 105, 0, 1) := by decide +kernel
theorem xX6_mares_105 : xdec cX6_mares 105 = some (.iload_n 2, 106, 2, 0) := by decide +kernel
theorem xX6_mares_106 : xdec cX6_mares 106 = some (.ishl, 107, 0, 0) := by decide +kernel
theorem xX6_mares_107 : xdec cX6_mares 107 = some (.if_icmp .ge 91, 110, 198, 0) := by decide +kernel
theorem xX6_mares_110 : xdec cX6_mares 110 = some (.lconst 1, 111, 0, 1) := by decide +kernel
theorem xX6_mares_111 : xdec cX6_mares 111 = some (.lstore 11, 113, 11, 0) := by decide +kernel
theorem xX6_mares_113 : xdec cX6_mares 113 = some (.iconst 0, 114, 0, 0) := by decide +kernel
theorem xX6_mares_114 : xdec cX6_mares 114 = some (.istore 13, 116, 13, 0) := by decide +kernel
theorem xX6_mares_116 : xdec cX6_mares 116 = some (.iload 13, 118, 13, 0) := by decide +kernel
theorem xX6_mares_118 : xdec cX6_mares 118 = some (.iload_n 2, 119, 2, 0) := by decide +kernel
theorem xX6_mares_119 : xdec cX6_mares 119 = some (.if_icmp .ge 47, 122, 166, 0) := by decide +kernel
theorem xX6_mares_122 : xdec cX6_mares 122 = some (.lload 11, 124, 11, 0) := by decide +kernel
theorem xX6_mares_124 : xdec cX6_mares 124 = some (.iload 10, 126, 10, 0) := by decide +kernel
theorem xX6_mares_126 : xdec cX6_mares 126 = some (.iload 13, 128, 13, 0) := by decide +kernel
theorem xX6_mares_128 : xdec cX6_mares 128 = some (.invokestatic 105, 131, 0, 0) := by decide +kernel
theorem xX6_mares_131 : xdec cX6_mares 131 = some (.ifCond .eq 7, 134, 138, 0) := by decide +kernel
theorem xX6_mares_134 : xdec cX6_mares 134 = some (.lconst 1, 135, 0, 1) := by decide +kernel
theorem xX6_mares_135 : xdec cX6_mares 135 = some (.goto 7, 138, 142, 0) := by decide +kernel
theorem xX6_mares_138 : xdec cX6_mares 138 = some (.iload_n 3, 139, 3, 0) := by decide +kernel
theorem xX6_mares_139 : xdec cX6_mares 139 = some (.iconst 1, 140, 0, 1) := by decide +kernel
theorem xX6_mares_140 : xdec cX6_mares 140 = some (.isub, 141, 0, 0) := by decide +kernel
theorem xX6_mares_141 : xdec cX6_mares 141 = some (.i2l, 142, 0, 0) := by decide +kernel
theorem xX6_mares_142 : xdec cX6_mares 142 = some (.lmul, 143, 0, 0) := by decide +kernel
theorem xX6_mares_143 : xdec cX6_mares 143 = some (.lstore 11, 145, 11, 0) := by decide +kernel
theorem xX6_mares_145 : xdec cX6_mares 145 = some (.aload_n 0, 146, 0, 0) := by decide +kernel
theorem xX6_mares_146 : xdec cX6_mares 146 = some (.iload 10, 148, 10, 0) := by decide +kernel
theorem xX6_mares_148 : xdec cX6_mares 148 = some (.iload 13, 150, 13, 0) := by decide +kernel
theorem xX6_mares_150 : xdec cX6_mares 150 = some (.invokestatic 105, 153, 0, 0) := by decide +kernel
theorem xX6_mares_153 : xdec cX6_mares 153 = some (.putfield 98, 156, 98, 0) := by decide +kernel
theorem xX6_mares_156 : xdec cX6_mares 156 = some (.aload_n 0, 157, 0, 0) := by decide +kernel
theorem xX6_mares_157 : xdec cX6_mares 157 = some (.invokevirtual 132, 160, 0, 0) := by decide +kernel
theorem xX6_mares_160 : xdec cX6_mares 160 = some (.iinc 13 1, 163, 13, 1) := by decide +kernel
theorem xX6_mares_163 : xdec cX6_mares 163 = some (.goto (-47), 166, 116, 0) := by decide +kernel
theorem xX6_mares_166 : xdec cX6_mares 166 = some (.lload 6, 168, 6, 0) := by decide +kernel
theorem xX6_mares_168 : xdec cX6_mares 168 = some (.aload_n 0, 169, 0, 0) := by decide +kernel
theorem xX6_mares_169 : xdec cX6_mares 169 = some (.getfield 25, 172, 25, 0) := by decide +kernel
theorem xX6_mares_172 : xdec cX6_mares 172 = some (.iload_n 1, 173, 1, 0) := by decide +kernel
theorem xX6_mares_173 : xdec cX6_mares 173 = some (.iaload, 174, 0, 0) := by decide +kernel
theorem xX6_mares_174 : xdec cX6_mares 174 = some (.iload 4, 176, 4, 0) := by decide +kernel
theorem xX6_mares_176 : xdec cX6_mares 176 = some (.if_icmp .lt 8, 179, 184, 0) := by decide +kernel
theorem xX6_mares_179 : xdec cX6_mares 179 = some (.lload 11, 181, 11, 0) := by decide +kernel
theorem xX6_mares_181 : xdec cX6_mares 181 = some (.goto 4, 184, 185, 0) := by decide +kernel
theorem xX6_mares_184 : xdec cX6_mares 184 = some (.lconst 0, 185, 0, 0) := by decide +kernel
theorem xX6_mares_185 : xdec cX6_mares 185 = some (.ladd, 186, 0, 0) := by decide +kernel
theorem xX6_mares_186 : xdec cX6_mares 186 = some (.lstore 6, 188, 6, 0) := by decide +kernel
theorem xX6_mares_188 : xdec cX6_mares 188 = some (.aload_n 0, 189, 0, 0) := by decide +kernel
theorem xX6_mares_189 : xdec cX6_mares 189 = some (.invokevirtual 196, 192, 0, 0) := by decide +kernel
theorem xX6_mares_192 : xdec cX6_mares 192 = some (.iinc 10 1, 195, 10, 1) := by decide +kernel
theorem xX6_mares_195 : xdec cX6_mares 195 = some (.goto (-93), 198, 102, 0) := by decide +kernel
theorem xX6_mares_198 : xdec cX6_mares 198 = some (.lload 6, 200, 6, 0) := by decide +kernel
theorem xX6_mares_200 : xdec cX6_mares 200 = some (.lload 8, 202, 8, 0) := by decide +kernel
theorem xX6_mares_202 : xdec cX6_mares 202 = some (.iload 5, 204, 5, 0) := by decide +kernel
theorem xX6_mares_204 : xdec cX6_mares 204 = some (.invokestatic 301, 207, 0, 0) := by decide +kernel
theorem xX6_mares_207 : xdec cX6_mares 207 = some (.lreturn, 208, 0, 0) := by decide +kernel
theorem xX6_mean_0 : xdec cX6_mean 0 = some (.aload_n 0, 1, 0, 0) := by decide +kernel
theorem xX6_mean_1 : xdec cX6_mean 1 = some (.iconst 0, 2, 0, 0) := by decide +kernel
theorem xX6_mean_2 : xdec cX6_mean 2 = some (.putfield 75, 5, 75, 0) := by decide +kernel
theorem xX6_mean_5 : xdec cX6_mean 5 = some (.iload_n 1, 6, 1, 0) := by decide +kernel
theorem xX6_mean_6 : xdec cX6_mean 6 = some (.i2l, 7, 0, 0) := by decide +kernel
theorem xX6_mean_7 : xdec cX6_mean 7 = some (.lconst 0, 8, 0, 0) := by decide +kernel
theorem xX6_mean_8 : xdec cX6_mean 8 = some (.lconst 1, 9, 0, 1) := by decide +kernel
theorem xX6_mean_9 : xdec cX6_mean 9 = some (.invokestatic 81, 12, 0, 0) := by decide +kernel
theorem xX6_mean_12 : xdec cX6_mean 12 = some (.ifCond .ne 7, 15, 19, 0) := by decide +kernel
theorem xX6_mean_15 : xdec cX6_mean 15 = some (.ldc2_w 299, 18, 299, 0) := by decide +kernel
theorem xX6_mean_18 : xdec cX6_mean 18 = some (.lreturn, 19, 0, 0) := by decide +kernel
theorem xX6_mean_19 : xdec cX6_mean 19 = some (.lconst 0, 20, 0, 0) := by decide +kernel
theorem xX6_mean_20 : xdec cX6_mean 20 = some (.lstore_n 2, 21, 2, 0) := by decide +kernel
theorem xX6_mean_21 : xdec cX6_mean 21 = some (.iconst 0, 22, 0, 0) := by decide +kernel
theorem xX6_mean_22 : xdec cX6_mean 22 = some (.istore 4, 24, 4, 0) := by decide +kernel
theorem xX6_mean_24 : xdec cX6_mean 24 = some (.iload 4, 26, 4, 0) := by decide +kernel
theorem xX6_mean_26 : xdec cX6_mean 26 = some (.aload_n 0, 27, 0, 0) := by decide +kernel
theorem xX6_mean_27 : xdec cX6_mean 27 = some (.getfield 85, 30, 85, 0) := by decide +kernel
theorem xX6_mean_30 : xdec cX6_mean 30 = some (.if_icmp .ge 36, 33, 66, 0) := by decide +kernel
theorem xX6_mean_33 : xdec cX6_mean 33 = some (.lload_n 2, 34, 2, 0) := by decide +kernel
theorem xX6_mean_34 : xdec cX6_mean 34 = some (.aload_n 0, 35, 0, 0) := by decide +kernel
theorem xX6_mean_35 : xdec cX6_mean 35 = some (.getfield 125, 38, 125, 0) := by decide +kernel
theorem xX6_mean_38 : xdec cX6_mean 38 = some (.iload 4, 40, 4, 0) := by decide +kernel
theorem xX6_mean_40 : xdec cX6_mean 40 = some (.invokestatic 105, 43, 0, 0) := by decide +kernel
theorem xX6_mean_43 : xdec cX6_mean 43 = some (.ifCond .eq 14, 46, 57, 0) := by decide +kernel
theorem xX6_mean_46 : xdec cX6_mean 46 = some (.aload_n 0, 47, 0, 0) := by decide +kernel
theorem xX6_mean_47 : xdec cX6_mean 47 = some (.getfield 25, 50, 25, 0) := by decide +kernel
theorem xX6_mean_50 : xdec cX6_mean 50 = some (.iload 4, 52, 4, 0) := by decide +kernel
theorem xX6_mean_52 : xdec cX6_mean 52 = some (.iaload, 53, 0, 0) := by decide +kernel
theorem xX6_mean_53 : xdec cX6_mean 53 = some (.i2l, 54, 0, 0) := by decide +kernel
theorem xX6_mean_54 : xdec cX6_mean 54 = some (.goto 4, 57, 58, 0) := by decide +kernel
theorem xX6_mean_57 : xdec cX6_mean 57 = some (.lconst 0, 58, 0, 0) := by decide +kernel
theorem xX6_mean_58 : xdec cX6_mean 58 = some (.ladd, 59, 0, 0) := by decide +kernel
theorem xX6_mean_59 : xdec cX6_mean 59 = some (.lstore_n 2, 60, 2, 0) := by decide +kernel
theorem xX6_mean_60 : xdec cX6_mean 60 = some (.iinc 4 1, 63, 4, 1) := by decide +kernel
theorem xX6_mean_63 : xdec cX6_mean 63 = some (.goto (-39), 66, 24, 0) := by decide +kernel
theorem xX6_mean_66 : xdec cX6_mean 66 = some (.lload_n 2, 67, 2, 0) := by decide +kernel
theorem xX6_mean_67 : xdec cX6_mean 67 = some (.aload_n 0, 68, 0, 0) := by decide +kernel
theorem xX6_mean_68 : xdec cX6_mean 68 = some (.getfield 125, 71, 125, 0) := by decide +kernel
theorem xX6_mean_71 : xdec cX6_mean 71 = some (.invokestatic 228, 74, 0, 0) := by decide +kernel
theorem xX6_mean_74 : xdec cX6_mean 74 = some (.i2l, 75, 0, 0) := by decide +kernel
theorem xX6_mean_75 : xdec cX6_mean 75 = some (.iload_n 1, 76, 1, 0) := by decide +kernel
theorem xX6_mean_76 : xdec cX6_mean 76 = some (.invokestatic 301, 79, 0, 0) := by decide +kernel
theorem xX6_mean_79 : xdec cX6_mean 79 = some (.lreturn, 80, 0, 0) := by decide +kernel
theorem xX6_forged_0 : xdec cX6_forged 0 = some (.aload_n 0, 1, 0, 0) := by decide +kernel
theorem xX6_forged_1 : xdec cX6_forged 1 = some (.iconst 0, 2, 0, 0) := by decide +kernel
theorem xX6_forged_2 : xdec cX6_forged 2 = some (.putfield 75, 5, 75, 0) := by decide +kernel
theorem xX6_forged_5 : xdec cX6_forged 5 = some (.aload_n 0, 6, 0, 0) := by decide +kernel
theorem xX6_forged_6 : xdec cX6_forged 6 = some (.iload_n 1, 7, 1, 0) := by decide +kernel
theorem xX6_forged_7 : xdec cX6_forged 7 = some (.invokevirtual 184, 10, 0, 0) := by decide +kernel
theorem xX6_forged_10 : xdec cX6_forged 10 = some (.istore_n 2, 11, 2, 0) := by decide +kernel
theorem xX6_forged_11 : xdec cX6_forged 11 = some (.iload_n 2, 12, 2, 0) := by decide +kernel
theorem xX6_forged_12 : xdec cX6_forged 12 = some (.ifCond .ge 5, 15, 17, 0) := by decide +kernel
theorem xX6_forged_15 : xdec cX6_forged 15 = some (.iload_n 2, 16, 2, 0) := by decide +kernel
theorem xX6_forged_16 : xdec cX6_forged 16 = some (.ireturn, 17, 0, 0) := by decide +kernel
theorem xX6_forged_17 : xdec cX6_forged 17 = some (.iconst 0, 18, 0, 0) := by decide +kernel
theorem xX6_forged_18 : xdec cX6_forged 18 = some (.istore_n 3, 19, 3, 0) := by decide +kernel
theorem xX6_forged_19 : xdec cX6_forged 19 = some (.iload_n 3, 20, 3, 0) := by decide +kernel
theorem xX6_forged_20 : xdec cX6_forged 20 = some (.aload_n 0, 21, 0, 0) := by decide +kernel
theorem xX6_forged_21 : xdec cX6_forged 21 = some (.getfield 40, 24, 40, 0) := by decide +kernel
theorem xX6_forged_24 : xdec cX6_forged 24 = some (.iload_n 1, 25, 1, 0) := by decide +kernel
theorem xX6_forged_25 : xdec cX6_forged 25 = some (.iaload, 26, 0, 0) := by decide +kernel
theorem xX6_forged_26 : xdec cX6_forged 26 = some (.if_icmp .ge 39, 29, 65, 0) := by decide +kernel
theorem xX6_forged_29 : xdec cX6_forged 29 = some (.iload_n 3, 30, 3, 0) := by decide +kernel
theorem xX6_forged_30 : xdec cX6_forged 30 = some (.bipush 10, 32, 0, 10) := by decide +kernel
theorem xX6_forged_32 : xdec cX6_forged 32 = some (.if_icmp .ge 25, 35, 57, 0) := by decide +kernel
theorem xX6_forged_35 : xdec cX6_forged 35 = some (.aload_n 0, 36, 0, 0) := by decide +kernel
theorem xX6_forged_36 : xdec cX6_forged 36 = some (.getfield 43, 39, 43, 0) := by decide +kernel
theorem xX6_forged_39 : xdec cX6_forged 39 = some (.bipush 100, 41, 0, 100) := by decide +kernel
theorem xX6_forged_41 : xdec cX6_forged 41 = some (.iload_n 1, 42, 1, 0) := by decide +kernel
theorem xX6_forged_42 : xdec cX6_forged 42 = some (.imul, 43, 0, 0) := by decide +kernel
theorem xX6_forged_43 : xdec cX6_forged 43 = some (.iload_n 3, 44, 3, 0) := by decide +kernel
theorem xX6_forged_44 : xdec cX6_forged 44 = some (.iadd, 45, 0, 0) := by decide +kernel
theorem xX6_forged_45 : xdec cX6_forged 45 = some (.laload, 46, 0, 0) := by decide +kernel
theorem xX6_forged_46 : xdec cX6_forged 46 = some (.aload_n 0, 47, 0, 0) := by decide +kernel
theorem xX6_forged_47 : xdec cX6_forged 47 = some (.getfield 7, 50, 7, 0) := by decide +kernel
theorem xX6_forged_50 : xdec cX6_forged 50 = some (.iload_n 3, 51, 3, 0) := by decide +kernel
theorem xX6_forged_51 : xdec cX6_forged 51 = some (.iaload, 52, 0, 0) := by decide +kernel
theorem xX6_forged_52 : xdec cX6_forged 52 = some (.i2l, 53, 0, 0) := by decide +kernel
theorem xX6_forged_53 : xdec cX6_forged 53 = some (.lcmp, 54, 0, 0) := by decide +kernel
theorem xX6_forged_54 : xdec cX6_forged 54 = some (.ifCond .eq 5, 57, 59, 0) := by decide +kernel
theorem xX6_forged_57 : xdec cX6_forged 57 = some (.iload_n 3, 58, 3, 0) := by decide +kernel
theorem xX6_forged_58 : xdec cX6_forged 58 = some (.ireturn, 59, 0, 0) := by decide +kernel
theorem xX6_forged_59 : xdec cX6_forged 59 = some (.iinc 3 1, 62, 3, 1) := by decide +kernel
theorem xX6_forged_62 : xdec cX6_forged 62 = some (.goto (-43), 65, 19, 0) := by decide +kernel
theorem xX6_forged_65 : xdec cX6_forged 65 = some (.bipush (-4), 67, 0, (-4)) := by decide +kernel
theorem xX6_forged_67 : xdec cX6_forged 67 = some (.ireturn, 68, 0, 0) := by decide +kernel
theorem xX6_judge_0 : xdec cX6_judge 0 = some (.aload_n 0, 1, 0, 0) := by decide +kernel
theorem xX6_judge_1 : xdec cX6_judge 1 = some (.iconst 0, 2, 0, 0) := by decide +kernel
theorem xX6_judge_2 : xdec cX6_judge 2 = some (.putfield 75, 5, 75, 0) := by decide +kernel
theorem xX6_judge_5 : xdec cX6_judge 5 = some (.aload_n 0, 6, 0, 0) := by decide +kernel
theorem xX6_judge_6 : xdec cX6_judge 6 = some (.iload_n 1, 7, 1, 0) := by decide +kernel
theorem xX6_judge_7 : xdec cX6_judge 7 = some (.invokevirtual 184, 10, 0, 0) := by decide +kernel
theorem xX6_judge_10 : xdec cX6_judge 10 = some (.istore_n 2, 11, 2, 0) := by decide +kernel
theorem xX6_judge_11 : xdec cX6_judge 11 = some (.iload_n 2, 12, 2, 0) := by decide +kernel
theorem xX6_judge_12 : xdec cX6_judge 12 = some (.ifCond .ge 5, 15, 17, 0) := by decide +kernel
theorem xX6_judge_15 : xdec cX6_judge 15 = some (.iload_n 2, 16, 2, 0) := by decide +kernel
theorem xX6_judge_16 : xdec cX6_judge 16 = some (.ireturn, 17, 0, 0) := by decide +kernel
theorem xX6_judge_17 : xdec cX6_judge 17 = some (.bipush (-4), 19, 0, (-4)) := by decide +kernel
theorem xX6_judge_19 : xdec cX6_judge 19 = some (.istore_n 3, 20, 3, 0) := by decide +kernel
theorem xX6_judge_20 : xdec cX6_judge 20 = some (.aload_n 0, 21, 0, 0) := by decide +kernel
theorem xX6_judge_21 : xdec cX6_judge 21 = some (.invokevirtual 190, 24, 0, 0) := by decide +kernel
theorem xX6_judge_24 : xdec cX6_judge 24 = some (.iconst 0, 25, 0, 0) := by decide +kernel
theorem xX6_judge_25 : xdec cX6_judge 25 = some (.istore 4, 27, 4, 0) := by decide +kernel
theorem xX6_judge_27 : xdec cX6_judge 27 = some (.iload 4, 29, 4, 0) := by decide +kernel
theorem xX6_judge_29 : xdec cX6_judge 29 = some (.aload_n 0, 30, 0, 0) := by decide +kernel
theorem xX6_judge_30 : xdec cX6_judge 30 = some (.getfield 40, 33, 40, 0) := by decide +kernel
theorem xX6_judge_33 : xdec cX6_judge 33 = some (.iload_n 1, 34, 1, 0) := by decide +kernel
theorem xX6_judge_34 : xdec cX6_judge 34 = some (.iaload, 35, 0, 0) := by decide +kernel
theorem xX6_judge_35 : xdec cX6_judge 35 = some (.if_icmp .ge 56, 38, 91, 0) := by decide +kernel
theorem xX6_judge_38 : xdec cX6_judge 38 = some (.iload_n 3, 39, 3, 0) := by decide +kernel
theorem xX6_judge_39 : xdec cX6_judge 39 = some (.ifCond .ge 52, 42, 91, 0) := by decide +kernel
theorem xX6_judge_42 : xdec cX6_judge 42 = some (.aload_n 0, 43, 0, 0) := by decide +kernel
theorem xX6_judge_43 : xdec cX6_judge 43 = some (.iload_n 1, 44, 1, 0) := by decide +kernel
theorem xX6_judge_44 : xdec cX6_judge 44 = some (.iload 4, 46, 4, 0) := by decide +kernel
theorem xX6_judge_46 : xdec cX6_judge 46 = some (.invokevirtual 284, 49, 0, 0) := by decide +kernel
theorem xX6_judge_49 : xdec cX6_judge 49 = some (.ifCond .ne 29, 52, 78, 0) := by decide +kernel
theorem xX6_judge_52 : xdec cX6_judge 52 = some (.aload_n 0, 53, 0, 0) := by decide +kernel
theorem xX6_judge_53 : xdec cX6_judge 53 = some (.getfield 43, 56, 43, 0) := by decide +kernel
theorem xX6_judge_56 : xdec cX6_judge 56 = some (.bipush 100, 58, 0, 100) := by decide +kernel
theorem xX6_judge_58 : xdec cX6_judge 58 = some (.iload_n 1, 59, 1, 0) := by decide +kernel
theorem xX6_judge_59 : xdec cX6_judge 59 = some (.imul, 60, 0, 0) := by decide +kernel
theorem xX6_judge_60 : xdec cX6_judge 60 = some (.iload 4, 62, 4, 0) := by decide +kernel
theorem xX6_judge_62 : xdec cX6_judge 62 = some (.iadd, 63, 0, 0) := by decide +kernel
theorem xX6_judge_63 : xdec cX6_judge 63 = some (.laload, 64, 0, 0) := by decide +kernel
theorem xX6_judge_64 : xdec cX6_judge 64 = some (.aload_n 0, 65, 0, 0) := by decide +kernel
theorem xX6_judge_65 : xdec cX6_judge 65 = some (.invokevirtual 264, 68, 0, 0) := by decide +kernel
theorem xX6_judge_68 : xdec cX6_judge 68 = some (.i2l, 69, 0, 0) := by decide +kernel
theorem xX6_judge_69 : xdec cX6_judge 69 = some (.lcmp, 70, 0, 0) := by decide +kernel
theorem xX6_judge_70 : xdec cX6_judge 70 = some (.ifCond .eq 8, 73, 78, 0) := by decide +kernel
theorem xX6_judge_73 : xdec cX6_judge 73 = some (.iload 4, 75, 4, 0) := by decide +kernel
theorem xX6_judge_75 : xdec cX6_judge 75 = some (.goto 5, 78, 80, 0) := by decide +kernel
theorem xX6_judge_78 : xdec cX6_judge 78 = some (.bipush (-4), 80, 0, (-4)) := by decide +kernel
theorem xX6_judge_80 : xdec cX6_judge 80 = some (.istore_n 3, 81, 3, 0) := by decide +kernel
theorem xX6_judge_81 : xdec cX6_judge 81 = some (.aload_n 0, 82, 0, 0) := by decide +kernel
theorem xX6_judge_82 : xdec cX6_judge 82 = some (.invokevirtual 132, 85, 0, 0) := by decide +kernel
theorem xX6_judge_85 : xdec cX6_judge 85 = some (.iinc 4 1, 88, 4, 1) := by decide +kernel
theorem xX6_judge_88 : xdec cX6_judge 88 = some (.goto (-61), 91, 27, 0) := by decide +kernel
theorem xX6_judge_91 : xdec cX6_judge 91 = some (.aload_n 0, 92, 0, 0) := by decide +kernel
theorem xX6_judge_92 : xdec cX6_judge 92 = some (.invokevirtual 196, 95, 0, 0) := by decide +kernel
theorem xX6_judge_95 : xdec cX6_judge 95 = some (.iload_n 3, 96, 3, 0) := by decide +kernel
theorem xX6_judge_96 : xdec cX6_judge 96 = some (.ireturn, 97, 0, 0) := by decide +kernel
theorem xX6_drawBelow_0 : xdec cX6_drawBelow 0 = some (.aload_n 0, 1, 0, 0) := by decide +kernel
theorem xX6_drawBelow_1 : xdec cX6_drawBelow 1 = some (.aload_n 0, 2, 0, 0) := by decide +kernel
theorem xX6_drawBelow_2 : xdec cX6_drawBelow 2 = some (.getfield 305, 5, 305, 0) := by decide +kernel
theorem xX6_drawBelow_5 : xdec cX6_drawBelow 5 = some (.ldc_w 308, 8, 308, 0) := by decide +kernel
theorem xX6_drawBelow_8 : xdec cX6_drawBelow 8 = some (.imul, 9, 0, 0) := by decide +kernel
theorem xX6_drawBelow_9 : xdec cX6_drawBelow 9 = some (.sipush 12345, 12, 0, 12345) := by decide +kernel
theorem xX6_drawBelow_12 : xdec cX6_drawBelow 12 = some (.iadd, 13, 0, 0) := by decide +kernel
theorem xX6_drawBelow_13 : xdec cX6_drawBelow 13 = some (.putfield 305, 16, 305, 0) := by decide +kernel
theorem xX6_drawBelow_16 : xdec cX6_drawBelow 16 = some (.aload_n 0, 17, 0, 0) := by decide +kernel
theorem xX6_drawBelow_17 : xdec cX6_drawBelow 17 = some (.getfield 305, 20, 305, 0) := by decide +kernel
theorem xX6_drawBelow_20 : xdec cX6_drawBelow 20 = some (.ldc_w 309, 23, 309, 0) := by decide +kernel
theorem xX6_drawBelow_23 : xdec cX6_drawBelow 23 = some (.iand, 24, 0, 0) := by decide +kernel
theorem xX6_drawBelow_24 : xdec cX6_drawBelow 24 = some (.ldc_w 310, 27, 310, 0) := by decide +kernel
theorem xX6_drawBelow_27 : xdec cX6_drawBelow 27 = some (.idiv, 28, 0, 0) := by decide +kernel
theorem xX6_drawBelow_28 : xdec cX6_drawBelow 28 = some (.iload_n 1, 29, 1, 0) := by decide +kernel
theorem xX6_drawBelow_29 : xdec cX6_drawBelow 29 = some (.irem, 30, 0, 0) := by decide +kernel
theorem xX6_drawBelow_30 : xdec cX6_drawBelow 30 = some (.ireturn, 31, 0, 0) := by decide +kernel
theorem xX6_years_0 : xdec cX6_years 0 = some (.aload_n 0, 1, 0, 0) := by decide +kernel
theorem xX6_years_1 : xdec cX6_years 1 = some (.iconst 0, 2, 0, 0) := by decide +kernel
theorem xX6_years_2 : xdec cX6_years 2 = some (.putfield 75, 5, 75, 0) := by decide +kernel
theorem xX6_years_5 : xdec cX6_years 5 = some (.iload_n 1, 6, 1, 0) := by decide +kernel
theorem xX6_years_6 : xdec cX6_years 6 = some (.i2l, 7, 0, 0) := by decide +kernel
theorem xX6_years_7 : xdec cX6_years 7 = some (.lconst 1, 8, 0, 1) := by decide +kernel
theorem xX6_years_8 : xdec cX6_years 8 = some (.ldc2_w 244, 11, 244, 0) := by decide +kernel
theorem xX6_years_11 : xdec cX6_years 11 = some (.invokestatic 81, 14, 0, 0) := by decide +kernel
theorem xX6_years_14 : xdec cX6_years 14 = some (.ifCond .eq 13, 17, 27, 0) := by decide +kernel
theorem xX6_years_17 : xdec cX6_years 17 = some (.iload_n 3, 18, 3, 0) := by decide +kernel
theorem xX6_years_18 : xdec cX6_years 18 = some (.i2l, 19, 0, 0) := by decide +kernel
theorem xX6_years_19 : xdec cX6_years 19 = some (.lconst 0, 20, 0, 0) := by decide +kernel
theorem xX6_years_20 : xdec cX6_years 20 = some (.lconst 1, 21, 0, 1) := by decide +kernel
theorem xX6_years_21 : xdec cX6_years 21 = some (.invokestatic 81, 24, 0, 0) := by decide +kernel
theorem xX6_years_24 : xdec cX6_years 24 = some (.ifCond .ne 5, 27, 29, 0) := by decide +kernel
theorem xX6_years_27 : xdec cX6_years 27 = some (.iconst (-1), 28, 0, (-1)) := by decide +kernel
theorem xX6_years_28 : xdec cX6_years 28 = some (.ireturn, 29, 0, 0) := by decide +kernel
theorem xX6_years_29 : xdec cX6_years 29 = some (.aload_n 0, 30, 0, 0) := by decide +kernel
theorem xX6_years_30 : xdec cX6_years 30 = some (.iload_n 2, 31, 2, 0) := by decide +kernel
theorem xX6_years_31 : xdec cX6_years 31 = some (.putfield 305, 34, 305, 0) := by decide +kernel
theorem xX6_years_34 : xdec cX6_years 34 = some (.iconst 0, 35, 0, 0) := by decide +kernel
theorem xX6_years_35 : xdec cX6_years 35 = some (.istore 4, 37, 4, 0) := by decide +kernel
theorem xX6_years_37 : xdec cX6_years 37 = some (.aload_n 0, 38, 0, 0) := by decide +kernel
theorem xX6_years_38 : xdec cX6_years 38 = some (.getfield 116, 41, 116, 0) := by decide +kernel
theorem xX6_years_41 : xdec cX6_years 41 = some (.istore 5, 43, 5, 0) := by decide +kernel
theorem xX6_years_43 : xdec cX6_years 43 = some (.aload_n 0, 44, 0, 0) := by decide +kernel
theorem xX6_years_44 : xdec cX6_years 44 = some (.invokevirtual 190, 47, 0, 0) := by decide +kernel
theorem xX6_years_47 : xdec cX6_years 47 = some (.iconst 0, 48, 0, 0) := by decide +kernel
theorem xX6_years_48 : xdec cX6_years 48 = some (.istore 6, 50, 6, 0) := by decide +kernel
theorem xX6_years_50 : xdec cX6_years 50 = some (.iload 6, 52, 6, 0) := by decide +kernel
theorem xX6_years_52 : xdec cX6_years 52 = some (.iload_n 1, 53, 1, 0) := by decide +kernel
theorem xX6_years_53 : xdec cX6_years 53 = some (.if_icmp .ge 105, 56, 158, 0) := by decide +kernel
theorem xX6_years_56 : xdec cX6_years 56 = some (.iconst 0, 57, 0, 0) := by decide +kernel
theorem xX6_years_57 : xdec cX6_years 57 = some (.istore 7, 59, 7, 0) := by decide +kernel
theorem xX6_years_59 : xdec cX6_years 59 = some (.iload 7, 61, 7, 0) := by decide +kernel
theorem xX6_years_61 : xdec cX6_years 61 = some (.aload_n 0, 62, 0, 0) := by decide +kernel
theorem xX6_years_62 : xdec cX6_years 62 = some (.getfield 85, 65, 85, 0) := by decide +kernel
theorem xX6_years_65 : xdec cX6_years 65 = some (.if_icmp .ge 22, 68, 87, 0) := by decide +kernel
theorem xX6_years_68 : xdec cX6_years 68 = some (.aload_n 0, 69, 0, 0) := by decide +kernel
theorem xX6_years_69 : xdec cX6_years 69 = some (.getfield 19, 72, 19, 0) := by decide +kernel
theorem xX6_years_72 : xdec cX6_years 72 = some (.iload 7, 74, 7, 0) := by decide +kernel
theorem xX6_years_74 : xdec cX6_years 74 = some (.aload_n 0, 75, 0, 0) := by decide +kernel
theorem xX6_years_75 : xdec cX6_years 75 = some (.bipush 10, 77, 0, 10) := by decide +kernel
theorem xX6_years_77 : xdec cX6_years 77 = some (.invokevirtual 311, 80, 0, 0) := by decide +kernel
theorem xX6_years_80 : xdec cX6_years 80 = some (.iastore, 81, 0, 0) := by decide +kernel
theorem xX6_years_81 : xdec cX6_years 81 = some (.iinc 7 1, 84, 7, 1) := by decide +kernel
theorem xX6_years_84 : xdec cX6_years 84 = some (.goto (-25), 87, 59, 0) := by decide +kernel
theorem xX6_years_87 : xdec cX6_years 87 = some (.iconst 0, 88, 0, 0) := by decide +kernel
theorem xX6_years_88 : xdec cX6_years 88 = some (.istore 7, 90, 7, 0) := by decide +kernel
theorem xX6_years_90 : xdec cX6_years 90 = some (.iload 7, 92, 7, 0) := by decide +kernel
theorem xX6_years_92 : xdec cX6_years 92 = some (.bipush 10, 94, 0, 10) := by decide +kernel
theorem xX6_years_94 : xdec cX6_years 94 = some (.if_icmp .ge 22, 97, 116, 0) := by decide +kernel
theorem xX6_years_97 : xdec cX6_years 97 = some (.aload_n 0, 98, 0, 0) := by decide +kernel
theorem xX6_years_98 : xdec cX6_years 98 = some (.getfield 7, 101, 7, 0) := by decide +kernel
theorem xX6_years_101 : xdec cX6_years 101 = some (.iload 7, 103, 7, 0) := by decide +kernel
theorem xX6_years_103 : xdec cX6_years 103 = some (.aload_n 0, 104, 0, 0) := by decide +kernel
theorem xX6_years_104 : xdec cX6_years 104 = some (.bipush 6, 106, 0, 6) := by decide +kernel
theorem xX6_years_106 : xdec cX6_years 106 = some (.invokevirtual 311, 109, 0, 0) := by decide +kernel
theorem xX6_years_109 : xdec cX6_years 109 = some (.iastore, 110, 0, 0) := by decide +kernel
theorem xX6_years_110 : xdec cX6_years 110 = some (.iinc 7 1, 113, 7, 1) := by decide +kernel
theorem xX6_years_113 : xdec cX6_years 113 = some (.goto (-23), 116, 90, 0) := by decide +kernel
theorem xX6_years_116 : xdec cX6_years 116 = some (.aload_n 0, 117, 0, 0) := by decide +kernel
theorem xX6_years_117 : xdec cX6_years 117 = some (.bipush 12, 119, 0, 12) := by decide +kernel
theorem xX6_years_119 : xdec cX6_years 119 = some (.invokevirtual 168, 122, 0, 0) := by decide +kernel
theorem xX6_years_122 : xdec cX6_years 122 = some (.iload 4, 124, 4, 0) := by decide +kernel
theorem xX6_years_124 : xdec cX6_years 124 = some (.iload_n 3, 125, 3, 0) := by decide +kernel
theorem xX6_years_125 : xdec cX6_years 125 = some (.ifCond .ne 13, 128, 138, 0) := by decide +kernel
theorem xX6_years_128 : xdec cX6_years 128 = some (.aload_n 0, 129, 0, 0) := by decide +kernel
theorem xX6_years_129 : xdec cX6_years 129 = some (.getfield 116, 132, 116, 0) := by decide +kernel
theorem xX6_years_132 : xdec cX6_years 132 = some (.iload 5, 134, 5, 0) := by decide +kernel
theorem xX6_years_134 : xdec cX6_years 134 = some (.isub, 135, 0, 0) := by decide +kernel
theorem xX6_years_135 : xdec cX6_years 135 = some (.goto 10, 138, 145, 0) := by decide +kernel
theorem xX6_years_138 : xdec cX6_years 138 = some (.aload_n 0, 139, 0, 0) := by decide +kernel
theorem xX6_years_139 : xdec cX6_years 139 = some (.getfield 125, 142, 125, 0) := by decide +kernel
theorem xX6_years_142 : xdec cX6_years 142 = some (.invokestatic 228, 145, 0, 0) := by decide +kernel
theorem xX6_years_145 : xdec cX6_years 145 = some (.iadd, 146, 0, 0) := by decide +kernel
theorem xX6_years_146 : xdec cX6_years 146 = some (.istore 4, 148, 4, 0) := by decide +kernel
theorem xX6_years_148 : xdec cX6_years 148 = some (.aload_n 0, 149, 0, 0) := by decide +kernel
theorem xX6_years_149 : xdec cX6_years 149 = some (.invokevirtual 196, 152, 0, 0) := by decide +kernel
theorem xX6_years_152 : xdec cX6_years 152 = some (.iinc 6 1, 155, 6, 1) := by decide +kernel
theorem xX6_years_155 : xdec cX6_years 155 = some (.goto (-105), 158, 50, 0) := by decide +kernel
theorem xX6_years_158 : xdec cX6_years 158 = some (.iload 4, 160, 4, 0) := by decide +kernel
theorem xX6_years_160 : xdec cX6_years 160 = some (.ireturn, 161, 0, 0) := by decide +kernel
theorem xX6_count_0 : xdec cX6_count 0 = some (.aload_n 0, 1, 0, 0) := by decide +kernel
theorem xX6_count_1 : xdec cX6_count 1 = some (.iconst 0, 2, 0, 0) := by decide +kernel
theorem xX6_count_2 : xdec cX6_count 2 = some (.putfield 75, 5, 75, 0) := by decide +kernel
theorem xX6_count_5 : xdec cX6_count 5 = some (.iload_n 1, 6, 1, 0) := by decide +kernel
theorem xX6_count_6 : xdec cX6_count 6 = some (.tableswitch 68 0 5 #[38, 43, 48, 53, 58, 63], 44, 0, 0) := by decide +kernel
theorem xX6_count_44 : xdec cX6_count 44 = some (.aload_n 0, 45, 0, 0) := by decide +kernel
theorem xX6_count_45 : xdec cX6_count 45 = some (.getfield 85, 48, 85, 0) := by decide +kernel
theorem xX6_count_48 : xdec cX6_count 48 = some (.ireturn, 49, 0, 0) := by decide +kernel
theorem xX6_count_49 : xdec cX6_count 49 = some (.aload_n 0, 50, 0, 0) := by decide +kernel
theorem xX6_count_50 : xdec cX6_count 50 = some (.getfield 92, 53, 92, 0) := by decide +kernel
theorem xX6_count_53 : xdec cX6_count 53 = some (.ireturn, 54, 0, 0) := by decide +kernel
theorem xX6_count_54 : xdec cX6_count 54 = some (.aload_n 0, 55, 0, 0) := by decide +kernel
theorem xX6_count_55 : xdec cX6_count 55 = some (.getfield 116, 58, 116, 0) := by decide +kernel
theorem xX6_count_58 : xdec cX6_count 58 = some (.ireturn, 59, 0, 0) := by decide +kernel
theorem xX6_count_59 : xdec cX6_count 59 = some (.aload_n 0, 60, 0, 0) := by decide +kernel
theorem xX6_count_60 : xdec cX6_count 60 = some (.getfield 122, 63, 122, 0) := by decide +kernel
theorem xX6_count_63 : xdec cX6_count 63 = some (.ireturn, 64, 0, 0) := by decide +kernel
theorem xX6_count_64 : xdec cX6_count 64 = some (.aload_n 0, 65, 0, 0) := by decide +kernel
theorem xX6_count_65 : xdec cX6_count 65 = some (.getfield 125, 68, 125, 0) := by decide +kernel
theorem xX6_count_68 : xdec cX6_count 68 = some (.ireturn, 69, 0, 0) := by decide +kernel
theorem xX6_count_69 : xdec cX6_count 69 = some (.aload_n 0, 70, 0, 0) := by decide +kernel
theorem xX6_count_70 : xdec cX6_count 70 = some (.invokevirtual 264, 73, 0, 0) := by decide +kernel
theorem xX6_count_73 : xdec cX6_count 73 = some (.ireturn, 74, 0, 0) := by decide +kernel
theorem xX6_count_74 : xdec cX6_count 74 = some (.iconst (-1), 75, 0, (-1)) := by decide +kernel
theorem xX6_count_75 : xdec cX6_count 75 = some (.ireturn, 76, 0, 0) := by decide +kernel
theorem xX6_wrongKept_0 : xdec cX6_wrongKept 0 = some (.iload_n 1, 1, 1, 0) := by decide +kernel
theorem xX6_wrongKept_1 : xdec cX6_wrongKept 1 = some (.i2l, 2, 0, 0) := by decide +kernel
theorem xX6_wrongKept_2 : xdec cX6_wrongKept 2 = some (.lconst 0, 3, 0, 0) := by decide +kernel
theorem xX6_wrongKept_3 : xdec cX6_wrongKept 3 = some (.ldc2_w 218, 6, 218, 0) := by decide +kernel
theorem xX6_wrongKept_6 : xdec cX6_wrongKept 6 = some (.invokestatic 81, 9, 0, 0) := by decide +kernel
theorem xX6_wrongKept_9 : xdec cX6_wrongKept 9 = some (.ifCond .ne 7, 12, 16, 0) := by decide +kernel
theorem xX6_wrongKept_12 : xdec cX6_wrongKept 12 = some (.iconst (-1), 13, 0, (-1)) := by decide +kernel
theorem xX6_wrongKept_13 : xdec cX6_wrongKept 13 = some (.goto 33, 16, 46, 0) := by decide +kernel
theorem xX6_wrongKept_16 : xdec cX6_wrongKept 16 = some (.aload_n 0, 17, 0, 0) := by decide +kernel
theorem xX6_wrongKept_17 : xdec cX6_wrongKept 17 = some (.getfield 28, 20, 28, 0) := by decide +kernel
theorem xX6_wrongKept_20 : xdec cX6_wrongKept 20 = some (.iload_n 1, 21, 1, 0) := by decide +kernel
theorem xX6_wrongKept_21 : xdec cX6_wrongKept 21 = some (.iaload, 22, 0, 0) := by decide +kernel
theorem xX6_wrongKept_22 : xdec cX6_wrongKept 22 = some (.ifCond .ne 8, 25, 30, 0) := by decide +kernel
theorem xX6_wrongKept_25 : xdec cX6_wrongKept 25 = some (.bipush (-11), 27, 0, (-11)) := by decide +kernel
theorem xX6_wrongKept_27 : xdec cX6_wrongKept 27 = some (.goto 19, 30, 46, 0) := by decide +kernel
theorem xX6_wrongKept_30 : xdec cX6_wrongKept 30 = some (.aload_n 0, 31, 0, 0) := by decide +kernel
theorem xX6_wrongKept_31 : xdec cX6_wrongKept 31 = some (.getfield 28, 34, 28, 0) := by decide +kernel
theorem xX6_wrongKept_34 : xdec cX6_wrongKept 34 = some (.iload_n 1, 35, 1, 0) := by decide +kernel
theorem xX6_wrongKept_35 : xdec cX6_wrongKept 35 = some (.iaload, 36, 0, 0) := by decide +kernel
theorem xX6_wrongKept_36 : xdec cX6_wrongKept 36 = some (.iconst 2, 37, 0, 2) := by decide +kernel
theorem xX6_wrongKept_37 : xdec cX6_wrongKept 37 = some (.if_icmp .ne 8, 40, 45, 0) := by decide +kernel
theorem xX6_wrongKept_40 : xdec cX6_wrongKept 40 = some (.bipush (-12), 42, 0, (-12)) := by decide +kernel
theorem xX6_wrongKept_42 : xdec cX6_wrongKept 42 = some (.goto 4, 45, 46, 0) := by decide +kernel
theorem xX6_wrongKept_45 : xdec cX6_wrongKept 45 = some (.iconst 0, 46, 0, 0) := by decide +kernel
theorem xX6_wrongKept_46 : xdec cX6_wrongKept 46 = some (.ireturn, 47, 0, 0) := by decide +kernel
theorem xX6_keep_0 : xdec cX6_keep 0 = some (.aload_n 0, 1, 0, 0) := by decide +kernel
theorem xX6_keep_1 : xdec cX6_keep 1 = some (.iconst 0, 2, 0, 0) := by decide +kernel
theorem xX6_keep_2 : xdec cX6_keep 2 = some (.putfield 75, 5, 75, 0) := by decide +kernel
theorem xX6_keep_5 : xdec cX6_keep 5 = some (.iload_n 1, 6, 1, 0) := by decide +kernel
theorem xX6_keep_6 : xdec cX6_keep 6 = some (.i2l, 7, 0, 0) := by decide +kernel
theorem xX6_keep_7 : xdec cX6_keep 7 = some (.lconst 0, 8, 0, 0) := by decide +kernel
theorem xX6_keep_8 : xdec cX6_keep 8 = some (.ldc2_w 218, 11, 218, 0) := by decide +kernel
theorem xX6_keep_11 : xdec cX6_keep 11 = some (.invokestatic 81, 14, 0, 0) := by decide +kernel
theorem xX6_keep_14 : xdec cX6_keep 14 = some (.ifCond .eq 43, 17, 57, 0) := by decide +kernel
theorem xX6_keep_17 : xdec cX6_keep 17 = some (.iload_n 2, 18, 2, 0) := by decide +kernel
theorem xX6_keep_18 : xdec cX6_keep 18 = some (.i2l, 19, 0, 0) := by decide +kernel
theorem xX6_keep_19 : xdec cX6_keep 19 = some (.lconst 0, 20, 0, 0) := by decide +kernel
theorem xX6_keep_20 : xdec cX6_keep 20 = some (.lconst 1, 21, 0, 1) := by decide +kernel
theorem xX6_keep_21 : xdec cX6_keep 21 = some (.invokestatic 81, 24, 0, 0) := by decide +kernel
theorem xX6_keep_24 : xdec cX6_keep 24 = some (.ifCond .eq 33, 27, 57, 0) := by decide +kernel
theorem xX6_keep_27 : xdec cX6_keep 27 = some (.iload_n 2, 28, 2, 0) := by decide +kernel
theorem xX6_keep_28 : xdec cX6_keep 28 = some (.iconst 1, 29, 0, 1) := by decide +kernel
theorem xX6_keep_29 : xdec cX6_keep 29 = some (.if_icmp .ne 30, 32, 59, 0) := by decide +kernel
theorem xX6_keep_32 : xdec cX6_keep 32 = some (.iload_n 3, 33, 3, 0) := by decide +kernel
theorem xX6_keep_33 : xdec cX6_keep 33 = some (.i2l, 34, 0, 0) := by decide +kernel
theorem xX6_keep_34 : xdec cX6_keep 34 = some (.lconst 0, 35, 0, 0) := by decide +kernel
theorem xX6_keep_35 : xdec cX6_keep 35 = some (.ldc2_w 218, 38, 218, 0) := by decide +kernel
theorem xX6_keep_38 : xdec cX6_keep 38 = some (.invokestatic 81, 41, 0, 0) := by decide +kernel
theorem xX6_keep_41 : xdec cX6_keep 41 = some (.ifCond .eq 16, 44, 57, 0) := by decide +kernel
theorem xX6_keep_44 : xdec cX6_keep 44 = some (.iload 4, 46, 4, 0) := by decide +kernel
theorem xX6_keep_46 : xdec cX6_keep 46 = some (.i2l, 47, 0, 0) := by decide +kernel
theorem xX6_keep_47 : xdec cX6_keep 47 = some (.lconst 0, 48, 0, 0) := by decide +kernel
theorem xX6_keep_48 : xdec cX6_keep 48 = some (.ldc2_w 79, 51, 79, 0) := by decide +kernel
theorem xX6_keep_51 : xdec cX6_keep 51 = some (.invokestatic 81, 54, 0, 0) := by decide +kernel
theorem xX6_keep_54 : xdec cX6_keep 54 = some (.ifCond .ne 5, 57, 59, 0) := by decide +kernel
theorem xX6_keep_57 : xdec cX6_keep 57 = some (.iconst (-1), 58, 0, (-1)) := by decide +kernel
theorem xX6_keep_58 : xdec cX6_keep 58 = some (.ireturn, 59, 0, 0) := by decide +kernel
theorem xX6_keep_59 : xdec cX6_keep 59 = some (.aload_n 0, 60, 0, 0) := by decide +kernel
theorem xX6_keep_60 : xdec cX6_keep 60 = some (.getfield 28, 63, 28, 0) := by decide +kernel
theorem xX6_keep_63 : xdec cX6_keep 63 = some (.iload_n 1, 64, 1, 0) := by decide +kernel
theorem xX6_keep_64 : xdec cX6_keep 64 = some (.iload_n 2, 65, 2, 0) := by decide +kernel
theorem xX6_keep_65 : xdec cX6_keep 65 = some (.iastore, 66, 0, 0) := by decide +kernel
theorem xX6_keep_66 : xdec cX6_keep 66 = some (.aload_n 0, 67, 0, 0) := by decide +kernel
theorem xX6_keep_67 : xdec cX6_keep 67 = some (.getfield 31, 70, 31, 0) := by decide +kernel
theorem xX6_keep_70 : xdec cX6_keep 70 = some (.iload_n 1, 71, 1, 0) := by decide +kernel
theorem xX6_keep_71 : xdec cX6_keep 71 = some (.iload_n 2, 72, 2, 0) := by decide +kernel
theorem xX6_keep_72 : xdec cX6_keep 72 = some (.iconst 1, 73, 0, 1) := by decide +kernel
theorem xX6_keep_73 : xdec cX6_keep 73 = some (.if_icmp .ne 7, 76, 80, 0) := by decide +kernel
theorem xX6_keep_76 : xdec cX6_keep 76 = some (.iload_n 3, 77, 3, 0) := by decide +kernel
theorem xX6_keep_77 : xdec cX6_keep 77 = some (.goto 4, 80, 81, 0) := by decide +kernel
theorem xX6_keep_80 : xdec cX6_keep 80 = some (.iconst 0, 81, 0, 0) := by decide +kernel
theorem xX6_keep_81 : xdec cX6_keep 81 = some (.iastore, 82, 0, 0) := by decide +kernel
theorem xX6_keep_82 : xdec cX6_keep 82 = some (.aload_n 0, 83, 0, 0) := by decide +kernel
theorem xX6_keep_83 : xdec cX6_keep 83 = some (.getfield 34, 86, 34, 0) := by decide +kernel
theorem xX6_keep_86 : xdec cX6_keep 86 = some (.iload_n 1, 87, 1, 0) := by decide +kernel
theorem xX6_keep_87 : xdec cX6_keep 87 = some (.iload_n 2, 88, 2, 0) := by decide +kernel
theorem xX6_keep_88 : xdec cX6_keep 88 = some (.iconst 1, 89, 0, 1) := by decide +kernel
theorem xX6_keep_89 : xdec cX6_keep 89 = some (.if_icmp .ne 8, 92, 97, 0) := by decide +kernel
theorem xX6_keep_92 : xdec cX6_keep 92 = some (.iload 4, 94, 4, 0) := by decide +kernel
theorem xX6_keep_94 : xdec cX6_keep 94 = some (.goto 4, 97, 98, 0) := by decide +kernel
theorem xX6_keep_97 : xdec cX6_keep 97 = some (.iconst 0, 98, 0, 0) := by decide +kernel
theorem xX6_keep_98 : xdec cX6_keep 98 = some (.iastore, 99, 0, 0) := by decide +kernel
theorem xX6_keep_99 : xdec cX6_keep 99 = some (.iconst 0, 100, 0, 0) := by decide +kernel
theorem xX6_keep_100 : xdec cX6_keep 100 = some (.ireturn, 101, 0, 0) := by decide +kernel
theorem xX6_wrongRow_0 : xdec cX6_wrongRow 0 = some (.iload_n 1, 1, 1, 0) := by decide +kernel
theorem xX6_wrongRow_1 : xdec cX6_wrongRow 1 = some (.i2l, 2, 0, 0) := by decide +kernel
theorem xX6_wrongRow_2 : xdec cX6_wrongRow 2 = some (.lconst 0, 3, 0, 0) := by decide +kernel
theorem xX6_wrongRow_3 : xdec cX6_wrongRow 3 = some (.ldc2_w 218, 6, 218, 0) := by decide +kernel
theorem xX6_wrongRow_6 : xdec cX6_wrongRow 6 = some (.invokestatic 81, 9, 0, 0) := by decide +kernel
theorem xX6_wrongRow_9 : xdec cX6_wrongRow 9 = some (.ifCond .ne 7, 12, 16, 0) := by decide +kernel
theorem xX6_wrongRow_12 : xdec cX6_wrongRow 12 = some (.iconst (-1), 13, 0, (-1)) := by decide +kernel
theorem xX6_wrongRow_13 : xdec cX6_wrongRow 13 = some (.goto 33, 16, 46, 0) := by decide +kernel
theorem xX6_wrongRow_16 : xdec cX6_wrongRow 16 = some (.aload_n 0, 17, 0, 0) := by decide +kernel
theorem xX6_wrongRow_17 : xdec cX6_wrongRow 17 = some (.getfield 28, 20, 28, 0) := by decide +kernel
theorem xX6_wrongRow_20 : xdec cX6_wrongRow 20 = some (.iload_n 1, 21, 1, 0) := by decide +kernel
theorem xX6_wrongRow_21 : xdec cX6_wrongRow 21 = some (.iaload, 22, 0, 0) := by decide +kernel
theorem xX6_wrongRow_22 : xdec cX6_wrongRow 22 = some (.ifCond .ne 8, 25, 30, 0) := by decide +kernel
theorem xX6_wrongRow_25 : xdec cX6_wrongRow 25 = some (.bipush (-11), 27, 0, (-11)) := by decide +kernel
theorem xX6_wrongRow_27 : xdec cX6_wrongRow 27 = some (.goto 19, 30, 46, 0) := by decide +kernel
theorem xX6_wrongRow_30 : xdec cX6_wrongRow 30 = some (.aload_n 0, 31, 0, 0) := by decide +kernel
theorem xX6_wrongRow_31 : xdec cX6_wrongRow 31 = some (.getfield 28, 34, 28, 0) := by decide +kernel
theorem xX6_wrongRow_34 : xdec cX6_wrongRow 34 = some (.iload_n 1, 35, 1, 0) := by decide +kernel
theorem xX6_wrongRow_35 : xdec cX6_wrongRow 35 = some (.iaload, 36, 0, 0) := by decide +kernel
theorem xX6_wrongRow_36 : xdec cX6_wrongRow 36 = some (.iconst 2, 37, 0, 2) := by decide +kernel
theorem xX6_wrongRow_37 : xdec cX6_wrongRow 37 = some (.if_icmp .eq 8, 40, 45, 0) := by decide +kernel
theorem xX6_wrongRow_40 : xdec cX6_wrongRow 40 = some (.bipush (-12), 42, 0, (-12)) := by decide +kernel
theorem xX6_wrongRow_42 : xdec cX6_wrongRow 42 = some (.goto 4, 45, 46, 0) := by decide +kernel
theorem xX6_wrongRow_45 : xdec cX6_wrongRow 45 = some (.iconst 0, 46, 0, 0) := by decide +kernel
theorem xX6_wrongRow_46 : xdec cX6_wrongRow 46 = some (.ireturn, 47, 0, 0) := by decide +kernel
theorem xX6_narrowed_0 : xdec cX6_narrowed 0 = some (.iload_n 1, 1, 1, 0) := by decide +kernel
theorem xX6_narrowed_1 : xdec cX6_narrowed 1 = some (.ifCond .ne 9, 4, 10, 0) := by decide +kernel
theorem xX6_narrowed_4 : xdec cX6_narrowed 4 = some (.iload_n 0, 5, 0, 0) := by decide +kernel
theorem xX6_narrowed_5 : xdec cX6_narrowed 5 = some (.i2b, 6, 0, 0) := by decide +kernel
theorem xX6_narrowed_6 : xdec cX6_narrowed 6 = some (.i2l, 7, 0, 0) := by decide +kernel
theorem xX6_narrowed_7 : xdec cX6_narrowed 7 = some (.goto 16, 10, 23, 0) := by decide +kernel
theorem xX6_narrowed_10 : xdec cX6_narrowed 10 = some (.iload_n 1, 11, 1, 0) := by decide +kernel
theorem xX6_narrowed_11 : xdec cX6_narrowed 11 = some (.iconst 1, 12, 0, 1) := by decide +kernel
theorem xX6_narrowed_12 : xdec cX6_narrowed 12 = some (.if_icmp .ne 9, 15, 21, 0) := by decide +kernel
theorem xX6_narrowed_15 : xdec cX6_narrowed 15 = some (.iload_n 0, 16, 0, 0) := by decide +kernel
theorem xX6_narrowed_16 : xdec cX6_narrowed 16 = some (.i2s, 17, 0, 0) := by decide +kernel
theorem xX6_narrowed_17 : xdec cX6_narrowed 17 = some (.i2l, 18, 0, 0) := by decide +kernel
theorem xX6_narrowed_18 : xdec cX6_narrowed 18 = some (.goto 5, 21, 23, 0) := by decide +kernel
theorem xX6_narrowed_21 : xdec cX6_narrowed 21 = some (.iload_n 0, 22, 0, 0) := by decide +kernel
theorem xX6_narrowed_22 : xdec cX6_narrowed 22 = some (.i2l, 23, 0, 0) := by decide +kernel
theorem xX6_narrowed_23 : xdec cX6_narrowed 23 = some (.lreturn, 24, 0, 0) := by decide +kernel
theorem xX6_row_0 : xdec cX6_row 0 = some (.aload_n 0, 1, 0, 0) := by decide +kernel
theorem xX6_row_1 : xdec cX6_row 1 = some (.iconst 0, 2, 0, 0) := by decide +kernel
theorem xX6_row_2 : xdec cX6_row 2 = some (.putfield 75, 5, 75, 0) := by decide +kernel
theorem xX6_row_5 : xdec cX6_row 5 = some (.iload_n 1, 6, 1, 0) := by decide +kernel
theorem xX6_row_6 : xdec cX6_row 6 = some (.i2l, 7, 0, 0) := by decide +kernel
theorem xX6_row_7 : xdec cX6_row 7 = some (.lconst 0, 8, 0, 0) := by decide +kernel
theorem xX6_row_8 : xdec cX6_row 8 = some (.ldc2_w 218, 11, 218, 0) := by decide +kernel
theorem xX6_row_11 : xdec cX6_row 11 = some (.invokestatic 81, 14, 0, 0) := by decide +kernel
theorem xX6_row_14 : xdec cX6_row 14 = some (.ifCond .eq 21, 17, 35, 0) := by decide +kernel
theorem xX6_row_17 : xdec cX6_row 17 = some (.iload_n 2, 18, 2, 0) := by decide +kernel
theorem xX6_row_18 : xdec cX6_row 18 = some (.i2l, 19, 0, 0) := by decide +kernel
theorem xX6_row_19 : xdec cX6_row 19 = some (.lconst 0, 20, 0, 0) := by decide +kernel
theorem xX6_row_20 : xdec cX6_row 20 = some (.ldc2_w 231, 23, 231, 0) := by decide +kernel
theorem xX6_row_23 : xdec cX6_row 23 = some (.invokestatic 81, 26, 0, 0) := by decide +kernel
theorem xX6_row_26 : xdec cX6_row 26 = some (.ifCond .eq 9, 29, 35, 0) := by decide +kernel
theorem xX6_row_29 : xdec cX6_row 29 = some (.iload_n 3, 30, 3, 0) := by decide +kernel
theorem xX6_row_30 : xdec cX6_row 30 = some (.bipush 100, 32, 0, 100) := by decide +kernel
theorem xX6_row_32 : xdec cX6_row 32 = some (.if_icmp .le 5, 35, 37, 0) := by decide +kernel
theorem xX6_row_35 : xdec cX6_row 35 = some (.iconst (-1), 36, 0, (-1)) := by decide +kernel
theorem xX6_row_36 : xdec cX6_row 36 = some (.ireturn, 37, 0, 0) := by decide +kernel
theorem xX6_row_37 : xdec cX6_row 37 = some (.iload_n 3, 38, 3, 0) := by decide +kernel
theorem xX6_row_38 : xdec cX6_row 38 = some (.ifCond .ge 6, 41, 44, 0) := by decide +kernel
theorem xX6_row_41 : xdec cX6_row 41 = some (.bipush (-14), 43, 0, (-14)) := by decide +kernel
theorem xX6_row_43 : xdec cX6_row 43 = some (.ireturn, 44, 0, 0) := by decide +kernel
theorem xX6_row_44 : xdec cX6_row 44 = some (.aload_n 0, 45, 0, 0) := by decide +kernel
theorem xX6_row_45 : xdec cX6_row 45 = some (.getfield 28, 48, 28, 0) := by decide +kernel
theorem xX6_row_48 : xdec cX6_row 48 = some (.iload_n 1, 49, 1, 0) := by decide +kernel
theorem xX6_row_49 : xdec cX6_row 49 = some (.iconst 2, 50, 0, 2) := by decide +kernel
theorem xX6_row_50 : xdec cX6_row 50 = some (.iastore, 51, 0, 0) := by decide +kernel
theorem xX6_row_51 : xdec cX6_row 51 = some (.aload_n 0, 52, 0, 0) := by decide +kernel
theorem xX6_row_52 : xdec cX6_row 52 = some (.getfield 37, 55, 37, 0) := by decide +kernel
theorem xX6_row_55 : xdec cX6_row 55 = some (.iload_n 1, 56, 1, 0) := by decide +kernel
theorem xX6_row_56 : xdec cX6_row 56 = some (.iload_n 2, 57, 2, 0) := by decide +kernel
theorem xX6_row_57 : xdec cX6_row 57 = some (.iastore, 58, 0, 0) := by decide +kernel
theorem xX6_row_58 : xdec cX6_row 58 = some (.aload_n 0, 59, 0, 0) := by decide +kernel
theorem xX6_row_59 : xdec cX6_row 59 = some (.getfield 40, 62, 40, 0) := by decide +kernel
theorem xX6_row_62 : xdec cX6_row 62 = some (.iload_n 1, 63, 1, 0) := by decide +kernel
theorem xX6_row_63 : xdec cX6_row 63 = some (.iload_n 3, 64, 3, 0) := by decide +kernel
theorem xX6_row_64 : xdec cX6_row 64 = some (.iastore, 65, 0, 0) := by decide +kernel
theorem xX6_row_65 : xdec cX6_row 65 = some (.iconst 0, 66, 0, 0) := by decide +kernel
theorem xX6_row_66 : xdec cX6_row 66 = some (.istore 4, 68, 4, 0) := by decide +kernel
theorem xX6_row_68 : xdec cX6_row 68 = some (.iload 4, 70, 4, 0) := by decide +kernel
theorem xX6_row_70 : xdec cX6_row 70 = some (.bipush 100, 72, 0, 100) := by decide +kernel
theorem xX6_row_72 : xdec cX6_row 72 = some (.if_icmp .ge 22, 75, 94, 0) := by decide +kernel
theorem xX6_row_75 : xdec cX6_row 75 = some (.aload_n 0, 76, 0, 0) := by decide +kernel
theorem xX6_row_76 : xdec cX6_row 76 = some (.getfield 43, 79, 43, 0) := by decide +kernel
theorem xX6_row_79 : xdec cX6_row 79 = some (.bipush 100, 81, 0, 100) := by decide +kernel
theorem xX6_row_81 : xdec cX6_row 81 = some (.iload_n 1, 82, 1, 0) := by decide +kernel
theorem xX6_row_82 : xdec cX6_row 82 = some (.imul, 83, 0, 0) := by decide +kernel
theorem xX6_row_83 : xdec cX6_row 83 = some (.iload 4, 85, 4, 0) := by decide +kernel
theorem xX6_row_85 : xdec cX6_row 85 = some (.iadd, 86, 0, 0) := by decide +kernel
theorem xX6_row_86 : xdec cX6_row 86 = some (.lconst 0, 87, 0, 0) := by decide +kernel
theorem xX6_row_87 : xdec cX6_row 87 = some (.lastore, 88, 0, 0) := by decide +kernel
theorem xX6_row_88 : xdec cX6_row 88 = some (.iinc 4 1, 91, 4, 1) := by decide +kernel
theorem xX6_row_91 : xdec cX6_row 91 = some (.goto (-23), 94, 68, 0) := by decide +kernel
theorem xX6_row_94 : xdec cX6_row 94 = some (.iconst 0, 95, 0, 0) := by decide +kernel
theorem xX6_row_95 : xdec cX6_row 95 = some (.ireturn, 96, 0, 0) := by decide +kernel
theorem xX6_put_0 : xdec cX6_put 0 = some (.aload_n 0, 1, 0, 0) := by decide +kernel
theorem xX6_put_1 : xdec cX6_put 1 = some (.iconst 0, 2, 0, 0) := by decide +kernel
theorem xX6_put_2 : xdec cX6_put 2 = some (.putfield 75, 5, 75, 0) := by decide +kernel
theorem xX6_put_5 : xdec cX6_put 5 = some (.aload_n 0, 6, 0, 0) := by decide +kernel
theorem xX6_put_6 : xdec cX6_put 6 = some (.iload_n 1, 7, 1, 0) := by decide +kernel
theorem xX6_put_7 : xdec cX6_put 7 = some (.invokevirtual 184, 10, 0, 0) := by decide +kernel
theorem xX6_put_10 : xdec cX6_put 10 = some (.istore 4, 12, 4, 0) := by decide +kernel
theorem xX6_put_12 : xdec cX6_put 12 = some (.iload 4, 14, 4, 0) := by decide +kernel
theorem xX6_put_14 : xdec cX6_put 14 = some (.ifCond .ge 6, 17, 20, 0) := by decide +kernel
theorem xX6_put_17 : xdec cX6_put 17 = some (.iload 4, 19, 4, 0) := by decide +kernel
theorem xX6_put_19 : xdec cX6_put 19 = some (.ireturn, 20, 0, 0) := by decide +kernel
theorem xX6_put_20 : xdec cX6_put 20 = some (.iload_n 2, 21, 2, 0) := by decide +kernel
theorem xX6_put_21 : xdec cX6_put 21 = some (.i2l, 22, 0, 0) := by decide +kernel
theorem xX6_put_22 : xdec cX6_put 22 = some (.lconst 0, 23, 0, 0) := by decide +kernel
theorem xX6_put_23 : xdec cX6_put 23 = some (.aload_n 0, 24, 0, 0) := by decide +kernel
theorem xX6_put_24 : xdec cX6_put 24 = some (.getfield 40, 27, 40, 0) := by decide +kernel
theorem xX6_put_27 : xdec cX6_put 27 = some (.iload_n 1, 28, 1, 0) := by decide +kernel
theorem xX6_put_28 : xdec cX6_put 28 = some (.iaload, 29, 0, 0) := by decide +kernel
theorem xX6_put_29 : xdec cX6_put 29 = some (.iconst 1, 30, 0, 1) := by decide +kernel
theorem xX6_put_30 : xdec cX6_put 30 = some (.isub, 31, 0, 0) := by decide +kernel
theorem xX6_put_31 : xdec cX6_put 31 = some (.i2l, 32, 0, 0) := by decide +kernel
theorem xX6_put_32 : xdec cX6_put 32 = some (.invokestatic 81, 35, 0, 0) := by decide +kernel
theorem xX6_put_35 : xdec cX6_put 35 = some (.ifCond .ne 6, 38, 41, 0) := by decide +kernel
theorem xX6_put_38 : xdec cX6_put 38 = some (.bipush (-13), 40, 0, (-13)) := by decide +kernel
theorem xX6_put_40 : xdec cX6_put 40 = some (.ireturn, 41, 0, 0) := by decide +kernel
theorem xX6_put_41 : xdec cX6_put 41 = some (.aload_n 0, 42, 0, 0) := by decide +kernel
theorem xX6_put_42 : xdec cX6_put 42 = some (.getfield 43, 45, 43, 0) := by decide +kernel
theorem xX6_put_45 : xdec cX6_put 45 = some (.bipush 100, 47, 0, 100) := by decide +kernel
theorem xX6_put_47 : xdec cX6_put 47 = some (.iload_n 1, 48, 1, 0) := by decide +kernel
theorem xX6_put_48 : xdec cX6_put 48 = some (.imul, 49, 0, 0) := by decide +kernel
theorem xX6_put_49 : xdec cX6_put 49 = some (.iload_n 2, 50, 2, 0) := by decide +kernel
theorem xX6_put_50 : xdec cX6_put 50 = some (.iadd, 51, 0, 0) := by decide +kernel
theorem xX6_put_51 : xdec cX6_put 51 = some (.iload_n 3, 52, 3, 0) := by decide +kernel
theorem xX6_put_52 : xdec cX6_put 52 = some (.aload_n 0, 53, 0, 0) := by decide +kernel
theorem xX6_put_53 : xdec cX6_put 53 = some (.getfield 37, 56, 37, 0) := by decide +kernel
theorem xX6_put_56 : xdec cX6_put 56 = some (.iload_n 1, 57, 1, 0) := by decide +kernel
theorem xX6_put_57 : xdec cX6_put 57 = some (.iaload, 58, 0, 0) := by decide +kernel
theorem xX6_put_58 : xdec cX6_put 58 = some (.invokestatic 314, 61, 0, 0) := by decide +kernel
theorem xX6_put_61 : xdec cX6_put 61 = some (.lastore, 62, 0, 0) := by decide +kernel
theorem xX6_put_62 : xdec cX6_put 62 = some (.iconst 0, 63, 0, 0) := by decide +kernel
theorem xX6_put_63 : xdec cX6_put 63 = some (.ireturn, 64, 0, 0) := by decide +kernel
theorem xX6_element_0 : xdec cX6_element 0 = some (.aload_n 0, 1, 0, 0) := by decide +kernel
theorem xX6_element_1 : xdec cX6_element 1 = some (.iload_n 1, 2, 1, 0) := by decide +kernel
theorem xX6_element_2 : xdec cX6_element 2 = some (.invokevirtual 184, 5, 0, 0) := by decide +kernel
theorem xX6_element_5 : xdec cX6_element 5 = some (.istore_n 3, 6, 3, 0) := by decide +kernel
theorem xX6_element_6 : xdec cX6_element 6 = some (.aload_n 0, 7, 0, 0) := by decide +kernel
theorem xX6_element_7 : xdec cX6_element 7 = some (.iload_n 3, 8, 3, 0) := by decide +kernel
theorem xX6_element_8 : xdec cX6_element 8 = some (.iconst (-1), 9, 0, (-1)) := by decide +kernel
theorem xX6_element_9 : xdec cX6_element 9 = some (.if_icmp .ne 7, 12, 16, 0) := by decide +kernel
theorem xX6_element_12 : xdec cX6_element 12 = some (.iconst 1, 13, 0, 1) := by decide +kernel
theorem xX6_element_13 : xdec cX6_element 13 = some (.goto 30, 16, 43, 0) := by decide +kernel
theorem xX6_element_16 : xdec cX6_element 16 = some (.iload_n 3, 17, 3, 0) := by decide +kernel
theorem xX6_element_17 : xdec cX6_element 17 = some (.ifCond .lt 21, 20, 38, 0) := by decide +kernel
theorem xX6_element_20 : xdec cX6_element 20 = some (.iload_n 2, 21, 2, 0) := by decide +kernel
theorem xX6_element_21 : xdec cX6_element 21 = some (.i2l, 22, 0, 0) := by decide +kernel
theorem xX6_element_22 : xdec cX6_element 22 = some (.lconst 0, 23, 0, 0) := by decide +kernel
theorem xX6_element_23 : xdec cX6_element 23 = some (.aload_n 0, 24, 0, 0) := by decide +kernel
theorem xX6_element_24 : xdec cX6_element 24 = some (.getfield 40, 27, 40, 0) := by decide +kernel
theorem xX6_element_27 : xdec cX6_element 27 = some (.iload_n 1, 28, 1, 0) := by decide +kernel
theorem xX6_element_28 : xdec cX6_element 28 = some (.iaload, 29, 0, 0) := by decide +kernel
theorem xX6_element_29 : xdec cX6_element 29 = some (.iconst 1, 30, 0, 1) := by decide +kernel
theorem xX6_element_30 : xdec cX6_element 30 = some (.isub, 31, 0, 0) := by decide +kernel
theorem xX6_element_31 : xdec cX6_element 31 = some (.i2l, 32, 0, 0) := by decide +kernel
theorem xX6_element_32 : xdec cX6_element 32 = some (.invokestatic 81, 35, 0, 0) := by decide +kernel
theorem xX6_element_35 : xdec cX6_element 35 = some (.ifCond .ne 7, 38, 42, 0) := by decide +kernel
theorem xX6_element_38 : xdec cX6_element 38 = some (.iconst 2, 39, 0, 2) := by decide +kernel
theorem xX6_element_39 : xdec cX6_element 39 = some (.goto 4, 42, 43, 0) := by decide +kernel
theorem xX6_element_42 : xdec cX6_element 42 = some (.iconst 0, 43, 0, 0) := by decide +kernel
theorem xX6_element_43 : xdec cX6_element 43 = some (.putfield 75, 46, 75, 0) := by decide +kernel
theorem xX6_element_46 : xdec cX6_element 46 = some (.aload_n 0, 47, 0, 0) := by decide +kernel
theorem xX6_element_47 : xdec cX6_element 47 = some (.getfield 75, 50, 75, 0) := by decide +kernel
theorem xX6_element_50 : xdec cX6_element 50 = some (.ifCond .le 7, 53, 57, 0) := by decide +kernel
theorem xX6_element_53 : xdec cX6_element 53 = some (.lconst 0, 54, 0, 0) := by decide +kernel
theorem xX6_element_54 : xdec cX6_element 54 = some (.goto 14, 57, 68, 0) := by decide +kernel
theorem xX6_element_57 : xdec cX6_element 57 = some (.aload_n 0, 58, 0, 0) := by decide +kernel
theorem xX6_element_58 : xdec cX6_element 58 = some (.getfield 43, 61, 43, 0) := by decide +kernel
theorem xX6_element_61 : xdec cX6_element 61 = some (.bipush 100, 63, 0, 100) := by decide +kernel
theorem xX6_element_63 : xdec cX6_element 63 = some (.iload_n 1, 64, 1, 0) := by decide +kernel
theorem xX6_element_64 : xdec cX6_element 64 = some (.imul, 65, 0, 0) := by decide +kernel
theorem xX6_element_65 : xdec cX6_element 65 = some (.iload_n 2, 66, 2, 0) := by decide +kernel
theorem xX6_element_66 : xdec cX6_element 66 = some (.iadd, 67, 0, 0) := by decide +kernel
theorem xX6_element_67 : xdec cX6_element 67 = some (.laload, 68, 0, 0) := by decide +kernel
theorem xX6_element_68 : xdec cX6_element 68 = some (.lreturn, 69, 0, 0) := by decide +kernel
theorem xX6_copy_0 : xdec cX6_copy 0 = some (.aload_n 0, 1, 0, 0) := by decide +kernel
theorem xX6_copy_1 : xdec cX6_copy 1 = some (.iconst 0, 2, 0, 0) := by decide +kernel
theorem xX6_copy_2 : xdec cX6_copy 2 = some (.putfield 75, 5, 75, 0) := by decide +kernel
theorem xX6_copy_5 : xdec cX6_copy 5 = some (.iload_n 1, 6, 1, 0) := by decide +kernel
theorem xX6_copy_6 : xdec cX6_copy 6 = some (.i2l, 7, 0, 0) := by decide +kernel
theorem xX6_copy_7 : xdec cX6_copy 7 = some (.lconst 0, 8, 0, 0) := by decide +kernel
theorem xX6_copy_8 : xdec cX6_copy 8 = some (.ldc2_w 218, 11, 218, 0) := by decide +kernel
theorem xX6_copy_11 : xdec cX6_copy 11 = some (.invokestatic 81, 14, 0, 0) := by decide +kernel
theorem xX6_copy_14 : xdec cX6_copy 14 = some (.ifCond .eq 15, 17, 29, 0) := by decide +kernel
theorem xX6_copy_17 : xdec cX6_copy 17 = some (.iload_n 3, 18, 3, 0) := by decide +kernel
theorem xX6_copy_18 : xdec cX6_copy 18 = some (.i2l, 19, 0, 0) := by decide +kernel
theorem xX6_copy_19 : xdec cX6_copy 19 = some (.lconst 0, 20, 0, 0) := by decide +kernel
theorem xX6_copy_20 : xdec cX6_copy 20 = some (.ldc2_w 218, 23, 218, 0) := by decide +kernel
theorem xX6_copy_23 : xdec cX6_copy 23 = some (.invokestatic 81, 26, 0, 0) := by decide +kernel
theorem xX6_copy_26 : xdec cX6_copy 26 = some (.ifCond .ne 5, 29, 31, 0) := by decide +kernel
theorem xX6_copy_29 : xdec cX6_copy 29 = some (.iconst (-1), 30, 0, (-1)) := by decide +kernel
theorem xX6_copy_30 : xdec cX6_copy 30 = some (.ireturn, 31, 0, 0) := by decide +kernel
theorem xX6_copy_31 : xdec cX6_copy 31 = some (.aload_n 0, 32, 0, 0) := by decide +kernel
theorem xX6_copy_32 : xdec cX6_copy 32 = some (.getfield 28, 35, 28, 0) := by decide +kernel
theorem xX6_copy_35 : xdec cX6_copy 35 = some (.iload_n 1, 36, 1, 0) := by decide +kernel
theorem xX6_copy_36 : xdec cX6_copy 36 = some (.iaload, 37, 0, 0) := by decide +kernel
theorem xX6_copy_37 : xdec cX6_copy 37 = some (.ifCond .eq 12, 40, 49, 0) := by decide +kernel
theorem xX6_copy_40 : xdec cX6_copy 40 = some (.aload_n 0, 41, 0, 0) := by decide +kernel
theorem xX6_copy_41 : xdec cX6_copy 41 = some (.getfield 28, 44, 28, 0) := by decide +kernel
theorem xX6_copy_44 : xdec cX6_copy 44 = some (.iload_n 3, 45, 3, 0) := by decide +kernel
theorem xX6_copy_45 : xdec cX6_copy 45 = some (.iaload, 46, 0, 0) := by decide +kernel
theorem xX6_copy_46 : xdec cX6_copy 46 = some (.ifCond .ne 6, 49, 52, 0) := by decide +kernel
theorem xX6_copy_49 : xdec cX6_copy 49 = some (.bipush (-11), 51, 0, (-11)) := by decide +kernel
theorem xX6_copy_51 : xdec cX6_copy 51 = some (.ireturn, 52, 0, 0) := by decide +kernel
theorem xX6_copy_52 : xdec cX6_copy 52 = some (.aload_n 0, 53, 0, 0) := by decide +kernel
theorem xX6_copy_53 : xdec cX6_copy 53 = some (.getfield 28, 56, 28, 0) := by decide +kernel
theorem xX6_copy_56 : xdec cX6_copy 56 = some (.iload_n 1, 57, 1, 0) := by decide +kernel
theorem xX6_copy_57 : xdec cX6_copy 57 = some (.iaload, 58, 0, 0) := by decide +kernel
theorem xX6_copy_58 : xdec cX6_copy 58 = some (.iconst 2, 59, 0, 2) := by decide +kernel
theorem xX6_copy_59 : xdec cX6_copy 59 = some (.if_icmp .ne 28, 62, 87, 0) := by decide +kernel
theorem xX6_copy_62 : xdec cX6_copy 62 = some (.aload_n 0, 63, 0, 0) := by decide +kernel
theorem xX6_copy_63 : xdec cX6_copy 63 = some (.getfield 28, 66, 28, 0) := by decide +kernel
theorem xX6_copy_66 : xdec cX6_copy 66 = some (.iload_n 3, 67, 3, 0) := by decide +kernel
theorem xX6_copy_67 : xdec cX6_copy 67 = some (.iaload, 68, 0, 0) := by decide +kernel
theorem xX6_copy_68 : xdec cX6_copy 68 = some (.iconst 2, 69, 0, 2) := by decide +kernel
theorem xX6_copy_69 : xdec cX6_copy 69 = some (.if_icmp .ne 18, 72, 87, 0) := by decide +kernel
theorem xX6_copy_72 : xdec cX6_copy 72 = some (.aload_n 0, 73, 0, 0) := by decide +kernel
theorem xX6_copy_73 : xdec cX6_copy 73 = some (.getfield 37, 76, 37, 0) := by decide +kernel
theorem xX6_copy_76 : xdec cX6_copy 76 = some (.iload_n 1, 77, 1, 0) := by decide +kernel
theorem xX6_copy_77 : xdec cX6_copy 77 = some (.iaload, 78, 0, 0) := by decide +kernel
theorem xX6_copy_78 : xdec cX6_copy 78 = some (.aload_n 0, 79, 0, 0) := by decide +kernel
theorem xX6_copy_79 : xdec cX6_copy 79 = some (.getfield 37, 82, 37, 0) := by decide +kernel
theorem xX6_copy_82 : xdec cX6_copy 82 = some (.iload_n 3, 83, 3, 0) := by decide +kernel
theorem xX6_copy_83 : xdec cX6_copy 83 = some (.iaload, 84, 0, 0) := by decide +kernel
theorem xX6_copy_84 : xdec cX6_copy 84 = some (.if_icmp .eq 6, 87, 90, 0) := by decide +kernel
theorem xX6_copy_87 : xdec cX6_copy 87 = some (.bipush (-12), 89, 0, (-12)) := by decide +kernel
theorem xX6_copy_89 : xdec cX6_copy 89 = some (.ireturn, 90, 0, 0) := by decide +kernel
theorem xX6_copy_90 : xdec cX6_copy 90 = some (.iload 5, 92, 5, 0) := by decide +kernel
theorem xX6_copy_92 : xdec cX6_copy 92 = some (.ifCond .lt 39, 95, 131, 0) := by decide +kernel
theorem xX6_copy_95 : xdec cX6_copy 95 = some (.iload_n 2, 96, 2, 0) := by decide +kernel
theorem xX6_copy_96 : xdec cX6_copy 96 = some (.ifCond .lt 35, 99, 131, 0) := by decide +kernel
theorem xX6_copy_99 : xdec cX6_copy 99 = some (.iload 4, 101, 4, 0) := by decide +kernel
theorem xX6_copy_101 : xdec cX6_copy 101 = some (.ifCond .lt 30, 104, 131, 0) := by decide +kernel
theorem xX6_copy_104 : xdec cX6_copy 104 = some (.iload_n 2, 105, 2, 0) := by decide +kernel
theorem xX6_copy_105 : xdec cX6_copy 105 = some (.aload_n 0, 106, 0, 0) := by decide +kernel
theorem xX6_copy_106 : xdec cX6_copy 106 = some (.getfield 40, 109, 40, 0) := by decide +kernel
theorem xX6_copy_109 : xdec cX6_copy 109 = some (.iload_n 1, 110, 1, 0) := by decide +kernel
theorem xX6_copy_110 : xdec cX6_copy 110 = some (.iaload, 111, 0, 0) := by decide +kernel
theorem xX6_copy_111 : xdec cX6_copy 111 = some (.iload 5, 113, 5, 0) := by decide +kernel
theorem xX6_copy_113 : xdec cX6_copy 113 = some (.isub, 114, 0, 0) := by decide +kernel
theorem xX6_copy_114 : xdec cX6_copy 114 = some (.if_icmp .gt 17, 117, 131, 0) := by decide +kernel
theorem xX6_copy_117 : xdec cX6_copy 117 = some (.iload 4, 119, 4, 0) := by decide +kernel
theorem xX6_copy_119 : xdec cX6_copy 119 = some (.aload_n 0, 120, 0, 0) := by decide +kernel
theorem xX6_copy_120 : xdec cX6_copy 120 = some (.getfield 40, 123, 40, 0) := by decide +kernel
theorem xX6_copy_123 : xdec cX6_copy 123 = some (.iload_n 3, 124, 3, 0) := by decide +kernel
theorem xX6_copy_124 : xdec cX6_copy 124 = some (.iaload, 125, 0, 0) := by decide +kernel
theorem xX6_copy_125 : xdec cX6_copy 125 = some (.iload 5, 127, 5, 0) := by decide +kernel
theorem xX6_copy_127 : xdec cX6_copy 127 = some (.isub, 128, 0, 0) := by decide +kernel
theorem xX6_copy_128 : xdec cX6_copy 128 = some (.if_icmp .le 6, 131, 134, 0) := by decide +kernel
theorem xX6_copy_131 : xdec cX6_copy 131 = some (.bipush (-13), 133, 0, (-13)) := by decide +kernel
theorem xX6_copy_133 : xdec cX6_copy 133 = some (.ireturn, 134, 0, 0) := by decide +kernel
theorem xX6_copy_134 : xdec cX6_copy 134 = some (.iconst 0, 135, 0, 0) := by decide +kernel
theorem xX6_copy_135 : xdec cX6_copy 135 = some (.istore 6, 137, 6, 0) := by decide +kernel
theorem xX6_copy_137 : xdec cX6_copy 137 = some (.iload 6, 139, 6, 0) := by decide +kernel
theorem xX6_copy_139 : xdec cX6_copy 139 = some (.iload 5, 141, 5, 0) := by decide +kernel
theorem xX6_copy_141 : xdec cX6_copy 141 = some (.if_icmp .ge 30, 144, 171, 0) := by decide +kernel
theorem xX6_copy_144 : xdec cX6_copy 144 = some (.aload_n 0, 145, 0, 0) := by decide +kernel
theorem xX6_copy_145 : xdec cX6_copy 145 = some (.getfield 72, 148, 72, 0) := by decide +kernel
theorem xX6_copy_148 : xdec cX6_copy 148 = some (.iload 6, 150, 6, 0) := by decide +kernel
theorem xX6_copy_150 : xdec cX6_copy 150 = some (.aload_n 0, 151, 0, 0) := by decide +kernel
theorem xX6_copy_151 : xdec cX6_copy 151 = some (.getfield 43, 154, 43, 0) := by decide +kernel
theorem xX6_copy_154 : xdec cX6_copy 154 = some (.bipush 100, 156, 0, 100) := by decide +kernel
theorem xX6_copy_156 : xdec cX6_copy 156 = some (.iload_n 1, 157, 1, 0) := by decide +kernel
theorem xX6_copy_157 : xdec cX6_copy 157 = some (.imul, 158, 0, 0) := by decide +kernel
theorem xX6_copy_158 : xdec cX6_copy 158 = some (.iload_n 2, 159, 2, 0) := by decide +kernel
theorem xX6_copy_159 : xdec cX6_copy 159 = some (.iadd, 160, 0, 0) := by decide +kernel
theorem xX6_copy_160 : xdec cX6_copy 160 = some (.iload 6, 162, 6, 0) := by decide +kernel
theorem xX6_copy_162 : xdec cX6_copy 162 = some (.iadd, 163, 0, 0) := by decide +kernel
theorem xX6_copy_163 : xdec cX6_copy 163 = some (.laload, 164, 0, 0) := by decide +kernel
theorem xX6_copy_164 : xdec cX6_copy 164 = some (.lastore, 165, 0, 0) := by decide +kernel
theorem xX6_copy_165 : xdec cX6_copy 165 = some (.iinc 6 1, 168, 6, 1) := by decide +kernel
theorem xX6_copy_168 : xdec cX6_copy 168 = some (.goto (-31), 171, 137, 0) := by decide +kernel
theorem xX6_copy_171 : xdec cX6_copy 171 = some (.iconst 0, 172, 0, 0) := by decide +kernel
theorem xX6_copy_172 : xdec cX6_copy 172 = some (.istore 6, 174, 6, 0) := by decide +kernel
theorem xX6_copy_174 : xdec cX6_copy 174 = some (.iload 6, 176, 6, 0) := by decide +kernel
theorem xX6_copy_176 : xdec cX6_copy 176 = some (.iload 5, 178, 5, 0) := by decide +kernel
theorem xX6_copy_178 : xdec cX6_copy 178 = some (.if_icmp .ge 31, 181, 209, 0) := by decide +kernel
theorem xX6_copy_181 : xdec cX6_copy 181 = some (.aload_n 0, 182, 0, 0) := by decide +kernel
theorem xX6_copy_182 : xdec cX6_copy 182 = some (.getfield 43, 185, 43, 0) := by decide +kernel
theorem xX6_copy_185 : xdec cX6_copy 185 = some (.bipush 100, 187, 0, 100) := by decide +kernel
theorem xX6_copy_187 : xdec cX6_copy 187 = some (.iload_n 3, 188, 3, 0) := by decide +kernel
theorem xX6_copy_188 : xdec cX6_copy 188 = some (.imul, 189, 0, 0) := by decide +kernel
theorem xX6_copy_189 : xdec cX6_copy 189 = some (.iload 4, 191, 4, 0) := by decide +kernel
theorem xX6_copy_191 : xdec cX6_copy 191 = some (.iadd, 192, 0, 0) := by decide +kernel
theorem xX6_copy_192 : xdec cX6_copy 192 = some (.iload 6, 194, 6, 0) := by decide +kernel
theorem xX6_copy_194 : xdec cX6_copy 194 = some (.iadd, 195, 0, 0) := by decide +kernel
theorem xX6_copy_195 : xdec cX6_copy 195 = some (.aload_n 0, 196, 0, 0) := by decide +kernel
theorem xX6_copy_196 : xdec cX6_copy 196 = some (.getfield 72, 199, 72, 0) := by decide +kernel
theorem xX6_copy_199 : xdec cX6_copy 199 = some (.iload 6, 201, 6, 0) := by decide +kernel
theorem xX6_copy_201 : xdec cX6_copy 201 = some (.laload, 202, 0, 0) := by decide +kernel
theorem xX6_copy_202 : xdec cX6_copy 202 = some (.lastore, 203, 0, 0) := by decide +kernel
theorem xX6_copy_203 : xdec cX6_copy 203 = some (.iinc 6 1, 206, 6, 1) := by decide +kernel
theorem xX6_copy_206 : xdec cX6_copy 206 = some (.goto (-32), 209, 174, 0) := by decide +kernel
theorem xX6_copy_209 : xdec cX6_copy 209 = some (.iload 5, 211, 5, 0) := by decide +kernel
theorem xX6_copy_211 : xdec cX6_copy 211 = some (.ireturn, 212, 0, 0) := by decide +kernel
theorem xX6_costOf_0 : xdec cX6_costOf 0 = some (.iload_n 0, 1, 0, 0) := by decide +kernel
theorem xX6_costOf_1 : xdec cX6_costOf 1 = some (.tableswitch 74 0 7 #[47, 49, 51, 55, 74, 58, 74, 64], 48, 0, 0) := by decide +kernel
theorem xX6_costOf_48 : xdec cX6_costOf 48 = some (.iconst 3, 49, 0, 3) := by decide +kernel
theorem xX6_costOf_49 : xdec cX6_costOf 49 = some (.ireturn, 50, 0, 0) := by decide +kernel
theorem xX6_costOf_50 : xdec cX6_costOf 50 = some (.iconst 1, 51, 0, 1) := by decide +kernel
theorem xX6_costOf_51 : xdec cX6_costOf 51 = some (.ireturn, 52, 0, 0) := by decide +kernel
theorem xX6_costOf_52 : xdec cX6_costOf 52 = some (.iconst 3, 53, 0, 3) := by decide +kernel
theorem xX6_costOf_53 : xdec cX6_costOf 53 = some (.iload_n 1, 54, 1, 0) := by decide +kernel
theorem xX6_costOf_54 : xdec cX6_costOf 54 = some (.iadd, 55, 0, 0) := by decide +kernel
theorem xX6_costOf_55 : xdec cX6_costOf 55 = some (.ireturn, 56, 0, 0) := by decide +kernel
theorem xX6_costOf_56 : xdec cX6_costOf 56 = some (.bipush 6, 58, 0, 6) := by decide +kernel
theorem xX6_costOf_58 : xdec cX6_costOf 58 = some (.ireturn, 59, 0, 0) := by decide +kernel
theorem xX6_costOf_59 : xdec cX6_costOf 59 = some (.iconst 3, 60, 0, 3) := by decide +kernel
theorem xX6_costOf_60 : xdec cX6_costOf 60 = some (.iload_n 1, 61, 1, 0) := by decide +kernel
theorem xX6_costOf_61 : xdec cX6_costOf 61 = some (.iadd, 62, 0, 0) := by decide +kernel
theorem xX6_costOf_62 : xdec cX6_costOf 62 = some (.iconst 2, 63, 0, 2) := by decide +kernel
theorem xX6_costOf_63 : xdec cX6_costOf 63 = some (.idiv, 64, 0, 0) := by decide +kernel
theorem xX6_costOf_64 : xdec cX6_costOf 64 = some (.ireturn, 65, 0, 0) := by decide +kernel
theorem xX6_costOf_65 : xdec cX6_costOf 65 = some (.bipush 6, 67, 0, 6) := by decide +kernel
theorem xX6_costOf_67 : xdec cX6_costOf 67 = some (.iload_n 1, 68, 1, 0) := by decide +kernel
theorem xX6_costOf_68 : xdec cX6_costOf 68 = some (.isub, 69, 0, 0) := by decide +kernel
theorem xX6_costOf_69 : xdec cX6_costOf 69 = some (.bipush 6, 71, 0, 6) := by decide +kernel
theorem xX6_costOf_71 : xdec cX6_costOf 71 = some (.invokestatic 88, 74, 0, 0) := by decide +kernel
theorem xX6_costOf_74 : xdec cX6_costOf 74 = some (.ireturn, 75, 0, 0) := by decide +kernel
theorem xX6_costOf_75 : xdec cX6_costOf 75 = some (.iconst 0, 76, 0, 0) := by decide +kernel
theorem xX6_costOf_76 : xdec cX6_costOf 76 = some (.ireturn, 77, 0, 0) := by decide +kernel
theorem xX6_cost_0 : xdec cX6_cost 0 = some (.aload_n 0, 1, 0, 0) := by decide +kernel
theorem xX6_cost_1 : xdec cX6_cost 1 = some (.iconst 0, 2, 0, 0) := by decide +kernel
theorem xX6_cost_2 : xdec cX6_cost 2 = some (.putfield 75, 5, 75, 0) := by decide +kernel
theorem xX6_cost_5 : xdec cX6_cost 5 = some (.aload_n 0, 6, 0, 0) := by decide +kernel
theorem xX6_cost_6 : xdec cX6_cost 6 = some (.iload_n 1, 7, 1, 0) := by decide +kernel
theorem xX6_cost_7 : xdec cX6_cost 7 = some (.invokevirtual 223, 10, 0, 0) := by decide +kernel
theorem xX6_cost_10 : xdec cX6_cost 10 = some (.ifCond .ge 11, 13, 21, 0) := by decide +kernel
theorem xX6_cost_13 : xdec cX6_cost 13 = some (.aload_n 0, 14, 0, 0) := by decide +kernel
theorem xX6_cost_14 : xdec cX6_cost 14 = some (.iload_n 1, 15, 1, 0) := by decide +kernel
theorem xX6_cost_15 : xdec cX6_cost 15 = some (.invokevirtual 223, 18, 0, 0) := by decide +kernel
theorem xX6_cost_18 : xdec cX6_cost 18 = some (.goto 18, 21, 36, 0) := by decide +kernel
theorem xX6_cost_21 : xdec cX6_cost 21 = some (.aload_n 0, 22, 0, 0) := by decide +kernel
theorem xX6_cost_22 : xdec cX6_cost 22 = some (.getfield 31, 25, 31, 0) := by decide +kernel
theorem xX6_cost_25 : xdec cX6_cost 25 = some (.iload_n 1, 26, 1, 0) := by decide +kernel
theorem xX6_cost_26 : xdec cX6_cost 26 = some (.iaload, 27, 0, 0) := by decide +kernel
theorem xX6_cost_27 : xdec cX6_cost 27 = some (.aload_n 0, 28, 0, 0) := by decide +kernel
theorem xX6_cost_28 : xdec cX6_cost 28 = some (.getfield 34, 31, 34, 0) := by decide +kernel
theorem xX6_cost_31 : xdec cX6_cost 31 = some (.iload_n 1, 32, 1, 0) := by decide +kernel
theorem xX6_cost_32 : xdec cX6_cost 32 = some (.iaload, 33, 0, 0) := by decide +kernel
theorem xX6_cost_33 : xdec cX6_cost 33 = some (.invokestatic 318, 36, 0, 0) := by decide +kernel
theorem xX6_cost_36 : xdec cX6_cost 36 = some (.ireturn, 37, 0, 0) := by decide +kernel
theorem xX6_toss_0 : xdec cX6_toss 0 = some (.aload_n 0, 1, 0, 0) := by decide +kernel
theorem xX6_toss_1 : xdec cX6_toss 1 = some (.iconst 0, 2, 0, 0) := by decide +kernel
theorem xX6_toss_2 : xdec cX6_toss 2 = some (.putfield 75, 5, 75, 0) := by decide +kernel
theorem xX6_toss_5 : xdec cX6_toss 5 = some (.aload_n 0, 6, 0, 0) := by decide +kernel
theorem xX6_toss_6 : xdec cX6_toss 6 = some (.iload_n 1, 7, 1, 0) := by decide +kernel
theorem xX6_toss_7 : xdec cX6_toss 7 = some (.invokevirtual 223, 10, 0, 0) := by decide +kernel
theorem xX6_toss_10 : xdec cX6_toss 10 = some (.ifCond .ge 9, 13, 19, 0) := by decide +kernel
theorem xX6_toss_13 : xdec cX6_toss 13 = some (.aload_n 0, 14, 0, 0) := by decide +kernel
theorem xX6_toss_14 : xdec cX6_toss 14 = some (.iload_n 1, 15, 1, 0) := by decide +kernel
theorem xX6_toss_15 : xdec cX6_toss 15 = some (.invokevirtual 223, 18, 0, 0) := by decide +kernel
theorem xX6_toss_18 : xdec cX6_toss 18 = some (.ireturn, 19, 0, 0) := by decide +kernel
theorem xX6_toss_19 : xdec cX6_toss 19 = some (.aload_n 0, 20, 0, 0) := by decide +kernel
theorem xX6_toss_20 : xdec cX6_toss 20 = some (.getfield 31, 23, 31, 0) := by decide +kernel
theorem xX6_toss_23 : xdec cX6_toss 23 = some (.iload_n 1, 24, 1, 0) := by decide +kernel
theorem xX6_toss_24 : xdec cX6_toss 24 = some (.iaload, 25, 0, 0) := by decide +kernel
theorem xX6_toss_25 : xdec cX6_toss 25 = some (.istore_n 2, 26, 2, 0) := by decide +kernel
theorem xX6_toss_26 : xdec cX6_toss 26 = some (.aload_n 0, 27, 0, 0) := by decide +kernel
theorem xX6_toss_27 : xdec cX6_toss 27 = some (.getfield 34, 30, 34, 0) := by decide +kernel
theorem xX6_toss_30 : xdec cX6_toss 30 = some (.iload_n 1, 31, 1, 0) := by decide +kernel
theorem xX6_toss_31 : xdec cX6_toss 31 = some (.iaload, 32, 0, 0) := by decide +kernel
theorem xX6_toss_32 : xdec cX6_toss 32 = some (.istore_n 3, 33, 3, 0) := by decide +kernel
theorem xX6_toss_33 : xdec cX6_toss 33 = some (.iload_n 2, 34, 2, 0) := by decide +kernel
theorem xX6_toss_34 : xdec cX6_toss 34 = some (.iconst 1, 35, 0, 1) := by decide +kernel
theorem xX6_toss_35 : xdec cX6_toss 35 = some (.if_icmp .eq 18, 38, 53, 0) := by decide +kernel
theorem xX6_toss_38 : xdec cX6_toss 38 = some (.iload_n 2, 39, 2, 0) := by decide +kernel
theorem xX6_toss_39 : xdec cX6_toss 39 = some (.iconst 4, 40, 0, 4) := by decide +kernel
theorem xX6_toss_40 : xdec cX6_toss 40 = some (.if_icmp .eq 13, 43, 53, 0) := by decide +kernel
theorem xX6_toss_43 : xdec cX6_toss 43 = some (.iload_n 2, 44, 2, 0) := by decide +kernel
theorem xX6_toss_44 : xdec cX6_toss 44 = some (.bipush 6, 46, 0, 6) := by decide +kernel
theorem xX6_toss_46 : xdec cX6_toss 46 = some (.if_icmp .eq 7, 49, 53, 0) := by decide +kernel
theorem xX6_toss_49 : xdec cX6_toss 49 = some (.iload_n 3, 50, 3, 0) := by decide +kernel
theorem xX6_toss_50 : xdec cX6_toss 50 = some (.ifCond .ne 6, 53, 56, 0) := by decide +kernel
theorem xX6_toss_53 : xdec cX6_toss 53 = some (.bipush (-15), 55, 0, (-15)) := by decide +kernel
theorem xX6_toss_55 : xdec cX6_toss 55 = some (.ireturn, 56, 0, 0) := by decide +kernel
theorem xX6_toss_56 : xdec cX6_toss 56 = some (.iload_n 2, 57, 2, 0) := by decide +kernel
theorem xX6_toss_57 : xdec cX6_toss 57 = some (.iconst 2, 58, 0, 2) := by decide +kernel
theorem xX6_toss_58 : xdec cX6_toss 58 = some (.if_icmp .eq 8, 61, 66, 0) := by decide +kernel
theorem xX6_toss_61 : xdec cX6_toss 61 = some (.iload_n 2, 62, 2, 0) := by decide +kernel
theorem xX6_toss_62 : xdec cX6_toss 62 = some (.iconst 5, 63, 0, 5) := by decide +kernel
theorem xX6_toss_63 : xdec cX6_toss 63 = some (.if_icmp .ne 10, 66, 73, 0) := by decide +kernel
theorem xX6_toss_66 : xdec cX6_toss 66 = some (.bipush 100, 68, 0, 100) := by decide +kernel
theorem xX6_toss_68 : xdec cX6_toss 68 = some (.iload_n 3, 69, 3, 0) := by decide +kernel
theorem xX6_toss_69 : xdec cX6_toss 69 = some (.iadd, 70, 0, 0) := by decide +kernel
theorem xX6_toss_70 : xdec cX6_toss 70 = some (.goto 22, 73, 92, 0) := by decide +kernel
theorem xX6_toss_73 : xdec cX6_toss 73 = some (.iload_n 2, 74, 2, 0) := by decide +kernel
theorem xX6_toss_74 : xdec cX6_toss 74 = some (.bipush 7, 76, 0, 7) := by decide +kernel
theorem xX6_toss_76 : xdec cX6_toss 76 = some (.if_icmp .ne 15, 79, 91, 0) := by decide +kernel
theorem xX6_toss_79 : xdec cX6_toss 79 = some (.sipush 200, 82, 0, 200) := by decide +kernel
theorem xX6_toss_82 : xdec cX6_toss 82 = some (.iload_n 2, 83, 2, 0) := by decide +kernel
theorem xX6_toss_83 : xdec cX6_toss 83 = some (.iload_n 3, 84, 3, 0) := by decide +kernel
theorem xX6_toss_84 : xdec cX6_toss 84 = some (.invokestatic 318, 87, 0, 0) := by decide +kernel
theorem xX6_toss_87 : xdec cX6_toss 87 = some (.iadd, 88, 0, 0) := by decide +kernel
theorem xX6_toss_88 : xdec cX6_toss 88 = some (.goto 4, 91, 92, 0) := by decide +kernel
theorem xX6_toss_91 : xdec cX6_toss 91 = some (.iload_n 3, 92, 3, 0) := by decide +kernel
theorem xX6_toss_92 : xdec cX6_toss 92 = some (.ireturn, 93, 0, 0) := by decide +kernel
end
section
/-! ===== symbolic values, cells, worlds; a step over them; its soundness =====
A value: an int, a long, a reference by the number of its cell (none: null). A cell: an object (its class's number, its fields), or an array (the number of its kind in tysL, its length, its contents). σ: the cells' addresses. -/
abbrev sv : Type := Int32 ⊕ (Int64 ⊕ Option Nat)
abbrev sI (x : Int32) : sv := .inl x
abbrev sL (x : Int64) : sv := .inr (.inl x)
abbrev sR (k : Nat) : sv := .inr (.inr (some k))
abbrev sN : sv := .inr (.inr none)
def tv (σ : Nat → Nat) : sv → Value
  | .inl x => .int x
  | .inr (.inl x) => .long x
  | .inr (.inr r) => va_rf (r.map σ)
abbrev sc : Type := (Nat × List sv) ⊕ (Nat × Nat × ((Nat → Int32) ⊕ ((Nat → Int64) ⊕ (Nat → Option Nat))))
abbrev oC (ci : Nat) (fs : List sv) : sc := .inl (ci, fs)
abbrev aI (n : Nat) (f : Nat → Int32) : sc := .inr (0, n, .inl f)
abbrev aL (n : Nat) (f : Nat → Int64) : sc := .inr (1, n, .inr (.inl f))
abbrev aZ (n : Nat) (f : Nat → Int32) : sc := .inr (2, n, .inl f)
abbrev aR (n : Nat) (f : Nat → Option Nat) : sc := .inr (3, n, .inr (.inr f))
def tc (σ : Nat → Nat) (cA : Nat → ClassId) : sc → va_E
  | .inl (ci, fs) => .inr (ci, fs.map (tv σ))
  | .inr (t, n, .inl f) => .inl (cA t, n, .inl f)
  | .inr (t, n, .inr (.inl f)) => .inl (cA t, n, .inr (.inl f))
  | .inr (t, n, .inr (.inr f)) => .inl (cA t, n, .inr (.inr (.inr (.inr (fun i => (f i).map σ)))))
def tw (σ : Nat → Nat) (cA : Nat → ClassId) : Nat → List sc → va_W
  | _, [] => []
  | k, c :: r => (σ k, tc σ cA c) :: tw σ cA (k + 1) r
def nth {α : Type} : List α → Nat → Option α
  | [], _ => none
  | a :: _, 0 => some a
  | _ :: r, n + 1 => nth r n
def snth {α : Type} : List α → Nat → α → List α
  | [], _, _ => []
  | _ :: r, 0, x => x :: r
  | a :: r, n + 1, x => a :: snth r n x
theorem nth_eq {α : Type} : ∀ (l : List α) (n : Nat), nth l n = l[n]?
  | [], n => by simp [nth]
  | a :: r, 0 => by simp [nth]
  | a :: r, n + 1 => by simp [nth, nth_eq r n]
theorem snth_eq {α : Type} : ∀ (l : List α) (n : Nat) (x : α), snth l n x = l.set n x
  | [], n, x => by simp [snth]
  | a :: r, 0, x => by simp [snth]
  | a :: r, n + 1, x => by simp [snth, snth_eq r n x]
theorem tw_nth {σ : Nat → Nat} {cA : Nat → ClassId} : ∀ {w : List sc} {k i : Nat} {c : sc}, nth w i = some c → (tw σ cA k w)[i]? = some (σ (k + i), tc σ cA c)
  | [], _, _, _, h => by cases h
  | a :: r, k, 0, c, h => by cases h; rfl
  | a :: r, k, n + 1, c, h => by
    have := tw_nth (σ := σ) (cA := cA) (w := r) (k := k + 1) (i := n) (c := c) h
    rw [show k + (n + 1) = k + 1 + n by omega]
    simpa [tw] using this
theorem tw_of {σ : Nat → Nat} {cA : Nat → ClassId} : ∀ {w : List sc} {k i : Nat} {q : Nat × va_E}, (tw σ cA k w)[i]? = some q → ∃ c, nth w i = some c ∧ q = (σ (k + i), tc σ cA c)
  | [], _, _, _, h => by simp [tw] at h
  | a :: r, k, 0, q, h => by
    simp [tw] at h
    exact ⟨a, rfl, h.symm⟩
  | a :: r, k, n + 1, q, h => by
    simp [tw] at h
    obtain ⟨c, h1, h2⟩ := tw_of h
    exact ⟨c, h1, by rw [h2, show k + (n + 1) = k + 1 + n by omega]⟩
theorem tw_snth {σ : Nat → Nat} {cA : Nat → ClassId} : ∀ (w : List sc) (k i : Nat) (c : sc), tw σ cA k (snth w i c) = (tw σ cA k w).set i (σ (k + i), tc σ cA c)
  | [], _, _, _ => rfl
  | a :: r, k, 0, c => rfl
  | a :: r, k, n + 1, c => by
    have := tw_snth (σ := σ) (cA := cA) r (k + 1) n c
    simp only [snth, tw, List.set_cons_succ]
    rw [this, show k + 1 + n = k + (n + 1) by omega]
/-! locals: a list by their numbers -/
def sl : List (Option sv) → Nat → Option sv → List (Option sv)
  | [], 0, x => [x]
  | [], n + 1, x => none :: sl [] n x
  | _ :: r, 0, x => x :: r
  | a :: r, n + 1, x => a :: sl r n x
def lk : List (Option sv) → Nat → Option sv
  | [], _ => none
  | a :: _, 0 => a
  | _ :: r, n + 1 => lk r n
def kl3 (lv : List (Option sv)) (i : Nat) : Option sv → List (Option sv)
  | some (.inr (.inl _)) => sl lv i none
  | _ => lv
def kl2 (lv : List (Option sv)) : Nat → List (Option sv)
  | 0 => lv
  | i + 1 => kl3 lv i (lk lv i)
def tl (σ : Nat → Nat) : Nat → List (Option sv) → List (Nat × Value)
  | _, [] => []
  | k, none :: r => tl σ (k + 1) r
  | k, some v :: r => (k, tv σ v) :: tl σ (k + 1) r
def msk : List Bool → List (Option sv) → List (Option sv)
  | true :: m, a :: r => a :: msk m r
  | false :: m, _ :: r => none :: msk m r
  | _, _ => []
theorem lk_nil (i : Nat) : lk [] i = none := by cases i <;> rfl
theorem lk_sl : ∀ (lv : List (Option sv)) (i j : Nat) (x : Option sv), lk (sl lv i x) j = if j = i then x else lk lv j
  | [], 0, 0, x => by simp [sl, lk]
  | [], 0, j + 1, x => by simp [sl, lk]
  | [], n + 1, 0, x => by simp [sl, lk]
  | [], n + 1, j + 1, x => by simp [sl, lk, lk_sl [] n j x, lk_nil]
  | a :: r, 0, 0, x => by simp [sl, lk]
  | a :: r, 0, j + 1, x => by simp [sl, lk]
  | a :: r, n + 1, 0, x => by simp [sl, lk]
  | a :: r, n + 1, j + 1, x => by simp [sl, lk, lk_sl r n j x]
theorem lk_kl2 (lv : List (Option sv)) (i j : Nat) (v : sv) (h : lk (kl2 lv i) j = some v) : lk lv j = some v ∧ (j + 1 = i → (∀ y, v ≠ .inr (.inl y))) := by
  cases i with
  | zero => exact ⟨h, fun e => by omega⟩
  | succ i =>
    simp only [kl2] at h
    cases hl : lk lv i with
    | none =>
      rw [hl] at h
      refine ⟨h, fun e => ?_⟩
      have : j = i := by omega
      subst this
      have h' : lk lv j = some v := h
      rw [hl] at h'; cases h'
    | some x =>
      rw [hl] at h
      rcases x with x | x | x
      · refine ⟨h, fun e y hy => ?_⟩
        have : j = i := by omega
        subst this
        have h' : lk lv j = some v := h
        rw [hl] at h'; cases h'; cases hy
      · have h' : lk (sl lv i none) j = some v := h
        rw [lk_sl] at h'
        by_cases e : j = i
        · rw [if_pos e] at h'; cases h'
        · rw [if_neg e] at h'
          exact ⟨h', fun e2 => absurd (by omega) e⟩
      · refine ⟨h, fun e y hy => ?_⟩
        have : j = i := by omega
        subst this
        have h' : lk lv j = some v := h
        rw [hl] at h'; cases h'; cases hy
theorem lk_msk : ∀ (mm : List Bool) (lv : List (Option sv)) (i : Nat) (v : sv), lk (msk mm lv) i = some v → lk lv i = some v
  | [], lv, i, v, h => by simp [msk, lk_nil] at h
  | true :: mm, [], i, v, h => by simp [msk, lk_nil] at h
  | false :: mm, [], i, v, h => by simp [msk, lk_nil] at h
  | true :: mm, a :: r, 0, v, h => h
  | true :: mm, a :: r, i + 1, v, h => lk_msk mm r i v h
  | false :: mm, a :: r, 0, v, h => by simp [msk, lk] at h
  | false :: mm, a :: r, i + 1, v, h => lk_msk mm r i v h
theorem tl_mem {σ : Nat → Nat} : ∀ {lv : List (Option sv)} {k i : Nat} {v : sv}, lk lv i = some v → (k + i, tv σ v) ∈ tl σ k lv
  | [], k, i, v, h => by rw [lk_nil] at h; cases h
  | none :: r, k, 0, v, h => by simp [lk] at h
  | some a :: r, k, 0, v, h => by simp [lk] at h; subst h; simp [tl]
  | none :: r, k, i + 1, v, h => by
    have := tl_mem (σ := σ) (k := k + 1) (show lk r i = some v from h)
    rw [show k + (i + 1) = k + 1 + i by omega]; exact this
  | some a :: r, k, i + 1, v, h => by
    have := tl_mem (σ := σ) (k := k + 1) (show lk r i = some v from h)
    rw [show k + (i + 1) = k + 1 + i by omega]; exact List.mem_cons_of_mem _ this
theorem tl_of {σ : Nat → Nat} : ∀ {lv : List (Option sv)} {k : Nat} {q : Nat × Value}, q ∈ tl σ k lv → ∃ i v, q = (k + i, tv σ v) ∧ lk lv i = some v
  | [], k, q, h => by simp [tl] at h
  | none :: r, k, q, h => by
    obtain ⟨i, v, h1, h2⟩ := tl_of (show q ∈ tl σ (k + 1) r from h)
    exact ⟨i + 1, v, by rw [h1, show k + 1 + i = k + (i + 1) by omega], h2⟩
  | some a :: r, k, q, h => by
    rcases List.mem_cons.mp (show q ∈ (k, tv σ a) :: tl σ (k + 1) r from h) with h | h
    · exact ⟨0, a, h, rfl⟩
    · obtain ⟨i, v, h1, h2⟩ := tl_of h
      exact ⟨i + 1, v, by rw [h1, show k + 1 + i = k + (i + 1) by omega], h2⟩
theorem tv_cat (σ : Nat → Nat) (v : sv) (h : ∀ y, v ≠ .inr (.inl y)) : (tv σ v).category = 1 := by
  rcases v with x | x | x
  · rfl
  · exact absurd rfl (h x)
  · cases x <;> rfl
theorem lvh_sub {ls : Array Slot} {nL : Nat} {l l' : List (Nat × Value)} (h : lv_has ls nL l) (hs : ∀ q ∈ l', q ∈ l) : lv_has ls nL l' := ⟨h.1, h.2.1, fun q hq => h.2.2 q (hs q hq)⟩
theorem tl_sub {σ : Nat → Nat} {lv lv' : List (Option sv)} (h : ∀ i v, lk lv' i = some v → lk lv i = some v) : ∀ q ∈ tl σ 0 lv', q ∈ tl σ 0 lv := by
  intro q hq
  obtain ⟨i, v, h1, h2⟩ := tl_of hq
  rw [h1]; exact tl_mem (h i v h2)
theorem tl_st1 {σ : Nat → Nat} {lv : List (Option sv)} {i : Nat} {v : sv} : ∀ q ∈ tl σ 0 (sl (kl2 lv i) i (some v)), q ∈ (i, tv σ v) :: (tl σ 0 lv).filter (fun q => !(q.1 == i) && !(q.1 + 1 == i && q.2.category == 2)) := by
  intro q hq
  obtain ⟨j, u, h1, h2⟩ := tl_of hq
  rw [lk_sl] at h2
  by_cases e : j = i
  · rw [if_pos e] at h2; cases h2
    rw [h1, e, Nat.zero_add]; exact List.mem_cons_self
  · rw [if_neg e] at h2
    obtain ⟨h3, h4⟩ := lk_kl2 _ _ _ _ h2
    refine List.mem_cons_of_mem _ (List.mem_filter.mpr ⟨?_, ?_⟩)
    · rw [h1]; exact tl_mem h3
    · rw [h1]
      simp only [Nat.zero_add]
      by_cases e2 : j + 1 = i
      · simp [e, tv_cat σ u (h4 e2)]
      · simp [e, e2]
theorem tl_st2 {σ : Nat → Nat} {lv : List (Option sv)} {i : Nat} {v : sv} : ∀ q ∈ tl σ 0 (sl (sl (kl2 lv i) i (some v)) (i + 1) none), q ∈ (i, tv σ v) :: (tl σ 0 lv).filter (fun q => !(q.1 == i) && (!(q.1 == i + 1) && !(q.1 + 1 == i && q.2.category == 2))) := by
  intro q hq
  obtain ⟨j, u, h1, h2⟩ := tl_of hq
  rw [lk_sl] at h2
  by_cases e0 : j = i + 1
  · rw [if_pos e0] at h2; cases h2
  rw [if_neg e0, lk_sl] at h2
  by_cases e : j = i
  · rw [if_pos e] at h2; cases h2
    rw [h1, e, Nat.zero_add]; exact List.mem_cons_self
  · rw [if_neg e] at h2
    obtain ⟨h3, h4⟩ := lk_kl2 _ _ _ _ h2
    refine List.mem_cons_of_mem _ (List.mem_filter.mpr ⟨?_, ?_⟩)
    · rw [h1]; exact tl_mem h3
    · rw [h1]
      simp only [Nat.zero_add]
      by_cases e2 : j + 1 = i
      · simp [e, e0, tv_cat σ u (h4 e2)]
      · simp [e, e0, e2]
/-! what a step takes -/
def pI : List sv → (Int32 → List sv → Prop) → Prop
  | .inl x :: r, f => f x r
  | _, _ => False
def pL : List sv → (Int64 → List sv → Prop) → Prop
  | .inr (.inl x) :: r, f => f x r
  | _, _ => False
def pR : List sv → (Nat → List sv → Prop) → Prop
  | .inr (.inr (some x)) :: r, f => f x r
  | _, _ => False
def pA : List sv → (sv → List sv → Prop) → Prop
  | .inl x :: r, f => f (.inl x) r
  | .inr (.inr x) :: r, f => f (.inr (.inr x)) r
  | _, _ => False
def lI : Option sv → (Int32 → Prop) → Prop
  | some (.inl x), f => f x
  | _, _ => False
def lL : Option sv → (Int64 → Prop) → Prop
  | some (.inr (.inl x)), f => f x
  | _, _ => False
def lR : Option sv → (Nat → Prop) → Prop
  | some (.inr (.inr (some x))), f => f x
  | _, _ => False
def oO {α : Type} : Option α → (α → Prop) → Prop
  | some x, f => f x
  | none, _ => False
def cO : Option sc → (Nat → List sv → Prop) → Prop
  | some (.inl (ci, fs)), f => f ci fs
  | _, _ => False
def cI (t : Nat) : Option sc → (Nat → (Nat → Int32) → Prop) → Prop
  | some (.inr (t', n, .inl g)), f => t' = t ∧ f n g
  | _, _ => False
def cL : Option sc → (Nat → (Nat → Int64) → Prop) → Prop
  | some (.inr (t', n, .inr (.inl g))), f => t' = 1 ∧ f n g
  | _, _ => False
def cR : Option sc → (Nat → (Nat → Option Nat) → Prop) → Prop
  | some (.inr (t', n, .inr (.inr g))), f => t' = 3 ∧ f n g
  | _, _ => False
def cN : Option sc → (Nat → Prop) → Prop
  | some (.inr (t', n, g)), f => t' < 4 ∧ f n
  | _, _ => False
def okv : Nat → sv → Prop
  | 0, .inl _ => True
  | 1, .inl x => x = 0 ∨ x = 1
  | 2, .inr (.inr (some _)) => True
  | _, _ => False
def rI : List sv → (Int32 → Prop) → Prop
  | [.inl x], f => f x
  | _, _ => False
def rL : List sv → (Int64 → Prop) → Prop
  | [.inr (.inl x)], f => f x
  | _, _ => False
def rR : List sv → (Nat → Prop) → Prop
  | [.inr (.inr (some x))], f => f x
  | _, _ => False
def rV : List sv → Prop → Prop
  | [], f => f
  | _, _ => False
theorem pI_e {st : List sv} {f : Int32 → List sv → Prop} (h : pI st f) : ∃ x r, st = .inl x :: r ∧ f x r := by
  unfold pI at h; split at h
  · exact ⟨_, _, rfl, h⟩
  · exact h.elim
theorem pL_e {st : List sv} {f : Int64 → List sv → Prop} (h : pL st f) : ∃ x r, st = .inr (.inl x) :: r ∧ f x r := by
  unfold pL at h; split at h
  · exact ⟨_, _, rfl, h⟩
  · exact h.elim
theorem pR_e {st : List sv} {f : Nat → List sv → Prop} (h : pR st f) : ∃ x r, st = .inr (.inr (some x)) :: r ∧ f x r := by
  unfold pR at h; split at h
  · exact ⟨_, _, rfl, h⟩
  · exact h.elim
theorem pA_e {st : List sv} {f : sv → List sv → Prop} (h : pA st f) : ∃ x r, st = x :: r ∧ (∀ y, x ≠ .inr (.inl y)) ∧ f x r := by
  unfold pA at h; split at h
  · exact ⟨_, _, rfl, (fun y e => by cases e), h⟩
  · exact ⟨_, _, rfl, (fun y e => by cases e), h⟩
  · exact h.elim
theorem lI_e {o : Option sv} {f : Int32 → Prop} (h : lI o f) : ∃ x, o = some (.inl x) ∧ f x := by
  unfold lI at h; split at h
  · exact ⟨_, rfl, h⟩
  · exact h.elim
theorem lL_e {o : Option sv} {f : Int64 → Prop} (h : lL o f) : ∃ x, o = some (.inr (.inl x)) ∧ f x := by
  unfold lL at h; split at h
  · exact ⟨_, rfl, h⟩
  · exact h.elim
theorem lR_e {o : Option sv} {f : Nat → Prop} (h : lR o f) : ∃ x, o = some (.inr (.inr (some x))) ∧ f x := by
  unfold lR at h; split at h
  · exact ⟨_, rfl, h⟩
  · exact h.elim
theorem oO_e {α : Type} {o : Option α} {f : α → Prop} (h : oO o f) : ∃ x, o = some x ∧ f x := by
  cases o with
  | none => exact h.elim
  | some x => exact ⟨x, rfl, h⟩
theorem cO_e {o : Option sc} {f : Nat → List sv → Prop} (h : cO o f) : ∃ ci fs, o = some (.inl (ci, fs)) ∧ f ci fs := by
  unfold cO at h; split at h
  · exact ⟨_, _, rfl, h⟩
  · exact h.elim
theorem cI_e {t : Nat} {o : Option sc} {f : Nat → (Nat → Int32) → Prop} (h : cI t o f) : ∃ n g, o = some (.inr (t, n, .inl g)) ∧ f n g := by
  unfold cI at h; split at h
  · obtain ⟨rfl, h⟩ := h; exact ⟨_, _, rfl, h⟩
  · exact h.elim
theorem cL_e {o : Option sc} {f : Nat → (Nat → Int64) → Prop} (h : cL o f) : ∃ n g, o = some (.inr (1, n, .inr (.inl g))) ∧ f n g := by
  unfold cL at h; split at h
  · obtain ⟨rfl, h⟩ := h; exact ⟨_, _, rfl, h⟩
  · exact h.elim
theorem cR_e {o : Option sc} {f : Nat → (Nat → Option Nat) → Prop} (h : cR o f) : ∃ n g, o = some (.inr (3, n, .inr (.inr g))) ∧ f n g := by
  unfold cR at h; split at h
  · obtain ⟨rfl, h⟩ := h; exact ⟨_, _, rfl, h⟩
  · exact h.elim
theorem cN_e {o : Option sc} {f : Nat → Prop} (h : cN o f) : ∃ t n g, o = some (.inr (t, n, g)) ∧ t < 4 ∧ f n := by
  unfold cN at h; split at h
  · exact ⟨_, _, _, rfl, h.1, h.2⟩
  · exact h.elim
theorem rI_e {o : List sv} {f : Int32 → Prop} (h : rI o f) : ∃ x, o = [.inl x] ∧ f x := by
  unfold rI at h; split at h
  · exact ⟨_, rfl, h⟩
  · exact h.elim
theorem rL_e {o : List sv} {f : Int64 → Prop} (h : rL o f) : ∃ x, o = [.inr (.inl x)] ∧ f x := by
  unfold rL at h; split at h
  · exact ⟨_, rfl, h⟩
  · exact h.elim
theorem rR_e {o : List sv} {f : Nat → Prop} (h : rR o f) : ∃ x, o = [.inr (.inr (some x))] ∧ f x := by
  unfold rR at h; split at h
  · exact ⟨_, rfl, h⟩
  · exact h.elim
theorem rV_e {o : List sv} {f : Prop} (h : rV o f) : o = [] ∧ f := by
  unfold rV at h; split at h
  · exact ⟨rfl, h⟩
  · exact h.elim
def jrem (x y : Int32) : Int32 := x - x / y * y
def jremL (x y : Int64) : Int64 := x - x / y * y
def jshl (x y : Int32) : Int32 := x <<< (y &&& 31)
def jshr (x y : Int32) : Int32 := x >>> (y &&& 31)
def jushr (x y : Int32) : Int32 := (x.toUInt32 >>> (y.toUInt32 &&& Int32.toUInt32 31)).toInt32
def tsw (pc : Nat) (x : Int32) : Int → List Int → (Nat → Prop) → Prop
  | _, [], _ => True
  | lo, o :: os, K => (x = Int32.ofInt lo → K ((pc : Int) + o).toNat) ∧ tsw pc x (lo + 1) os K
def lsw (pc : Nat) (x : Int32) : List (Int × Int) → Int → (Nat → Prop) → Prop
  | [], d, K => K ((pc : Int) + d).toNat
  | (a, o) :: r, d, K => (Int32.ofInt a).toInt = a ∧ (x = Int32.ofInt a → K ((pc : Int) + o).toNat) ∧ (¬ x = Int32.ofInt a → lsw pc x r d K)
abbrev Kt : Type := Nat → List (Option sv) → List sv → List sc → Prop
def jc (c : Jvm.ClassFile.Cond) (x y : Int32) (A B : Prop) : Prop := match c with
  | .eq => (x = y → A) ∧ (¬ x = y → B)
  | .ne => (¬ x = y → A) ∧ (x = y → B)
  | .lt => (x < y → A) ∧ (¬ x < y → B)
  | .ge => (y ≤ x → A) ∧ (¬ y ≤ x → B)
  | .gt => (y < x → A) ∧ (¬ y < x → B)
  | .le => (x ≤ y → A) ∧ (¬ x ≤ y → B)
end
section
/-! ===== a step, and steps up to the cuts ===== -/
abbrev Ft : Type := Nat → Option (Nat × Nat × Nat)
abbrev Cl : Type := Nat → List sv → List sc → (List sv → List sc → Prop) → Prop
def stpi (nL rk : Nat) (fld : Ft) (cst : Nat → Option Int32) (cstL : Nat → Option Int64) (call : Cl) (ret : Option sv → List sc → Prop)
    (k : Kt) (i : Instr) (nx tg : Nat) (li : Int32) (pc : Nat) (lv : List (Option sv)) (st : List sv) (w : List sc) : Prop := match i with
  | .iconst _ => k nx lv (.inl li :: st) w
  | .bipush _ => k nx lv (.inl li :: st) w
  | .sipush _ => k nx lv (.inl li :: st) w
  | .lconst _ => (li = 0 → k nx lv (.inr (.inl 0) :: st) w) ∧ (¬ li = 0 → k nx lv (.inr (.inl 1) :: st) w)
  | .ldc _ => oO (cst tg) fun x => k nx lv (.inl x :: st) w
  | .ldc_w _ => oO (cst tg) fun x => k nx lv (.inl x :: st) w
  | .ldc2_w _ => oO (cstL tg) fun x => k nx lv (.inr (.inl x) :: st) w
  | .iload_n _ => lI (lk lv tg) fun x => k nx lv (.inl x :: st) w
  | .iload _ => lI (lk lv tg) fun x => k nx lv (.inl x :: st) w
  | .lload_n _ => lL (lk lv tg) fun x => k nx lv (.inr (.inl x) :: st) w
  | .lload _ => lL (lk lv tg) fun x => k nx lv (.inr (.inl x) :: st) w
  | .aload_n _ => lR (lk lv tg) fun x => k nx lv (.inr (.inr (some x)) :: st) w
  | .aload _ => lR (lk lv tg) fun x => k nx lv (.inr (.inr (some x)) :: st) w
  | .istore_n _ => pI st fun x r => tg < nL ∧ k nx (sl (kl2 lv tg) tg (some (.inl x))) r w
  | .istore _ => pI st fun x r => tg < nL ∧ k nx (sl (kl2 lv tg) tg (some (.inl x))) r w
  | .lstore_n _ => pL st fun x r => tg + 1 < nL ∧ k nx (sl (sl (kl2 lv tg) tg (some (.inr (.inl x)))) (tg + 1) none) r w
  | .lstore _ => pL st fun x r => tg + 1 < nL ∧ k nx (sl (sl (kl2 lv tg) tg (some (.inr (.inl x)))) (tg + 1) none) r w
  | .astore_n _ => pR st fun x r => tg < nL ∧ k nx (sl (kl2 lv tg) tg (some (.inr (.inr (some x))))) r w
  | .astore _ => pR st fun x r => tg < nL ∧ k nx (sl (kl2 lv tg) tg (some (.inr (.inr (some x))))) r w
  | .iinc _ _ => lI (lk lv tg) fun x => tg < nL ∧ k nx (sl (kl2 lv tg) tg (some (.inl (x + li)))) st w
  | .iadd => pI st fun y r => pI r fun x r => k nx lv (.inl (x + y) :: r) w
  | .isub => pI st fun y r => pI r fun x r => k nx lv (.inl (x - y) :: r) w
  | .imul => pI st fun y r => pI r fun x r => k nx lv (.inl (x * y) :: r) w
  | .idiv => pI st fun y r => pI r fun x r => ¬ y = 0 ∧ k nx lv (.inl (x / y) :: r) w
  | .irem => pI st fun y r => pI r fun x r => ¬ y = 0 ∧ k nx lv (.inl (jrem x y) :: r) w
  | .iand => pI st fun y r => pI r fun x r => k nx lv (.inl (x &&& y) :: r) w
  | .ior => pI st fun y r => pI r fun x r => k nx lv (.inl (x ||| y) :: r) w
  | .ixor => pI st fun y r => pI r fun x r => k nx lv (.inl (x ^^^ y) :: r) w
  | .ishl => pI st fun y r => pI r fun x r => k nx lv (.inl (jshl x y) :: r) w
  | .ishr => pI st fun y r => pI r fun x r => k nx lv (.inl (jshr x y) :: r) w
  | .iushr => pI st fun y r => pI r fun x r => k nx lv (.inl (jushr x y) :: r) w
  | .ladd => pL st fun y r => pL r fun x r => k nx lv (.inr (.inl (x + y)) :: r) w
  | .lsub => pL st fun y r => pL r fun x r => k nx lv (.inr (.inl (x - y)) :: r) w
  | .lmul => pL st fun y r => pL r fun x r => k nx lv (.inr (.inl (x * y)) :: r) w
  | .ldiv => pL st fun y r => pL r fun x r => ¬ y = 0 ∧ k nx lv (.inr (.inl (x / y)) :: r) w
  | .lrem => pL st fun y r => pL r fun x r => ¬ y = 0 ∧ k nx lv (.inr (.inl (jremL x y)) :: r) w
  | .lcmp => pL st fun y r => pL r fun x r => k nx lv (.inl (lg_cmp x y) :: r) w
  | .i2l => pI st fun x r => k nx lv (.inr (.inl x.toInt64) :: r) w
  | .l2i => pL st fun x r => k nx lv (.inl x.toInt32 :: r) w
  | .i2b => pI st fun x r => k nx lv (.inl x.toInt8.toInt32 :: r) w
  | .i2s => pI st fun x r => k nx lv (.inl x.toInt16.toInt32 :: r) w
  | .dup => pA st fun x r => k nx lv (x :: x :: r) w
  | .dup2 => pA st fun x r => pA r fun y r => k nx lv (x :: y :: x :: y :: r) w
  | .pop => pA st fun x r => k nx lv r w
  | .goto _ => k tg lv st w
  | .ifCond c _ => pI st fun x r => jc c x 0 (k tg lv r w) (k nx lv r w)
  | .if_icmp c _ => pI st fun y r => pI r fun x r => jc c x y (k tg lv r w) (k nx lv r w)
  | .tableswitch d lo hi offs => pI st fun x r => (x.toInt < lo ∨ hi < x.toInt → k ((pc : Int) + d).toNat lv r w) ∧ offs.size = (hi - lo + 1).toNat ∧ tsw pc x lo offs.toList fun q => k q lv r w
  | .lookupswitch d ps => pI st fun x r => (ps.toList.zip (ps.toList.drop 1)).all (fun (a, next) => a.1 < next.1) = true ∧ lsw pc x ps.toList d fun q => k q lv r w
  | .getfield _ => pR st fun a r => oO (fld tg) fun q => cO (nth w a) fun cj fs => cj = q.1 ∧ oO (nth fs q.2.1) fun v => k nx lv (v :: r) w
  | .putfield _ => pA st fun v r => pR r fun a r => oO (fld tg) fun q => okv q.2.2 v ∧ cO (nth w a) fun cj fs => cj = q.1 ∧ oO (nth fs q.2.1) fun _ => k nx lv r (snth w a (.inl (cj, snth fs q.2.1 v)))
  | .iaload => pI st fun i r => pR r fun a r => cI 0 (nth w a) fun n f => vp_in i n ∧ k nx lv (.inl (f i.toNatClampNeg) :: r) w
  | .iastore => pI st fun x r => pI r fun i r => pR r fun a r => cI 0 (nth w a) fun n f => vp_in i n ∧ k nx lv r (snth w a (.inr (0, n, .inl (upd f i.toNatClampNeg x))))
  | .laload => pI st fun i r => pR r fun a r => cL (nth w a) fun n f => vp_in i n ∧ k nx lv (.inr (.inl (f i.toNatClampNeg)) :: r) w
  | .lastore => pL st fun x r => pI r fun i r => pR r fun a r => cL (nth w a) fun n f => vp_in i n ∧ k nx lv r (snth w a (.inr (1, n, .inr (.inl (vp_updL f i.toNatClampNeg x)))))
  | .baload => pI st fun i r => pR r fun a r => cI 2 (nth w a) fun n f => vp_in i n ∧ k nx lv (.inl (f i.toNatClampNeg) :: r) w
  | .bastore => pI st fun x r => pI r fun i r => pR r fun a r => cI 2 (nth w a) fun n f => vp_in i n ∧ (x = 0 ∨ x = 1) ∧ k nx lv r (snth w a (.inr (2, n, .inl (upd f i.toNatClampNeg x))))
  | .aaload => pI st fun i r => pR r fun a r => cR (nth w a) fun n f => vp_in i n ∧ oO (f i.toNatClampNeg) fun v => k nx lv (.inr (.inr (some v)) :: r) w
  | .arraylength => pR st fun a r => cN (nth w a) fun n => k nx lv (.inl (Int32.ofNat n) :: r) w
  | .invokevirtual _ => call pc st w fun st' w' => k (pc + 3) lv st' w'
  | .invokestatic _ => call pc st w fun st' w' => k (pc + 3) lv st' w'
  | .invokespecial _ => call pc st w fun st' w' => k (pc + 3) lv st' w'
  | .ireturn => rI st fun x => ((rk = 2 ∧ (x = 0 ∨ x = 1)) ∨ rk = 1) ∧ ret (some (.inl x)) w
  | .lreturn => rL st fun x => rk = 3 ∧ ret (some (.inr (.inl x))) w
  | .areturn => rR st fun x => rk = 4 ∧ ret (some (.inr (.inr (some x)))) w
  | .return_ => rV st (rk = 0 ∧ ret none w)
  | _ => False
def stp (cc : ByteArray) (nL rk : Nat) (fld : Ft) (cst : Nat → Option Int32) (cstL : Nat → Option Int64) (call : Cl) (ret : Option sv → List sc → Prop) (k : Kt) (pc : Nat) (lv : List (Option sv)) (st : List sv) (w : List sc) : Prop :=
  oO (xdec cc pc) fun q => stpi nL rk fld cst cstL call ret k q.1 q.2.1 q.2.2.1 q.2.2.2 pc lv st w
abbrev Ct0 : Type := Nat → Option (List Bool × (List (Option sv) → List sv → List sc → Prop))
def wpc (lv : List (Option sv)) (st : List sv) (w : List sc) (B : Prop) : Option (List Bool × (List (Option sv) → List sv → List sc → Prop)) → Prop
  | some (m, P) => P (msk m lv) st w
  | none => B
def wp (cc : ByteArray) (nL rk : Nat) (fld : Ft) (cst : Nat → Option Int32) (cstL : Nat → Option Int64) (call : Cl) (ret : Option sv → List sc → Prop) (cut : Ct0) : Nat → Kt
  | 0, _, _, _, _ => False
  | n + 1, pc, lv, st, w => wpc lv st w (stp cc nL rk fld cst cstL call ret (wp cc nL rk fld cst cstL call ret cut n) pc lv st w) (cut pc)
/-! the machine's side -/
abbrev vwCl : List vw_C := [(RX0, TX0, 13), (RX2, TX2, 2), (RX3, TX3, 6), (RX5, TX5, 7), (RX6, TX6, 39)]
def tysL (cA : Nat → ClassId) : List (ClassId × FieldType) := [(cA 0, .int), (cA 1, .long), (cA 2, .boolean), (cA 3, .object RX3)]
def uW : List Cond := lw_tbl.filter goodWord
theorem uW_of {w : Cond} (h : w ∈ lw_tbl) (hg : goodWord w = true) : w ∈ uW := List.mem_filter.mpr ⟨h, hg⟩
theorem uW_good : GoodIn uW uW := fun w h => ⟨h, good_of_word (List.mem_filter.mp h).2⟩
/-- the fields that a class's code names -/
def fdo (own : String) (fld : Ft) : Prop := ∀ idx ci k ty, fld idx = some (ci, k, ty) → ∃ (C : String) (T : u_T) (N : Nat) (t0 : Nat → FieldType), vwCl[ci]? = some (C, T, N) ∧ k < N ∧ (∀ w ∈ u_ws C T N, w ∈ uW) ∧ (T k).1 = C ∧ Cond.fieldLink own idx C (T k).2.1 (T k).2.2.1 ∈ uW ∧
  (∀ k, k < N → parseFieldDescriptor (T k).2.2.1 = some (t0 k)) ∧ (∀ a, a < N → ∀ b, b < N → a ≠ b → (T a).2.1 ≠ (T b).2.1) ∧
  (ty = 0 → (T k).2.2.2 = false ∧ t0 k = .int) ∧ (ty = 1 → (T k).2.2.2 = false ∧ t0 k = .boolean) ∧ (ty = 2 → (T k).2.2.2 = false ∧ ∃ t, t0 k = .array t)
def cdo (own : String) (cst : Nat → Option Int32) (cstL : Nat → Option Int64) : Prop := (∀ i v, cst i = some v → Cond.constant own i v ∈ uW) ∧ ∀ i v, cstL i = some v → Cond.constantLong own i v ∈ uW
def rto (rk : Nat) (rt : Option FieldType) : Prop := (rk = 0 → rt = none) ∧ (rk = 1 → rt = some .int) ∧ (rk = 2 → rt = some .boolean) ∧ (rk = 3 → rt = some .long) ∧ (rk = 4 → ∃ n, rt = some (.object n))
section ZX
variable {p : Program} {l : Launch} {e : Env} {R : Room} {s : State} {m : MethodId} {args : Array Value} {below : List Frame} {meth : Method} {c : Code} {D : va_G} {σ : Nat → Nat} {cA : Nat → ClassId} {A : Nat → Prop} {H0 : Heap} {nL : Nat} {Q : State → Prop}
def Zx (p : Program) (l : Launch) (e : Env) (R : Room) (s : State) (m : MethodId) (args : Array Value) (below : List Frame) (meth : Method) (c : Code) (D : va_G) (σ : Nat → Nat) (cA : Nat → ClassId) (A : Nat → Prop) (H0 : Heap) (nL : Nat) (Q : State → Prop) : Kt := fun pc lv st w =>
  ∀ (H : Heap) (locs : List Loc) (ls : Array Slot), va_P D vwCl (tw σ cA 0 w) H → va_D A (tw σ cA 0 w) → va_S A H0 H locs → lv_has ls nL (tl σ 0 lv) → W p l e R s m args below meth c H locs 0 0 Q (F0 m pc ls (st.map (tv σ)))
/-- what stays through a method -/
def Cx (p : Program) (s : State) (m : MethodId) (args : Array Value) (meth : Method) (c : Code) (D : va_G) (cA : Nat → ClassId) (cc : ByteArray) (nL : Nat) (rt : Option FieldType) (own : String) : Prop :=
  p.tables.exec = Jvm.exec ∧ c.code = cc ∧ c.maxLocals = nL ∧ s.vm.findClass own = some m.cls ∧ (∀ w ∈ uW, w.before args s = true) ∧ va_K D vwCl (tysL cA) s ∧ meth.locks = false ∧ meth.sig.returnType = rt
theorem Zx_mask {pc : Nat} {lv : List (Option sv)} {st : List sv} {w : List sc} (mm : List Bool) (h : Zx p l e R s m args below meth c D σ cA A H0 nL Q pc (msk mm lv) st w) : Zx p l e R s m args below meth c D σ cA A H0 nL Q pc lv st w :=
  fun H locs ls hP hD hS hl => h H locs ls hP hD hS (lvh_sub hl (tl_sub (lk_msk mm lv)))
end ZX
end
section
/-! ===== soundness of a step ===== -/
section SND
variable {p : Program} {l : Launch} {e : Env} {R : Room} {s : State} {m : MethodId} {args : Array Value} {below : List Frame} {meth : Method} {c : Code} {D : va_G} {σ : Nat → Nat} {cA : Nat → ClassId} {A : Nat → Prop} {H0 : Heap} {nL : Nat}
theorem va_rf_map (σ : Nat → Nat) (x : Nat) : va_rf ((some x).map σ) = .ref (σ x) := rfl
theorem tys_at {cA : Nat → ClassId} : (tysL cA)[0]? = some (cA 0, .int) ∧ (tysL cA)[1]? = some (cA 1, .long) ∧ (tysL cA)[2]? = some (cA 2, .boolean) ∧ (tysL cA)[3]? = some (cA 3, .object RX3) := ⟨rfl, rfl, rfl, rfl⟩
theorem lkm {ls : Array Slot} {nL : Nat} {lv : List (Option sv)} {σ : Nat → Nat} {i : Nat} {v : sv} (hl : lv_has ls nL (tl σ 0 lv)) (h : lk lv i = some v) : ls[i]? = some (.val (tv σ v)) := by
  have := hl.2.2 _ (tl_mem (k := 0) (σ := σ) h)
  simpa using this
theorem nar_z {x : Int32} (h : x = 0 ∨ x = 1) : narrow .boolean (.int x) = .int x ∧ fits .boolean (.int x) = true ∧ vp_nar .boolean x = x := by
  rcases h with rfl | rfl <;> decide
theorem tsw_use {pc : Nat} {x : Int32} {K : Nat → Prop} : ∀ {lo : Int} {os : List Int}, tsw pc x lo os K → ∀ (j : Nat) (o : Int), os[j]? = some o → x.toInt = lo + j → K ((pc : Int) + o).toNat
  | _, [], _, j, o, ho, _ => by simp at ho
  | lo, a :: os, h, 0, o, ho, hx => by
    simp at ho; subst ho
    exact h.1 (by rw [← Int32.ofInt_toInt x, hx]; simp)
  | lo, a :: os, h, j + 1, o, ho, hx => by
    exact tsw_use h.2 j o (by simpa using ho) (by rw [hx]; omega)
theorem lsw_use {pc : Nat} {x : Int32} {K : Nat → Prop} : ∀ {ps : List (Int × Int)} {d : Int}, lsw pc x ps d K → K ((pc : Int) + Op.lookupswitch.offset ps d x.toInt).toNat
  | [], d, h => h
  | (a, o) :: r, d, h => by
    rw [Op.lookupswitch.offset_cons]
    obtain ⟨h1, h2, h3⟩ := h
    by_cases e : a = x.toInt
    · rw [if_pos e]
      exact h2 (by rw [e, Int32.ofInt_toInt])
    · rw [if_neg e]
      exact lsw_use (h3 (fun q => e (by rw [q, h1])))
theorem tgt_of {pc : Nat} {o : Int} (h : 0 ≤ (pc : Int) + o) : (pc : Int) + o = (((pc : Int) + o).toNat : Int) := by omega
theorem lso_mem : ∀ (ps : List (Int × Int)) (d k : Int), Op.lookupswitch.offset ps d k = d ∨ ∃ q ∈ ps, Op.lookupswitch.offset ps d k = q.2
  | [], d, k => Or.inl rfl
  | (a, o) :: r, d, k => by
    rw [Op.lookupswitch.offset_cons]
    by_cases e : a = k
    · rw [if_pos e]; exact Or.inr ⟨(a, o), List.mem_cons_self, rfl⟩
    · rw [if_neg e]
      rcases lso_mem r d k with h | ⟨q, h1, h2⟩
      · exact Or.inl h
      · exact Or.inr ⟨q, List.mem_cons_of_mem _ h1, h2⟩
set_option maxHeartbeats 4000000 in
theorem stpi_sound {cc : ByteArray} {rk : Nat} {fld : Ft} {cst : Nat → Option Int32} {cstL : Nat → Option Int64} {call : Cl} {ret : Option sv → List sc → Prop} {k : Kt} {rt : Option FieldType} {own : String} {Qc : Array Value → State → Outcome → State → Prop} {free : Addr → Prop}
    (X : Cx p s m args meth c D cA cc nL rt own) (hf : fdo own fld) (hc : cdo own cst cstL) (hrt : rto rk rt)
    (hk : ∀ pc lv st w, k pc lv st w → Zx p l e R s m args below meth c D σ cA A H0 nL (MQ below Qc args s 0 0 free) pc lv st w)
    (hcall : ∀ pc st w kk, call pc st w kk → ∀ lv, (∀ st' w', kk st' w' → Zx p l e R s m args below meth c D σ cA A H0 nL (MQ below Qc args s 0 0 free) (pc + 3) lv st' w') → Zx p l e R s m args below meth c D σ cA A H0 nL (MQ below Qc args s 0 0 free) pc lv st w)
    (hret : ∀ r w, ret r w → ∀ H locs, va_P D vwCl (tw σ cA 0 w) H → va_D A (tw σ cA 0 w) → va_S A H0 H locs → (∀ t : State, t.heap = H → s.WarmedH t.vm → Qc args s (.returned (r.map (tv σ))) t) ∧ ∀ q ∈ locs, free q.base)
    {pc : Nat} {lv : List (Option sv)} {st : List sv} {w : List sc} {i : Instr} {nx tg : Nat} {li : Int32} (hd : xdec cc pc = some (i, nx, tg, li)) (h : stpi nL rk fld cst cstL call ret k i nx tg li pc lv st w) :
    Zx p l e R s m args below meth c D σ cA A H0 nL (MQ below Qc args s 0 0 free) pc lv st w := by
  obtain ⟨hx, hb, hml, hown, hts, hK, hlocks, hr⟩ := id X
  obtain ⟨len, hdg, hlen, hps, rfl, rfl, rfl⟩ := xdec_ok hd
  intro H locs ls hP hD hS hl
  cases i
  case iconst n =>
    obtain rfl : len = 1 := hlen.resolve_right (Nat.succ_ne_zero _)
    exact lv_iconst hx hb hdg rfl (hk _ _ _ _ h _ _ _ hP hD hS hl)
  case bipush n =>
    obtain rfl : len = 2 := hlen.resolve_right (Nat.succ_ne_zero _)
    exact lv_bipush hx hb hdg rfl (hk _ _ _ _ h _ _ _ hP hD hS hl)
  case sipush n =>
    obtain rfl : len = 3 := hlen.resolve_right (Nat.succ_ne_zero _)
    exact lv_sipush hx hb hdg rfl (hk _ _ _ _ h _ _ _ hP hD hS hl)
  case lconst n =>
    obtain rfl : len = 1 := hlen.resolve_right (Nat.succ_ne_zero _)
    obtain ⟨h1, h2⟩ := h
    rcases (show n = 0 ∨ n = 1 by omega) with rfl | rfl
    · exact lv_lconst hx hb hdg rfl (hk _ _ _ _ (h1 (by decide)) _ _ _ hP hD hS hl)
    · exact lv_lconst hx hb hdg rfl (hk _ _ _ _ (h2 (by decide)) _ _ _ hP hD hS hl)
  case ldc n =>
    obtain rfl : len = 2 := hlen.resolve_right (Nat.succ_ne_zero _)
    obtain ⟨x, h1, h2⟩ := oO_e h
    exact lv_ldc hx hb hown (hts _ (hc.1 _ _ h1)) hdg (hk _ _ _ _ h2 _ _ _ hP hD hS hl)
  case ldc_w n =>
    obtain rfl : len = 3 := hlen.resolve_right (Nat.succ_ne_zero _)
    obtain ⟨x, h1, h2⟩ := oO_e h
    exact lv_ldcw hx hb hown (hts _ (hc.1 _ _ h1)) hdg (hk _ _ _ _ h2 _ _ _ hP hD hS hl)
  case ldc2_w n =>
    obtain rfl : len = 3 := hlen.resolve_right (Nat.succ_ne_zero _)
    obtain ⟨x, h1, h2⟩ := oO_e h
    exact lv_ldc2 hx hb hown (hts _ (hc.2 _ _ h1)) hdg (hk _ _ _ _ h2 _ _ _ hP hD hS hl)
  case iload_n n =>
    obtain rfl : len = 1 := hlen.resolve_right (Nat.succ_ne_zero _)
    obtain ⟨x, h1, h2⟩ := lI_e h
    exact lv_iload_n hx hb hdg rfl (lkm hl h1) (hk _ _ _ _ h2 _ _ _ hP hD hS hl)
  case iload n =>
    obtain rfl : len = 2 := hlen.resolve_right (Nat.succ_ne_zero _)
    obtain ⟨x, h1, h2⟩ := lI_e h
    exact lv_iload hx hb hdg (lkm hl h1) (hk _ _ _ _ h2 _ _ _ hP hD hS hl)
  case lload_n n =>
    obtain rfl : len = 1 := hlen.resolve_right (Nat.succ_ne_zero _)
    obtain ⟨x, h1, h2⟩ := lL_e h
    exact lv_lload_n hx hb hdg rfl (lkm hl h1) (hk _ _ _ _ h2 _ _ _ hP hD hS hl)
  case lload n =>
    obtain rfl : len = 2 := hlen.resolve_right (Nat.succ_ne_zero _)
    obtain ⟨x, h1, h2⟩ := lL_e h
    exact lv_lload hx hb hdg (lkm hl h1) (hk _ _ _ _ h2 _ _ _ hP hD hS hl)
  case aload_n n =>
    obtain rfl : len = 1 := hlen.resolve_right (Nat.succ_ne_zero _)
    obtain ⟨x, h1, h2⟩ := lR_e h
    exact lv_aload_n hx hb hdg rfl (lkm hl h1) (hk _ _ _ _ h2 _ _ _ hP hD hS hl)
  case aload n =>
    obtain rfl : len = 2 := hlen.resolve_right (Nat.succ_ne_zero _)
    obtain ⟨x, h1, h2⟩ := lR_e h
    exact lv_aload hx hb hdg (lkm hl h1) (hk _ _ _ _ h2 _ _ _ hP hD hS hl)
  case istore_n n =>
    obtain rfl : len = 1 := hlen.resolve_right (Nat.succ_ne_zero _)
    obtain ⟨x, r, rfl, h1, h2⟩ := pI_e h
    exact lv_istore_n hx hb hdg rfl hl h1 rfl (fun ls' hl' => hk _ _ _ _ h2 _ _ _ hP hD hS (lvh_sub hl' tl_st1))
  case istore n =>
    obtain rfl : len = 2 := hlen.resolve_right (Nat.succ_ne_zero _)
    obtain ⟨x, r, rfl, h1, h2⟩ := pI_e h
    exact lv_istore hx hb hdg hl h1 rfl (fun ls' hl' => hk _ _ _ _ h2 _ _ _ hP hD hS (lvh_sub hl' tl_st1))
  case lstore_n n =>
    obtain rfl : len = 1 := hlen.resolve_right (Nat.succ_ne_zero _)
    obtain ⟨x, r, rfl, h1, h2⟩ := pL_e h
    exact lv_lstore_n hx hb hdg rfl hl h1 rfl (fun ls' hl' => hk _ _ _ _ h2 _ _ _ hP hD hS (lvh_sub hl' tl_st2))
  case lstore n =>
    obtain rfl : len = 2 := hlen.resolve_right (Nat.succ_ne_zero _)
    obtain ⟨x, r, rfl, h1, h2⟩ := pL_e h
    exact lv_lstore hx hb hdg hl h1 rfl (fun ls' hl' => hk _ _ _ _ h2 _ _ _ hP hD hS (lvh_sub hl' tl_st2))
  case astore_n n =>
    obtain rfl : len = 1 := hlen.resolve_right (Nat.succ_ne_zero _)
    obtain ⟨x, r, rfl, h1, h2⟩ := pR_e h
    exact lv_astore_n hx hb hdg rfl hl h1 rfl (fun ls' hl' => hk _ _ _ _ h2 _ _ _ hP hD hS (lvh_sub hl' (tl_st1 (v := .inr (.inr (some x))))))
  case astore n =>
    obtain rfl : len = 2 := hlen.resolve_right (Nat.succ_ne_zero _)
    obtain ⟨x, r, rfl, h1, h2⟩ := pR_e h
    exact lv_astore hx hb hdg hl h1 rfl (fun ls' hl' => hk _ _ _ _ h2 _ _ _ hP hD hS (lvh_sub hl' (tl_st1 (v := .inr (.inr (some x))))))
  case iinc n q =>
    obtain rfl : len = 3 := hlen.resolve_right (Nat.succ_ne_zero _)
    obtain ⟨x, h1, h3, h2⟩ := lI_e h
    have h4 : (n, Value.int x) ∈ tl σ 0 lv := by
      have := tl_mem (σ := σ) (k := 0) h1
      rwa [Nat.zero_add] at this
    obtain ⟨kk, hkk⟩ := List.getElem?_of_mem h4
    exact lv_iinc hx hb hdg hl hkk rfl h3 rfl (fun ls' hl' => hk _ _ _ _ h2 _ _ _ hP hD hS (lvh_sub hl' (tl_st1 (v := .inl (x + Int32.ofInt q)))))
  case iadd =>
    obtain rfl : len = 1 := hlen.resolve_right (Nat.succ_ne_zero _)
    obtain ⟨y, r, rfl, h⟩ := pI_e h; obtain ⟨x, r, rfl, h⟩ := pI_e h
    exact lv_iadd hx hb hdg (hk _ _ _ _ h _ _ _ hP hD hS hl)
  case isub =>
    obtain rfl : len = 1 := hlen.resolve_right (Nat.succ_ne_zero _)
    obtain ⟨y, r, rfl, h⟩ := pI_e h; obtain ⟨x, r, rfl, h⟩ := pI_e h
    exact lv_isub hx hb hdg (hk _ _ _ _ h _ _ _ hP hD hS hl)
  case imul =>
    obtain rfl : len = 1 := hlen.resolve_right (Nat.succ_ne_zero _)
    obtain ⟨y, r, rfl, h⟩ := pI_e h; obtain ⟨x, r, rfl, h⟩ := pI_e h
    exact lv_imul hx hb hdg (hk _ _ _ _ h _ _ _ hP hD hS hl)
  case idiv =>
    obtain rfl : len = 1 := hlen.resolve_right (Nat.succ_ne_zero _)
    obtain ⟨y, r, rfl, h⟩ := pI_e h; obtain ⟨x, r, rfl, h0, h⟩ := pI_e h
    exact lv_idiv hx hb hdg h0 (hk _ _ _ _ h _ _ _ hP hD hS hl)
  case irem =>
    obtain rfl : len = 1 := hlen.resolve_right (Nat.succ_ne_zero _)
    obtain ⟨y, r, rfl, h⟩ := pI_e h; obtain ⟨x, r, rfl, h0, h⟩ := pI_e h
    exact lv_irem hx hb hdg h0 (hk _ _ _ _ h _ _ _ hP hD hS hl)
  case iand =>
    obtain rfl : len = 1 := hlen.resolve_right (Nat.succ_ne_zero _)
    obtain ⟨y, r, rfl, h⟩ := pI_e h; obtain ⟨x, r, rfl, h⟩ := pI_e h
    exact lv_iand hx hb hdg (hk _ _ _ _ h _ _ _ hP hD hS hl)
  case ior =>
    obtain rfl : len = 1 := hlen.resolve_right (Nat.succ_ne_zero _)
    obtain ⟨y, r, rfl, h⟩ := pI_e h; obtain ⟨x, r, rfl, h⟩ := pI_e h
    exact lv_ior hx hb hdg (hk _ _ _ _ h _ _ _ hP hD hS hl)
  case ixor =>
    obtain rfl : len = 1 := hlen.resolve_right (Nat.succ_ne_zero _)
    obtain ⟨y, r, rfl, h⟩ := pI_e h; obtain ⟨x, r, rfl, h⟩ := pI_e h
    exact lv_ixor hx hb hdg (hk _ _ _ _ h _ _ _ hP hD hS hl)
  case ishl =>
    obtain rfl : len = 1 := hlen.resolve_right (Nat.succ_ne_zero _)
    obtain ⟨y, r, rfl, h⟩ := pI_e h; obtain ⟨x, r, rfl, h⟩ := pI_e h
    exact lv_ishl hx hb hdg (hk _ _ _ _ h _ _ _ hP hD hS hl)
  case ishr =>
    obtain rfl : len = 1 := hlen.resolve_right (Nat.succ_ne_zero _)
    obtain ⟨y, r, rfl, h⟩ := pI_e h; obtain ⟨x, r, rfl, h⟩ := pI_e h
    exact lv_ishr hx hb hdg (hk _ _ _ _ h _ _ _ hP hD hS hl)
  case iushr =>
    obtain rfl : len = 1 := hlen.resolve_right (Nat.succ_ne_zero _)
    obtain ⟨y, r, rfl, h⟩ := pI_e h; obtain ⟨x, r, rfl, h⟩ := pI_e h
    exact lv_iushr hx hb hdg rfl (hk _ _ _ _ h _ _ _ hP hD hS hl)
  case ladd =>
    obtain rfl : len = 1 := hlen.resolve_right (Nat.succ_ne_zero _)
    obtain ⟨y, r, rfl, h⟩ := pL_e h; obtain ⟨x, r, rfl, h⟩ := pL_e h
    exact lv_ladd hx hb hdg (hk _ _ _ _ h _ _ _ hP hD hS hl)
  case lsub =>
    obtain rfl : len = 1 := hlen.resolve_right (Nat.succ_ne_zero _)
    obtain ⟨y, r, rfl, h⟩ := pL_e h; obtain ⟨x, r, rfl, h⟩ := pL_e h
    exact lv_lsub hx hb hdg (hk _ _ _ _ h _ _ _ hP hD hS hl)
  case lmul =>
    obtain rfl : len = 1 := hlen.resolve_right (Nat.succ_ne_zero _)
    obtain ⟨y, r, rfl, h⟩ := pL_e h; obtain ⟨x, r, rfl, h⟩ := pL_e h
    exact lv_lmul hx hb hdg (hk _ _ _ _ h _ _ _ hP hD hS hl)
  case ldiv =>
    obtain rfl : len = 1 := hlen.resolve_right (Nat.succ_ne_zero _)
    obtain ⟨y, r, rfl, h⟩ := pL_e h; obtain ⟨x, r, rfl, h0, h⟩ := pL_e h
    exact lv_ldiv hx hb hdg h0 (hk _ _ _ _ h _ _ _ hP hD hS hl)
  case lrem =>
    obtain rfl : len = 1 := hlen.resolve_right (Nat.succ_ne_zero _)
    obtain ⟨y, r, rfl, h⟩ := pL_e h; obtain ⟨x, r, rfl, h0, h⟩ := pL_e h
    exact lv_lrem hx hb hdg h0 (hk _ _ _ _ h _ _ _ hP hD hS hl)
  case lcmp =>
    obtain rfl : len = 1 := hlen.resolve_right (Nat.succ_ne_zero _)
    obtain ⟨y, r, rfl, h⟩ := pL_e h; obtain ⟨x, r, rfl, h⟩ := pL_e h
    exact W.lcmp hx hb hdg (hk _ _ _ _ h _ _ _ hP hD hS hl)
  case i2l =>
    obtain rfl : len = 1 := hlen.resolve_right (Nat.succ_ne_zero _)
    obtain ⟨x, r, rfl, h⟩ := pI_e h
    exact lv_i2l hx hb hdg rfl (hk _ _ _ _ h _ _ _ hP hD hS hl)
  case l2i =>
    obtain rfl : len = 1 := hlen.resolve_right (Nat.succ_ne_zero _)
    obtain ⟨x, r, rfl, h⟩ := pL_e h
    exact lv_l2i hx hb hdg rfl (hk _ _ _ _ h _ _ _ hP hD hS hl)
  case i2b =>
    obtain rfl : len = 1 := hlen.resolve_right (Nat.succ_ne_zero _)
    obtain ⟨x, r, rfl, h⟩ := pI_e h
    exact lv_i2b hx hb hdg rfl (hk _ _ _ _ h _ _ _ hP hD hS hl)
  case i2s =>
    obtain rfl : len = 1 := hlen.resolve_right (Nat.succ_ne_zero _)
    obtain ⟨x, r, rfl, h⟩ := pI_e h
    exact lv_i2s hx hb hdg rfl (hk _ _ _ _ h _ _ _ hP hD hS hl)
  case dup =>
    obtain rfl : len = 1 := hlen.resolve_right (Nat.succ_ne_zero _)
    obtain ⟨x, r, rfl, hx1, h⟩ := pA_e h
    exact lv_dup hx hb hdg (tv_cat σ x hx1) (hk _ _ _ _ h _ _ _ hP hD hS hl)
  case dup2 =>
    obtain rfl : len = 1 := hlen.resolve_right (Nat.succ_ne_zero _)
    obtain ⟨x, r, rfl, hx1, h⟩ := pA_e h; obtain ⟨y, r, rfl, hx2, h⟩ := pA_e h
    exact lv_dup2_11 hx hb hdg (tv_cat σ x hx1) (tv_cat σ y hx2) (hk _ _ _ _ h _ _ _ hP hD hS hl)
  case pop =>
    obtain rfl : len = 1 := hlen.resolve_right (Nat.succ_ne_zero _)
    obtain ⟨x, r, rfl, hx1, h⟩ := pA_e h
    exact lv_pop hx hb hdg (tv_cat σ x hx1) (hk _ _ _ _ h _ _ _ hP hD hS hl)
  case goto o =>
    obtain rfl : len = 3 := hlen.resolve_right (Nat.succ_ne_zero _)
    exact lv_goto hx hb hdg (tgt_of (of_decide_eq_true hps)) (hk _ _ _ _ h _ _ _ hP hD hS hl)
  case ifCond cd o =>
    obtain rfl : len = 3 := hlen.resolve_right (Nat.succ_ne_zero _)
    obtain ⟨x, r, rfl, h⟩ := pI_e h
    have ht := tgt_of (of_decide_eq_true hps)
    cases cd
    · exact lv_if_eq hx hb hdg ht (fun q => hk _ _ _ _ (h.1 q) _ _ _ hP hD hS hl) (fun q => hk _ _ _ _ (h.2 q) _ _ _ hP hD hS hl)
    · exact lv_if_ne hx hb hdg ht (fun q => hk _ _ _ _ (h.1 q) _ _ _ hP hD hS hl) (fun q => hk _ _ _ _ (h.2 q) _ _ _ hP hD hS hl)
    · exact lv_if_lt hx hb hdg ht (fun q => hk _ _ _ _ (h.1 q) _ _ _ hP hD hS hl) (fun q => hk _ _ _ _ (h.2 q) _ _ _ hP hD hS hl)
    · exact lv_if_ge hx hb hdg ht (fun q => hk _ _ _ _ (h.1 q) _ _ _ hP hD hS hl) (fun q => hk _ _ _ _ (h.2 q) _ _ _ hP hD hS hl)
    · exact lv_if_gt hx hb hdg ht (fun q => hk _ _ _ _ (h.1 q) _ _ _ hP hD hS hl) (fun q => hk _ _ _ _ (h.2 q) _ _ _ hP hD hS hl)
    · exact lv_if_le hx hb hdg ht (fun q => hk _ _ _ _ (h.1 q) _ _ _ hP hD hS hl) (fun q => hk _ _ _ _ (h.2 q) _ _ _ hP hD hS hl)
  case if_icmp cd o =>
    obtain rfl : len = 3 := hlen.resolve_right (Nat.succ_ne_zero _)
    obtain ⟨y, r, rfl, h⟩ := pI_e h; obtain ⟨x, r, rfl, h⟩ := pI_e h
    have ht := tgt_of (of_decide_eq_true hps)
    cases cd
    · exact lv_icmp_eq hx hb hdg ht (fun q => hk _ _ _ _ (h.1 q) _ _ _ hP hD hS hl) (fun q => hk _ _ _ _ (h.2 q) _ _ _ hP hD hS hl)
    · exact lv_icmp_ne hx hb hdg ht (fun q => hk _ _ _ _ (h.1 q) _ _ _ hP hD hS hl) (fun q => hk _ _ _ _ (h.2 q) _ _ _ hP hD hS hl)
    · exact lv_icmp_lt hx hb hdg ht (fun q => hk _ _ _ _ (h.1 q) _ _ _ hP hD hS hl) (fun q => hk _ _ _ _ (h.2 q) _ _ _ hP hD hS hl)
    · exact lv_icmp_ge hx hb hdg ht (fun q => hk _ _ _ _ (h.1 q) _ _ _ hP hD hS hl) (fun q => hk _ _ _ _ (h.2 q) _ _ _ hP hD hS hl)
    · exact lv_icmp_gt hx hb hdg ht (fun q => hk _ _ _ _ (h.1 q) _ _ _ hP hD hS hl) (fun q => hk _ _ _ _ (h.2 q) _ _ _ hP hD hS hl)
    · exact lv_icmp_le hx hb hdg ht (fun q => hk _ _ _ _ (h.1 q) _ _ _ hP hD hS hl) (fun q => hk _ _ _ _ (h.2 q) _ _ _ hP hD hS hl)
  case tableswitch d lo hi os =>
    obtain ⟨x, r, rfl, h1, h2, h3⟩ := pI_e h
    obtain ⟨hp1, hp2⟩ := Bool.and_eq_true_iff.mp hps
    by_cases ho : x.toInt < lo ∨ hi < x.toInt
    · exact lv_tableOut hx hb hdg ho (tgt_of (of_decide_eq_true hp1)) (hk _ _ _ _ (h1 ho) _ _ _ hP hD hS hl)
    · have g1 : ¬ x.toInt < lo := fun q => ho (Or.inl q)
      have g2 : ¬ hi < x.toInt := fun q => ho (Or.inr q)
      have g3 : (x.toInt - lo).toNat < os.size := by rw [h2]; omega
      obtain ⟨o, hoo⟩ : ∃ o, os[(x.toInt - lo).toNat]? = some o := ⟨_, Array.getElem?_eq_getElem g3⟩
      have hoo' : os.toList[(x.toInt - lo).toNat]? = some o := by rw [Array.getElem?_toList]; exact hoo
      have hpos : 0 ≤ (pc : Int) + o := of_decide_eq_true (List.all_eq_true.mp hp2 o (List.mem_of_getElem? hoo'))
      exact lv_tableIn hx hb hdg g1 g2 hoo (tgt_of hpos) (hk _ _ _ _ (tsw_use h3 _ o hoo' (by omega)) _ _ _ hP hD hS hl)
  case lookupswitch d ps =>
    obtain ⟨x, r, rfl, h1, h2⟩ := pI_e h
    obtain ⟨hp1, hp2⟩ := Bool.and_eq_true_iff.mp hps
    have hpos : 0 ≤ (pc : Int) + Op.lookupswitch.offset ps.toList d x.toInt := by
      rcases lso_mem ps.toList d x.toInt with q | ⟨q, q1, q2⟩
      · rw [q]; exact of_decide_eq_true hp1
      · rw [q2]; exact of_decide_eq_true (List.all_eq_true.mp hp2 q q1)
    exact lv_lookup hx hb hdg h1 rfl (tgt_of hpos) (hk _ _ _ _ (lsw_use h2) _ _ _ hP hD hS hl)
  case getfield n =>
    obtain rfl : len = 3 := hlen.resolve_right (Nat.succ_ne_zero _)
    obtain ⟨a, r, rfl, h⟩ := pR_e h
    obtain ⟨⟨ci, kf, ty⟩, hq, h⟩ := oO_e h
    obtain ⟨cj, fs, hw, rfl, h⟩ := cO_e h
    obtain ⟨v, hv, h⟩ := oO_e h
    obtain ⟨C, T, N, t0, g1, g2, g3, g4, g5, -⟩ := hf _ _ _ _ hq
    have he := tw_nth (σ := σ) (cA := cA) (k := 0) hw
    rw [Nat.zero_add] at he
    rw [nth_eq] at hv
    exact va_get (a := σ a) (ref := C) hx hb hts g3 hown hK hP a he g1 kf g2 (hts _ g5) (fun x q => by rw [g4] at q; exact q) (v := tv σ v) (by show (fs.map (tv σ))[kf]? = _; rw [List.getElem?_map, hv]; rfl) hdg (hk _ _ _ _ h _ _ _ hP hD hS hl)
  case putfield n =>
    obtain rfl : len = 3 := hlen.resolve_right (Nat.succ_ne_zero _)
    obtain ⟨v, r, rfl, hv1, h⟩ := pA_e h
    obtain ⟨a, r, rfl, h⟩ := pR_e h
    obtain ⟨⟨ci, kf, ty⟩, hq, hok, h⟩ := oO_e h
    obtain ⟨cj, fs, hw, rfl, h⟩ := cO_e h
    obtain ⟨u, hv, h⟩ := oO_e h
    obtain ⟨C, T, N, t0, g1, g2, g3, g4, g5, g6, g7, g8, g9, g10⟩ := hf _ _ _ _ hq
    have he := tw_nth (σ := σ) (cA := cA) (k := 0) hw
    rw [Nat.zero_add] at he
    rw [nth_eq] at hv
    have hlt : kf < (fs.map (tv σ)).length := by
      rw [List.length_map]
      exact (List.getElem?_eq_some_iff.mp hv).1
    have hgo : (T kf).2.2.2 = false → narrow (t0 kf) (tv σ v) = tv σ v → fits (t0 kf) (tv σ v) = true → W p l e R s m args below meth c H locs 0 0 (MQ below Qc args s 0 0 free) (F0 m pc ls (tv σ v :: .ref (σ a) :: r.map (tv σ))) := by
      intro f1 f2 f3
      refine va_put (a := σ a) (ref := C) hx hb hts g3 t0 g6 g7 hown hK hP hD hS a he g1 kf g2 (hts _ g5) (fun x q => by rw [g4] at q; exact q) f1 (g6 kf g2) f2 f3 hlt hdg (fun H1 locs1 hP1 hD1 hS1 => ?_)
      have e1 : (tw σ cA 0 w).set a (σ a, .inr (cj, (fs.map (tv σ)).set kf (tv σ v))) = tw σ cA 0 (snth w a (.inl (cj, snth fs kf v))) := by
        rw [tw_snth, Nat.zero_add, snth_eq]
        show _ = (tw σ cA 0 w).set a (σ a, .inr (cj, (fs.set kf v).map (tv σ)))
        rw [List.map_set]
      rw [e1] at hP1 hD1
      exact hk _ _ _ _ h _ _ _ hP1 hD1 hS1 hl
    rcases v with x | x | x
    · match ty, hok with
      | 0, _ => exact hgo (g8 rfl).1 (by rw [(g8 rfl).2]; rfl) (by rw [(g8 rfl).2]; rfl)
      | 1, hok => exact hgo (g9 rfl).1 (by rw [(g9 rfl).2]; exact (nar_z hok).1) (by rw [(g9 rfl).2]; exact (nar_z hok).2.1)
      | 2, hok => exact hok.elim
      | n + 3, hok => exact hok.elim
    · exact absurd rfl (hv1 x)
    · match ty, x, hok with
      | 2, some y, _ =>
        obtain ⟨f1, t, f2⟩ := g10 rfl
        exact hgo f1 (by rw [f2]; rfl) (by rw [f2]; rfl)
  case iaload =>
    obtain rfl : len = 1 := hlen.resolve_right (Nat.succ_ne_zero _)
    obtain ⟨i, r, rfl, h⟩ := pI_e h; obtain ⟨a, r, rfl, h⟩ := pR_e h
    obtain ⟨n, f, hw, hin, h⟩ := cI_e h
    have he := tw_nth (σ := σ) (cA := cA) (k := 0) hw
    rw [Nat.zero_add] at he
    exact va_iald (a := σ a) hx hb hK hP a 0 he rfl hin hdg (hk _ _ _ _ h _ _ _ hP hD hS hl)
  case laload =>
    obtain rfl : len = 1 := hlen.resolve_right (Nat.succ_ne_zero _)
    obtain ⟨i, r, rfl, h⟩ := pI_e h; obtain ⟨a, r, rfl, h⟩ := pR_e h
    obtain ⟨n, f, hw, hin, h⟩ := cL_e h
    have he := tw_nth (σ := σ) (cA := cA) (k := 0) hw
    rw [Nat.zero_add] at he
    exact va_lald (a := σ a) hx hb hK hP a 1 he rfl hin hdg (hk _ _ _ _ h _ _ _ hP hD hS hl)
  case baload =>
    obtain rfl : len = 1 := hlen.resolve_right (Nat.succ_ne_zero _)
    obtain ⟨i, r, rfl, h⟩ := pI_e h; obtain ⟨a, r, rfl, h⟩ := pR_e h
    obtain ⟨n, f, hw, hin, h⟩ := cI_e h
    have he := tw_nth (σ := σ) (cA := cA) (k := 0) hw
    rw [Nat.zero_add] at he
    exact va_zald (a := σ a) hx hb hK hP a 2 he rfl hin hdg (hk _ _ _ _ h _ _ _ hP hD hS hl)
  case aaload =>
    obtain rfl : len = 1 := hlen.resolve_right (Nat.succ_ne_zero _)
    obtain ⟨i, r, rfl, h⟩ := pI_e h; obtain ⟨a, r, rfl, h⟩ := pR_e h
    obtain ⟨n, f, hw, hin, h⟩ := cR_e h
    obtain ⟨v, hv, h⟩ := oO_e h
    have he := tw_nth (σ := σ) (cA := cA) (k := 0) hw
    rw [Nat.zero_add] at he
    have h2 := hk _ _ _ _ h _ _ _ hP hD hS hl
    exact va_aldq (a := σ a) hx hb hK hP a 3 he rfl hin hdg (by rw [hv]; exact h2)
  case arraylength =>
    obtain rfl : len = 1 := hlen.resolve_right (Nat.succ_ne_zero _)
    obtain ⟨a, r, rfl, h⟩ := pR_e h
    obtain ⟨t, n, g, hw, ht, h⟩ := cN_e h
    have he := tw_nth (σ := σ) (cA := cA) (k := 0) hw
    rw [Nat.zero_add] at he
    have h2 := hk _ _ _ _ h _ _ _ hP hD hS hl
    obtain ⟨ty, hty⟩ : ∃ ty, (tysL cA)[t]? = some (cA t, ty) := by
      rcases (show t = 0 ∨ t = 1 ∨ t = 2 ∨ t = 3 by omega) with rfl | rfl | rfl | rfl <;> exact ⟨_, rfl⟩
    rcases g with g | g | g
    · exact va_alen (a := σ a) hx hb hK hP a t he hty rfl hdg h2
    · exact va_alen (a := σ a) hx hb hK hP a t he hty rfl hdg h2
    · exact va_alen (a := σ a) hx hb hK hP a t he hty rfl hdg h2
  case iastore =>
    obtain rfl : len = 1 := hlen.resolve_right (Nat.succ_ne_zero _)
    obtain ⟨x, r, rfl, h⟩ := pI_e h; obtain ⟨i, r, rfl, h⟩ := pI_e h; obtain ⟨a, r, rfl, h⟩ := pR_e h
    obtain ⟨n, f, hw, hin, h⟩ := cI_e h
    have he := tw_nth (σ := σ) (cA := cA) (k := 0) hw
    rw [Nat.zero_add] at he
    refine va_iast (a := σ a) hx hb hK hP hD hS a 0 he rfl hin hdg (fun H1 locs1 hP1 hD1 hS1 => ?_)
    have e1 := tw_snth (σ := σ) (cA := cA) w 0 a (.inr (0, n, .inl (upd f i.toNatClampNeg x)))
    rw [Nat.zero_add] at e1
    exact hk _ _ _ _ h _ _ _ (by rw [e1]; exact hP1) (by rw [e1]; exact hD1) hS1 hl
  case lastore =>
    obtain rfl : len = 1 := hlen.resolve_right (Nat.succ_ne_zero _)
    obtain ⟨x, r, rfl, h⟩ := pL_e h; obtain ⟨i, r, rfl, h⟩ := pI_e h; obtain ⟨a, r, rfl, h⟩ := pR_e h
    obtain ⟨n, f, hw, hin, h⟩ := cL_e h
    have he := tw_nth (σ := σ) (cA := cA) (k := 0) hw
    rw [Nat.zero_add] at he
    refine va_last (a := σ a) hx hb hK hP hD hS a 1 he rfl hin hdg (fun H1 locs1 hP1 hD1 hS1 => ?_)
    have e1 := tw_snth (σ := σ) (cA := cA) w 0 a (.inr (1, n, .inr (.inl (vp_updL f i.toNatClampNeg x))))
    rw [Nat.zero_add] at e1
    exact hk _ _ _ _ h _ _ _ (by rw [e1]; exact hP1) (by rw [e1]; exact hD1) hS1 hl
  case bastore =>
    obtain rfl : len = 1 := hlen.resolve_right (Nat.succ_ne_zero _)
    obtain ⟨x, r, rfl, h⟩ := pI_e h; obtain ⟨i, r, rfl, h⟩ := pI_e h; obtain ⟨a, r, rfl, h⟩ := pR_e h
    obtain ⟨n, f, hw, hin, hz, h⟩ := cI_e h
    have he := tw_nth (σ := σ) (cA := cA) (k := 0) hw
    rw [Nat.zero_add] at he
    refine va_zast (a := σ a) hx hb hK hP hD hS a 2 he rfl hin hdg (fun H1 locs1 hP1 hD1 hS1 => ?_)
    have e1 := tw_snth (σ := σ) (cA := cA) w 0 a (.inr (2, n, .inl (upd f i.toNatClampNeg x)))
    rw [Nat.zero_add] at e1
    rw [(nar_z hz).2.2] at hP1 hD1
    exact hk _ _ _ _ h _ _ _ (by rw [e1]; exact hP1) (by rw [e1]; exact hD1) hS1 hl
  case invokevirtual n => exact hcall _ _ _ _ h lv (fun st' w' q => hk _ _ _ _ q) H locs ls hP hD hS hl
  case invokestatic n => exact hcall _ _ _ _ h lv (fun st' w' q => hk _ _ _ _ q) H locs ls hP hD hS hl
  case invokespecial n => exact hcall _ _ _ _ h lv (fun st' w' q => hk _ _ _ _ q) H locs ls hP hD hS hl
  case ireturn =>
    obtain rfl : len = 1 := hlen.resolve_right (Nat.succ_ne_zero _)
    obtain ⟨x, rfl, h1, h2⟩ := rI_e h
    obtain ⟨q1, q2⟩ := hret _ _ h2 H locs hP hD hS
    rcases h1 with ⟨hz, h1⟩ | hz
    · exact W.zret (ty := .boolean) hx hb (hr.trans (hrt.2.2.1 hz)) (nar_z h1).1 q1 q2 hdg hlocks
    · exact W.iret hx hb (hr.trans (hrt.2.1 hz)) q1 q2 hdg hlocks
  case lreturn =>
    obtain rfl : len = 1 := hlen.resolve_right (Nat.succ_ne_zero _)
    obtain ⟨x, rfl, h1, h2⟩ := rL_e h
    obtain ⟨q1, q2⟩ := hret _ _ h2 H locs hP hD hS
    exact W.lret hx hb (hr.trans (hrt.2.2.2.1 h1)) q1 q2 hdg hlocks
  case areturn =>
    obtain rfl : len = 1 := hlen.resolve_right (Nat.succ_ne_zero _)
    obtain ⟨x, rfl, h1, h2⟩ := rR_e h
    obtain ⟨q1, q2⟩ := hret _ _ h2 H locs hP hD hS
    obtain ⟨n, hn⟩ := hrt.2.2.2.2 h1
    exact W.aret hx hb (hr.trans hn) (Or.inl ⟨n, rfl⟩) (Or.inr ⟨σ x, rfl⟩) q1 q2 hdg hlocks
  case return_ =>
    obtain rfl : len = 1 := hlen.resolve_right (Nat.succ_ne_zero _)
    obtain ⟨rfl, h1, h2⟩ := rV_e h
    obtain ⟨q1, q2⟩ := hret _ _ h2 H locs hP hD hS
    exact W.vret hx hb (hr.trans (hrt.1 h1)) q1 q2 hdg hlocks
  all_goals exact h.elim
end SND
end
section
/-! ===== methods: cuts with a measure, contracts, calls ===== -/
abbrev Fn : Type := List sv → List sc → (Option sv → List sc → Prop) → Prop
abbrev Cts : Type := Nat → Option (List Bool × (Nat → List (Option sv) → List sv → List sc → Prop))
def cutl (n : Nat) : Option (List Bool × (Nat → List (Option sv) → List sv → List sc → Prop)) → Option (List Bool × (List (Option sv) → List sv → List sc → Prop))
  | some (m, P) => some (m, fun lv st w => ∃ n', n' < n ∧ P n' lv st w)
  | none => none
def cuts : Option (List Bool × (Nat → List (Option sv) → List sv → List sc → Prop)) → Option (List Bool × (List (Option sv) → List sv → List sc → Prop))
  | some (m, P) => some (m, fun lv st w => ∃ n', P n' lv st w)
  | none => none
def noc : Cts := fun _ => none
def rmd (d : Nat) : Room := { frames := d, cells := 0, slots := 0, locals := 100 * d }
def NWl : List (String × Nat × MethodName × String) := [(RX0, 58, ⟨"ServesWhatOneDreamt", "within", "(III)Z"⟩, "ServesWhatOneDreamt"), (RX1, 11, ⟨"ServesWhatOneDreamt", "within", "(III)Z"⟩, "ServesWhatOneDreamt"), (RX3, 19, ⟨"ServesWhatOneDreamt", "within", "(III)Z"⟩, "ServesWhatOneDreamt"), (RX4, 25, ⟨"ServesWhatOneDreamt", "isDigit", "(I)Z"⟩, "ServesWhatOneDreamt"), (RX4, 83, ⟨"ServesWhatOneDreamt", "within", "(III)Z"⟩, "ServesWhatOneDreamt")]
def NW (U : State) : Prop := ∀ q ∈ NWl, va_Nw (.methodLinkNest q.1 q.2.1 q.2.2.1 q.2.2.2) U
def wPre (D : va_G) (σ : Nat → Nat) (cA : Nat → ClassId) (sz : Nat) (w : List sc) (U : State) : Prop := U.heap.size = sz ∧ va_P D vwCl (tw σ cA 0 w) U.heap ∧ va_K D vwCl (tysL cA) U ∧ va_D (fun _ => True) (tw σ cA 0 w) ∧ NW U
def Qg (D : va_G) (σ : Nat → Nat) (cA : Nat → ClassId) (A : Nat → Prop) (K : Option sv → List sc → Prop) : Array Value → State → Outcome → State → Prop := fun _ st oc t =>
  (∃ (r : Option sv) (w' : List sc), oc = .returned (r.map (tv σ)) ∧ K r w' ∧ va_P D vwCl (tw σ cA 0 w') t.heap ∧ va_D A (tw σ cA 0 w')) ∧ va_F A st t
def enL : List sv → List (Option sv)
  | [] => []
  | .inl x :: r => some (.inl x) :: enL r
  | .inr (.inl x) :: r => some (.inr (.inl x)) :: none :: enL r
  | .inr (.inr x) :: r => some (.inr (.inr x)) :: enL r
def slen : List sv → Nat
  | [] => 0
  | .inl _ :: r => slen r + 1
  | .inr (.inl _) :: r => slen r + 2
  | .inr (.inr _) :: r => slen r + 1
theorem rf_cat (x : Option Nat) (σ : Nat → Nat) : (va_rf (x.map σ)).category = 1 := by cases x <;> rfl
theorem slen_ok (σ : Nat → Nat) : ∀ (as : List sv), (lg_sl (as.map (tv σ))).length = slen as
  | [] => rfl
  | .inl x :: r => by
    have := slen_ok σ r
    simp only [lg_sl, List.map_cons, List.flatMap_cons, List.length_append] at this ⊢
    rw [this]; simp [slen, tv, Value.category]; omega
  | .inr (.inl x) :: r => by
    have := slen_ok σ r
    simp only [lg_sl, List.map_cons, List.flatMap_cons, List.length_append] at this ⊢
    rw [this]; simp [slen, tv, Value.category]; omega
  | .inr (.inr x) :: r => by
    have := slen_ok σ r
    simp only [lg_sl, List.map_cons, List.flatMap_cons, List.length_append] at this ⊢
    rw [this]; simp [slen, tv, rf_cat]; omega
theorem enL_ok (σ : Nat → Nat) : ∀ (as : List sv) (k : Nat), ∀ q ∈ tl σ k (enL as), q ∈ lv_args k (as.map (tv σ))
  | [], k, q, h => by simp [enL, tl] at h
  | .inl x :: r, k, q, h => by
    simp only [enL, tl, List.mem_cons, List.map_cons, lv_args] at h ⊢
    rcases h with h | h
    · exact Or.inl h
    · refine Or.inr ?_
      have := enL_ok σ r (k + 1) q h
      simpa [tv, Value.category] using this
  | .inr (.inl x) :: r, k, q, h => by
    simp only [enL, tl, List.mem_cons, List.map_cons, lv_args] at h ⊢
    rcases h with h | h
    · exact Or.inl h
    · refine Or.inr ?_
      have := enL_ok σ r (k + 1 + 1) q h
      simpa [tv, Value.category] using this
  | .inr (.inr x) :: r, k, q, h => by
    simp only [enL, tl, List.mem_cons, List.map_cons, lv_args] at h ⊢
    rcases h with h | h
    · exact Or.inl h
    · refine Or.inr ?_
      have := enL_ok σ r (k + 1) q h
      simpa [tv, rf_cat] using this
/-- a method's contract: whatever F says -/
def Ct (y : MethodName) (cc : ByteArray) (nL : Nat) (rt : Option FieldType) (d : Nat) (F : Fn) : Prop :=
  ∀ (l : Launch) (D : va_G) (σ : Nat → Nat) (cA : Nat → ClassId) (sz : Nat) (as : List sv) (w : List sc) (K : Option sv → List sc → Prop), F as w K →
    Met l y (.code y cc nL rt :: uW) (rmd d) (va_Pc (as.map (tv σ)) (wPre D σ cA sz w)) (Qg D σ cA (va_A (tw σ cA 0 w) sz) K) 0 0 (va_A (tw σ cA 0 w) sz)
def SiteOK (cc : ByteArray) (nL : Nat) (rt : Option FieldType) (own : String) (d pc : Nat) (f : List sv → List sc → (List sv → List sc → Prop) → Prop) : Prop :=
  ∀ (p : Program) (l : Launch) (e : Env) (s : State) (m : MethodId) (args : Array Value) (below : List Frame) (meth : Method) (c : Code) (D : va_G) (σ : Nat → Nat) (cA : Nat → ClassId) (A : Nat → Prop) (Q : State → Prop),
    Cx p s m args meth c D cA cc nL rt own → NW s → (∀ q, s.heap.size ≤ q → A q) → ∀ st w kk, f st w kk → ∀ lv, (∀ st' w', kk st' w' → Zx p l e (rmd d) s m args below meth c D σ cA A s.heap nL Q (pc + 3) lv st' w') → Zx p l e (rmd d) s m args below meth c D σ cA A s.heap nL Q pc lv st w
def ctab : List (Nat × (List sv → List sc → (List sv → List sc → Prop) → Prop)) → Cl
  | [], _, _, _, _ => False
  | (q, f) :: t, pc, st, w, kk => if pc = q then f st w kk else ctab t pc st w kk
def CallOK (cc : ByteArray) (nL : Nat) (rt : Option FieldType) (own : String) (d : Nat) (t : List (Nat × (List sv → List sc → (List sv → List sc → Prop) → Prop))) : Prop := ∀ q ∈ t, SiteOK cc nL rt own d q.1 q.2
theorem CallOK_nil {cc : ByteArray} {nL : Nat} {rt : Option FieldType} {own : String} {d : Nat} : CallOK cc nL rt own d [] := fun _ h => by cases h
theorem CallOK_cons {cc : ByteArray} {nL : Nat} {rt : Option FieldType} {own : String} {d pc : Nat} {f : List sv → List sc → (List sv → List sc → Prop) → Prop} {t : List (Nat × (List sv → List sc → (List sv → List sc → Prop) → Prop))} (h : SiteOK cc nL rt own d pc f) (ht : CallOK cc nL rt own d t) : CallOK cc nL rt own d ((pc, f) :: t) := by
  intro q hq
  rcases List.mem_cons.mp hq with rfl | hq
  · exact h
  · exact ht q hq
theorem ctab_use {cc : ByteArray} {nL : Nat} {rt : Option FieldType} {own : String} {d : Nat} : ∀ {t : List (Nat × (List sv → List sc → (List sv → List sc → Prop) → Prop))} {pc : Nat} {st : List sv} {w : List sc} {kk : List sv → List sc → Prop}, CallOK cc nL rt own d t → ctab t pc st w kk → ∃ f, SiteOK cc nL rt own d pc f ∧ f st w kk
  | [], _, _, _, _, _, h => h.elim
  | (q, f) :: t, pc, st, w, kk, ht, h => by
    unfold ctab at h
    by_cases e : pc = q
    · rw [if_pos e] at h
      exact ⟨f, by rw [e]; exact ht (q, f) List.mem_cons_self, h⟩
    · rw [if_neg e] at h
      exact ctab_use (fun z hz => ht z (List.mem_cons_of_mem _ hz)) h
section WPS
variable {p : Program} {l : Launch} {e : Env} {R : Room} {s : State} {m : MethodId} {args : Array Value} {below : List Frame} {meth : Method} {c : Code} {D : va_G} {σ : Nat → Nat} {cA : Nat → ClassId} {A : Nat → Prop} {H0 : Heap} {nL : Nat}
theorem wp_sound {cc : ByteArray} {rk : Nat} {fld : Ft} {cst : Nat → Option Int32} {cstL : Nat → Option Int64} {call : Cl} {ret : Option sv → List sc → Prop} {rt : Option FieldType} {own : String} {Qc : Array Value → State → Outcome → State → Prop} {free : Addr → Prop} {cut : Ct0}
    (X : Cx p s m args meth c D cA cc nL rt own) (hf : fdo own fld) (hc : cdo own cst cstL) (hrt : rto rk rt)
    (hcall : ∀ pc st w kk, call pc st w kk → ∀ lv, (∀ st' w', kk st' w' → Zx p l e R s m args below meth c D σ cA A H0 nL (MQ below Qc args s 0 0 free) (pc + 3) lv st' w') → Zx p l e R s m args below meth c D σ cA A H0 nL (MQ below Qc args s 0 0 free) pc lv st w)
    (hret : ∀ r w, ret r w → ∀ H locs, va_P D vwCl (tw σ cA 0 w) H → va_D A (tw σ cA 0 w) → va_S A H0 H locs → (∀ t : State, t.heap = H → s.WarmedH t.vm → Qc args s (.returned (r.map (tv σ))) t) ∧ ∀ q ∈ locs, free q.base)
    (hcut : ∀ pc mm P, cut pc = some (mm, P) → ∀ lv st w, P lv st w → Zx p l e R s m args below meth c D σ cA A H0 nL (MQ below Qc args s 0 0 free) pc lv st w) :
    ∀ (n pc : Nat) (lv : List (Option sv)) (st : List sv) (w : List sc), wp cc nL rk fld cst cstL call ret cut n pc lv st w → Zx p l e R s m args below meth c D σ cA A H0 nL (MQ below Qc args s 0 0 free) pc lv st w
  | 0, _, _, _, _, h => h.elim
  | n + 1, pc, lv, st, w, h => by
    unfold wp at h
    cases hcp : cut pc with
    | none =>
      rw [hcp] at h
      obtain ⟨⟨i, nx, tg, li⟩, hd, h⟩ := oO_e (show oO _ _ from h)
      exact stpi_sound X hf hc hrt (fun pc lv st w q => wp_sound X hf hc hrt hcall hret hcut n pc lv st w q) hcall hret hd h
    | some q =>
      obtain ⟨mm, P⟩ := q
      rw [hcp] at h
      exact Zx_mask mm (hcut _ _ _ hcp _ _ _ h)
theorem cuts_sound {cc : ByteArray} {rk : Nat} {fld : Ft} {cst : Nat → Option Int32} {cstL : Nat → Option Int64} {call : Cl} {ret : Option sv → List sc → Prop} {rt : Option FieldType} {own : String} {Qc : Array Value → State → Outcome → State → Prop} {free : Addr → Prop} {cs : Cts} {fuel : Nat}
    (X : Cx p s m args meth c D cA cc nL rt own) (hf : fdo own fld) (hc : cdo own cst cstL) (hrt : rto rk rt)
    (hcall : ∀ pc st w kk, call pc st w kk → ∀ lv, (∀ st' w', kk st' w' → Zx p l e R s m args below meth c D σ cA A H0 nL (MQ below Qc args s 0 0 free) (pc + 3) lv st' w') → Zx p l e R s m args below meth c D σ cA A H0 nL (MQ below Qc args s 0 0 free) pc lv st w)
    (hret : ∀ r w, ret r w → ∀ H locs, va_P D vwCl (tw σ cA 0 w) H → va_D A (tw σ cA 0 w) → va_S A H0 H locs → (∀ t : State, t.heap = H → s.WarmedH t.vm → Qc args s (.returned (r.map (tv σ))) t) ∧ ∀ q ∈ locs, free q.base)
    (hinv : ∀ pc mm P, cs pc = some (mm, P) → ∀ n lv st w, P n lv st w → stp cc nL rk fld cst cstL call ret (wp cc nL rk fld cst cstL call ret (fun q => cutl n (cs q)) fuel) pc lv st w) :
    ∀ (n pc : Nat) (mm : List Bool) (P : Nat → List (Option sv) → List sv → List sc → Prop), cs pc = some (mm, P) → ∀ lv st w, P n lv st w → Zx p l e R s m args below meth c D σ cA A H0 nL (MQ below Qc args s 0 0 free) pc lv st w := by
  intro n
  induction n using Nat.strongRecOn with
  | ind n ih =>
    intro pc mm P hcp lv st w hp
    obtain ⟨⟨i, nx, tg, li⟩, hd, h⟩ := oO_e (show oO _ _ from hinv pc mm P hcp n lv st w hp)
    refine stpi_sound X hf hc hrt (fun pc lv st w q => wp_sound X hf hc hrt hcall hret ?_ fuel pc lv st w q) hcall hret hd h
    intro pc' mm' P' hc' lv' st' w' hp'
    have hc2 : cutl n (cs pc') = some (mm', P') := hc'
    cases h3 : cs pc' with
    | none => rw [h3] at hc2; cases hc2
    | some q =>
      obtain ⟨m2, P2⟩ := q
      rw [h3] at hc2
      cases hc2
      obtain ⟨n', hn', hp'⟩ := hp'
      exact ih n' hn' pc' _ P2 h3 lv' st' w' hp'
end WPS
theorem met_of {y : MethodName} {cc : ByteArray} {nL rk d fuel : Nat} {rt : Option FieldType} {fld : Ft} {cst : Nat → Option Int32} {cstL : Nat → Option Int64} {ct : List (Nat × (List sv → List sc → (List sv → List sc → Prop) → Prop))} {as : List sv} {w : List sc} {K : Option sv → List sc → Prop} (cs : Cts)
    (hy : plainName y.cls = true) (hf : fdo y.cls fld) (hc : cdo y.cls cst cstL) (hrt : rto rk rt) (hct : CallOK cc nL rt y.cls d ct) (hlen : slen as ≤ nL)
    (hinv : ∀ pc mm P, cs pc = some (mm, P) → ∀ n lv st w, P n lv st w → stp cc nL rk fld cst cstL (ctab ct) K (wp cc nL rk fld cst cstL (ctab ct) K (fun q => cutl n (cs q)) fuel) pc lv st w)
    (hst : wp cc nL rk fld cst cstL (ctab ct) K (fun q => cuts (cs q)) fuel 0 (enL as) [] w)
    (l : Launch) (D : va_G) (σ : Nat → Nat) (cA : Nat → ClassId) (sz : Nat) :
    Met l y (.code y cc nL rt :: uW) (rmd d) (va_Pc (as.map (tv σ)) (wPre D σ cA sz w)) (Qg D σ cA (va_A (tw σ cA 0 w) sz) K) 0 0 (va_A (tw σ cA 0 w) sz) := by
  refine Met.ofW (cc := cc) (maxL := nL) (ret := rt) hy rfl ?_
  intro p e s m args below meth c s₁ B hml hv
  obtain ⟨rfl, hsz, hP, hK, hD0, hnw⟩ := hv
  have hts0 := atoms_spec (ws := .code y cc nL rt :: uW) B.pre
  have hown : s.vm.findClass y.cls = some m.cls := findClass_of_methodNamed B.named
  subst hsz
  have hD := hD0.self (sz := s.heap.size)
  generalize hAe : va_A (tw σ cA 0 w) s.heap.size = A at hD ⊢
  have hA : ∀ q : Nat, s.heap.size ≤ q → A q := fun q h => by rw [← hAe]; exact Or.inr h
  have hS : va_S A s.heap s.heap [] := va_S.rf
  have X : Cx p s m (as.map (tv σ)).toArray meth c D cA cc nL rt y.cls := ⟨B.exec, B.bytes, hml, hown, fun w hw => hts0 w (List.mem_cons_of_mem _ hw), hK, B.notSynchronized, B.returns⟩
  have hcall : ∀ pc st w kk, ctab ct pc st w kk → ∀ lv, (∀ st' w', kk st' w' → Zx p l e (rmd d) s m (as.map (tv σ)).toArray below meth c D σ cA A s.heap nL (MQ below (Qg D σ cA A K) (as.map (tv σ)).toArray s 0 0 A) (pc + 3) lv st' w') → Zx p l e (rmd d) s m (as.map (tv σ)).toArray below meth c D σ cA A s.heap nL (MQ below (Qg D σ cA A K) (as.map (tv σ)).toArray s 0 0 A) pc lv st w := by
    intro pc st w kk h lv hk
    obtain ⟨f, hs, hf⟩ := ctab_use hct h
    exact hs p l e s m _ below meth c D σ cA A _ X hnw hA st w kk hf lv hk
  have hret : ∀ r w, K r w → ∀ H locs, va_P D vwCl (tw σ cA 0 w) H → va_D A (tw σ cA 0 w) → va_S A s.heap H locs → (∀ t : State, t.heap = H → s.WarmedH t.vm → Qg D σ cA A K (as.map (tv σ)).toArray s (.returned (r.map (tv σ))) t) ∧ ∀ q ∈ locs, A q.base := by
    intro r w' hK' H locs hP' hD' hS'
    exact ⟨fun t ht _ => ⟨⟨r, w', rfl, hK', by rw [ht]; exact hP', hD'⟩, hS'.F ht⟩, hS'.2.2⟩
  have hl := lv_entry (as.map (tv σ)) (n := nL) (by rw [slen_ok]; exact hlen)
  rw [lg_entry_eq]
  generalize (lg_sl (as.map (tv σ)) ++ List.replicate (nL - (lg_sl (as.map (tv σ))).length) Slot.unset).toArray = ls at hl ⊢
  have hz := wp_sound (p := p) (l := l) (e := e) (R := rmd d) (below := below) (σ := σ) (A := A) (H0 := s.heap) (Qc := Qg D σ cA A K) (free := A) X hf hc hrt hcall hret (cut := fun q => cuts (cs q)) (by
    intro pc mm P hcp lv st w hp
    cases h3 : cs pc with
    | none => simp [h3, cuts] at hcp
    | some q =>
      obtain ⟨m2, P2⟩ := q
      simp only [h3, cuts, Option.some.injEq, Prod.mk.injEq] at hcp
      obtain ⟨rfl, rfl⟩ := hcp
      obtain ⟨n, hp⟩ := hp
      exact cuts_sound X hf hc hrt hcall hret hinv n pc m2 P2 h3 lv st w hp) fuel 0 (enL as) [] w hst
  exact hz s.heap [] ls hP hD hS (lvh_sub hl (enL_ok σ as 0))
end
section
/-! ===== calls: in the same world, in a part of it ===== -/
def popN : Nat → List sv → List sv → (List sv → List sv → Prop) → Prop
  | 0, st, acc, f => f acc st
  | n + 1, v :: st, acc, f => popN n st (v :: acc) f
  | _ + 1, [], _, _ => False
theorem popN_e : ∀ {n : Nat} {st acc : List sv} {f : List sv → List sv → Prop}, popN n st acc f → ∃ as rest, st = as.reverse ++ rest ∧ as.length = n ∧ f (as ++ acc) rest
  | 0, st, acc, f, h => ⟨[], st, rfl, rfl, h⟩
  | n + 1, [], acc, f, h => h.elim
  | n + 1, v :: st, acc, f, h => by
    obtain ⟨as, rest, h1, h2, h3⟩ := popN_e (show popN n st (v :: acc) f from h)
    exact ⟨as ++ [v], rest, by rw [h1]; simp, by simp [h2], by simpa using h3⟩
def rcat : List sv → Nat
  | [] => 0
  | .inl _ :: r => rcat r + 1
  | .inr (.inl _) :: r => rcat r + 2
  | .inr (.inr _) :: r => rcat r + 1
theorem rcat_ok (σ : Nat → Nat) : ∀ (st : List sv), ((st.map (tv σ)).map fun v => v.category).sum = rcat st
  | [] => rfl
  | .inl x :: r => by simp [rcat, tv, Value.category, ← rcat_ok σ r]; omega
  | .inr (.inl x) :: r => by simp [rcat, tv, Value.category, ← rcat_ok σ r]; omega
  | .inr (.inr x) :: r => by simp [rcat, tv, rf_cat, ← rcat_ok σ r]; omega
def rok : Option Nat → List sv → List sc → Prop
  | none, _, _ => True
  | some ci, .inr (.inr (some k)) :: _, w => cO (nth w k) fun cj _ => cj = ci
  | _, _, _ => False
def oL : Option sv → List sv
  | none => []
  | some v => [v]
theorem oL_ok (σ : Nat → Nat) (r : Option sv) (rest : List sv) : (oL r ++ rest).map (tv σ) = (r.map (tv σ)).toList ++ rest.map (tv σ) := by cases r <;> simp [oL]
/-- a call on the whole world -/
def cS (vk : Option Nat) (na : Nat) (F : Fn) (st : List sv) (w : List sc) (kk : List sv → List sc → Prop) : Prop :=
  popN na st [] fun as rest => rcat rest ≤ 8 ∧ rok vk as w ∧ F as w fun r w' => kk (oL r ++ rest) w'
def ixo : List Nat → Nat → Nat → Nat → Nat
  | [], x, _, n => n + x
  | a :: r, x, k, n => if x = a then k else ixo r x (k + 1) n
def rn (is : List Nat) (x : Nat) : Nat := ixo is x 0 is.length
def unO (n k : Nat) : Option Nat → Nat
  | some i => i
  | none => k - n
def un (is : List Nat) (k : Nat) : Nat := unO is.length k (nth is k)
theorem ixo_un : ∀ (pre r : List Nat) (x : Nat), un (pre ++ r) (ixo r x pre.length (pre ++ r).length) = x
  | pre, [], x => by
    have h : nth pre (pre.length + x) = none := by rw [nth_eq]; simp
    simp [ixo, un, h, unO]
  | pre, a :: r, x => by
    unfold ixo
    by_cases e : x = a
    · subst e
      simp [un, nth_eq, unO]
    · rw [if_neg e]
      have := ixo_un (pre ++ [a]) r x
      simpa using this
theorem un_rn (is : List Nat) (x : Nat) : un is (rn is x) = x := ixo_un [] is x
def renv (is : List Nat) : sv → sv
  | .inl x => .inl x
  | .inr (.inl x) => .inr (.inl x)
  | .inr (.inr none) => .inr (.inr none)
  | .inr (.inr (some x)) => .inr (.inr (some (rn is x)))
def unrv (is : List Nat) : sv → sv
  | .inl x => .inl x
  | .inr (.inl x) => .inr (.inl x)
  | .inr (.inr none) => .inr (.inr none)
  | .inr (.inr (some x)) => .inr (.inr (some (un is x)))
def renc (is : List Nat) : sc → sc
  | .inl (ci, fs) => .inl (ci, fs.map (renv is))
  | .inr (t, n, .inl f) => .inr (t, n, .inl f)
  | .inr (t, n, .inr (.inl f)) => .inr (t, n, .inr (.inl f))
  | .inr (t, n, .inr (.inr f)) => .inr (t, n, .inr (.inr (fun i => (f i).map (rn is))))
def unrc (is : List Nat) : sc → sc
  | .inl (ci, fs) => .inl (ci, fs.map (unrv is))
  | .inr (t, n, .inl f) => .inr (t, n, .inl f)
  | .inr (t, n, .inr (.inl f)) => .inr (t, n, .inr (.inl f))
  | .inr (t, n, .inr (.inr f)) => .inr (t, n, .inr (.inr (fun i => (f i).map (un is))))
theorem tv_ren (σ : Nat → Nat) (is : List Nat) (v : sv) : tv (fun k => σ (un is k)) (renv is v) = tv σ v := by
  rcases v with x | x | x
  · rfl
  · rfl
  · cases x with
    | none => rfl
    | some x => simp [renv, tv, un_rn]
theorem tv_unr (σ : Nat → Nat) (is : List Nat) (v : sv) : tv σ (unrv is v) = tv (fun k => σ (un is k)) v := by
  rcases v with x | x | x
  · rfl
  · rfl
  · cases x <;> rfl
theorem tc_ren (σ : Nat → Nat) (cA : Nat → ClassId) (is : List Nat) (c : sc) : tc (fun k => σ (un is k)) cA (renc is c) = tc σ cA c := by
  rcases c with ⟨ci, fs⟩ | ⟨t, n, f | f | f⟩
  · simp [renc, tc, tv_ren]
  · rfl
  · rfl
  · have e : (fun i => ((f i).map (rn is)).map (fun k => σ (un is k))) = (fun i => (f i).map σ) := by
      funext i
      cases f i with
      | none => rfl
      | some x => simp [un_rn]
    simp only [renc, tc]
    rw [e]
theorem tc_unr (σ : Nat → Nat) (cA : Nat → ClassId) (is : List Nat) (c : sc) : tc σ cA (unrc is c) = tc (fun k => σ (un is k)) cA c := by
  rcases c with ⟨ci, fs⟩ | ⟨t, n, f | f | f⟩
  · have e : (fs.map (unrv is)).map (tv σ) = fs.map (tv (fun k => σ (un is k))) := by
      rw [List.map_map]
      exact List.map_congr_left (fun v _ => tv_unr σ is v)
    simp only [unrc, tc]
    rw [e]
  · rfl
  · rfl
  · have e : (fun i => ((f i).map (un is)).map σ) = (fun i => (f i).map (fun k => σ (un is k))) := by
      funext i
      cases f i <;> rfl
    simp only [unrc, tc]
    rw [e]
def pick : List Nat → List sc → (List sc → Prop) → Prop
  | [], _, f => f []
  | i :: r, w, f => oO (nth w i) fun c => pick r w fun cs => f (c :: cs)
theorem pick_e : ∀ {is : List Nat} {w : List sc} {f : List sc → Prop}, pick is w f → ∃ cs, f cs ∧ cs.length = is.length ∧ ∀ k i, nth is k = some i → ∃ c, nth w i = some c ∧ nth cs k = some c
  | [], w, f, h => ⟨[], h, rfl, fun k i hk => by cases k <;> cases hk⟩
  | i :: r, w, f, h => by
    obtain ⟨c, hc, h⟩ := oO_e h
    obtain ⟨cs, h1, h2, h3⟩ := pick_e h
    refine ⟨c :: cs, h1, by simp [h2], fun k j hk => ?_⟩
    cases k with
    | zero => cases hk; exact ⟨c, hc, rfl⟩
    | succ k => exact h3 k j hk
def putw (is0 : List Nat) : List Nat → List sc → List sc → List sc
  | i :: r, w, c :: cs => putw is0 r (snth w i (unrc is0 c)) cs
  | _, w, _ => w
theorem nth_snth {α : Type} : ∀ (l : List α) (i j : Nat) (x c : α), nth (snth l i x) j = some c → (j = i ∧ c = x ∧ ∃ c', nth l j = some c') ∨ (j ≠ i ∧ nth l j = some c)
  | [], i, j, x, c, h => by simp [snth, nth] at h
  | a :: r, 0, 0, x, c, h => by cases h; exact Or.inl ⟨rfl, rfl, a, rfl⟩
  | a :: r, 0, j + 1, x, c, h => Or.inr ⟨by omega, h⟩
  | a :: r, i + 1, 0, x, c, h => Or.inr ⟨by omega, h⟩
  | a :: r, i + 1, j + 1, x, c, h => by
    rcases nth_snth r i j x c h with ⟨h1, h2, h3⟩ | ⟨h1, h2⟩
    · exact Or.inl ⟨by omega, h2, h3⟩
    · exact Or.inr ⟨by omega, h2⟩
theorem putw_e (is0 : List Nat) : ∀ {r : List Nat} {w cs : List sc} {j : Nat} {c : sc}, r.length = cs.length → nth (putw is0 r w cs) j = some c → (∃ k c', nth r k = some j ∧ nth cs k = some c' ∧ c = unrc is0 c') ∨ (j ∉ r ∧ nth w j = some c)
  | [], w, [], j, c, _, h => Or.inr ⟨by simp, h⟩
  | i :: r, w, c0 :: cs, j, c, hl, h => by
    rcases putw_e is0 (r := r) (by simpa using hl) (show nth (putw is0 r (snth w i (unrc is0 c0)) cs) j = some c from h) with ⟨k, c', h1, h2, h3⟩ | ⟨h1, h2⟩
    · exact Or.inl ⟨k + 1, c', h1, h2, h3⟩
    · rcases nth_snth _ _ _ _ _ h2 with ⟨e, h3, -⟩ | ⟨e, h3⟩
      · exact Or.inl ⟨0, c0, by rw [e]; rfl, rfl, h3⟩
      · exact Or.inr ⟨by simp [e, h1], h3⟩
theorem putw_d (is0 : List Nat) : ∀ {r : List Nat} {w cs : List sc} {j : Nat} {c : sc}, nth (putw is0 r w cs) j = some c → ∃ c', nth w j = some c'
  | [], w, cs, j, c, h => by cases cs <;> exact ⟨c, h⟩
  | i :: r, w, [], j, c, h => ⟨c, h⟩
  | i :: r, w, c0 :: cs, j, c, h => by
    obtain ⟨c1, h1⟩ := putw_d is0 (r := r) (cs := cs) (show nth (putw is0 r (snth w i (unrc is0 c0)) cs) j = some c from h)
    rcases nth_snth _ _ _ _ _ h1 with ⟨-, -, h3⟩ | ⟨-, h3⟩
    · exact h3
    · exact ⟨_, h3⟩
/-- a call on a part of the world: the cells of the list -/
def cG (is : List Nat) (vk : Option Nat) (na : Nat) (F : Fn) (st : List sv) (w : List sc) (kk : List sv → List sc → Prop) : Prop :=
  popN na st [] fun as rest => rcat rest ≤ 8 ∧ pick is w fun cs => rok vk (as.map (renv is)) (cs.map (renc is)) ∧ F (as.map (renv is)) (cs.map (renc is)) fun r wc => is.length = wc.length ∧ kk (oL (r.map (unrv is)) ++ rest) (putw is is w wc)
theorem wPre_blind {D : va_G} {σ : Nat → Nat} {cA : Nat → ClassId} {sz : Nat} {w : List sc} {av : List Value} : FrameBlind (va_Pc av (wPre D σ cA sz w)) := by
  intro a U g mk q
  obtain ⟨q0, q1, qP, qK, qD, qN⟩ := q
  exact ⟨q0, q1, qP, va_K.moved (u := U) (U := U.calling g mk a) (Vm.Alike.refl U.vm) qK, qD, fun q hq => va_Nw.same rfl rfl (qN q hq)⟩
section RUN
variable {p : Program} {l : Launch} {e : Env} {R : Room} {s : State} {m : MethodId} {args : Array Value} {below : List Frame} {meth : Method} {c : Code} {D : va_G} {σ : Nat → Nat} {cA : Nat → ClassId} {A0 A1 : Nat → Prop} {H0 H : Heap} {nL : Nat} {locs : List Loc} {Q : State → Prop}
theorem wPre_at {w : List sc} (hK : va_K D vwCl (tysL cA) s) (hnw : NW s) (hP : va_P D vwCl (tw σ cA 0 w) H) (hD : va_D A0 (tw σ cA 0 w)) (U : State) (hU : U.heap = H) (hW : s.WarmedH U.vm) : wPre D σ cA H.size w U :=
  ⟨by rw [hU], by rw [hU]; exact hP, va_K.moved hW.alike hK, hD.weaken (fun _ _ _ _ => trivial), fun q hq => va_Nw.warmM hW (hnw q hq)⟩
theorem run_go {K : Option sv → List sc → Prop} {free : Addr → Prop} {a : Array Value} {pc : Nat} {ls : Array Slot} {st0 rest : List Value} (hr : va_Run p l e R s m args below meth c H locs 0 0 0 0 (F0 m pc ls st0) rest (Qg D σ cA A1 K a) free) (hS : va_S A0 H0 H locs) (hA : ∀ q, q < H.size → A1 q → A0 q) (hf : ∀ q, free q → A0 q)
    (kk : ∀ (r : Option sv) (w' : List sc) (H1 : Heap) (locs1 : List Loc), K r w' → va_P D vwCl (tw σ cA 0 w') H1 → va_D A1 (tw σ cA 0 w') → H.size ≤ H1.size → (∀ q : Nat, q < H.size → ¬ A1 q → H1[q]? = H[q]?) → va_S A0 H0 H1 locs1 → W p l e R s m args below meth c H1 locs1 0 0 Q (F0 m (pc + 3) ls ((r.map (tv σ)).toList ++ rest))) : W p l e R s m args below meth c H locs 0 0 Q (F0 m pc ls st0) := by
  intro T hT X
  obtain ⟨v, st₀, t, T', L, h0, X', hL, e1, e2, ⟨⟨r, w', hv, hk, hp, hd⟩, hz, hkp⟩, st⟩ := hr T hT X
  cases hv
  rw [h0] at hz hkp
  obtain ⟨t2, a1, b1⟩ := kk r w' T'.heap (locs ++ L) hk (by rw [e1]; exact hp) hd (by rw [e1]; exact hz) (fun q h1 h2 => by rw [e1]; exact hkp q h1 h2)
    ⟨Nat.le_trans hS.1 (by rw [e1]; exact hz), fun q h1 h2 => by rw [e1, hkp q (Nat.lt_of_lt_of_le h1 hS.1) (fun z => h2 (hA q (Nat.lt_of_lt_of_le h1 hS.1) z))]; exact hS.2.1 q h1 h2, fun q hq => by
      rcases List.mem_append.mp hq with h | h
      · exact hS.2.2 q h
      · exact hf _ (hL q h)⟩ T' rfl X'
  exact ⟨t2, st t2 a1, b1⟩
end RUN
def RunOK (cc : ByteArray) (nL : Nat) (rt : Option FieldType) (own : String) (d pc : Nat) (vk : Option Nat) (na : Nat) (F : Fn) : Prop :=
  ∀ (p : Program) (l : Launch) (e : Env) (s : State) (m : MethodId) (args : Array Value) (below : List Frame) (meth : Method) (c : Code) (D : va_G) (σ : Nat → Nat) (cA : Nat → ClassId), Cx p s m args meth c D cA cc nL rt own → NW s →
    ∀ (H : Heap) (locs : List Loc) (ls : Array Slot) (as : List sv) (w : List sc) (K : Option sv → List sc → Prop) (B : Nat → Prop) (restV : List Value), F as w K → as.length = na → rok vk as w → va_P D vwCl (tw σ cA 0 w) H → va_D B (tw σ cA 0 w) → ls.size = nL → (restV.map fun v => v.category).sum ≤ 8 →
      va_Run p l e (rmd d) s m args below meth c H locs 0 0 0 0 (F0 m pc ls ((as.map (tv σ)).reverse ++ restV)) restV (Qg D σ cA (va_A (tw σ cA 0 w) H.size) K (as.map (tv σ)).toArray) (va_A (tw σ cA 0 w) H.size)
theorem good_code {y : MethodName} {cc : ByteArray} {nL : Nat} {rt : Option FieldType} (h : Cond.code y cc nL rt ∈ uW) : GoodIn uW (.code y cc nL rt :: uW) := by
  intro w hw
  rcases List.mem_cons.mp hw with rfl | hw
  · exact uW_good _ h
  · exact uW_good _ hw
theorem run_S {cc cc' : ByteArray} {nL nL' d d' pc idx na : Nat} {rt rt' : Option FieldType} {own : String} {y : MethodName} {F : Fn} (hdg : decode cc pc = .ok (.invokestatic idx, 3)) (hct : Ct y cc' nL' rt' d' F) (hcode : Cond.code y cc' nL' rt' ∈ uW) (hl : Cond.methodLink own idx y ∈ uW) (hst : Cond.static y ∈ uW) (hin : Cond.initialized y.cls ∈ uW)
    (hd : y.cls ≠ "java/lang/invoke/MethodHandle" ∧ y.cls ≠ "java/lang/invoke/VarHandle" ∧ (parseMethodDescriptor y.desc).map (fun d => d.parameters.length) = some na) (hdd : d' + 1 ≤ d) (hnl : nL' ≤ 81) : RunOK cc nL rt own d pc none na F := by
  intro p l e s m args below meth c D σ cA X hnw H locs ls as w K B restV hF hlen _ hP hD hls hrc
  obtain ⟨hx, hb, hml, hown, hts, hK, hlocks, hr⟩ := X
  have hM := hct l D σ cA H.size as w K hF
  have cb : CallB (rmd d) s args own idx y cc' nL' rt' (.code y cc' nL' rt' :: uW) (rmd d') 0 0 na := callB_of na hts (good_code hcode) rfl rfl rfl (hts _ hin) (hts _ hl) hd ⟨hdd, by show 8 + (nL' + 11) + 100 * d' ≤ 100 * d; omega⟩
  exact va_runS (As := as.map (tv σ)) (rest := restV) (nL := nL) ⟨hx, hb, hml, hown, hts⟩ hM ⟨cb, hts _ hst⟩ ⟨wPre_blind, fun U hU hW => ⟨rfl, wPre_at hK hnw hP hD U hU hW⟩⟩ rfl (by rw [List.length_map]; exact hlen) hls rfl (lv_room hrc) hdg ⟨Nat.le_refl 0, Nat.le_refl 0⟩
theorem run_N {cc cc' : ByteArray} {nL nL' d d' pc idx na : Nat} {rt rt' : Option FieldType} {own host : String} {y : MethodName} {F : Fn} (hdg : decode cc pc = .ok (.invokestatic idx, 3)) (hct : Ct y cc' nL' rt' d' F) (hcode : Cond.code y cc' nL' rt' ∈ uW) (hl : (own, idx, y, host) ∈ NWl) (hst : Cond.static y ∈ uW) (hin : Cond.initialized y.cls ∈ uW)
    (hd : y.cls ≠ "java/lang/invoke/MethodHandle" ∧ y.cls ≠ "java/lang/invoke/VarHandle" ∧ (parseMethodDescriptor y.desc).map (fun d => d.parameters.length) = some na) (hdd : d' + 1 ≤ d) (hnl : nL' ≤ 81) : RunOK cc nL rt own d pc none na F := by
  intro p l e s m args below meth c D σ cA X hnw H locs ls as w K B restV hF hlen _ hP hD hls hrc
  obtain ⟨hx, hb, hml, hown, hts, hK, hlocks, hr⟩ := X
  have hM := hct l D σ cA H.size as w K hF
  have cb := va_cnB (R := rmd d) (s := s) (args := args) (own := own) (host := host) (index := idx) (maxL := nL') (mc := 0) (ms := 0) (y := y) (bytes := cc') (ret := rt') (Ts := uW) (ws := .code y cc' nL' rt' :: uW) (rm := rmd d') na hts (good_code hcode) rfl rfl rfl (hnw _ hl) (hts _ hin) hd ⟨hdd, by show 8 + (nL' + 11) + 100 * d' ≤ 100 * d; omega⟩
  exact va_runSN (As := as.map (tv σ)) (rest := restV) (nL := nL) ⟨hx, hb, hml, hown, hts⟩ hM ⟨cb, hts _ hst, trivial⟩ ⟨wPre_blind, fun U hU hW => ⟨rfl, wPre_at hK hnw hP hD U hU hW⟩⟩ rfl (by rw [List.length_map]; exact hlen) hls rfl (lv_room hrc) hdg ⟨Nat.le_refl 0, Nat.le_refl 0⟩
theorem run_V {cc cc' : ByteArray} {nL nL' d d' pc idx na ci N : Nat} {T : u_T} {rt rt' : Option FieldType} {own : String} {y : MethodName} {F : Fn} (hdg : decode cc pc = .ok (.invokevirtual idx, 3)) (hct : Ct y cc' nL' rt' d' F) (hcode : Cond.code y cc' nL' rt' ∈ uW) (hl : Cond.methodLink own idx y ∈ uW) (hst : Cond.instanceMethod y ∈ uW) (hse : Cond.selects y.cls y y ∈ uW) (hin : Cond.initialized y.cls ∈ uW)
    (hci : vwCl[ci]? = some (y.cls, T, N)) (hd : y.cls ≠ "java/lang/invoke/MethodHandle" ∧ y.cls ≠ "java/lang/invoke/VarHandle" ∧ (parseMethodDescriptor y.desc).map (fun d => d.parameters.length) = some na) (hdd : d' + 1 ≤ d) (hnl : nL' ≤ 81) : RunOK cc nL rt own d pc (some ci) (na + 1) F := by
  intro p l e s m args below meth c D σ cA X hnw H locs ls as w K B restV hF hlen hrok hP hD hls hrc
  obtain ⟨hx, hb, hml, hown, hts, hK, hlocks, hr⟩ := X
  have hM := hct l D σ cA H.size as w K hF
  have cb : CallB (rmd d) s args own idx y cc' nL' rt' (.code y cc' nL' rt' :: uW) (rmd d') 0 0 na := callB_of na hts (good_code hcode) rfl rfl rfl (hts _ hin) (hts _ hl) hd ⟨hdd, by show 8 + (nL' + 11) + 100 * d' ≤ 100 * d; omega⟩
  match as, hrok with
  | .inr (.inr (some k)) :: as', hrok =>
    obtain ⟨cj, fs, hw, rfl⟩ := cO_e hrok
    have he := tw_nth (σ := σ) (cA := cA) (k := 0) hw
    rw [Nat.zero_add] at he
    have hst' : (((.inr (.inr (some k)) :: as' : List sv).map (tv σ)).reverse ++ restV) = (as'.map (tv σ)).reverse ++ Value.ref (σ k) :: restV := by simp [tv, va_rf]
    rw [hst']
    exact va_runV (C := y.cls) (As := as'.map (tv σ)) (rest := restV) (nL := nL) (n := na) ⟨hx, hb, hml, hown, hts⟩ hM ⟨cb, hts _ hst, hts _ hse⟩ ⟨wPre_blind, va_recv hK hP hci he, fun U hU hW => ⟨rfl, wPre_at hK hnw hP hD U hU hW⟩⟩ rfl (by rw [List.length_map]; simpa using hlen) hls rfl (lv_room hrc) hdg ⟨Nat.le_refl 0, Nat.le_refl 0⟩
theorem site_same {cc : ByteArray} {nL d pc na : Nat} {rt : Option FieldType} {own : String} {vk : Option Nat} {F : Fn} (hR : RunOK cc nL rt own d pc vk na F) : SiteOK cc nL rt own d pc (cS vk na F) := by
  intro p l e s m args below meth c D σ cA A Q X hnw hA st w kk h lv hk H locs ls hP hD hS hlv
  obtain ⟨as, rest, rfl, hlen, hrc, hrok, hF⟩ := popN_e h
  rw [List.append_nil] at hrok hF
  have hrun := hR p l e s m args below meth c D σ cA X hnw H locs ls as w _ A (rest.map (tv σ)) hF hlen hrok hP hD hlv.1 (by rw [rcat_ok]; exact hrc)
  have hFc : ∀ q, va_A (tw σ cA 0 w) H.size q → A q := by
    intro q h
    rcases h with ⟨k, e, h⟩ | h
    · exact hD.2 k _ h
    · exact hA q (Nat.le_trans hS.1 h)
  rw [List.map_append, List.map_reverse]
  refine run_go hrun hS (fun q _ h => hFc q h) hFc (fun r w' H1 locs1 hK1 hP1 hD1 _ _ hS1 => ?_)
  have := hk _ _ hK1 H1 locs1 ls hP1 (hD1.weaken (fun _ _ _ h => hFc _ h)) hS1 hlv
  rwa [oL_ok] at this
theorem nodup_nth {is : List Nat} (hn : va_nd is = true) {k1 k2 i : Nat} (h1 : nth is k1 = some i) (h2 : nth is k2 = some i) : k1 = k2 := by
  rw [nth_eq] at h1 h2
  exact va_nd_inj is hn k1 k2 i h1 h2
theorem site_gen {cc : ByteArray} {nL d pc na : Nat} {rt : Option FieldType} {own : String} {vk : Option Nat} {F : Fn} (is : List Nat) (hn : va_nd is = true) (hR : RunOK cc nL rt own d pc vk na F) : SiteOK cc nL rt own d pc (cG is vk na F) := by
  intro p l e s m args below meth c D σ cA A Q X hnw hA st w kk h lv hk H locs ls hP hD hS hlv
  obtain ⟨as, rest, rfl, hlen, hrc, h⟩ := popN_e h
  obtain ⟨cs, ⟨hrok, hF⟩, hcl, hcs⟩ := pick_e h
  rw [List.append_nil] at hrok hF
  have hcell : ∀ k c', nth (cs.map (renc is)) k = some c' → ∃ i c, nth is k = some i ∧ nth w i = some c ∧ c' = renc is c := by
    intro k c' hk
    rw [nth_eq, List.getElem?_map] at hk
    obtain ⟨c, hc, rfl⟩ := Option.map_eq_some_iff.mp hk
    have hk2 : k < is.length := by
      rw [← hcl]
      exact (List.getElem?_eq_some_iff.mp hc).1
    obtain ⟨c2, g1, g2⟩ := hcs k is[k] (by rw [nth_eq]; exact List.getElem?_eq_getElem hk2)
    rw [nth_eq, hc] at g2
    cases g2
    exact ⟨is[k], c, by rw [nth_eq]; exact List.getElem?_eq_getElem hk2, g1, rfl⟩
  have hun : ∀ k i, nth is k = some i → un is k = i := fun k i hk => by simp [un, hk, unO]
  have hPc : va_P D vwCl (tw (fun k => σ (un is k)) cA 0 (cs.map (renc is))) H := by
    intro k q hq
    obtain ⟨c', h1, rfl⟩ := tw_of hq
    obtain ⟨i, c, g1, g2, rfl⟩ := hcell k c' h1
    have := hP i _ (tw_nth (σ := σ) (cA := cA) (k := 0) g2)
    rw [Nat.zero_add] at this ⊢
    rw [tc_ren]
    show va_at D vwCl (σ (un is k), _) H
    rw [hun k i g1]; exact this
  have hDc : va_D A (tw (fun k => σ (un is k)) cA 0 (cs.map (renc is))) := by
    refine ⟨fun k1 k2 q1 q2 h1 h2 e => ?_, fun k q hq => ?_⟩
    · obtain ⟨c1, a1, rfl⟩ := tw_of h1
      obtain ⟨c2, a2, rfl⟩ := tw_of h2
      obtain ⟨i1, d1, b1, b2, -⟩ := hcell k1 c1 a1
      obtain ⟨i2, d2, b3, b4, -⟩ := hcell k2 c2 a2
      simp only [Nat.zero_add, hun _ _ b1, hun _ _ b3] at e
      have := hD.1 i1 i2 _ _ (tw_nth (σ := σ) (cA := cA) (k := 0) b2) (tw_nth (σ := σ) (cA := cA) (k := 0) b4) (by simpa using e)
      subst this
      exact nodup_nth hn b1 b3
    · obtain ⟨c1, a1, rfl⟩ := tw_of hq
      obtain ⟨i1, d1, b1, b2, -⟩ := hcell k c1 a1
      have := hD.2 i1 _ (tw_nth (σ := σ) (cA := cA) (k := 0) b2)
      simpa [hun _ _ b1] using this
  have hrun := hR p l e s m args below meth c D (fun k => σ (un is k)) cA X hnw H locs ls _ _ _ A (rest.map (tv σ)) hF (by rw [List.length_map]; exact hlen) hrok hPc hDc hlv.1 (by rw [rcat_ok]; exact hrc)
  have hFc : ∀ q, va_A (tw (fun k => σ (un is k)) cA 0 (cs.map (renc is))) H.size q → A q := by
    intro q h
    rcases h with ⟨k, e, h⟩ | h
    · exact hDc.2 k _ h
    · exact hA q (Nat.le_trans hS.1 h)
  have has : (as.map (renv is)).map (tv (fun k => σ (un is k))) = as.map (tv σ) := by
    rw [List.map_map]
    exact List.map_congr_left (fun v _ => tv_ren σ is v)
  rw [has] at hrun
  rw [List.map_append, List.map_reverse]
  refine run_go hrun hS (fun q _ h => hFc q h) hFc (fun r wc H1 locs1 hK1 hP1 hD1 _ hkp hS1 => ?_)
  obtain ⟨hl1, hK1⟩ := hK1
  have hP2 : va_P D vwCl (tw σ cA 0 (putw is is w wc)) H1 := by
    intro j q hq
    obtain ⟨c, h1, rfl⟩ := tw_of hq
    rw [Nat.zero_add]
    rcases putw_e is hl1 h1 with ⟨k, c', g1, g2, rfl⟩ | ⟨g1, g2⟩
    · have := hP1 k _ (tw_nth (σ := fun k => σ (un is k)) (cA := cA) (k := 0) g2)
      rw [tc_unr]
      simp only [Nat.zero_add, hun _ _ g1] at this
      exact this
    · have h2 := hP j _ (tw_nth (σ := σ) (cA := cA) (k := 0) g2)
      rw [Nat.zero_add] at h2
      refine h2.kept (hkp _ h2.lt ?_)
      rintro (⟨k, e, h3⟩ | h3)
      · obtain ⟨c1, a1, a2⟩ := tw_of h3
        obtain ⟨i1, d1, b1, b2, -⟩ := hcell k c1 a1
        have e1 : σ j = σ i1 := by
          have := congrArg Prod.fst a2
          simpa [hun _ _ b1] using this
        have := hD.1 j i1 _ _ (tw_nth (σ := σ) (cA := cA) (k := 0) g2) (tw_nth (σ := σ) (cA := cA) (k := 0) b2) (by simpa using e1)
        subst this
        rw [nth_eq] at b1
        exact g1 (List.mem_of_getElem? b1)
      · exact absurd h2.lt (Nat.not_lt.mpr h3)
  have hD2 : va_D A (tw σ cA 0 (putw is is w wc)) := by
    refine ⟨fun k1 k2 q1 q2 h1 h2 e => ?_, fun k q hq => ?_⟩
    · obtain ⟨c1, a1, rfl⟩ := tw_of h1
      obtain ⟨c2, a2, rfl⟩ := tw_of h2
      obtain ⟨d1, b1⟩ := putw_d is a1
      obtain ⟨d2, b2⟩ := putw_d is a2
      exact hD.1 k1 k2 _ _ (tw_nth (σ := σ) (cA := cA) (k := 0) b1) (tw_nth (σ := σ) (cA := cA) (k := 0) b2) e
    · obtain ⟨c1, a1, rfl⟩ := tw_of hq
      obtain ⟨d1, b1⟩ := putw_d is a1
      have h9 := hD.2 k _ (tw_nth (σ := σ) (cA := cA) (k := 0) b1)
      exact h9
  have := hk _ _ hK1 H1 locs1 ls hP2 hD2 hS1 hlv
  rw [oL_ok] at this
  have e2 : (r.map (unrv is)).map (tv σ) = r.map (tv (fun k => σ (un is k))) := by
    cases r with
    | none => rfl
    | some v => simp [tv_unr]
  rwa [e2] at this
end
section
theorem uT {w : Cond} (i : Nat) (h : tables_1[i]? = some w) (hg : goodWord w = true) : w ∈ uW := uW_of (List.mem_append_right _ (List.mem_of_getElem? h)) hg
theorem uP {w : Cond} (i : Nat) (h : (k2_sels lw_privs)[i]? = some w) (hg : goodWord w = true) : w ∈ uW := uW_of (List.mem_append_left _ (List.mem_of_getElem? h)) hg
def KS (y : MethodName) (cc : ByteArray) (nL : Nat) (rt : Option FieldType) (na : Nat) : Prop := Cond.code y cc nL rt ∈ uW ∧ Cond.static y ∈ uW ∧ Cond.initialized y.cls ∈ uW ∧ (y.cls ≠ "java/lang/invoke/MethodHandle" ∧ y.cls ≠ "java/lang/invoke/VarHandle" ∧ (parseMethodDescriptor y.desc).map (fun d => d.parameters.length) = some na) ∧ nL ≤ 81 ∧ plainName y.cls = true
def KV (y : MethodName) (cc : ByteArray) (nL : Nat) (rt : Option FieldType) (na ci : Nat) : Prop := Cond.code y cc nL rt ∈ uW ∧ Cond.instanceMethod y ∈ uW ∧ Cond.selects y.cls y y ∈ uW ∧ Cond.initialized y.cls ∈ uW ∧ (y.cls ≠ "java/lang/invoke/MethodHandle" ∧ y.cls ≠ "java/lang/invoke/VarHandle" ∧ (parseMethodDescriptor y.desc).map (fun d => d.parameters.length) = some na) ∧ (∃ T N, vwCl[ci]? = some (y.cls, T, N)) ∧ nL ≤ 81 ∧ plainName y.cls = true
def lkF {α : Type} : List (Nat × α) → Nat → Option α
  | [], _ => none
  | (q, a) :: t, i => if i = q then some a else lkF t i
theorem lkF_e {α : Type} {P : Nat → α → Prop} : ∀ {L : List (Nat × α)} {i : Nat} {v : α}, (∀ q ∈ L, P q.1 q.2) → lkF L i = some v → P i v
  | [], _, _, _, h => by cases h
  | (q, a) :: t, i, v, hL, h => by
    unfold lkF at h
    by_cases e : i = q
    · rw [if_pos e] at h; cases h; rw [e]; exact hL _ List.mem_cons_self
    · rw [if_neg e] at h; exact lkF_e (fun z hz => hL z (List.mem_cons_of_mem _ hz)) h

theorem kX5_bestWish : KV yX5_bestWish cX5_bestWish 8 (some .int) 3 3 := ⟨uT 381 (by decide +kernel) rfl, uT 379 (by decide +kernel) rfl, uT 380 (by decide +kernel) rfl, uT 1 (by decide +kernel) rfl, ⟨by decide +kernel, by decide +kernel, by decide +kernel⟩, ⟨_, _, rfl⟩, by decide, by decide +kernel⟩
theorem kX5_buy : KV yX5_buy cX5_buy 6 (some .int) 1 3 := ⟨uT 385 (by decide +kernel) rfl, uT 383 (by decide +kernel) rfl, uT 384 (by decide +kernel) rfl, uT 1 (by decide +kernel) rfl, ⟨by decide +kernel, by decide +kernel, by decide +kernel⟩, ⟨_, _, rfl⟩, by decide, by decide +kernel⟩
theorem kX5_choose : KV yX5_choose cX5_choose 9 none 4 3 := ⟨uT 488 (by decide +kernel) rfl, uT 487 (by decide +kernel) rfl, uP 13 (by decide +kernel) rfl, uT 1 (by decide +kernel) rfl, ⟨by decide +kernel, by decide +kernel, by decide +kernel⟩, ⟨_, _, rfl⟩, by decide, by decide +kernel⟩
theorem kX5_comes : KV yX5_comes cX5_comes 4 (some .int) 2 3 := ⟨uT 311 (by decide +kernel) rfl, uT 309 (by decide +kernel) rfl, uT 310 (by decide +kernel) rfl, uT 1 (by decide +kernel) rfl, ⟨by decide +kernel, by decide +kernel, by decide +kernel⟩, ⟨_, _, rfl⟩, by decide, by decide +kernel⟩
theorem kX5_copy : KV yX5_copy cX5_copy 8 (some .int) 5 3 := ⟨uT 574 (by decide +kernel) rfl, uT 572 (by decide +kernel) rfl, uT 573 (by decide +kernel) rfl, uT 1 (by decide +kernel) rfl, ⟨by decide +kernel, by decide +kernel, by decide +kernel⟩, ⟨_, _, rfl⟩, by decide, by decide +kernel⟩
theorem kX5_cost : KV yX5_cost cX5_cost 3 (some .int) 1 3 := ⟨uT 583 (by decide +kernel) rfl, uT 581 (by decide +kernel) rfl, uT 582 (by decide +kernel) rfl, uT 1 (by decide +kernel) rfl, ⟨by decide +kernel, by decide +kernel, by decide +kernel⟩, ⟨_, _, rfl⟩, by decide, by decide +kernel⟩
theorem kX5_count : KV yX5_count cX5_count 2 (some .int) 1 3 := ⟨uT 537 (by decide +kernel) rfl, uT 535 (by decide +kernel) rfl, uT 536 (by decide +kernel) rfl, uT 1 (by decide +kernel) rfl, ⟨by decide +kernel, by decide +kernel, by decide +kernel⟩, ⟨_, _, rfl⟩, by decide, by decide +kernel⟩
theorem kX5_drawInto : KS yX5_drawInto cX5_drawInto 6 (some .int) 4 := ⟨uT 522 (by decide +kernel) rfl, uT 521 (by decide +kernel) rfl, uT 1 (by decide +kernel) rfl, ⟨by decide +kernel, by decide +kernel, by decide +kernel⟩, by decide, by decide +kernel⟩
theorem kX5_element : KV yX5_element cX5_element 4 (some .long) 2 3 := ⟨uT 705 (by decide +kernel) rfl, uT 703 (by decide +kernel) rfl, uT 704 (by decide +kernel) rfl, uT 1 (by decide +kernel) rfl, ⟨by decide +kernel, by decide +kernel, by decide +kernel⟩, ⟨_, _, rfl⟩, by decide, by decide +kernel⟩
theorem kX5_fills : KV yX5_fills cX5_fills 4 (some .int) 2 3 := ⟨uT 328 (by decide +kernel) rfl, uT 326 (by decide +kernel) rfl, uT 327 (by decide +kernel) rfl, uT 1 (by decide +kernel) rfl, ⟨by decide +kernel, by decide +kernel, by decide +kernel⟩, ⟨_, _, rfl⟩, by decide, by decide +kernel⟩
theorem kX5_firstToLeave : KV yX5_firstToLeave cX5_firstToLeave 4 (some .int) 0 3 := ⟨uT 362 (by decide +kernel) rfl, uT 361 (by decide +kernel) rfl, uP 7 (by decide +kernel) rfl, uT 1 (by decide +kernel) rfl, ⟨by decide +kernel, by decide +kernel, by decide +kernel⟩, ⟨_, _, rfl⟩, by decide, by decide +kernel⟩
theorem kX5_forged : KV yX5_forged cX5_forged 5 (some .int) 1 3 := ⟨uT 511 (by decide +kernel) rfl, uT 509 (by decide +kernel) rfl, uT 510 (by decide +kernel) rfl, uT 1 (by decide +kernel) rfl, ⟨by decide +kernel, by decide +kernel, by decide +kernel⟩, ⟨_, _, rfl⟩, by decide, by decide +kernel⟩
theorem kX5_guest : KV yX5_guest cX5_guest 3 (some .int) 2 3 := ⟨uT 296 (by decide +kernel) rfl, uT 294 (by decide +kernel) rfl, uT 295 (by decide +kernel) rfl, uT 1 (by decide +kernel) rfl, ⟨by decide +kernel, by decide +kernel, by decide +kernel⟩, ⟨_, _, rfl⟩, by decide, by decide +kernel⟩
theorem kX5_guestThen : KV yX5_guestThen cX5_guestThen 5 (some .int) 3 3 := ⟨uT 343 (by decide +kernel) rfl, uT 341 (by decide +kernel) rfl, uT 342 (by decide +kernel) rfl, uT 1 (by decide +kernel) rfl, ⟨by decide +kernel, by decide +kernel, by decide +kernel⟩, ⟨_, _, rfl⟩, by decide, by decide +kernel⟩
theorem kX5_heals : KV yX5_heals cX5_heals 4 (some .int) 2 3 := ⟨uT 324 (by decide +kernel) rfl, uT 322 (by decide +kernel) rfl, uT 323 (by decide +kernel) rfl, uT 1 (by decide +kernel) rfl, ⟨by decide +kernel, by decide +kernel, by decide +kernel⟩, ⟨_, _, rfl⟩, by decide, by decide +kernel⟩
theorem kX5_healthThen : KV yX5_healthThen cX5_healthThen 5 (some .int) 3 3 := ⟨uT 406 (by decide +kernel) rfl, uT 405 (by decide +kernel) rfl, uP 9 (by decide +kernel) rfl, uT 1 (by decide +kernel) rfl, ⟨by decide +kernel, by decide +kernel, by decide +kernel⟩, ⟨_, _, rfl⟩, by decide, by decide +kernel⟩
theorem kX5_healthsAreSo : KS yX5_healthsAreSo cX5_healthsAreSo 4 (some .boolean) 3 := ⟨uT 464 (by decide +kernel) rfl, uT 463 (by decide +kernel) rfl, uT 1 (by decide +kernel) rfl, ⟨by decide +kernel, by decide +kernel, by decide +kernel⟩, by decide, by decide +kernel⟩
theorem kX5_image : KV yX5_image cX5_image 1 (some .int) 0 3 := ⟨uT 529 (by decide +kernel) rfl, uT 527 (by decide +kernel) rfl, uT 528 (by decide +kernel) rfl, uT 1 (by decide +kernel) rfl, ⟨by decide +kernel, by decide +kernel, by decide +kernel⟩, ⟨_, _, rfl⟩, by decide, by decide +kernel⟩
theorem kX5_inMind : KV yX5_inMind cX5_inMind 1 (some (.object "ServesWhatOneDreamt$Inn")) 0 3 := ⟨uT 191 (by decide +kernel) rfl, uT 190 (by decide +kernel) rfl, uP 2 (by decide +kernel) rfl, uT 1 (by decide +kernel) rfl, ⟨by decide +kernel, by decide +kernel, by decide +kernel⟩, ⟨_, _, rfl⟩, by decide, by decide +kernel⟩
theorem kX5_inn : KV yX5_inn cX5_inn 8 (some .int) 1 3 := ⟨uT 164 (by decide +kernel) rfl, uT 162 (by decide +kernel) rfl, uT 163 (by decide +kernel) rfl, uT 1 (by decide +kernel) rfl, ⟨by decide +kernel, by decide +kernel, by decide +kernel⟩, ⟨_, _, rfl⟩, by decide, by decide +kernel⟩
theorem kX5_isDigit : KS yX5_isDigit cX5_isDigit 1 (some .boolean) 1 := ⟨uT 187 (by decide +kernel) rfl, uT 186 (by decide +kernel) rfl, uT 1 (by decide +kernel) rfl, ⟨by decide +kernel, by decide +kernel, by decide +kernel⟩, by decide, by decide +kernel⟩
theorem kX5_isPlate : KS yX5_isPlate cX5_isPlate 1 (some .boolean) 1 := ⟨uT 307 (by decide +kernel) rfl, uT 306 (by decide +kernel) rfl, uT 1 (by decide +kernel) rfl, ⟨by decide +kernel, by decide +kernel, by decide +kernel⟩, by decide, by decide +kernel⟩
theorem kX5_isShelf : KS yX5_isShelf cX5_isShelf 1 (some .boolean) 1 := ⟨uT 175 (by decide +kernel) rfl, uT 174 (by decide +kernel) rfl, uT 1 (by decide +kernel) rfl, ⟨by decide +kernel, by decide +kernel, by decide +kernel⟩, by decide, by decide +kernel⟩
theorem kX5_isWhile : KS yX5_isWhile cX5_isWhile 1 (some .boolean) 1 := ⟨uT 346 (by decide +kernel) rfl, uT 345 (by decide +kernel) rfl, uT 1 (by decide +kernel) rfl, ⟨by decide +kernel, by decide +kernel, by decide +kernel⟩, by decide, by decide +kernel⟩
theorem kX5_judge : KV yX5_judge cX5_judge 6 (some .int) 1 3 := ⟨uT 515 (by decide +kernel) rfl, uT 513 (by decide +kernel) rfl, uT 514 (by decide +kernel) rfl, uT 1 (by decide +kernel) rfl, ⟨by decide +kernel, by decide +kernel, by decide +kernel⟩, ⟨_, _, rfl⟩, by decide, by decide +kernel⟩
theorem kX5_keep : KV yX5_keep cX5_keep 5 (some .int) 4 3 := ⟨uT 541 (by decide +kernel) rfl, uT 539 (by decide +kernel) rfl, uT 540 (by decide +kernel) rfl, uT 1 (by decide +kernel) rfl, ⟨by decide +kernel, by decide +kernel, by decide +kernel⟩, ⟨_, _, rfl⟩, by decide, by decide +kernel⟩
theorem kX5_kindRefusal : KV yX5_kindRefusal cX5_kindRefusal 2 (some .int) 1 3 := ⟨uT 315 (by decide +kernel) rfl, uT 314 (by decide +kernel) rfl, uP 6 (by decide +kernel) rfl, uT 1 (by decide +kernel) rfl, ⟨by decide +kernel, by decide +kernel, by decide +kernel⟩, ⟨_, _, rfl⟩, by decide, by decide +kernel⟩
theorem kX5_larder : KV yX5_larder cX5_larder 2 (some .int) 1 3 := ⟨uT 304 (by decide +kernel) rfl, uT 302 (by decide +kernel) rfl, uT 303 (by decide +kernel) rfl, uT 1 (by decide +kernel) rfl, ⟨by decide +kernel, by decide +kernel, by decide +kernel⟩, ⟨_, _, rfl⟩, by decide, by decide +kernel⟩
theorem kX5_larderThen : KV yX5_larderThen cX5_larderThen 4 (some .int) 2 3 := ⟨uT 350 (by decide +kernel) rfl, uT 348 (by decide +kernel) rfl, uT 349 (by decide +kernel) rfl, uT 1 (by decide +kernel) rfl, ⟨by decide +kernel, by decide +kernel, by decide +kernel⟩, ⟨_, _, rfl⟩, by decide, by decide +kernel⟩
theorem kX5_lastPlatesAreSo : KS yX5_lastPlatesAreSo cX5_lastPlatesAreSo 4 (some .boolean) 3 := ⟨uT 480 (by decide +kernel) rfl, uT 479 (by decide +kernel) rfl, uT 1 (by decide +kernel) rfl, ⟨by decide +kernel, by decide +kernel, by decide +kernel⟩, by decide, by decide +kernel⟩
theorem kX5_least : KV yX5_least cX5_least 7 (some .int) 2 3 := ⟨uT 390 (by decide +kernel) rfl, uT 388 (by decide +kernel) rfl, uT 389 (by decide +kernel) rfl, uT 1 (by decide +kernel) rfl, ⟨by decide +kernel, by decide +kernel, by decide +kernel⟩, ⟨_, _, rfl⟩, by decide, by decide +kernel⟩
theorem kX5_leastOf : KS yX5_leastOf cX5_leastOf 2 (some .int) 1 := ⟨uT 365 (by decide +kernel) rfl, uT 364 (by decide +kernel) rfl, uT 1 (by decide +kernel) rfl, ⟨by decide +kernel, by decide +kernel, by decide +kernel⟩, by decide, by decide +kernel⟩
theorem kX5_leaves : KV yX5_leaves cX5_leaves 4 (some .int) 1 3 := ⟨uT 358 (by decide +kernel) rfl, uT 356 (by decide +kernel) rfl, uT 357 (by decide +kernel) rfl, uT 1 (by decide +kernel) rfl, ⟨by decide +kernel, by decide +kernel, by decide +kernel⟩, ⟨_, _, rfl⟩, by decide, by decide +kernel⟩
theorem kX5_mares : KV yX5_mares cX5_mares 16 (some .long) 5 3 := ⟨uT 493 (by decide +kernel) rfl, uT 491 (by decide +kernel) rfl, uT 492 (by decide +kernel) rfl, uT 1 (by decide +kernel) rfl, ⟨by decide +kernel, by decide +kernel, by decide +kernel⟩, ⟨_, _, rfl⟩, by decide, by decide +kernel⟩
theorem kX5_mean : KV yX5_mean cX5_mean 2 (some .long) 1 3 := ⟨uT 507 (by decide +kernel) rfl, uT 505 (by decide +kernel) rfl, uT 506 (by decide +kernel) rfl, uT 1 (by decide +kernel) rfl, ⟨by decide +kernel, by decide +kernel, by decide +kernel⟩, ⟨_, _, rfl⟩, by decide, by decide +kernel⟩
theorem kX5_nights : KV yX5_nights cX5_nights 2 (some .int) 1 3 := ⟨uT 332 (by decide +kernel) rfl, uT 330 (by decide +kernel) rfl, uT 331 (by decide +kernel) rfl, uT 1 (by decide +kernel) rfl, ⟨by decide +kernel, by decide +kernel, by decide +kernel⟩, ⟨_, _, rfl⟩, by decide, by decide +kernel⟩
theorem kX5_out : KV yX5_out cX5_out 4 (some .int) 1 3 := ⟨uT 369 (by decide +kernel) rfl, uT 367 (by decide +kernel) rfl, uT 368 (by decide +kernel) rfl, uT 1 (by decide +kernel) rfl, ⟨by decide +kernel, by decide +kernel, by decide +kernel⟩, ⟨_, _, rfl⟩, by decide, by decide +kernel⟩
theorem kX5_partOf : KS yX5_partOf cX5_partOf 7 (some .long) 3 := ⟨uT 500 (by decide +kernel) rfl, uT 499 (by decide +kernel) rfl, uT 1 (by decide +kernel) rfl, ⟨by decide +kernel, by decide +kernel, by decide +kernel⟩, by decide, by decide +kernel⟩
theorem kX5_put : KV yX5_put cX5_put 6 (some .int) 3 3 := ⟨uT 566 (by decide +kernel) rfl, uT 564 (by decide +kernel) rfl, uT 565 (by decide +kernel) rfl, uT 1 (by decide +kernel) rfl, ⟨by decide +kernel, by decide +kernel, by decide +kernel⟩, ⟨_, _, rfl⟩, by decide, by decide +kernel⟩
theorem kX5_refusalUnless : KV yX5_refusalUnless cX5_refusalUnless 3 (some .int) 2 3 := ⟨uT 172 (by decide +kernel) rfl, uT 171 (by decide +kernel) rfl, uP 1 (by decide +kernel) rfl, uT 1 (by decide +kernel) rfl, ⟨by decide +kernel, by decide +kernel, by decide +kernel⟩, ⟨_, _, rfl⟩, by decide, by decide +kernel⟩
theorem kX5_refusedLong : KS yX5_refusedLong cX5_refusedLong 1 (some .long) 1 := ⟨uT 496 (by decide +kernel) rfl, uT 495 (by decide +kernel) rfl, uT 1 (by decide +kernel) rfl, ⟨by decide +kernel, by decide +kernel, by decide +kernel⟩, by decide, by decide +kernel⟩
theorem kX5_restore : KV yX5_restore cX5_restore 1 (some .int) 0 3 := ⟨uT 533 (by decide +kernel) rfl, uT 531 (by decide +kernel) rfl, uT 532 (by decide +kernel) rfl, uT 1 (by decide +kernel) rfl, ⟨by decide +kernel, by decide +kernel, by decide +kernel⟩, ⟨_, _, rfl⟩, by decide, by decide +kernel⟩
theorem kX5_row : KV yX5_row cX5_row 4 (some .int) 3 3 := ⟨uT 555 (by decide +kernel) rfl, uT 553 (by decide +kernel) rfl, uT 554 (by decide +kernel) rfl, uT 1 (by decide +kernel) rfl, ⟨by decide +kernel, by decide +kernel, by decide +kernel⟩, ⟨_, _, rfl⟩, by decide, by decide +kernel⟩
theorem kX5_rowRefusal : KV yX5_rowRefusal cX5_rowRefusal 2 (some .int) 1 3 := ⟨uT 168 (by decide +kernel) rfl, uT 167 (by decide +kernel) rfl, uP 0 (by decide +kernel) rfl, uT 1 (by decide +kernel) rfl, ⟨by decide +kernel, by decide +kernel, by decide +kernel⟩, ⟨_, _, rfl⟩, by decide, by decide +kernel⟩
theorem kX5_same : KV yX5_same cX5_same 2 (some .int) 1 3 := ⟨uT 432 (by decide +kernel) rfl, uT 430 (by decide +kernel) rfl, uT 431 (by decide +kernel) rfl, uT 1 (by decide +kernel) rfl, ⟨by decide +kernel, by decide +kernel, by decide +kernel⟩, ⟨_, _, rfl⟩, by decide, by decide +kernel⟩
theorem kX5_seats : KV yX5_seats cX5_seats 2 (some .int) 1 3 := ⟨uT 414 (by decide +kernel) rfl, uT 412 (by decide +kernel) rfl, uT 413 (by decide +kernel) rfl, uT 1 (by decide +kernel) rfl, ⟨by decide +kernel, by decide +kernel, by decide +kernel⟩, ⟨_, _, rfl⟩, by decide, by decide +kernel⟩
theorem kX5_send : KV yX5_send cX5_send 7 (some .int) 1 3 := ⟨uT 402 (by decide +kernel) rfl, uT 400 (by decide +kernel) rfl, uT 401 (by decide +kernel) rfl, uT 1 (by decide +kernel) rfl, ⟨by decide +kernel, by decide +kernel, by decide +kernel⟩, ⟨_, _, rfl⟩, by decide, by decide +kernel⟩
theorem kX5_sharedDivisor : KS yX5_sharedDivisor cX5_sharedDivisor 11 (some .long) 2 := ⟨uT 503 (by decide +kernel) rfl, uT 502 (by decide +kernel) rfl, uT 1 (by decide +kernel) rfl, ⟨by decide +kernel, by decide +kernel, by decide +kernel⟩, by decide, by decide +kernel⟩
theorem kX5_suffices : KV yX5_suffices cX5_suffices 5 (some .boolean) 3 3 := ⟨uT 394 (by decide +kernel) rfl, uT 393 (by decide +kernel) rfl, uP 8 (by decide +kernel) rfl, uT 1 (by decide +kernel) rfl, ⟨by decide +kernel, by decide +kernel, by decide +kernel⟩, ⟨_, _, rfl⟩, by decide, by decide +kernel⟩
theorem kX5_table : KV yX5_table cX5_table 4 (some .int) 2 3 := ⟨uT 373 (by decide +kernel) rfl, uT 371 (by decide +kernel) rfl, uT 372 (by decide +kernel) rfl, uT 1 (by decide +kernel) rfl, ⟨by decide +kernel, by decide +kernel, by decide +kernel⟩, ⟨_, _, rfl⟩, by decide, by decide +kernel⟩
theorem kX5_then : KV yX5_then cX5_then 4 (some .int) 2 3 := ⟨uT 354 (by decide +kernel) rfl, uT 352 (by decide +kernel) rfl, uT 353 (by decide +kernel) rfl, uT 1 (by decide +kernel) rfl, ⟨by decide +kernel, by decide +kernel, by decide +kernel⟩, ⟨_, _, rfl⟩, by decide, by decide +kernel⟩
theorem kX5_two : KV yX5_two cX5_two 7 (some .int) 3 3 := ⟨uT 484 (by decide +kernel) rfl, uT 482 (by decide +kernel) rfl, uT 483 (by decide +kernel) rfl, uT 1 (by decide +kernel) rfl, ⟨by decide +kernel, by decide +kernel, by decide +kernel⟩, ⟨_, _, rfl⟩, by decide, by decide +kernel⟩
theorem kX5_whatIs : KV yX5_whatIs cX5_whatIs 10 (some .int) 3 3 := ⟨uT 461 (by decide +kernel) rfl, uT 459 (by decide +kernel) rfl, uT 460 (by decide +kernel) rfl, uT 1 (by decide +kernel) rfl, ⟨by decide +kernel, by decide +kernel, by decide +kernel⟩, ⟨_, _, rfl⟩, by decide, by decide +kernel⟩
theorem kX5_whatWish : KV yX5_whatWish cX5_whatWish 7 (some .int) 2 3 := ⟨uT 477 (by decide +kernel) rfl, uT 475 (by decide +kernel) rfl, uT 476 (by decide +kernel) rfl, uT 1 (by decide +kernel) rfl, ⟨by decide +kernel, by decide +kernel, by decide +kernel⟩, ⟨_, _, rfl⟩, by decide, by decide +kernel⟩
theorem kX5_wishes : KV yX5_wishes cX5_wishes 4 (some .int) 2 3 := ⟨uT 320 (by decide +kernel) rfl, uT 318 (by decide +kernel) rfl, uT 319 (by decide +kernel) rfl, uT 1 (by decide +kernel) rfl, ⟨by decide +kernel, by decide +kernel, by decide +kernel⟩, ⟨_, _, rfl⟩, by decide, by decide +kernel⟩
theorem kX5_within : KS yX5_within cX5_within 3 (some .boolean) 3 := ⟨uT 178 (by decide +kernel) rfl, uT 177 (by decide +kernel) rfl, uT 1 (by decide +kernel) rfl, ⟨by decide +kernel, by decide +kernel, by decide +kernel⟩, by decide, by decide +kernel⟩
theorem kX5_years : KV yX5_years cX5_years 8 (some .int) 3 3 := ⟨uT 519 (by decide +kernel) rfl, uT 517 (by decide +kernel) rfl, uT 518 (by decide +kernel) rfl, uT 1 (by decide +kernel) rfl, ⟨by decide +kernel, by decide +kernel, by decide +kernel⟩, ⟨_, _, rfl⟩, by decide, by decide +kernel⟩
theorem kX0_admit : KV yX0_admit cX0_admit 5 (some .int) 3 0 := ⟨uT 220 (by decide +kernel) rfl, uT 218 (by decide +kernel) rfl, uT 219 (by decide +kernel) rfl, uT 2 (by decide +kernel) rfl, ⟨by decide +kernel, by decide +kernel, by decide +kernel⟩, ⟨_, _, rfl⟩, by decide, by decide +kernel⟩
theorem kX0_become : KV yX0_become cX0_become 2 none 1 0 := ⟨uT 195 (by decide +kernel) rfl, uT 193 (by decide +kernel) rfl, uT 194 (by decide +kernel) rfl, uT 2 (by decide +kernel) rfl, ⟨by decide +kernel, by decide +kernel, by decide +kernel⟩, ⟨_, _, rfl⟩, by decide, by decide +kernel⟩
theorem kX0_breakfast : KV yX0_breakfast cX0_breakfast 4 none 2 0 := ⟨uT 278 (by decide +kernel) rfl, uT 277 (by decide +kernel) rfl, uP 4 (by decide +kernel) rfl, uT 2 (by decide +kernel) rfl, ⟨by decide +kernel, by decide +kernel, by decide +kernel⟩, ⟨_, _, rfl⟩, by decide, by decide +kernel⟩
theorem kX0_changeHealth : KV yX0_changeHealth cX0_changeHealth 3 none 2 0 := ⟨uT 285 (by decide +kernel) rfl, uT 284 (by decide +kernel) rfl, uP 5 (by decide +kernel) rfl, uT 2 (by decide +kernel) rfl, ⟨by decide +kernel, by decide +kernel, by decide +kernel⟩, ⟨_, _, rfl⟩, by decide, by decide +kernel⟩
theorem kX0_dream : KV yX0_dream cX0_dream 3 (some .int) 2 0 := ⟨uT 268 (by decide +kernel) rfl, uT 267 (by decide +kernel) rfl, uP 3 (by decide +kernel) rfl, uT 2 (by decide +kernel) rfl, ⟨by decide +kernel, by decide +kernel, by decide +kernel⟩, ⟨_, _, rfl⟩, by decide, by decide +kernel⟩
theorem kX0_emptyPlates : KV yX0_emptyPlates cX0_emptyPlates 3 (some .int) 0 0 := ⟨uT 453 (by decide +kernel) rfl, uT 451 (by decide +kernel) rfl, uT 452 (by decide +kernel) rfl, uT 2 (by decide +kernel) rfl, ⟨by decide +kernel, by decide +kernel, by decide +kernel⟩, ⟨_, _, rfl⟩, by decide, by decide +kernel⟩
theorem kX0_fullest : KV yX0_fullest cX0_fullest 3 (some .int) 0 0 := ⟨uT 445 (by decide +kernel) rfl, uT 443 (by decide +kernel) rfl, uT 444 (by decide +kernel) rfl, uT 2 (by decide +kernel) rfl, ⟨by decide +kernel, by decide +kernel, by decide +kernel⟩, ⟨_, _, rfl⟩, by decide, by decide +kernel⟩
theorem kX0_healthOf : KV yX0_healthOf cX0_healthOf 4 (some .int) 1 0 := ⟨uT 410 (by decide +kernel) rfl, uT 408 (by decide +kernel) rfl, uT 409 (by decide +kernel) rfl, uT 2 (by decide +kernel) rfl, ⟨by decide +kernel, by decide +kernel, by decide +kernel⟩, ⟨_, _, rfl⟩, by decide, by decide +kernel⟩
theorem kX0_isThere : KV yX0_isThere cX0_isThere 2 (some .boolean) 1 0 := ⟨uT 264 (by decide +kernel) rfl, uT 262 (by decide +kernel) rfl, uT 263 (by decide +kernel) rfl, uT 2 (by decide +kernel) rfl, ⟨by decide +kernel, by decide +kernel, by decide +kernel⟩, ⟨_, _, rfl⟩, by decide, by decide +kernel⟩
theorem kX0_knows : KV yX0_knows cX0_knows 2 (some .boolean) 1 0 := ⟨uT 230 (by decide +kernel) rfl, uT 228 (by decide +kernel) rfl, uT 229 (by decide +kernel) rfl, uT 2 (by decide +kernel) rfl, ⟨by decide +kernel, by decide +kernel, by decide +kernel⟩, ⟨_, _, rfl⟩, by decide, by decide +kernel⟩
theorem kX0_nextDream : KV yX0_nextDream cX0_nextDream 2 (some .int) 1 0 := ⟨uT 377 (by decide +kernel) rfl, uT 375 (by decide +kernel) rfl, uT 376 (by decide +kernel) rfl, uT 2 (by decide +kernel) rfl, ⟨by decide +kernel, by decide +kernel, by decide +kernel⟩, ⟨_, _, rfl⟩, by decide, by decide +kernel⟩
theorem kX0_pass : KV yX0_pass cX0_pass 3 none 1 0 := ⟨uT 255 (by decide +kernel) rfl, uT 253 (by decide +kernel) rfl, uT 254 (by decide +kernel) rfl, uT 2 (by decide +kernel) rfl, ⟨by decide +kernel, by decide +kernel, by decide +kernel⟩, ⟨_, _, rfl⟩, by decide, by decide +kernel⟩
theorem kX0_passNight : KV yX0_passNight cX0_passNight 5 none 2 0 := ⟨uT 259 (by decide +kernel) rfl, uT 257 (by decide +kernel) rfl, uT 258 (by decide +kernel) rfl, uT 2 (by decide +kernel) rfl, ⟨by decide +kernel, by decide +kernel, by decide +kernel⟩, ⟨_, _, rfl⟩, by decide, by decide +kernel⟩
theorem kX0_passUnlacking : KV yX0_passUnlacking cX0_passUnlacking 3 (some .boolean) 1 0 := ⟨uT 398 (by decide +kernel) rfl, uT 396 (by decide +kernel) rfl, uT 397 (by decide +kernel) rfl, uT 2 (by decide +kernel) rfl, ⟨by decide +kernel, by decide +kernel, by decide +kernel⟩, ⟨_, _, rfl⟩, by decide, by decide +kernel⟩
theorem kX0_platesInAll : KV yX0_platesInAll cX0_platesInAll 3 (some .int) 0 0 := ⟨uT 449 (by decide +kernel) rfl, uT 447 (by decide +kernel) rfl, uT 448 (by decide +kernel) rfl, uT 2 (by decide +kernel) rfl, ⟨by decide +kernel, by decide +kernel, by decide +kernel⟩, ⟨_, _, rfl⟩, by decide, by decide +kernel⟩
theorem kX0_platesOf : KV yX0_platesOf cX0_platesOf 4 (some .int) 1 0 := ⟨uT 457 (by decide +kernel) rfl, uT 455 (by decide +kernel) rfl, uT 456 (by decide +kernel) rfl, uT 2 (by decide +kernel) rfl, ⟨by decide +kernel, by decide +kernel, by decide +kernel⟩, ⟨_, _, rfl⟩, by decide, by decide +kernel⟩
theorem kX0_stock : KV yX0_stock cX0_stock 3 none 2 0 := ⟨uT 245 (by decide +kernel) rfl, uT 243 (by decide +kernel) rfl, uT 244 (by decide +kernel) rfl, uT 2 (by decide +kernel) rfl, ⟨by decide +kernel, by decide +kernel, by decide +kernel⟩, ⟨_, _, rfl⟩, by decide, by decide +kernel⟩
theorem kX0_twosOfOneDream : KV yX0_twosOfOneDream cX0_twosOfOneDream 5 (some .int) 0 0 := ⟨uT 436 (by decide +kernel) rfl, uT 434 (by decide +kernel) rfl, uT 435 (by decide +kernel) rfl, uT 2 (by decide +kernel) rfl, ⟨by decide +kernel, by decide +kernel, by decide +kernel⟩, ⟨_, _, rfl⟩, by decide, by decide +kernel⟩
theorem kX0_wellest : KV yX0_wellest cX0_wellest 4 (some .int) 0 0 := ⟨uT 441 (by decide +kernel) rfl, uT 439 (by decide +kernel) rfl, uT 440 (by decide +kernel) rfl, uT 2 (by decide +kernel) rfl, ⟨by decide +kernel, by decide +kernel, by decide +kernel⟩, ⟨_, _, rfl⟩, by decide, by decide +kernel⟩
theorem kX1_cooksDream : KS yX1_cooksDream cX1_cooksDream 4 (some .int) 3 := ⟨uT 274 (by decide +kernel) rfl, uT 273 (by decide +kernel) rfl, uT 8 (by decide +kernel) rfl, ⟨by decide +kernel, by decide +kernel, by decide +kernel⟩, by decide, by decide +kernel⟩
theorem kX1_dream : KS yX1_dream cX1_dream 5 (some .int) 5 := ⟨uT 271 (by decide +kernel) rfl, uT 270 (by decide +kernel) rfl, uT 8 (by decide +kernel) rfl, ⟨by decide +kernel, by decide +kernel, by decide +kernel⟩, by decide, by decide +kernel⟩
theorem kX1_eats : KS yX1_eats cX1_eats 1 (some .int) 1 := ⟨uT 281 (by decide +kernel) rfl, uT 280 (by decide +kernel) rfl, uT 8 (by decide +kernel) rfl, ⟨by decide +kernel, by decide +kernel, by decide +kernel⟩, by decide, by decide +kernel⟩
theorem kX1_fail : KS yX1_fail cX1_fail 2 none 2 := ⟨uT 596 (by decide +kernel) rfl, uT 595 (by decide +kernel) rfl, uT 8 (by decide +kernel) rfl, ⟨by decide +kernel, by decide +kernel, by decide +kernel⟩, by decide, by decide +kernel⟩
theorem kX1_gain : KS yX1_gain cX1_gain 4 (some .int) 4 := ⟨uT 291 (by decide +kernel) rfl, uT 290 (by decide +kernel) rfl, uT 8 (by decide +kernel) rfl, ⟨by decide +kernel, by decide +kernel, by decide +kernel⟩, by decide, by decide +kernel⟩
theorem kX1_isKind : KS yX1_isKind cX1_isKind 1 (some .boolean) 1 := ⟨uT 215 (by decide +kernel) rfl, uT 214 (by decide +kernel) rfl, uT 8 (by decide +kernel) rfl, ⟨by decide +kernel, by decide +kernel, by decide +kernel⟩, by decide, by decide +kernel⟩
theorem kX1_price : KS yX1_price cX1_price 2 (some .int) 2 := ⟨uT 586 (by decide +kernel) rfl, uT 585 (by decide +kernel) rfl, uT 8 (by decide +kernel) rfl, ⟨by decide +kernel, by decide +kernel, by decide +kernel⟩, by decide, by decide +kernel⟩
theorem kX2_fits : KV yX2_fits cX2_fits 3 (some .boolean) 2 1 := ⟨uT 428 (by decide +kernel) rfl, uT 427 (by decide +kernel) rfl, uP 11 (by decide +kernel) rfl, uT 4 (by decide +kernel) rfl, ⟨by decide +kernel, by decide +kernel, by decide +kernel⟩, ⟨_, _, rfl⟩, by decide, by decide +kernel⟩
theorem kX2_seat : KV yX2_seat cX2_seat 4 (some .int) 2 1 := ⟨uT 418 (by decide +kernel) rfl, uT 416 (by decide +kernel) rfl, uT 417 (by decide +kernel) rfl, uT 4 (by decide +kernel) rfl, ⟨by decide +kernel, by decide +kernel, by decide +kernel⟩, ⟨_, _, rfl⟩, by decide, by decide +kernel⟩
theorem kX2_seatRest : KV yX2_seatRest cX2_seatRest 4 (some .boolean) 2 1 := ⟨uT 424 (by decide +kernel) rfl, uT 423 (by decide +kernel) rfl, uP 10 (by decide +kernel) rfl, uT 4 (by decide +kernel) rfl, ⟨by decide +kernel, by decide +kernel, by decide +kernel⟩, ⟨_, _, rfl⟩, by decide, by decide +kernel⟩
theorem kX3_hasCell : KV yX3_hasCell cX3_hasCell 2 (some .boolean) 1 2 := ⟨uT 211 (by decide +kernel) rfl, uT 209 (by decide +kernel) rfl, uT 210 (by decide +kernel) rfl, uT 3 (by decide +kernel) rfl, ⟨by decide +kernel, by decide +kernel, by decide +kernel⟩, ⟨_, _, rfl⟩, by decide, by decide +kernel⟩
theorem kX3_hasCells : KV yX3_hasCells cX3_hasCells 3 (some .boolean) 2 2 := ⟨uT 578 (by decide +kernel) rfl, uT 576 (by decide +kernel) rfl, uT 577 (by decide +kernel) rfl, uT 3 (by decide +kernel) rfl, ⟨by decide +kernel, by decide +kernel, by decide +kernel⟩, ⟨_, _, rfl⟩, by decide, by decide +kernel⟩
theorem kX3_holdKind : KV yX3_holdKind cX3_holdKind 3 none 2 2 := ⟨uT 551 (by decide +kernel) rfl, uT 549 (by decide +kernel) rfl, uT 550 (by decide +kernel) rfl, uT 3 (by decide +kernel) rfl, ⟨by decide +kernel, by decide +kernel, by decide +kernel⟩, ⟨_, _, rfl⟩, by decide, by decide +kernel⟩
theorem kX3_holdNothing : KV yX3_holdNothing cX3_holdNothing 1 none 0 2 := ⟨uT 545 (by decide +kernel) rfl, uT 543 (by decide +kernel) rfl, uT 544 (by decide +kernel) rfl, uT 3 (by decide +kernel) rfl, ⟨by decide +kernel, by decide +kernel, by decide +kernel⟩, ⟨_, _, rfl⟩, by decide, by decide +kernel⟩
theorem kX3_holdRow : KV yX3_holdRow cX3_holdRow 4 none 2 2 := ⟨uT 562 (by decide +kernel) rfl, uT 560 (by decide +kernel) rfl, uT 561 (by decide +kernel) rfl, uT 3 (by decide +kernel) rfl, ⟨by decide +kernel, by decide +kernel, by decide +kernel⟩, ⟨_, _, rfl⟩, by decide, by decide +kernel⟩
theorem kX3_isSo : KV yX3_isSo cX3_isSo 3 (some .boolean) 2 2 := ⟨uT 468 (by decide +kernel) rfl, uT 466 (by decide +kernel) rfl, uT 467 (by decide +kernel) rfl, uT 3 (by decide +kernel) rfl, ⟨by decide +kernel, by decide +kernel, by decide +kernel⟩, ⟨_, _, rfl⟩, by decide, by decide +kernel⟩
theorem kX3_isSort : KS yX3_isSort cX3_isSort 1 (some .boolean) 1 := ⟨uT 558 (by decide +kernel) rfl, uT 557 (by decide +kernel) rfl, uT 3 (by decide +kernel) rfl, ⟨by decide +kernel, by decide +kernel, by decide +kernel⟩, by decide, by decide +kernel⟩
theorem kX3_leastNumber : KV yX3_leastNumber cX3_leastNumber 1 (some .int) 0 2 := ⟨uT 472 (by decide +kernel) rfl, uT 471 (by decide +kernel) rfl, uP 12 (by decide +kernel) rfl, uT 3 (by decide +kernel) rfl, ⟨by decide +kernel, by decide +kernel, by decide +kernel⟩, ⟨_, _, rfl⟩, by decide, by decide +kernel⟩
theorem kX3_lowestBits : KS yX3_lowestBits cX3_lowestBits 2 (some .int) 2 := ⟨uT 570 (by decide +kernel) rfl, uT 569 (by decide +kernel) rfl, uT 3 (by decide +kernel) rfl, ⟨by decide +kernel, by decide +kernel, by decide +kernel⟩, by decide, by decide +kernel⟩
theorem kX4_addStock : KS yX4_addStock cX4_addStock 3 (some .boolean) 3 := ⟨uT 241 (by decide +kernel) rfl, uT 240 (by decide +kernel) rfl, uT 6 (by decide +kernel) rfl, ⟨by decide +kernel, by decide +kernel, by decide +kernel⟩, by decide, by decide +kernel⟩
theorem kX4_digitAt : KS yX4_digitAt cX4_digitAt 2 (some .int) 2 := ⟨uT 207 (by decide +kernel) rfl, uT 206 (by decide +kernel) rfl, uT 6 (by decide +kernel) rfl, ⟨by decide +kernel, by decide +kernel, by decide +kernel⟩, by decide, by decide +kernel⟩
theorem kX4_digitsBehind : KS yX4_digitsBehind cX4_digitsBehind 1 (some .int) 1 := ⟨uT 184 (by decide +kernel) rfl, uT 183 (by decide +kernel) rfl, uT 6 (by decide +kernel) rfl, ⟨by decide +kernel, by decide +kernel, by decide +kernel⟩, by decide, by decide +kernel⟩
theorem kX4_isLetter : KS yX4_isLetter cX4_isLetter 1 (some .boolean) 1 := ⟨uT 201 (by decide +kernel) rfl, uT 200 (by decide +kernel) rfl, uT 6 (by decide +kernel) rfl, ⟨by decide +kernel, by decide +kernel, by decide +kernel⟩, by decide, by decide +kernel⟩
theorem kX4_passNights : KS yX4_passNights cX4_passNights 2 (some .boolean) 2 := ⟨uT 251 (by decide +kernel) rfl, uT 250 (by decide +kernel) rfl, uT 6 (by decide +kernel) rfl, ⟨by decide +kernel, by decide +kernel, by decide +kernel⟩, by decide, by decide +kernel⟩
theorem kX4_placeOfBadByte : KS yX4_placeOfBadByte cX4_placeOfBadByte 4 (some .int) 1 := ⟨uT 181 (by decide +kernel) rfl, uT 180 (by decide +kernel) rfl, uT 6 (by decide +kernel) rfl, ⟨by decide +kernel, by decide +kernel, by decide +kernel⟩, by decide, by decide +kernel⟩
theorem kX4_setHealth : KS yX4_setHealth cX4_setHealth 3 (some .boolean) 3 := ⟨uT 234 (by decide +kernel) rfl, uT 233 (by decide +kernel) rfl, uT 6 (by decide +kernel) rfl, ⟨by decide +kernel, by decide +kernel, by decide +kernel⟩, by decide, by decide +kernel⟩
theorem kX4_setLast : KS yX4_setLast cX4_setLast 3 (some .boolean) 3 := ⟨uT 238 (by decide +kernel) rfl, uT 237 (by decide +kernel) rfl, uT 6 (by decide +kernel) rfl, ⟨by decide +kernel, by decide +kernel, by decide +kernel⟩, by decide, by decide +kernel⟩
theorem kX4_setStock : KS yX4_setStock cX4_setStock 3 (some .boolean) 3 := ⟨uT 223 (by decide +kernel) rfl, uT 222 (by decide +kernel) rfl, uT 6 (by decide +kernel) rfl, ⟨by decide +kernel, by decide +kernel, by decide +kernel⟩, by decide, by decide +kernel⟩
theorem kX4_setWish : KS yX4_setWish cX4_setWish 3 (some .boolean) 3 := ⟨uT 226 (by decide +kernel) rfl, uT 225 (by decide +kernel) rfl, uT 6 (by decide +kernel) rfl, ⟨by decide +kernel, by decide +kernel, by decide +kernel⟩, by decide, by decide +kernel⟩
theorem kX4_tell : KS yX4_tell cX4_tell 6 (some .boolean) 3 := ⟨uT 204 (by decide +kernel) rfl, uT 203 (by decide +kernel) rfl, uT 6 (by decide +kernel) rfl, ⟨by decide +kernel, by decide +kernel, by decide +kernel⟩, by decide, by decide +kernel⟩
theorem kX6_again : KV yX6_again cX6_again 1 none 0 4 := ⟨uT 940 (by decide +kernel) rfl, uT 939 (by decide +kernel) rfl, uP 34 (by decide +kernel) rfl, uT 5 (by decide +kernel) rfl, ⟨by decide +kernel, by decide +kernel, by decide +kernel⟩, ⟨_, _, rfl⟩, by decide, by decide +kernel⟩
theorem kX6_allPlates : KV yX6_allPlates cX6_allPlates 3 (some .int) 0 4 := ⟨uT 1079 (by decide +kernel) rfl, uT 1078 (by decide +kernel) rfl, uP 45 (by decide +kernel) rfl, uT 5 (by decide +kernel) rfl, ⟨by decide +kernel, by decide +kernel, by decide +kernel⟩, ⟨_, _, rfl⟩, by decide, by decide +kernel⟩
theorem kX6_bestWish : KV yX6_bestWish cX6_bestWish 8 (some .int) 3 4 := ⟨uT 1026 (by decide +kernel) rfl, uT 1024 (by decide +kernel) rfl, uT 1025 (by decide +kernel) rfl, uT 5 (by decide +kernel) rfl, ⟨by decide +kernel, by decide +kernel, by decide +kernel⟩, ⟨_, _, rfl⟩, by decide, by decide +kernel⟩
theorem kX6_breakfast : KV yX6_breakfast cX6_breakfast 3 none 1 4 := ⟨uT 916 (by decide +kernel) rfl, uT 915 (by decide +kernel) rfl, uP 28 (by decide +kernel) rfl, uT 5 (by decide +kernel) rfl, ⟨by decide +kernel, by decide +kernel, by decide +kernel⟩, ⟨_, _, rfl⟩, by decide, by decide +kernel⟩
theorem kX6_buy : KV yX6_buy cX6_buy 6 (some .int) 1 4 := ⟨uT 1030 (by decide +kernel) rfl, uT 1028 (by decide +kernel) rfl, uT 1029 (by decide +kernel) rfl, uT 5 (by decide +kernel) rfl, ⟨by decide +kernel, by decide +kernel, by decide +kernel⟩, ⟨_, _, rfl⟩, by decide, by decide +kernel⟩
theorem kX6_carry : KV yX6_carry cX6_carry 2 (some .int) 1 4 := ⟨uT 885 (by decide +kernel) rfl, uT 884 (by decide +kernel) rfl, uP 22 (by decide +kernel) rfl, uT 5 (by decide +kernel) rfl, ⟨by decide +kernel, by decide +kernel, by decide +kernel⟩, ⟨_, _, rfl⟩, by decide, by decide +kernel⟩
theorem kX6_carryAll : KV yX6_carryAll cX6_carryAll 4 none 2 4 := ⟨uT 881 (by decide +kernel) rfl, uT 880 (by decide +kernel) rfl, uP 21 (by decide +kernel) rfl, uT 5 (by decide +kernel) rfl, ⟨by decide +kernel, by decide +kernel, by decide +kernel⟩, ⟨_, _, rfl⟩, by decide, by decide +kernel⟩
theorem kX6_comes : KV yX6_comes cX6_comes 3 (some .int) 2 4 := ⟨uT 964 (by decide +kernel) rfl, uT 962 (by decide +kernel) rfl, uT 963 (by decide +kernel) rfl, uT 5 (by decide +kernel) rfl, ⟨by decide +kernel, by decide +kernel, by decide +kernel⟩, ⟨_, _, rfl⟩, by decide, by decide +kernel⟩
theorem kX6_comesTold : KV yX6_comesTold cX6_comesTold 4 (some .boolean) 1 4 := ⟨uT 889 (by decide +kernel) rfl, uT 888 (by decide +kernel) rfl, uP 23 (by decide +kernel) rfl, uT 5 (by decide +kernel) rfl, ⟨by decide +kernel, by decide +kernel, by decide +kernel⟩, ⟨_, _, rfl⟩, by decide, by decide +kernel⟩
theorem kX6_copy : KV yX6_copy cX6_copy 7 (some .int) 5 4 := ⟨uT 1179 (by decide +kernel) rfl, uT 1177 (by decide +kernel) rfl, uT 1178 (by decide +kernel) rfl, uT 5 (by decide +kernel) rfl, ⟨by decide +kernel, by decide +kernel, by decide +kernel⟩, ⟨_, _, rfl⟩, by decide, by decide +kernel⟩
theorem kX6_cost : KV yX6_cost cX6_cost 2 (some .int) 1 4 := ⟨uT 1183 (by decide +kernel) rfl, uT 1181 (by decide +kernel) rfl, uT 1182 (by decide +kernel) rfl, uT 5 (by decide +kernel) rfl, ⟨by decide +kernel, by decide +kernel, by decide +kernel⟩, ⟨_, _, rfl⟩, by decide, by decide +kernel⟩
theorem kX6_costOf : KS yX6_costOf cX6_costOf 2 (some .int) 2 := ⟨uT 1186 (by decide +kernel) rfl, uT 1185 (by decide +kernel) rfl, uT 5 (by decide +kernel) rfl, ⟨by decide +kernel, by decide +kernel, by decide +kernel⟩, by decide, by decide +kernel⟩
theorem kX6_count : KV yX6_count cX6_count 2 (some .int) 1 4 := ⟨uT 1156 (by decide +kernel) rfl, uT 1154 (by decide +kernel) rfl, uT 1155 (by decide +kernel) rfl, uT 5 (by decide +kernel) rfl, ⟨by decide +kernel, by decide +kernel, by decide +kernel⟩, ⟨_, _, rfl⟩, by decide, by decide +kernel⟩
theorem kX6_divisor : KS yX6_divisor cX6_divisor 10 (some .long) 2 := ⟨uT 1129 (by decide +kernel) rfl, uT 1128 (by decide +kernel) rfl, uT 5 (by decide +kernel) rfl, ⟨by decide +kernel, by decide +kernel, by decide +kernel⟩, by decide, by decide +kernel⟩
theorem kX6_drawBelow : KV yX6_drawBelow cX6_drawBelow 2 (some .int) 1 4 := ⟨uT 1149 (by decide +kernel) rfl, uT 1148 (by decide +kernel) rfl, uP 51 (by decide +kernel) rfl, uT 5 (by decide +kernel) rfl, ⟨by decide +kernel, by decide +kernel, by decide +kernel⟩, ⟨_, _, rfl⟩, by decide, by decide +kernel⟩
theorem kX6_dreamsNext : KV yX6_dreamsNext cX6_dreamsNext 2 (some .int) 1 4 := ⟨uT 1022 (by decide +kernel) rfl, uT 1021 (by decide +kernel) rfl, uP 37 (by decide +kernel) rfl, uT 5 (by decide +kernel) rfl, ⟨by decide +kernel, by decide +kernel, by decide +kernel⟩, ⟨_, _, rfl⟩, by decide, by decide +kernel⟩
theorem kX6_dreamsOf : KV yX6_dreamsOf cX6_dreamsOf 5 (some .int) 2 4 := ⟨uT 920 (by decide +kernel) rfl, uT 919 (by decide +kernel) rfl, uP 29 (by decide +kernel) rfl, uT 5 (by decide +kernel) rfl, ⟨by decide +kernel, by decide +kernel, by decide +kernel⟩, ⟨_, _, rfl⟩, by decide, by decide +kernel⟩
theorem kX6_eatsOf : KV yX6_eatsOf cX6_eatsOf 2 (some .int) 1 4 := ⟨uT 924 (by decide +kernel) rfl, uT 923 (by decide +kernel) rfl, uP 30 (by decide +kernel) rfl, uT 5 (by decide +kernel) rfl, ⟨by decide +kernel, by decide +kernel, by decide +kernel⟩, ⟨_, _, rfl⟩, by decide, by decide +kernel⟩
theorem kX6_element : KV yX6_element cX6_element 4 (some .long) 2 4 := ⟨uT 1175 (by decide +kernel) rfl, uT 1173 (by decide +kernel) rfl, uT 1174 (by decide +kernel) rfl, uT 5 (by decide +kernel) rfl, ⟨by decide +kernel, by decide +kernel, by decide +kernel⟩, ⟨_, _, rfl⟩, by decide, by decide +kernel⟩
theorem kX6_emptyPlates : KV yX6_emptyPlates cX6_emptyPlates 3 (some .int) 0 4 := ⟨uT 1083 (by decide +kernel) rfl, uT 1082 (by decide +kernel) rfl, uP 46 (by decide +kernel) rfl, uT 5 (by decide +kernel) rfl, ⟨by decide +kernel, by decide +kernel, by decide +kernel⟩, ⟨_, _, rfl⟩, by decide, by decide +kernel⟩
theorem kX6_fills : KV yX6_fills cX6_fills 4 (some .int) 2 4 := ⟨uT 981 (by decide +kernel) rfl, uT 979 (by decide +kernel) rfl, uT 980 (by decide +kernel) rfl, uT 5 (by decide +kernel) rfl, ⟨by decide +kernel, by decide +kernel, by decide +kernel⟩, ⟨_, _, rfl⟩, by decide, by decide +kernel⟩
theorem kX6_forged : KV yX6_forged cX6_forged 4 (some .int) 1 4 := ⟨uT 1137 (by decide +kernel) rfl, uT 1135 (by decide +kernel) rfl, uT 1136 (by decide +kernel) rfl, uT 5 (by decide +kernel) rfl, ⟨by decide +kernel, by decide +kernel, by decide +kernel⟩, ⟨_, _, rfl⟩, by decide, by decide +kernel⟩
theorem kX6_fullestPlate : KV yX6_fullestPlate cX6_fullestPlate 3 (some .int) 0 4 := ⟨uT 1075 (by decide +kernel) rfl, uT 1074 (by decide +kernel) rfl, uP 44 (by decide +kernel) rfl, uT 5 (by decide +kernel) rfl, ⟨by decide +kernel, by decide +kernel, by decide +kernel⟩, ⟨_, _, rfl⟩, by decide, by decide +kernel⟩
theorem kX6_gainsOf : KV yX6_gainsOf cX6_gainsOf 3 (some .int) 2 4 := ⟨uT 928 (by decide +kernel) rfl, uT 927 (by decide +kernel) rfl, uP 31 (by decide +kernel) rfl, uT 5 (by decide +kernel) rfl, ⟨by decide +kernel, by decide +kernel, by decide +kernel⟩, ⟨_, _, rfl⟩, by decide, by decide +kernel⟩
theorem kX6_goNights : KV yX6_goNights cX6_goNights 3 none 1 4 := ⟨uT 905 (by decide +kernel) rfl, uT 904 (by decide +kernel) rfl, uP 26 (by decide +kernel) rfl, uT 5 (by decide +kernel) rfl, ⟨by decide +kernel, by decide +kernel, by decide +kernel⟩, ⟨_, _, rfl⟩, by decide, by decide +kernel⟩
theorem kX6_guest : KV yX6_guest cX6_guest 3 (some .int) 2 4 := ⟨uT 952 (by decide +kernel) rfl, uT 950 (by decide +kernel) rfl, uT 951 (by decide +kernel) rfl, uT 5 (by decide +kernel) rfl, ⟨by decide +kernel, by decide +kernel, by decide +kernel⟩, ⟨_, _, rfl⟩, by decide, by decide +kernel⟩
theorem kX6_guestComes : KV yX6_guestComes cX6_guestComes 5 (some .boolean) 3 4 := ⟨uT 893 (by decide +kernel) rfl, uT 892 (by decide +kernel) rfl, uP 24 (by decide +kernel) rfl, uT 5 (by decide +kernel) rfl, ⟨by decide +kernel, by decide +kernel, by decide +kernel⟩, ⟨_, _, rfl⟩, by decide, by decide +kernel⟩
theorem kX6_guestThen : KV yX6_guestThen cX6_guestThen 5 (some .int) 3 4 := ⟨uT 992 (by decide +kernel) rfl, uT 990 (by decide +kernel) rfl, uT 991 (by decide +kernel) rfl, uT 5 (by decide +kernel) rfl, ⟨by decide +kernel, by decide +kernel, by decide +kernel⟩, ⟨_, _, rfl⟩, by decide, by decide +kernel⟩
theorem kX6_hasBit : KS yX6_hasBit cX6_hasBit 2 (some .boolean) 2 := ⟨uT 912 (by decide +kernel) rfl, uT 911 (by decide +kernel) rfl, uT 5 (by decide +kernel) rfl, ⟨by decide +kernel, by decide +kernel, by decide +kernel⟩, by decide, by decide +kernel⟩
theorem kX6_heals : KV yX6_heals cX6_heals 4 (some .int) 2 4 := ⟨uT 976 (by decide +kernel) rfl, uT 974 (by decide +kernel) rfl, uT 975 (by decide +kernel) rfl, uT 5 (by decide +kernel) rfl, ⟨by decide +kernel, by decide +kernel, by decide +kernel⟩, ⟨_, _, rfl⟩, by decide, by decide +kernel⟩
theorem kX6_healthBut : KV yX6_healthBut cX6_healthBut 6 (some .int) 2 4 := ⟨uT 1047 (by decide +kernel) rfl, uT 1046 (by decide +kernel) rfl, uP 39 (by decide +kernel) rfl, uT 5 (by decide +kernel) rfl, ⟨by decide +kernel, by decide +kernel, by decide +kernel⟩, ⟨_, _, rfl⟩, by decide, by decide +kernel⟩
theorem kX6_held : KS yX6_held cX6_held 2 (some .int) 2 := ⟨uT 896 (by decide +kernel) rfl, uT 895 (by decide +kernel) rfl, uT 5 (by decide +kernel) rfl, ⟨by decide +kernel, by decide +kernel, by decide +kernel⟩, by decide, by decide +kernel⟩
theorem kX6_here : KV yX6_here cX6_here 1 (some .int) 0 4 := ⟨uT 860 (by decide +kernel) rfl, uT 859 (by decide +kernel) rfl, uP 17 (by decide +kernel) rfl, uT 5 (by decide +kernel) rfl, ⟨by decide +kernel, by decide +kernel, by decide +kernel⟩, ⟨_, _, rfl⟩, by decide, by decide +kernel⟩
theorem kX6_image : KV yX6_image cX6_image 1 (some .int) 0 4 := ⟨uT 944 (by decide +kernel) rfl, uT 942 (by decide +kernel) rfl, uT 943 (by decide +kernel) rfl, uT 5 (by decide +kernel) rfl, ⟨by decide +kernel, by decide +kernel, by decide +kernel⟩, ⟨_, _, rfl⟩, by decide, by decide +kernel⟩
theorem kX6_in : KS yX6_in cX6_in 6 (some .boolean) 3 := ⟨uT 852 (by decide +kernel) rfl, uT 851 (by decide +kernel) rfl, uT 5 (by decide +kernel) rfl, ⟨by decide +kernel, by decide +kernel, by decide +kernel⟩, by decide, by decide +kernel⟩
theorem kX6_inn : KV yX6_inn cX6_inn 4 (some .int) 1 4 := ⟨uT 844 (by decide +kernel) rfl, uT 842 (by decide +kernel) rfl, uT 843 (by decide +kernel) rfl, uT 5 (by decide +kernel) rfl, ⟨by decide +kernel, by decide +kernel, by decide +kernel⟩, ⟨_, _, rfl⟩, by decide, by decide +kernel⟩
theorem kX6_isHealthRow : KV yX6_isHealthRow cX6_isHealthRow 5 (some .boolean) 2 4 := ⟨uT 1095 (by decide +kernel) rfl, uT 1094 (by decide +kernel) rfl, uP 48 (by decide +kernel) rfl, uT 5 (by decide +kernel) rfl, ⟨by decide +kernel, by decide +kernel, by decide +kernel⟩, ⟨_, _, rfl⟩, by decide, by decide +kernel⟩
theorem kX6_isLetter : KS yX6_isLetter cX6_isLetter 1 (some .boolean) 1 := ⟨uT 863 (by decide +kernel) rfl, uT 862 (by decide +kernel) rfl, uT 5 (by decide +kernel) rfl, ⟨by decide +kernel, by decide +kernel, by decide +kernel⟩, by decide, by decide +kernel⟩
theorem kX6_isOne : KV yX6_isOne cX6_isOne 2 (some .boolean) 1 4 := ⟨uT 936 (by decide +kernel) rfl, uT 935 (by decide +kernel) rfl, uP 33 (by decide +kernel) rfl, uT 5 (by decide +kernel) rfl, ⟨by decide +kernel, by decide +kernel, by decide +kernel⟩, ⟨_, _, rfl⟩, by decide, by decide +kernel⟩
theorem kX6_isPlate : KS yX6_isPlate cX6_isPlate 1 (some .boolean) 1 := ⟨uT 959 (by decide +kernel) rfl, uT 958 (by decide +kernel) rfl, uT 5 (by decide +kernel) rfl, ⟨by decide +kernel, by decide +kernel, by decide +kernel⟩, by decide, by decide +kernel⟩
theorem kX6_isPlateRow : KV yX6_isPlateRow cX6_isPlateRow 5 (some .boolean) 2 4 := ⟨uT 1113 (by decide +kernel) rfl, uT 1112 (by decide +kernel) rfl, uP 50 (by decide +kernel) rfl, uT 5 (by decide +kernel) rfl, ⟨by decide +kernel, by decide +kernel, by decide +kernel⟩, ⟨_, _, rfl⟩, by decide, by decide +kernel⟩
theorem kX6_isSkipped : KV yX6_isSkipped cX6_isSkipped 3 (some .boolean) 2 4 := ⟨uT 1099 (by decide +kernel) rfl, uT 1098 (by decide +kernel) rfl, uP 49 (by decide +kernel) rfl, uT 5 (by decide +kernel) rfl, ⟨by decide +kernel, by decide +kernel, by decide +kernel⟩, ⟨_, _, rfl⟩, by decide, by decide +kernel⟩
theorem kX6_isUnlike : KV yX6_isUnlike cX6_isUnlike 3 (some .boolean) 2 4 := ⟨uT 1059 (by decide +kernel) rfl, uT 1058 (by decide +kernel) rfl, uP 41 (by decide +kernel) rfl, uT 5 (by decide +kernel) rfl, ⟨by decide +kernel, by decide +kernel, by decide +kernel⟩, ⟨_, _, rfl⟩, by decide, by decide +kernel⟩
theorem kX6_judge : KV yX6_judge cX6_judge 5 (some .int) 1 4 := ⟨uT 1141 (by decide +kernel) rfl, uT 1139 (by decide +kernel) rfl, uT 1140 (by decide +kernel) rfl, uT 5 (by decide +kernel) rfl, ⟨by decide +kernel, by decide +kernel, by decide +kernel⟩, ⟨_, _, rfl⟩, by decide, by decide +kernel⟩
theorem kX6_keep : KV yX6_keep cX6_keep 5 (some .int) 4 4 := ⟨uT 1160 (by decide +kernel) rfl, uT 1158 (by decide +kernel) rfl, uT 1159 (by decide +kernel) rfl, uT 5 (by decide +kernel) rfl, ⟨by decide +kernel, by decide +kernel, by decide +kernel⟩, ⟨_, _, rfl⟩, by decide, by decide +kernel⟩
theorem kX6_lackingThen : KV yX6_lackingThen cX6_lackingThen 3 (some .int) 1 4 := ⟨uT 1034 (by decide +kernel) rfl, uT 1033 (by decide +kernel) rfl, uP 38 (by decide +kernel) rfl, uT 5 (by decide +kernel) rfl, ⟨by decide +kernel, by decide +kernel, by decide +kernel⟩, ⟨_, _, rfl⟩, by decide, by decide +kernel⟩
theorem kX6_larder : KV yX6_larder cX6_larder 2 (some .int) 1 4 := ⟨uT 956 (by decide +kernel) rfl, uT 954 (by decide +kernel) rfl, uT 955 (by decide +kernel) rfl, uT 5 (by decide +kernel) rfl, ⟨by decide +kernel, by decide +kernel, by decide +kernel⟩, ⟨_, _, rfl⟩, by decide, by decide +kernel⟩
theorem kX6_larderThen : KV yX6_larderThen cX6_larderThen 4 (some .int) 2 4 := ⟨uT 996 (by decide +kernel) rfl, uT 994 (by decide +kernel) rfl, uT 995 (by decide +kernel) rfl, uT 5 (by decide +kernel) rfl, ⟨by decide +kernel, by decide +kernel, by decide +kernel⟩, ⟨_, _, rfl⟩, by decide, by decide +kernel⟩
theorem kX6_laySeats : KV yX6_laySeats cX6_laySeats 7 none 0 4 := ⟨uT 1055 (by decide +kernel) rfl, uT 1054 (by decide +kernel) rfl, uP 40 (by decide +kernel) rfl, uT 5 (by decide +kernel) rfl, ⟨by decide +kernel, by decide +kernel, by decide +kernel⟩, ⟨_, _, rfl⟩, by decide, by decide +kernel⟩
theorem kX6_least : KV yX6_least cX6_least 6 (some .int) 2 4 := ⟨uT 1038 (by decide +kernel) rfl, uT 1036 (by decide +kernel) rfl, uT 1037 (by decide +kernel) rfl, uT 5 (by decide +kernel) rfl, ⟨by decide +kernel, by decide +kernel, by decide +kernel⟩, ⟨_, _, rfl⟩, by decide, by decide +kernel⟩
theorem kX6_leastOf : KS yX6_leastOf cX6_leastOf 1 (some .long) 1 := ⟨uT 1102 (by decide +kernel) rfl, uT 1101 (by decide +kernel) rfl, uT 5 (by decide +kernel) rfl, ⟨by decide +kernel, by decide +kernel, by decide +kernel⟩, by decide, by decide +kernel⟩
theorem kX6_leaves : KV yX6_leaves cX6_leaves 6 (some .int) 1 4 := ⟨uT 1005 (by decide +kernel) rfl, uT 1003 (by decide +kernel) rfl, uT 1004 (by decide +kernel) rfl, uT 5 (by decide +kernel) rfl, ⟨by decide +kernel, by decide +kernel, by decide +kernel⟩, ⟨_, _, rfl⟩, by decide, by decide +kernel⟩
theorem kX6_leavesIn : KV yX6_leavesIn cX6_leavesIn 4 (some .int) 1 4 := ⟨uT 1010 (by decide +kernel) rfl, uT 1009 (by decide +kernel) rfl, uP 36 (by decide +kernel) rfl, uT 5 (by decide +kernel) rfl, ⟨by decide +kernel, by decide +kernel, by decide +kernel⟩, ⟨_, _, rfl⟩, by decide, by decide +kernel⟩
theorem kX6_mares : KV yX6_mares cX6_mares 14 (some .long) 5 4 := ⟨uT 1122 (by decide +kernel) rfl, uT 1120 (by decide +kernel) rfl, uT 1121 (by decide +kernel) rfl, uT 5 (by decide +kernel) rfl, ⟨by decide +kernel, by decide +kernel, by decide +kernel⟩, ⟨_, _, rfl⟩, by decide, by decide +kernel⟩
theorem kX6_mean : KV yX6_mean cX6_mean 5 (some .long) 1 4 := ⟨uT 1133 (by decide +kernel) rfl, uT 1131 (by decide +kernel) rfl, uT 1132 (by decide +kernel) rfl, uT 5 (by decide +kernel) rfl, ⟨by decide +kernel, by decide +kernel, by decide +kernel⟩, ⟨_, _, rfl⟩, by decide, by decide +kernel⟩
theorem kX6_narrowed : KS yX6_narrowed cX6_narrowed 2 (some .long) 2 := ⟨uT 1171 (by decide +kernel) rfl, uT 1170 (by decide +kernel) rfl, uT 5 (by decide +kernel) rfl, ⟨by decide +kernel, by decide +kernel, by decide +kernel⟩, by decide, by decide +kernel⟩
theorem kX6_nightOn : KV yX6_nightOn cX6_nightOn 2 none 0 4 := ⟨uT 909 (by decide +kernel) rfl, uT 908 (by decide +kernel) rfl, uP 27 (by decide +kernel) rfl, uT 5 (by decide +kernel) rfl, ⟨by decide +kernel, by decide +kernel, by decide +kernel⟩, ⟨_, _, rfl⟩, by decide, by decide +kernel⟩
theorem kX6_nights : KV yX6_nights cX6_nights 2 (some .int) 1 4 := ⟨uT 985 (by decide +kernel) rfl, uT 983 (by decide +kernel) rfl, uT 984 (by decide +kernel) rfl, uT 5 (by decide +kernel) rfl, ⟨by decide +kernel, by decide +kernel, by decide +kernel⟩, ⟨_, _, rfl⟩, by decide, by decide +kernel⟩
theorem kX6_nightsCome : KV yX6_nightsCome cX6_nightsCome 3 (some .boolean) 1 4 := ⟨uT 900 (by decide +kernel) rfl, uT 899 (by decide +kernel) rfl, uP 25 (by decide +kernel) rfl, uT 5 (by decide +kernel) rfl, ⟨by decide +kernel, by decide +kernel, by decide +kernel⟩, ⟨_, _, rfl⟩, by decide, by decide +kernel⟩
theorem kX6_ofGuest : KV yX6_ofGuest cX6_ofGuest 5 (some .boolean) 3 4 := ⟨uT 932 (by decide +kernel) rfl, uT 931 (by decide +kernel) rfl, uP 32 (by decide +kernel) rfl, uT 5 (by decide +kernel) rfl, ⟨by decide +kernel, by decide +kernel, by decide +kernel⟩, ⟨_, _, rfl⟩, by decide, by decide +kernel⟩
theorem kX6_onesOf : KS yX6_onesOf cX6_onesOf 3 (some .int) 1 := ⟨uT 988 (by decide +kernel) rfl, uT 987 (by decide +kernel) rfl, uT 5 (by decide +kernel) rfl, ⟨by decide +kernel, by decide +kernel, by decide +kernel⟩, by decide, by decide +kernel⟩
theorem kX6_out : KV yX6_out cX6_out 4 (some .int) 1 4 := ⟨uT 1014 (by decide +kernel) rfl, uT 1012 (by decide +kernel) rfl, uT 1013 (by decide +kernel) rfl, uT 5 (by decide +kernel) rfl, ⟨by decide +kernel, by decide +kernel, by decide +kernel⟩, ⟨_, _, rfl⟩, by decide, by decide +kernel⟩
theorem kX6_partOf : KS yX6_partOf cX6_partOf 7 (some .long) 3 := ⟨uT 1126 (by decide +kernel) rfl, uT 1125 (by decide +kernel) rfl, uT 5 (by decide +kernel) rfl, ⟨by decide +kernel, by decide +kernel, by decide +kernel⟩, by decide, by decide +kernel⟩
theorem kX6_platesOf : KV yX6_platesOf cX6_platesOf 4 (some .int) 1 4 := ⟨uT 1087 (by decide +kernel) rfl, uT 1086 (by decide +kernel) rfl, uP 47 (by decide +kernel) rfl, uT 5 (by decide +kernel) rfl, ⟨by decide +kernel, by decide +kernel, by decide +kernel⟩, ⟨_, _, rfl⟩, by decide, by decide +kernel⟩
theorem kX6_put : KV yX6_put cX6_put 5 (some .int) 3 4 := ⟨uT 1168 (by decide +kernel) rfl, uT 1166 (by decide +kernel) rfl, uT 1167 (by decide +kernel) rfl, uT 5 (by decide +kernel) rfl, ⟨by decide +kernel, by decide +kernel, by decide +kernel⟩, ⟨_, _, rfl⟩, by decide, by decide +kernel⟩
theorem kX6_readDigits : KV yX6_readDigits cX6_readDigits 4 (some .int) 1 4 := ⟨uT 871 (by decide +kernel) rfl, uT 870 (by decide +kernel) rfl, uP 19 (by decide +kernel) rfl, uT 5 (by decide +kernel) rfl, ⟨by decide +kernel, by decide +kernel, by decide +kernel⟩, ⟨_, _, rfl⟩, by decide, by decide +kernel⟩
theorem kX6_readNumbers : KV yX6_readNumbers cX6_readNumbers 3 none 2 4 := ⟨uT 867 (by decide +kernel) rfl, uT 866 (by decide +kernel) rfl, uP 18 (by decide +kernel) rfl, uT 5 (by decide +kernel) rfl, ⟨by decide +kernel, by decide +kernel, by decide +kernel⟩, ⟨_, _, rfl⟩, by decide, by decide +kernel⟩
theorem kX6_readStatement : KV yX6_readStatement cX6_readStatement 3 none 0 4 := ⟨uT 856 (by decide +kernel) rfl, uT 855 (by decide +kernel) rfl, uP 16 (by decide +kernel) rfl, uT 5 (by decide +kernel) rfl, ⟨by decide +kernel, by decide +kernel, by decide +kernel⟩, ⟨_, _, rfl⟩, by decide, by decide +kernel⟩
theorem kX6_restore : KV yX6_restore cX6_restore 1 (some .int) 0 4 := ⟨uT 948 (by decide +kernel) rfl, uT 946 (by decide +kernel) rfl, uT 947 (by decide +kernel) rfl, uT 5 (by decide +kernel) rfl, ⟨by decide +kernel, by decide +kernel, by decide +kernel⟩, ⟨_, _, rfl⟩, by decide, by decide +kernel⟩
theorem kX6_row : KV yX6_row cX6_row 5 (some .int) 3 4 := ⟨uT 1164 (by decide +kernel) rfl, uT 1162 (by decide +kernel) rfl, uT 1163 (by decide +kernel) rfl, uT 5 (by decide +kernel) rfl, ⟨by decide +kernel, by decide +kernel, by decide +kernel⟩, ⟨_, _, rfl⟩, by decide, by decide +kernel⟩
theorem kX6_same : KV yX6_same cX6_same 2 (some .int) 1 4 := ⟨uT 1063 (by decide +kernel) rfl, uT 1061 (by decide +kernel) rfl, uT 1062 (by decide +kernel) rfl, uT 5 (by decide +kernel) rfl, ⟨by decide +kernel, by decide +kernel, by decide +kernel⟩, ⟨_, _, rfl⟩, by decide, by decide +kernel⟩
theorem kX6_sameTwos : KV yX6_sameTwos cX6_sameTwos 4 (some .int) 0 4 := ⟨uT 1067 (by decide +kernel) rfl, uT 1066 (by decide +kernel) rfl, uP 42 (by decide +kernel) rfl, uT 5 (by decide +kernel) rfl, ⟨by decide +kernel, by decide +kernel, by decide +kernel⟩, ⟨_, _, rfl⟩, by decide, by decide +kernel⟩
theorem kX6_seats : KV yX6_seats cX6_seats 8 (some .int) 1 4 := ⟨uT 1051 (by decide +kernel) rfl, uT 1049 (by decide +kernel) rfl, uT 1050 (by decide +kernel) rfl, uT 5 (by decide +kernel) rfl, ⟨by decide +kernel, by decide +kernel, by decide +kernel⟩, ⟨_, _, rfl⟩, by decide, by decide +kernel⟩
theorem kX6_send : KV yX6_send cX6_send 7 (some .int) 1 4 := ⟨uT 1043 (by decide +kernel) rfl, uT 1041 (by decide +kernel) rfl, uT 1042 (by decide +kernel) rfl, uT 5 (by decide +kernel) rfl, ⟨by decide +kernel, by decide +kernel, by decide +kernel⟩, ⟨_, _, rfl⟩, by decide, by decide +kernel⟩
theorem kX6_table : KV yX6_table cX6_table 4 (some .int) 2 4 := ⟨uT 1018 (by decide +kernel) rfl, uT 1016 (by decide +kernel) rfl, uT 1017 (by decide +kernel) rfl, uT 5 (by decide +kernel) rfl, ⟨by decide +kernel, by decide +kernel, by decide +kernel⟩, ⟨_, _, rfl⟩, by decide, by decide +kernel⟩
theorem kX6_then : KV yX6_then cX6_then 4 (some .int) 2 4 := ⟨uT 1000 (by decide +kernel) rfl, uT 998 (by decide +kernel) rfl, uT 999 (by decide +kernel) rfl, uT 5 (by decide +kernel) rfl, ⟨by decide +kernel, by decide +kernel, by decide +kernel⟩, ⟨_, _, rfl⟩, by decide, by decide +kernel⟩
theorem kX6_think : KV yX6_think cX6_think 1 none 0 4 := ⟨uT 877 (by decide +kernel) rfl, uT 876 (by decide +kernel) rfl, uP 20 (by decide +kernel) rfl, uT 5 (by decide +kernel) rfl, ⟨by decide +kernel, by decide +kernel, by decide +kernel⟩, ⟨_, _, rfl⟩, by decide, by decide +kernel⟩
theorem kX6_thrown : KV yX6_thrown cX6_thrown 1 (some .int) 0 4 := ⟨uT 840 (by decide +kernel) rfl, uT 838 (by decide +kernel) rfl, uT 839 (by decide +kernel) rfl, uT 5 (by decide +kernel) rfl, ⟨by decide +kernel, by decide +kernel, by decide +kernel⟩, ⟨_, _, rfl⟩, by decide, by decide +kernel⟩
theorem kX6_toss : KV yX6_toss cX6_toss 4 (some .int) 1 4 := ⟨uT 1190 (by decide +kernel) rfl, uT 1188 (by decide +kernel) rfl, uT 1189 (by decide +kernel) rfl, uT 5 (by decide +kernel) rfl, ⟨by decide +kernel, by decide +kernel, by decide +kernel⟩, ⟨_, _, rfl⟩, by decide, by decide +kernel⟩
theorem kX6_two : KV yX6_two cX6_two 7 (some .int) 3 4 := ⟨uT 1117 (by decide +kernel) rfl, uT 1115 (by decide +kernel) rfl, uT 1116 (by decide +kernel) rfl, uT 5 (by decide +kernel) rfl, ⟨by decide +kernel, by decide +kernel, by decide +kernel⟩, ⟨_, _, rfl⟩, by decide, by decide +kernel⟩
theorem kX6_wellest : KV yX6_wellest cX6_wellest 3 (some .int) 0 4 := ⟨uT 1071 (by decide +kernel) rfl, uT 1070 (by decide +kernel) rfl, uP 43 (by decide +kernel) rfl, uT 5 (by decide +kernel) rfl, ⟨by decide +kernel, by decide +kernel, by decide +kernel⟩, ⟨_, _, rfl⟩, by decide, by decide +kernel⟩
theorem kX6_whatIs : KV yX6_whatIs cX6_whatIs 7 (some .int) 3 4 := ⟨uT 1091 (by decide +kernel) rfl, uT 1089 (by decide +kernel) rfl, uT 1090 (by decide +kernel) rfl, uT 5 (by decide +kernel) rfl, ⟨by decide +kernel, by decide +kernel, by decide +kernel⟩, ⟨_, _, rfl⟩, by decide, by decide +kernel⟩
theorem kX6_whatWish : KV yX6_whatWish cX6_whatWish 6 (some .int) 2 4 := ⟨uT 1109 (by decide +kernel) rfl, uT 1107 (by decide +kernel) rfl, uT 1108 (by decide +kernel) rfl, uT 5 (by decide +kernel) rfl, ⟨by decide +kernel, by decide +kernel, by decide +kernel⟩, ⟨_, _, rfl⟩, by decide, by decide +kernel⟩
theorem kX6_wishes : KV yX6_wishes cX6_wishes 4 (some .int) 2 4 := ⟨uT 972 (by decide +kernel) rfl, uT 970 (by decide +kernel) rfl, uT 971 (by decide +kernel) rfl, uT 5 (by decide +kernel) rfl, ⟨by decide +kernel, by decide +kernel, by decide +kernel⟩, ⟨_, _, rfl⟩, by decide, by decide +kernel⟩
theorem kX6_wrongKept : KV yX6_wrongKept cX6_wrongKept 2 (some .int) 1 4 := ⟨uT 968 (by decide +kernel) rfl, uT 967 (by decide +kernel) rfl, uP 35 (by decide +kernel) rfl, uT 5 (by decide +kernel) rfl, ⟨by decide +kernel, by decide +kernel, by decide +kernel⟩, ⟨_, _, rfl⟩, by decide, by decide +kernel⟩
theorem kX6_wrongRow : KV yX6_wrongRow cX6_wrongRow 2 (some .int) 1 4 := ⟨uT 848 (by decide +kernel) rfl, uT 847 (by decide +kernel) rfl, uP 15 (by decide +kernel) rfl, uT 5 (by decide +kernel) rfl, ⟨by decide +kernel, by decide +kernel, by decide +kernel⟩, ⟨_, _, rfl⟩, by decide, by decide +kernel⟩
theorem kX6_years : KV yX6_years cX6_years 8 (some .int) 3 4 := ⟨uT 1145 (by decide +kernel) rfl, uT 1143 (by decide +kernel) rfl, uT 1144 (by decide +kernel) rfl, uT 5 (by decide +kernel) rfl, ⟨by decide +kernel, by decide +kernel, by decide +kernel⟩, ⟨_, _, rfl⟩, by decide, by decide +kernel⟩
theorem kJ6_bitCount_0f7a4 : KS yJ6_bitCount_0f7a4 cJ6_bitCount_0f7a4 1 (some .int) 1 := ⟨uT 336 (by decide +kernel) rfl, uT 335 (by decide +kernel) rfl, uT 10 (by decide +kernel) rfl, ⟨by decide +kernel, by decide +kernel, by decide +kernel⟩, by decide, by decide +kernel⟩
theorem lRX5_9 : Cond.methodLink RX5 9 yX0_init ∈ uW := uT 27 (by decide +kernel) rfl
theorem lRX5_44 : Cond.methodLink RX5 44 yX5_rowRefusal ∈ uW := uT 165 (by decide +kernel) rfl
theorem lRX5_52 : Cond.methodLink RX5 52 yX4_placeOfBadByte ∈ uW := uT 179 (by decide +kernel) rfl
theorem lRX5_58 : Cond.methodLink RX5 58 yX5_inMind ∈ uW := uT 188 (by decide +kernel) rfl
theorem lRX5_68 : Cond.methodLink RX5 68 yX4_isLetter ∈ uW := uT 199 (by decide +kernel) rfl
theorem lRX5_72 : Cond.methodLink RX5 72 yX4_tell ∈ uW := uT 202 (by decide +kernel) rfl
theorem lRX5_76 : Cond.methodLink RX5 76 yX0_become ∈ uW := uT 192 (by decide +kernel) rfl
theorem lRX5_80 : Cond.methodLink RX5 80 yX0_knows ∈ uW := uT 297 (by decide +kernel) rfl
theorem lRX5_98 : Cond.methodLink RX5 98 yX0_isThere ∈ uW := uT 298 (by decide +kernel) rfl
theorem lRX5_101 : Cond.methodLink RX5 101 yX1_eats ∈ uW := uT 299 (by decide +kernel) rfl
theorem lRX5_106 : Cond.methodLink RX5 106 yX1_gain ∈ uW := uT 300 (by decide +kernel) rfl
theorem lRX5_110 : Cond.methodLink RX5 110 yX5_isPlate ∈ uW := uT 305 (by decide +kernel) rfl
theorem lRX5_116 : Cond.methodLink RX5 116 yX5_kindRefusal ∈ uW := uT 312 (by decide +kernel) rfl
theorem lRX5_125 : Cond.methodLink RX5 125 yX0_admit ∈ uW := uT 316 (by decide +kernel) rfl
theorem lRX5_129 : Cond.methodLink RX5 129 yX5_within ∈ uW := uT 176 (by decide +kernel) rfl
theorem lRX5_136 : Cond.methodLink RX5 136 yX0_pass ∈ uW := uT 333 (by decide +kernel) rfl
theorem lRX5_143 : Cond.methodLink RX5 143 yJ6_bitCount_0f7a4 ∈ uW := uT 334 (by decide +kernel) rfl
theorem lRX5_148 : Cond.methodLink RX5 148 yX5_isWhile ∈ uW := uT 344 (by decide +kernel) rfl
theorem lRX5_157 : Cond.methodLink RX5 157 yX5_firstToLeave ∈ uW := uT 359 (by decide +kernel) rfl
theorem lRX5_161 : Cond.methodLink RX5 161 yX5_leastOf ∈ uW := uT 363 (by decide +kernel) rfl
theorem lRX5_164 : Cond.methodLink RX5 164 yX0_nextDream ∈ uW := uT 374 (by decide +kernel) rfl
theorem lRX5_170 : Cond.methodLink RX5 170 yX0_stock ∈ uW := uT 386 (by decide +kernel) rfl
theorem lRX5_174 : Cond.methodLink RX5 174 yX5_suffices ∈ uW := uT 391 (by decide +kernel) rfl
theorem lRX5_177 : Cond.methodLink RX5 177 yX0_passUnlacking ∈ uW := uT 395 (by decide +kernel) rfl
theorem lRX5_183 : Cond.methodLink RX5 183 yX5_healthThen ∈ uW := uT 403 (by decide +kernel) rfl
theorem lRX5_186 : Cond.methodLink RX5 186 yX0_healthOf ∈ uW := uT 407 (by decide +kernel) rfl
theorem lRX5_189 : Cond.methodLink RX5 189 yX2_seat ∈ uW := uT 415 (by decide +kernel) rfl
theorem lRX5_193 : Cond.methodLink RX5 193 yX0_twosOfOneDream ∈ uW := uT 433 (by decide +kernel) rfl
theorem lRX5_196 : Cond.methodLink RX5 196 yX0_wellest ∈ uW := uT 438 (by decide +kernel) rfl
theorem lRX5_199 : Cond.methodLink RX5 199 yX0_fullest ∈ uW := uT 442 (by decide +kernel) rfl
theorem lRX5_202 : Cond.methodLink RX5 202 yX0_platesInAll ∈ uW := uT 446 (by decide +kernel) rfl
theorem lRX5_205 : Cond.methodLink RX5 205 yX0_emptyPlates ∈ uW := uT 450 (by decide +kernel) rfl
theorem lRX5_208 : Cond.methodLink RX5 208 yX0_platesOf ∈ uW := uT 454 (by decide +kernel) rfl
theorem lRX5_212 : Cond.methodLink RX5 212 yX5_healthsAreSo ∈ uW := uT 462 (by decide +kernel) rfl
theorem lRX5_216 : Cond.methodLink RX5 216 yX3_isSo ∈ uW := uT 465 (by decide +kernel) rfl
theorem lRX5_220 : Cond.methodLink RX5 220 yX5_lastPlatesAreSo ∈ uW := uT 478 (by decide +kernel) rfl
theorem lRX5_223 : Cond.methodLink RX5 223 yX5_choose ∈ uW := uT 485 (by decide +kernel) rfl
theorem lRX5_227 : Cond.methodLink RX5 227 yX0_passNight ∈ uW := uT 489 (by decide +kernel) rfl
theorem lRX5_231 : Cond.methodLink RX5 231 yX5_refusedLong ∈ uW := uT 494 (by decide +kernel) rfl
theorem lRX5_235 : Cond.methodLink RX5 235 yX5_partOf ∈ uW := uT 498 (by decide +kernel) rfl
theorem lRX5_239 : Cond.methodLink RX5 239 yX5_drawInto ∈ uW := uT 520 (by decide +kernel) rfl
theorem lRX5_246 : Cond.methodLink RX5 246 yX5_isShelf ∈ uW := uT 173 (by decide +kernel) rfl
theorem lRX5_249 : Cond.methodLink RX5 249 yX3_holdNothing ∈ uW := uT 542 (by decide +kernel) rfl
theorem lRX5_252 : Cond.methodLink RX5 252 yX1_isKind ∈ uW := uT 546 (by decide +kernel) rfl
theorem lRX5_255 : Cond.methodLink RX5 255 yX5_isDigit ∈ uW := uT 547 (by decide +kernel) rfl
theorem lRX5_258 : Cond.methodLink RX5 258 yX3_holdKind ∈ uW := uT 548 (by decide +kernel) rfl
theorem lRX5_261 : Cond.methodLink RX5 261 yX3_isSort ∈ uW := uT 556 (by decide +kernel) rfl
theorem lRX5_264 : Cond.methodLink RX5 264 yX3_holdRow ∈ uW := uT 559 (by decide +kernel) rfl
theorem lRX5_267 : Cond.methodLink RX5 267 yX3_hasCell ∈ uW := uT 567 (by decide +kernel) rfl
theorem lRX5_270 : Cond.methodLink RX5 270 yX3_lowestBits ∈ uW := uT 568 (by decide +kernel) rfl
theorem lRX5_291 : Cond.methodLink RX5 291 yX3_hasCells ∈ uW := uT 575 (by decide +kernel) rfl
theorem lRX5_300 : Cond.methodLink RX5 300 yX1_price ∈ uW := uT 584 (by decide +kernel) rfl
theorem lRX5_303 : Cond.methodLink RX5 303 yX1_fail ∈ uW := uT 594 (by decide +kernel) rfl
theorem lRX5_308 : Cond.methodLink RX5 308 yX5_refusalUnless ∈ uW := uT 169 (by decide +kernel) rfl
theorem lRX5_313 : Cond.methodLink RX5 313 yX5_sharedDivisor ∈ uW := uT 501 (by decide +kernel) rfl
theorem lRX0_62 : Cond.methodLink RX0 62 yJ9_min_7cf53 ∈ uW := uT 246 (by decide +kernel) rfl
theorem lRX0_68 : Cond.methodLink RX0 68 yX0_passNight ∈ uW := uT 256 (by decide +kernel) rfl
theorem lRX0_72 : Cond.methodLink RX0 72 yX0_stock ∈ uW := uT 260 (by decide +kernel) rfl
theorem lRX0_76 : Cond.methodLink RX0 76 yX0_isThere ∈ uW := uT 261 (by decide +kernel) rfl
theorem lRX0_80 : Cond.methodLink RX0 80 yX0_dream ∈ uW := uT 265 (by decide +kernel) rfl
theorem lRX0_83 : Cond.methodLink RX0 83 yX0_breakfast ∈ uW := uT 275 (by decide +kernel) rfl
theorem lRX0_86 : Cond.methodLink RX0 86 yX1_dream ∈ uW := uT 269 (by decide +kernel) rfl
theorem lRX0_91 : Cond.methodLink RX0 91 yX1_eats ∈ uW := uT 279 (by decide +kernel) rfl
theorem lRX0_95 : Cond.methodLink RX0 95 yX0_changeHealth ∈ uW := uT 282 (by decide +kernel) rfl
theorem lRX0_98 : Cond.methodLink RX0 98 yX1_gain ∈ uW := uT 289 (by decide +kernel) rfl
theorem lRX0_102 : Cond.methodLink RX0 102 yJ9_max_7cf53 ∈ uW := uT 286 (by decide +kernel) rfl
theorem lRX0_105 : Cond.methodLink RX0 105 yX0_nextDream ∈ uW := uT 437 (by decide +kernel) rfl
theorem lRX1_15 : Cond.methodLink RX1 15 yX1_cooksDream ∈ uW := uT 272 (by decide +kernel) rfl
theorem lRX1_19 : Cond.methodLink RX1 19 yJ9_max_7cf53 ∈ uW := uT 292 (by decide +kernel) rfl
theorem lRX2_24 : Cond.methodLink RX2 24 yJ6_bitCount_0f7a4 ∈ uW := uT 419 (by decide +kernel) rfl
theorem lRX2_33 : Cond.methodLink RX2 33 yX0_nextDream ∈ uW := uT 420 (by decide +kernel) rfl
theorem lRX2_36 : Cond.methodLink RX2 36 yX2_seatRest ∈ uW := uT 421 (by decide +kernel) rfl
theorem lRX2_40 : Cond.methodLink RX2 40 yX2_fits ∈ uW := uT 425 (by decide +kernel) rfl
theorem lRX3_35 : Cond.methodLink RX3 35 yX3_leastNumber ∈ uW := uT 469 (by decide +kernel) rfl
theorem lRX4_21 : Cond.methodLink RX4 21 yX4_digitsBehind ∈ uW := uT 182 (by decide +kernel) rfl
theorem lRX4_29 : Cond.methodLink RX4 29 yX3_hasCell ∈ uW := uT 208 (by decide +kernel) rfl
theorem lRX4_32 : Cond.methodLink RX4 32 yX4_digitAt ∈ uW := uT 205 (by decide +kernel) rfl
theorem lRX4_36 : Cond.methodLink RX4 36 yX1_isKind ∈ uW := uT 213 (by decide +kernel) rfl
theorem lRX4_41 : Cond.methodLink RX4 41 yX0_admit ∈ uW := uT 217 (by decide +kernel) rfl
theorem lRX4_47 : Cond.methodLink RX4 47 yX4_setStock ∈ uW := uT 221 (by decide +kernel) rfl
theorem lRX4_51 : Cond.methodLink RX4 51 yX4_setWish ∈ uW := uT 224 (by decide +kernel) rfl
theorem lRX4_54 : Cond.methodLink RX4 54 yX4_setHealth ∈ uW := uT 232 (by decide +kernel) rfl
theorem lRX4_57 : Cond.methodLink RX4 57 yX4_setLast ∈ uW := uT 236 (by decide +kernel) rfl
theorem lRX4_60 : Cond.methodLink RX4 60 yX4_addStock ∈ uW := uT 239 (by decide +kernel) rfl
theorem lRX4_63 : Cond.methodLink RX4 63 yX4_passNights ∈ uW := uT 249 (by decide +kernel) rfl
theorem lRX4_70 : Cond.methodLink RX4 70 yX0_stock ∈ uW := uT 242 (by decide +kernel) rfl
theorem lRX4_74 : Cond.methodLink RX4 74 yX0_knows ∈ uW := uT 227 (by decide +kernel) rfl
theorem lRX4_96 : Cond.methodLink RX4 96 yX0_pass ∈ uW := uT 252 (by decide +kernel) rfl
theorem lRL_7 : Cond.methodLink RL 7 yX5_element ∈ uW := uT 702 (by decide +kernel) rfl
theorem lRL_17 : Cond.methodLink RL 17 yX5_init ∈ uW := uT 19 (by decide +kernel) rfl
theorem lRL_20 : Cond.methodLink RL 20 yX6_init ∈ uW := uT 713 (by decide +kernel) rfl
theorem lRL_21 : Cond.methodLink RL 21 yX5_inn ∈ uW := uT 161 (by decide +kernel) rfl
theorem lRL_25 : Cond.methodLink RL 25 yX6_inn ∈ uW := uT 841 (by decide +kernel) rfl
theorem lRL_26 : Cond.methodLink RL 26 yX5_guest ∈ uW := uT 293 (by decide +kernel) rfl
theorem lRL_30 : Cond.methodLink RL 30 yX6_guest ∈ uW := uT 949 (by decide +kernel) rfl
theorem lRL_31 : Cond.methodLink RL 31 yX5_larder ∈ uW := uT 301 (by decide +kernel) rfl
theorem lRL_34 : Cond.methodLink RL 34 yX6_larder ∈ uW := uT 953 (by decide +kernel) rfl
theorem lRL_35 : Cond.methodLink RL 35 yX5_comes ∈ uW := uT 308 (by decide +kernel) rfl
theorem lRL_38 : Cond.methodLink RL 38 yX6_comes ∈ uW := uT 961 (by decide +kernel) rfl
theorem lRL_39 : Cond.methodLink RL 39 yX5_wishes ∈ uW := uT 317 (by decide +kernel) rfl
theorem lRL_42 : Cond.methodLink RL 42 yX6_wishes ∈ uW := uT 969 (by decide +kernel) rfl
theorem lRL_43 : Cond.methodLink RL 43 yX5_heals ∈ uW := uT 321 (by decide +kernel) rfl
theorem lRL_46 : Cond.methodLink RL 46 yX6_heals ∈ uW := uT 973 (by decide +kernel) rfl
theorem lRL_47 : Cond.methodLink RL 47 yX5_fills ∈ uW := uT 325 (by decide +kernel) rfl
theorem lRL_50 : Cond.methodLink RL 50 yX6_fills ∈ uW := uT 978 (by decide +kernel) rfl
theorem lRL_51 : Cond.methodLink RL 51 yX5_nights ∈ uW := uT 329 (by decide +kernel) rfl
theorem lRL_54 : Cond.methodLink RL 54 yX6_nights ∈ uW := uT 982 (by decide +kernel) rfl
theorem lRL_55 : Cond.methodLink RL 55 yX5_guestThen ∈ uW := uT 340 (by decide +kernel) rfl
theorem lRL_59 : Cond.methodLink RL 59 yX6_guestThen ∈ uW := uT 989 (by decide +kernel) rfl
theorem lRL_60 : Cond.methodLink RL 60 yX5_larderThen ∈ uW := uT 347 (by decide +kernel) rfl
theorem lRL_63 : Cond.methodLink RL 63 yX6_larderThen ∈ uW := uT 993 (by decide +kernel) rfl
theorem lRL_64 : Cond.methodLink RL 64 yX5_then ∈ uW := uT 351 (by decide +kernel) rfl
theorem lRL_67 : Cond.methodLink RL 67 yX6_then ∈ uW := uT 997 (by decide +kernel) rfl
theorem lRL_68 : Cond.methodLink RL 68 yX5_leaves ∈ uW := uT 355 (by decide +kernel) rfl
theorem lRL_71 : Cond.methodLink RL 71 yX6_leaves ∈ uW := uT 1002 (by decide +kernel) rfl
theorem lRL_72 : Cond.methodLink RL 72 yX5_out ∈ uW := uT 366 (by decide +kernel) rfl
theorem lRL_75 : Cond.methodLink RL 75 yX6_out ∈ uW := uT 1011 (by decide +kernel) rfl
theorem lRL_76 : Cond.methodLink RL 76 yX5_table ∈ uW := uT 370 (by decide +kernel) rfl
theorem lRL_79 : Cond.methodLink RL 79 yX6_table ∈ uW := uT 1015 (by decide +kernel) rfl
theorem lRL_80 : Cond.methodLink RL 80 yX5_bestWish ∈ uW := uT 378 (by decide +kernel) rfl
theorem lRL_83 : Cond.methodLink RL 83 yX6_bestWish ∈ uW := uT 1023 (by decide +kernel) rfl
theorem lRL_84 : Cond.methodLink RL 84 yX5_buy ∈ uW := uT 382 (by decide +kernel) rfl
theorem lRL_87 : Cond.methodLink RL 87 yX6_buy ∈ uW := uT 1027 (by decide +kernel) rfl
theorem lRL_88 : Cond.methodLink RL 88 yX5_least ∈ uW := uT 387 (by decide +kernel) rfl
theorem lRL_91 : Cond.methodLink RL 91 yX6_least ∈ uW := uT 1035 (by decide +kernel) rfl
theorem lRL_92 : Cond.methodLink RL 92 yX5_send ∈ uW := uT 399 (by decide +kernel) rfl
theorem lRL_95 : Cond.methodLink RL 95 yX6_send ∈ uW := uT 1040 (by decide +kernel) rfl
theorem lRL_96 : Cond.methodLink RL 96 yX5_seats ∈ uW := uT 411 (by decide +kernel) rfl
theorem lRL_99 : Cond.methodLink RL 99 yX6_seats ∈ uW := uT 1048 (by decide +kernel) rfl
theorem lRL_100 : Cond.methodLink RL 100 yX5_same ∈ uW := uT 429 (by decide +kernel) rfl
theorem lRL_103 : Cond.methodLink RL 103 yX6_same ∈ uW := uT 1060 (by decide +kernel) rfl
theorem lRL_104 : Cond.methodLink RL 104 yX5_whatIs ∈ uW := uT 458 (by decide +kernel) rfl
theorem lRL_107 : Cond.methodLink RL 107 yX6_whatIs ∈ uW := uT 1088 (by decide +kernel) rfl
theorem lRL_108 : Cond.methodLink RL 108 yX5_whatWish ∈ uW := uT 474 (by decide +kernel) rfl
theorem lRL_111 : Cond.methodLink RL 111 yX6_whatWish ∈ uW := uT 1106 (by decide +kernel) rfl
theorem lRL_112 : Cond.methodLink RL 112 yX5_two ∈ uW := uT 481 (by decide +kernel) rfl
theorem lRL_115 : Cond.methodLink RL 115 yX6_two ∈ uW := uT 1114 (by decide +kernel) rfl
theorem lRL_116 : Cond.methodLink RL 116 yX5_mares ∈ uW := uT 490 (by decide +kernel) rfl
theorem lRL_120 : Cond.methodLink RL 120 yX6_mares ∈ uW := uT 1119 (by decide +kernel) rfl
theorem lRL_121 : Cond.methodLink RL 121 yX5_mean ∈ uW := uT 504 (by decide +kernel) rfl
theorem lRL_125 : Cond.methodLink RL 125 yX6_mean ∈ uW := uT 1130 (by decide +kernel) rfl
theorem lRL_126 : Cond.methodLink RL 126 yX5_forged ∈ uW := uT 508 (by decide +kernel) rfl
theorem lRL_129 : Cond.methodLink RL 129 yX6_forged ∈ uW := uT 1134 (by decide +kernel) rfl
theorem lRL_130 : Cond.methodLink RL 130 yX5_judge ∈ uW := uT 512 (by decide +kernel) rfl
theorem lRL_133 : Cond.methodLink RL 133 yX6_judge ∈ uW := uT 1138 (by decide +kernel) rfl
theorem lRL_134 : Cond.methodLink RL 134 yX5_years ∈ uW := uT 516 (by decide +kernel) rfl
theorem lRL_137 : Cond.methodLink RL 137 yX6_years ∈ uW := uT 1142 (by decide +kernel) rfl
theorem lRL_138 : Cond.methodLink RL 138 yX5_image ∈ uW := uT 526 (by decide +kernel) rfl
theorem lRL_142 : Cond.methodLink RL 142 yX6_image ∈ uW := uT 941 (by decide +kernel) rfl
theorem lRL_143 : Cond.methodLink RL 143 yX5_restore ∈ uW := uT 530 (by decide +kernel) rfl
theorem lRL_146 : Cond.methodLink RL 146 yX6_restore ∈ uW := uT 945 (by decide +kernel) rfl
theorem lRL_147 : Cond.methodLink RL 147 yX5_count ∈ uW := uT 534 (by decide +kernel) rfl
theorem lRL_150 : Cond.methodLink RL 150 yX6_count ∈ uW := uT 1153 (by decide +kernel) rfl
theorem lRL_151 : Cond.methodLink RL 151 yX5_keep ∈ uW := uT 538 (by decide +kernel) rfl
theorem lRL_155 : Cond.methodLink RL 155 yX6_keep ∈ uW := uT 1157 (by decide +kernel) rfl
theorem lRL_156 : Cond.methodLink RL 156 yX5_row ∈ uW := uT 552 (by decide +kernel) rfl
theorem lRL_159 : Cond.methodLink RL 159 yX6_row ∈ uW := uT 1161 (by decide +kernel) rfl
theorem lRL_160 : Cond.methodLink RL 160 yX5_put ∈ uW := uT 563 (by decide +kernel) rfl
theorem lRL_163 : Cond.methodLink RL 163 yX6_put ∈ uW := uT 1165 (by decide +kernel) rfl
theorem lRL_164 : Cond.methodLink RL 164 yL_element ∈ uW := uT 697 (by decide +kernel) rfl
theorem lRL_169 : Cond.methodLink RL 169 yX6_element ∈ uW := uT 1172 (by decide +kernel) rfl
theorem lRL_170 : Cond.methodLink RL 170 yX6_thrown ∈ uW := uT 837 (by decide +kernel) rfl
theorem lRL_173 : Cond.methodLink RL 173 yX5_copy ∈ uW := uT 571 (by decide +kernel) rfl
theorem lRL_177 : Cond.methodLink RL 177 yX6_copy ∈ uW := uT 1176 (by decide +kernel) rfl
theorem lRL_178 : Cond.methodLink RL 178 yX5_cost ∈ uW := uT 580 (by decide +kernel) rfl
theorem lRL_181 : Cond.methodLink RL 181 yX6_cost ∈ uW := uT 1180 (by decide +kernel) rfl
theorem lRL_182 : Cond.methodLink RL 182 yX5_toss ∈ uW := uT 587 (by decide +kernel) rfl
theorem lRL_185 : Cond.methodLink RL 185 yX6_toss ∈ uW := uT 1187 (by decide +kernel) rfl
theorem lRX6_81 : Cond.methodLink RX6 81 yX6_in ∈ uW := uT 850 (by decide +kernel) rfl
theorem lRX6_88 : Cond.methodLink RX6 88 yX6_held ∈ uW := uT 894 (by decide +kernel) rfl
theorem lRX6_95 : Cond.methodLink RX6 95 yX6_dreamsOf ∈ uW := uT 917 (by decide +kernel) rfl
theorem lRX6_105 : Cond.methodLink RX6 105 yX6_hasBit ∈ uW := uT 910 (by decide +kernel) rfl
theorem lRX6_109 : Cond.methodLink RX6 109 yX6_eatsOf ∈ uW := uT 921 (by decide +kernel) rfl
theorem lRX6_113 : Cond.methodLink RX6 113 yX6_gainsOf ∈ uW := uT 925 (by decide +kernel) rfl
theorem lRX6_128 : Cond.methodLink RX6 128 yX6_breakfast ∈ uW := uT 913 (by decide +kernel) rfl
theorem lRX6_132 : Cond.methodLink RX6 132 yX6_nightOn ∈ uW := uT 906 (by decide +kernel) rfl
theorem lRX6_144 : Cond.methodLink RX6 144 yX6_here ∈ uW := uT 857 (by decide +kernel) rfl
theorem lRX6_152 : Cond.methodLink RX6 152 yX6_readDigits ∈ uW := uT 868 (by decide +kernel) rfl
theorem lRX6_158 : Cond.methodLink RX6 158 yX6_isLetter ∈ uW := uT 861 (by decide +kernel) rfl
theorem lRX6_162 : Cond.methodLink RX6 162 yX6_readNumbers ∈ uW := uT 864 (by decide +kernel) rfl
theorem lRX6_168 : Cond.methodLink RX6 168 yX6_goNights ∈ uW := uT 902 (by decide +kernel) rfl
theorem lRX6_171 : Cond.methodLink RX6 171 yX6_isOne ∈ uW := uT 933 (by decide +kernel) rfl
theorem lRX6_174 : Cond.methodLink RX6 174 yX6_guestComes ∈ uW := uT 890 (by decide +kernel) rfl
theorem lRX6_178 : Cond.methodLink RX6 178 yX6_nightsCome ∈ uW := uT 897 (by decide +kernel) rfl
theorem lRX6_181 : Cond.methodLink RX6 181 yX6_ofGuest ∈ uW := uT 929 (by decide +kernel) rfl
theorem lRX6_184 : Cond.methodLink RX6 184 yX6_wrongRow ∈ uW := uT 845 (by decide +kernel) rfl
theorem lRX6_187 : Cond.methodLink RX6 187 yX6_readStatement ∈ uW := uT 853 (by decide +kernel) rfl
theorem lRX6_190 : Cond.methodLink RX6 190 yX6_think ∈ uW := uT 874 (by decide +kernel) rfl
theorem lRX6_193 : Cond.methodLink RX6 193 yX6_comesTold ∈ uW := uT 886 (by decide +kernel) rfl
theorem lRX6_196 : Cond.methodLink RX6 196 yX6_again ∈ uW := uT 937 (by decide +kernel) rfl
theorem lRX6_208 : Cond.methodLink RX6 208 yX6_carry ∈ uW := uT 882 (by decide +kernel) rfl
theorem lRX6_211 : Cond.methodLink RX6 211 yX6_carryAll ∈ uW := uT 878 (by decide +kernel) rfl
theorem lRX6_220 : Cond.methodLink RX6 220 yX6_isPlate ∈ uW := uT 957 (by decide +kernel) rfl
theorem lRX6_223 : Cond.methodLink RX6 223 yX6_wrongKept ∈ uW := uT 965 (by decide +kernel) rfl
theorem lRX6_228 : Cond.methodLink RX6 228 yX6_onesOf ∈ uW := uT 986 (by decide +kernel) rfl
theorem lRX6_235 : Cond.methodLink RX6 235 yX6_leavesIn ∈ uW := uT 1007 (by decide +kernel) rfl
theorem lRX6_238 : Cond.methodLink RX6 238 yX6_dreamsNext ∈ uW := uT 1019 (by decide +kernel) rfl
theorem lRX6_241 : Cond.methodLink RX6 241 yX6_lackingThen ∈ uW := uT 1031 (by decide +kernel) rfl
theorem lRX6_246 : Cond.methodLink RX6 246 yX6_healthBut ∈ uW := uT 1044 (by decide +kernel) rfl
theorem lRX6_249 : Cond.methodLink RX6 249 yX6_isUnlike ∈ uW := uT 1056 (by decide +kernel) rfl
theorem lRX6_252 : Cond.methodLink RX6 252 yX6_laySeats ∈ uW := uT 1052 (by decide +kernel) rfl
theorem lRX6_255 : Cond.methodLink RX6 255 yX6_sameTwos ∈ uW := uT 1064 (by decide +kernel) rfl
theorem lRX6_258 : Cond.methodLink RX6 258 yX6_wellest ∈ uW := uT 1068 (by decide +kernel) rfl
theorem lRX6_261 : Cond.methodLink RX6 261 yX6_fullestPlate ∈ uW := uT 1072 (by decide +kernel) rfl
theorem lRX6_264 : Cond.methodLink RX6 264 yX6_allPlates ∈ uW := uT 1076 (by decide +kernel) rfl
theorem lRX6_267 : Cond.methodLink RX6 267 yX6_emptyPlates ∈ uW := uT 1080 (by decide +kernel) rfl
theorem lRX6_270 : Cond.methodLink RX6 270 yX6_platesOf ∈ uW := uT 1084 (by decide +kernel) rfl
theorem lRX6_280 : Cond.methodLink RX6 280 yX6_leastOf ∈ uW := uT 1100 (by decide +kernel) rfl
theorem lRX6_284 : Cond.methodLink RX6 284 yX6_isSkipped ∈ uW := uT 1096 (by decide +kernel) rfl
theorem lRX6_287 : Cond.methodLink RX6 287 yX6_isHealthRow ∈ uW := uT 1092 (by decide +kernel) rfl
theorem lRX6_290 : Cond.methodLink RX6 290 yX6_isPlateRow ∈ uW := uT 1110 (by decide +kernel) rfl
theorem lRX6_295 : Cond.methodLink RX6 295 yX6_divisor ∈ uW := uT 1127 (by decide +kernel) rfl
theorem lRX6_301 : Cond.methodLink RX6 301 yX6_partOf ∈ uW := uT 1124 (by decide +kernel) rfl
theorem lRX6_311 : Cond.methodLink RX6 311 yX6_drawBelow ∈ uW := uT 1146 (by decide +kernel) rfl
theorem lRX6_314 : Cond.methodLink RX6 314 yX6_narrowed ∈ uW := uT 1169 (by decide +kernel) rfl
theorem lRX6_318 : Cond.methodLink RX6 318 yX6_costOf ∈ uW := uT 1184 (by decide +kernel) rfl
end
section
theorem all_tbl {l : List Cond} (h : l.all (fun w => decide (w ∈ tables_1) && goodWord w) = true) : ∀ w ∈ l, w ∈ uW := by
  intro w hw
  have h1 := List.all_eq_true.mp h w hw
  simp only [Bool.and_eq_true, decide_eq_true_eq] at h1
  exact uW_of (List.mem_append_right _ h1.1) h1.2
theorem inX0 : ∀ w ∈ u_ws RX0 TX0 13, w ∈ uW := all_tbl (by decide +kernel)
theorem inX2 : ∀ w ∈ u_ws RX2 TX2 2, w ∈ uW := all_tbl (by decide +kernel)
theorem inX3 : ∀ w ∈ u_ws RX3 TX3 6, w ∈ uW := all_tbl (by decide +kernel)
theorem inX5 : ∀ w ∈ u_ws RX5 TX5 7, w ∈ uW := all_tbl (by decide +kernel)
theorem inX6 : ∀ w ∈ u_ws RX6 TX6 39, w ∈ uW := all_tbl (by decide +kernel)
def flX0 : List (Nat × (Nat × Nat × Nat)) := [(9, (0, 0, 9)), (15, (0, 1, 9)), (18, (0, 2, 9)), (21, (0, 3, 9)), (24, (0, 4, 9)), (27, (0, 5, 9)), (36, (0, 6, 0)), (40, (0, 7, 0)), (43, (0, 8, 0)), (46, (0, 9, 0)), (49, (0, 10, 0)), (52, (0, 11, 0)), (55, (0, 12, 0))]
def fPX0 (own : String) (idx : Nat) (v : Nat × Nat × Nat) : Prop := ∃ (C : String) (T : u_T) (N : Nat) (t0 : Nat → FieldType), vwCl[v.1]? = some (C, T, N) ∧ v.2.1 < N ∧ (∀ w ∈ u_ws C T N, w ∈ uW) ∧ (T v.2.1).1 = C ∧ Cond.fieldLink own idx C (T v.2.1).2.1 (T v.2.1).2.2.1 ∈ uW ∧ (∀ k, k < N → parseFieldDescriptor (T k).2.2.1 = some (t0 k)) ∧ (∀ a, a < N → ∀ b, b < N → a ≠ b → (T a).2.1 ≠ (T b).2.1) ∧ (v.2.2 = 0 → (T v.2.1).2.2.2 = false ∧ t0 v.2.1 = .int) ∧ (v.2.2 = 1 → (T v.2.1).2.2.2 = false ∧ t0 v.2.1 = .boolean) ∧ (v.2.2 = 2 → (T v.2.1).2.2.2 = false ∧ ∃ t, t0 v.2.1 = .array t)
theorem fqX0_9 : fPX0 RX0 9 (0, 0, 9) := ⟨RX0, TX0, 13, tyX0, rfl, by decide, inX0, rfl, uT 31 (by decide +kernel) rfl, tyX0_ok, nmX0, (fun q => by cases q), (fun q => by cases q), (fun q => by cases q)⟩
theorem fqX0_15 : fPX0 RX0 15 (0, 1, 9) := ⟨RX0, TX0, 13, tyX0, rfl, by decide, inX0, rfl, uT 33 (by decide +kernel) rfl, tyX0_ok, nmX0, (fun q => by cases q), (fun q => by cases q), (fun q => by cases q)⟩
theorem fqX0_18 : fPX0 RX0 18 (0, 2, 9) := ⟨RX0, TX0, 13, tyX0, rfl, by decide, inX0, rfl, uT 35 (by decide +kernel) rfl, tyX0_ok, nmX0, (fun q => by cases q), (fun q => by cases q), (fun q => by cases q)⟩
theorem fqX0_21 : fPX0 RX0 21 (0, 3, 9) := ⟨RX0, TX0, 13, tyX0, rfl, by decide, inX0, rfl, uT 38 (by decide +kernel) rfl, tyX0_ok, nmX0, (fun q => by cases q), (fun q => by cases q), (fun q => by cases q)⟩
theorem fqX0_24 : fPX0 RX0 24 (0, 4, 9) := ⟨RX0, TX0, 13, tyX0, rfl, by decide, inX0, rfl, uT 41 (by decide +kernel) rfl, tyX0_ok, nmX0, (fun q => by cases q), (fun q => by cases q), (fun q => by cases q)⟩
theorem fqX0_27 : fPX0 RX0 27 (0, 5, 9) := ⟨RX0, TX0, 13, tyX0, rfl, by decide, inX0, rfl, uT 44 (by decide +kernel) rfl, tyX0_ok, nmX0, (fun q => by cases q), (fun q => by cases q), (fun q => by cases q)⟩
theorem fqX0_36 : fPX0 RX0 36 (0, 6, 0) := ⟨RX0, TX0, 13, tyX0, rfl, by decide, inX0, rfl, uT 48 (by decide +kernel) rfl, tyX0_ok, nmX0, fun _ => ⟨rfl, rfl⟩, (fun q => by cases q), (fun q => by cases q)⟩
theorem fqX0_40 : fPX0 RX0 40 (0, 7, 0) := ⟨RX0, TX0, 13, tyX0, rfl, by decide, inX0, rfl, uT 51 (by decide +kernel) rfl, tyX0_ok, nmX0, fun _ => ⟨rfl, rfl⟩, (fun q => by cases q), (fun q => by cases q)⟩
theorem fqX0_43 : fPX0 RX0 43 (0, 8, 0) := ⟨RX0, TX0, 13, tyX0, rfl, by decide, inX0, rfl, uT 54 (by decide +kernel) rfl, tyX0_ok, nmX0, fun _ => ⟨rfl, rfl⟩, (fun q => by cases q), (fun q => by cases q)⟩
theorem fqX0_46 : fPX0 RX0 46 (0, 9, 0) := ⟨RX0, TX0, 13, tyX0, rfl, by decide, inX0, rfl, uT 57 (by decide +kernel) rfl, tyX0_ok, nmX0, fun _ => ⟨rfl, rfl⟩, (fun q => by cases q), (fun q => by cases q)⟩
theorem fqX0_49 : fPX0 RX0 49 (0, 10, 0) := ⟨RX0, TX0, 13, tyX0, rfl, by decide, inX0, rfl, uT 59 (by decide +kernel) rfl, tyX0_ok, nmX0, fun _ => ⟨rfl, rfl⟩, (fun q => by cases q), (fun q => by cases q)⟩
theorem fqX0_52 : fPX0 RX0 52 (0, 11, 0) := ⟨RX0, TX0, 13, tyX0, rfl, by decide, inX0, rfl, uT 61 (by decide +kernel) rfl, tyX0_ok, nmX0, fun _ => ⟨rfl, rfl⟩, (fun q => by cases q), (fun q => by cases q)⟩
theorem fqX0_55 : fPX0 RX0 55 (0, 12, 0) := ⟨RX0, TX0, 13, tyX0, rfl, by decide, inX0, rfl, uT 63 (by decide +kernel) rfl, tyX0_ok, nmX0, fun _ => ⟨rfl, rfl⟩, (fun q => by cases q), (fun q => by cases q)⟩
theorem flX0_all : ∀ q ∈ flX0, fPX0 RX0 q.1 q.2 := List.forall_mem_cons.mpr ⟨fqX0_9, List.forall_mem_cons.mpr ⟨fqX0_15, List.forall_mem_cons.mpr ⟨fqX0_18, List.forall_mem_cons.mpr ⟨fqX0_21, List.forall_mem_cons.mpr ⟨fqX0_24, List.forall_mem_cons.mpr ⟨fqX0_27, List.forall_mem_cons.mpr ⟨fqX0_36, List.forall_mem_cons.mpr ⟨fqX0_40, List.forall_mem_cons.mpr ⟨fqX0_43, List.forall_mem_cons.mpr ⟨fqX0_46, List.forall_mem_cons.mpr ⟨fqX0_49, List.forall_mem_cons.mpr ⟨fqX0_52, List.forall_mem_cons.mpr ⟨fqX0_55, fun _ h => absurd h List.not_mem_nil⟩⟩⟩⟩⟩⟩⟩⟩⟩⟩⟩⟩⟩
theorem fdX0 : fdo RX0 (lkF flX0) := fun idx ci k ty h => lkF_e (P := fPX0 RX0) flX0_all h
def flX5 : List (Nat × (Nat × Nat × Nat)) := [(10, (3, 0, 9)), (16, (3, 1, 9)), (19, (3, 2, 9)), (22, (3, 3, 1)), (28, (3, 4, 9)), (36, (3, 5, 9)), (40, (3, 6, 9)), (48, (2, 3, 0)), (62, (2, 4, 0)), (65, (2, 5, 9)), (83, (0, 0, 9)), (86, (0, 1, 9)), (89, (0, 2, 9)), (92, (0, 3, 9)), (95, (0, 4, 9)), (113, (0, 5, 9)), (119, (2, 1, 0)), (122, (2, 2, 0)), (133, (0, 8, 0)), (140, (0, 7, 0)), (151, (0, 9, 0)), (154, (0, 10, 0)), (167, (0, 11, 0)), (180, (0, 6, 0)), (281, (2, 0, 0))]
def fPX5 (own : String) (idx : Nat) (v : Nat × Nat × Nat) : Prop := ∃ (C : String) (T : u_T) (N : Nat) (t0 : Nat → FieldType), vwCl[v.1]? = some (C, T, N) ∧ v.2.1 < N ∧ (∀ w ∈ u_ws C T N, w ∈ uW) ∧ (T v.2.1).1 = C ∧ Cond.fieldLink own idx C (T v.2.1).2.1 (T v.2.1).2.2.1 ∈ uW ∧ (∀ k, k < N → parseFieldDescriptor (T k).2.2.1 = some (t0 k)) ∧ (∀ a, a < N → ∀ b, b < N → a ≠ b → (T a).2.1 ≠ (T b).2.1) ∧ (v.2.2 = 0 → (T v.2.1).2.2.2 = false ∧ t0 v.2.1 = .int) ∧ (v.2.2 = 1 → (T v.2.1).2.2.2 = false ∧ t0 v.2.1 = .boolean) ∧ (v.2.2 = 2 → (T v.2.1).2.2.2 = false ∧ ∃ t, t0 v.2.1 = .array t)
theorem fqX5_10 : fPX5 RX5 10 (3, 0, 9) := ⟨RX5, TX5, 7, tyX5, rfl, by decide, inX5, rfl, uT 139 (by decide +kernel) rfl, tyX5_ok, nmX5, (fun q => by cases q), (fun q => by cases q), (fun q => by cases q)⟩
theorem fqX5_16 : fPX5 RX5 16 (3, 1, 9) := ⟨RX5, TX5, 7, tyX5, rfl, by decide, inX5, rfl, uT 140 (by decide +kernel) rfl, tyX5_ok, nmX5, (fun q => by cases q), (fun q => by cases q), (fun q => by cases q)⟩
theorem fqX5_19 : fPX5 RX5 19 (3, 2, 9) := ⟨RX5, TX5, 7, tyX5, rfl, by decide, inX5, rfl, uT 141 (by decide +kernel) rfl, tyX5_ok, nmX5, (fun q => by cases q), (fun q => by cases q), (fun q => by cases q)⟩
theorem fqX5_22 : fPX5 RX5 22 (3, 3, 1) := ⟨RX5, TX5, 7, tyX5, rfl, by decide, inX5, rfl, uT 142 (by decide +kernel) rfl, tyX5_ok, nmX5, (fun q => by cases q), fun _ => ⟨rfl, rfl⟩, (fun q => by cases q)⟩
theorem fqX5_28 : fPX5 RX5 28 (3, 4, 9) := ⟨RX5, TX5, 7, tyX5, rfl, by decide, inX5, rfl, uT 143 (by decide +kernel) rfl, tyX5_ok, nmX5, (fun q => by cases q), (fun q => by cases q), (fun q => by cases q)⟩
theorem fqX5_36 : fPX5 RX5 36 (3, 5, 9) := ⟨RX5, TX5, 7, tyX5, rfl, by decide, inX5, rfl, uT 144 (by decide +kernel) rfl, tyX5_ok, nmX5, (fun q => by cases q), (fun q => by cases q), (fun q => by cases q)⟩
theorem fqX5_40 : fPX5 RX5 40 (3, 6, 9) := ⟨RX5, TX5, 7, tyX5, rfl, by decide, inX5, rfl, uT 145 (by decide +kernel) rfl, tyX5_ok, nmX5, (fun q => by cases q), (fun q => by cases q), (fun q => by cases q)⟩
theorem fqX5_48 : fPX5 RX5 48 (2, 3, 0) := ⟨RX3, TX3, 6, tyX3, rfl, by decide, inX3, rfl, uT 105 (by decide +kernel) rfl, tyX3_ok, nmX3, fun _ => ⟨rfl, rfl⟩, (fun q => by cases q), (fun q => by cases q)⟩
theorem fqX5_62 : fPX5 RX5 62 (2, 4, 0) := ⟨RX3, TX3, 6, tyX3, rfl, by decide, inX3, rfl, uT 107 (by decide +kernel) rfl, tyX3_ok, nmX3, fun _ => ⟨rfl, rfl⟩, (fun q => by cases q), (fun q => by cases q)⟩
theorem fqX5_65 : fPX5 RX5 65 (2, 5, 9) := ⟨RX3, TX3, 6, tyX3, rfl, by decide, inX3, rfl, uT 111 (by decide +kernel) rfl, tyX3_ok, nmX3, (fun q => by cases q), (fun q => by cases q), (fun q => by cases q)⟩
theorem fqX5_83 : fPX5 RX5 83 (0, 0, 9) := ⟨RX0, TX0, 13, tyX0, rfl, by decide, inX0, rfl, uT 32 (by decide +kernel) rfl, tyX0_ok, nmX0, (fun q => by cases q), (fun q => by cases q), (fun q => by cases q)⟩
theorem fqX5_86 : fPX5 RX5 86 (0, 1, 9) := ⟨RX0, TX0, 13, tyX0, rfl, by decide, inX0, rfl, uT 34 (by decide +kernel) rfl, tyX0_ok, nmX0, (fun q => by cases q), (fun q => by cases q), (fun q => by cases q)⟩
theorem fqX5_89 : fPX5 RX5 89 (0, 2, 9) := ⟨RX0, TX0, 13, tyX0, rfl, by decide, inX0, rfl, uT 36 (by decide +kernel) rfl, tyX0_ok, nmX0, (fun q => by cases q), (fun q => by cases q), (fun q => by cases q)⟩
theorem fqX5_92 : fPX5 RX5 92 (0, 3, 9) := ⟨RX0, TX0, 13, tyX0, rfl, by decide, inX0, rfl, uT 39 (by decide +kernel) rfl, tyX0_ok, nmX0, (fun q => by cases q), (fun q => by cases q), (fun q => by cases q)⟩
theorem fqX5_95 : fPX5 RX5 95 (0, 4, 9) := ⟨RX0, TX0, 13, tyX0, rfl, by decide, inX0, rfl, uT 42 (by decide +kernel) rfl, tyX0_ok, nmX0, (fun q => by cases q), (fun q => by cases q), (fun q => by cases q)⟩
theorem fqX5_113 : fPX5 RX5 113 (0, 5, 9) := ⟨RX0, TX0, 13, tyX0, rfl, by decide, inX0, rfl, uT 45 (by decide +kernel) rfl, tyX0_ok, nmX0, (fun q => by cases q), (fun q => by cases q), (fun q => by cases q)⟩
theorem fqX5_119 : fPX5 RX5 119 (2, 1, 0) := ⟨RX3, TX3, 6, tyX3, rfl, by decide, inX3, rfl, uT 102 (by decide +kernel) rfl, tyX3_ok, nmX3, fun _ => ⟨rfl, rfl⟩, (fun q => by cases q), (fun q => by cases q)⟩
theorem fqX5_122 : fPX5 RX5 122 (2, 2, 0) := ⟨RX3, TX3, 6, tyX3, rfl, by decide, inX3, rfl, uT 104 (by decide +kernel) rfl, tyX3_ok, nmX3, fun _ => ⟨rfl, rfl⟩, (fun q => by cases q), (fun q => by cases q)⟩
theorem fqX5_133 : fPX5 RX5 133 (0, 8, 0) := ⟨RX0, TX0, 13, tyX0, rfl, by decide, inX0, rfl, uT 55 (by decide +kernel) rfl, tyX0_ok, nmX0, fun _ => ⟨rfl, rfl⟩, (fun q => by cases q), (fun q => by cases q)⟩
theorem fqX5_140 : fPX5 RX5 140 (0, 7, 0) := ⟨RX0, TX0, 13, tyX0, rfl, by decide, inX0, rfl, uT 52 (by decide +kernel) rfl, tyX0_ok, nmX0, fun _ => ⟨rfl, rfl⟩, (fun q => by cases q), (fun q => by cases q)⟩
theorem fqX5_151 : fPX5 RX5 151 (0, 9, 0) := ⟨RX0, TX0, 13, tyX0, rfl, by decide, inX0, rfl, uT 58 (by decide +kernel) rfl, tyX0_ok, nmX0, fun _ => ⟨rfl, rfl⟩, (fun q => by cases q), (fun q => by cases q)⟩
theorem fqX5_154 : fPX5 RX5 154 (0, 10, 0) := ⟨RX0, TX0, 13, tyX0, rfl, by decide, inX0, rfl, uT 60 (by decide +kernel) rfl, tyX0_ok, nmX0, fun _ => ⟨rfl, rfl⟩, (fun q => by cases q), (fun q => by cases q)⟩
theorem fqX5_167 : fPX5 RX5 167 (0, 11, 0) := ⟨RX0, TX0, 13, tyX0, rfl, by decide, inX0, rfl, uT 62 (by decide +kernel) rfl, tyX0_ok, nmX0, fun _ => ⟨rfl, rfl⟩, (fun q => by cases q), (fun q => by cases q)⟩
theorem fqX5_180 : fPX5 RX5 180 (0, 6, 0) := ⟨RX0, TX0, 13, tyX0, rfl, by decide, inX0, rfl, uT 49 (by decide +kernel) rfl, tyX0_ok, nmX0, fun _ => ⟨rfl, rfl⟩, (fun q => by cases q), (fun q => by cases q)⟩
theorem fqX5_281 : fPX5 RX5 281 (2, 0, 0) := ⟨RX3, TX3, 6, tyX3, rfl, by decide, inX3, rfl, uT 100 (by decide +kernel) rfl, tyX3_ok, nmX3, fun _ => ⟨rfl, rfl⟩, (fun q => by cases q), (fun q => by cases q)⟩
theorem flX5_all : ∀ q ∈ flX5, fPX5 RX5 q.1 q.2 := List.forall_mem_cons.mpr ⟨fqX5_10, List.forall_mem_cons.mpr ⟨fqX5_16, List.forall_mem_cons.mpr ⟨fqX5_19, List.forall_mem_cons.mpr ⟨fqX5_22, List.forall_mem_cons.mpr ⟨fqX5_28, List.forall_mem_cons.mpr ⟨fqX5_36, List.forall_mem_cons.mpr ⟨fqX5_40, List.forall_mem_cons.mpr ⟨fqX5_48, List.forall_mem_cons.mpr ⟨fqX5_62, List.forall_mem_cons.mpr ⟨fqX5_65, List.forall_mem_cons.mpr ⟨fqX5_83, List.forall_mem_cons.mpr ⟨fqX5_86, List.forall_mem_cons.mpr ⟨fqX5_89, List.forall_mem_cons.mpr ⟨fqX5_92, List.forall_mem_cons.mpr ⟨fqX5_95, List.forall_mem_cons.mpr ⟨fqX5_113, List.forall_mem_cons.mpr ⟨fqX5_119, List.forall_mem_cons.mpr ⟨fqX5_122, List.forall_mem_cons.mpr ⟨fqX5_133, List.forall_mem_cons.mpr ⟨fqX5_140, List.forall_mem_cons.mpr ⟨fqX5_151, List.forall_mem_cons.mpr ⟨fqX5_154, List.forall_mem_cons.mpr ⟨fqX5_167, List.forall_mem_cons.mpr ⟨fqX5_180, List.forall_mem_cons.mpr ⟨fqX5_281, fun _ h => absurd h List.not_mem_nil⟩⟩⟩⟩⟩⟩⟩⟩⟩⟩⟩⟩⟩⟩⟩⟩⟩⟩⟩⟩⟩⟩⟩⟩⟩
theorem fdX5 : fdo RX5 (lkF flX5) := fun idx ci k ty h => lkF_e (P := fPX5 RX5) flX5_all h
def flX4 : List (Nat × (Nat × Nat × Nat)) := [(11, (2, 4, 0)), (17, (2, 5, 9)), (67, (0, 5, 9)), (77, (0, 2, 9)), (80, (0, 3, 9)), (87, (0, 4, 9)), (90, (0, 7, 0)), (93, (0, 8, 0))]
def fPX4 (own : String) (idx : Nat) (v : Nat × Nat × Nat) : Prop := ∃ (C : String) (T : u_T) (N : Nat) (t0 : Nat → FieldType), vwCl[v.1]? = some (C, T, N) ∧ v.2.1 < N ∧ (∀ w ∈ u_ws C T N, w ∈ uW) ∧ (T v.2.1).1 = C ∧ Cond.fieldLink own idx C (T v.2.1).2.1 (T v.2.1).2.2.1 ∈ uW ∧ (∀ k, k < N → parseFieldDescriptor (T k).2.2.1 = some (t0 k)) ∧ (∀ a, a < N → ∀ b, b < N → a ≠ b → (T a).2.1 ≠ (T b).2.1) ∧ (v.2.2 = 0 → (T v.2.1).2.2.2 = false ∧ t0 v.2.1 = .int) ∧ (v.2.2 = 1 → (T v.2.1).2.2.2 = false ∧ t0 v.2.1 = .boolean) ∧ (v.2.2 = 2 → (T v.2.1).2.2.2 = false ∧ ∃ t, t0 v.2.1 = .array t)
theorem fqX4_11 : fPX4 RX4 11 (2, 4, 0) := ⟨RX3, TX3, 6, tyX3, rfl, by decide, inX3, rfl, uT 108 (by decide +kernel) rfl, tyX3_ok, nmX3, fun _ => ⟨rfl, rfl⟩, (fun q => by cases q), (fun q => by cases q)⟩
theorem fqX4_17 : fPX4 RX4 17 (2, 5, 9) := ⟨RX3, TX3, 6, tyX3, rfl, by decide, inX3, rfl, uT 112 (by decide +kernel) rfl, tyX3_ok, nmX3, (fun q => by cases q), (fun q => by cases q), (fun q => by cases q)⟩
theorem fqX4_67 : fPX4 RX4 67 (0, 5, 9) := ⟨RX0, TX0, 13, tyX0, rfl, by decide, inX0, rfl, uT 46 (by decide +kernel) rfl, tyX0_ok, nmX0, (fun q => by cases q), (fun q => by cases q), (fun q => by cases q)⟩
theorem fqX4_77 : fPX4 RX4 77 (0, 2, 9) := ⟨RX0, TX0, 13, tyX0, rfl, by decide, inX0, rfl, uT 37 (by decide +kernel) rfl, tyX0_ok, nmX0, (fun q => by cases q), (fun q => by cases q), (fun q => by cases q)⟩
theorem fqX4_80 : fPX4 RX4 80 (0, 3, 9) := ⟨RX0, TX0, 13, tyX0, rfl, by decide, inX0, rfl, uT 40 (by decide +kernel) rfl, tyX0_ok, nmX0, (fun q => by cases q), (fun q => by cases q), (fun q => by cases q)⟩
theorem fqX4_87 : fPX4 RX4 87 (0, 4, 9) := ⟨RX0, TX0, 13, tyX0, rfl, by decide, inX0, rfl, uT 43 (by decide +kernel) rfl, tyX0_ok, nmX0, (fun q => by cases q), (fun q => by cases q), (fun q => by cases q)⟩
theorem fqX4_90 : fPX4 RX4 90 (0, 7, 0) := ⟨RX0, TX0, 13, tyX0, rfl, by decide, inX0, rfl, uT 53 (by decide +kernel) rfl, tyX0_ok, nmX0, fun _ => ⟨rfl, rfl⟩, (fun q => by cases q), (fun q => by cases q)⟩
theorem fqX4_93 : fPX4 RX4 93 (0, 8, 0) := ⟨RX0, TX0, 13, tyX0, rfl, by decide, inX0, rfl, uT 56 (by decide +kernel) rfl, tyX0_ok, nmX0, fun _ => ⟨rfl, rfl⟩, (fun q => by cases q), (fun q => by cases q)⟩
theorem flX4_all : ∀ q ∈ flX4, fPX4 RX4 q.1 q.2 := List.forall_mem_cons.mpr ⟨fqX4_11, List.forall_mem_cons.mpr ⟨fqX4_17, List.forall_mem_cons.mpr ⟨fqX4_67, List.forall_mem_cons.mpr ⟨fqX4_77, List.forall_mem_cons.mpr ⟨fqX4_80, List.forall_mem_cons.mpr ⟨fqX4_87, List.forall_mem_cons.mpr ⟨fqX4_90, List.forall_mem_cons.mpr ⟨fqX4_93, fun _ h => absurd h List.not_mem_nil⟩⟩⟩⟩⟩⟩⟩⟩
theorem fdX4 : fdo RX4 (lkF flX4) := fun idx ci k ty h => lkF_e (P := fPX4 RX4) flX4_all h
def flX2 : List (Nat × (Nat × Nat × Nat)) := [(9, (1, 0, 9)), (15, (1, 1, 9)), (18, (0, 7, 0)), (30, (0, 6, 0))]
def fPX2 (own : String) (idx : Nat) (v : Nat × Nat × Nat) : Prop := ∃ (C : String) (T : u_T) (N : Nat) (t0 : Nat → FieldType), vwCl[v.1]? = some (C, T, N) ∧ v.2.1 < N ∧ (∀ w ∈ u_ws C T N, w ∈ uW) ∧ (T v.2.1).1 = C ∧ Cond.fieldLink own idx C (T v.2.1).2.1 (T v.2.1).2.2.1 ∈ uW ∧ (∀ k, k < N → parseFieldDescriptor (T k).2.2.1 = some (t0 k)) ∧ (∀ a, a < N → ∀ b, b < N → a ≠ b → (T a).2.1 ≠ (T b).2.1) ∧ (v.2.2 = 0 → (T v.2.1).2.2.2 = false ∧ t0 v.2.1 = .int) ∧ (v.2.2 = 1 → (T v.2.1).2.2.2 = false ∧ t0 v.2.1 = .boolean) ∧ (v.2.2 = 2 → (T v.2.1).2.2.2 = false ∧ ∃ t, t0 v.2.1 = .array t)
theorem fqX2_9 : fPX2 RX2 9 (1, 0, 9) := ⟨RX2, TX2, 2, tyX2, rfl, by decide, inX2, rfl, uT 132 (by decide +kernel) rfl, tyX2_ok, nmX2, (fun q => by cases q), (fun q => by cases q), (fun q => by cases q)⟩
theorem fqX2_15 : fPX2 RX2 15 (1, 1, 9) := ⟨RX2, TX2, 2, tyX2, rfl, by decide, inX2, rfl, uT 133 (by decide +kernel) rfl, tyX2_ok, nmX2, (fun q => by cases q), (fun q => by cases q), (fun q => by cases q)⟩
theorem fqX2_18 : fPX2 RX2 18 (0, 7, 0) := ⟨RX0, TX0, 13, tyX0, rfl, by decide, inX0, rfl, uT 50 (by decide +kernel) rfl, tyX0_ok, nmX0, fun _ => ⟨rfl, rfl⟩, (fun q => by cases q), (fun q => by cases q)⟩
theorem fqX2_30 : fPX2 RX2 30 (0, 6, 0) := ⟨RX0, TX0, 13, tyX0, rfl, by decide, inX0, rfl, uT 47 (by decide +kernel) rfl, tyX0_ok, nmX0, fun _ => ⟨rfl, rfl⟩, (fun q => by cases q), (fun q => by cases q)⟩
theorem flX2_all : ∀ q ∈ flX2, fPX2 RX2 q.1 q.2 := List.forall_mem_cons.mpr ⟨fqX2_9, List.forall_mem_cons.mpr ⟨fqX2_15, List.forall_mem_cons.mpr ⟨fqX2_18, List.forall_mem_cons.mpr ⟨fqX2_30, fun _ h => absurd h List.not_mem_nil⟩⟩⟩⟩
theorem fdX2 : fdo RX2 (lkF flX2) := fun idx ci k ty h => lkF_e (P := fPX2 RX2) flX2_all h
def flX3 : List (Nat × (Nat × Nat × Nat)) := [(11, (2, 0, 0)), (15, (2, 5, 9)), (23, (2, 1, 0)), (26, (2, 2, 0)), (29, (2, 3, 0)), (32, (2, 4, 0))]
def fPX3 (own : String) (idx : Nat) (v : Nat × Nat × Nat) : Prop := ∃ (C : String) (T : u_T) (N : Nat) (t0 : Nat → FieldType), vwCl[v.1]? = some (C, T, N) ∧ v.2.1 < N ∧ (∀ w ∈ u_ws C T N, w ∈ uW) ∧ (T v.2.1).1 = C ∧ Cond.fieldLink own idx C (T v.2.1).2.1 (T v.2.1).2.2.1 ∈ uW ∧ (∀ k, k < N → parseFieldDescriptor (T k).2.2.1 = some (t0 k)) ∧ (∀ a, a < N → ∀ b, b < N → a ≠ b → (T a).2.1 ≠ (T b).2.1) ∧ (v.2.2 = 0 → (T v.2.1).2.2.2 = false ∧ t0 v.2.1 = .int) ∧ (v.2.2 = 1 → (T v.2.1).2.2.2 = false ∧ t0 v.2.1 = .boolean) ∧ (v.2.2 = 2 → (T v.2.1).2.2.2 = false ∧ ∃ t, t0 v.2.1 = .array t)
theorem fqX3_11 : fPX3 RX3 11 (2, 0, 0) := ⟨RX3, TX3, 6, tyX3, rfl, by decide, inX3, rfl, uT 99 (by decide +kernel) rfl, tyX3_ok, nmX3, fun _ => ⟨rfl, rfl⟩, (fun q => by cases q), (fun q => by cases q)⟩
theorem fqX3_15 : fPX3 RX3 15 (2, 5, 9) := ⟨RX3, TX3, 6, tyX3, rfl, by decide, inX3, rfl, uT 110 (by decide +kernel) rfl, tyX3_ok, nmX3, (fun q => by cases q), (fun q => by cases q), (fun q => by cases q)⟩
theorem fqX3_23 : fPX3 RX3 23 (2, 1, 0) := ⟨RX3, TX3, 6, tyX3, rfl, by decide, inX3, rfl, uT 101 (by decide +kernel) rfl, tyX3_ok, nmX3, fun _ => ⟨rfl, rfl⟩, (fun q => by cases q), (fun q => by cases q)⟩
theorem fqX3_26 : fPX3 RX3 26 (2, 2, 0) := ⟨RX3, TX3, 6, tyX3, rfl, by decide, inX3, rfl, uT 103 (by decide +kernel) rfl, tyX3_ok, nmX3, fun _ => ⟨rfl, rfl⟩, (fun q => by cases q), (fun q => by cases q)⟩
theorem fqX3_29 : fPX3 RX3 29 (2, 3, 0) := ⟨RX3, TX3, 6, tyX3, rfl, by decide, inX3, rfl, uT 106 (by decide +kernel) rfl, tyX3_ok, nmX3, fun _ => ⟨rfl, rfl⟩, (fun q => by cases q), (fun q => by cases q)⟩
theorem fqX3_32 : fPX3 RX3 32 (2, 4, 0) := ⟨RX3, TX3, 6, tyX3, rfl, by decide, inX3, rfl, uT 109 (by decide +kernel) rfl, tyX3_ok, nmX3, fun _ => ⟨rfl, rfl⟩, (fun q => by cases q), (fun q => by cases q)⟩
theorem flX3_all : ∀ q ∈ flX3, fPX3 RX3 q.1 q.2 := List.forall_mem_cons.mpr ⟨fqX3_11, List.forall_mem_cons.mpr ⟨fqX3_15, List.forall_mem_cons.mpr ⟨fqX3_23, List.forall_mem_cons.mpr ⟨fqX3_26, List.forall_mem_cons.mpr ⟨fqX3_29, List.forall_mem_cons.mpr ⟨fqX3_32, fun _ h => absurd h List.not_mem_nil⟩⟩⟩⟩⟩⟩
theorem fdX3 : fdo RX3 (lkF flX3) := fun idx ci k ty h => lkF_e (P := fPX3 RX3) flX3_all h
def flX6 : List (Nat × (Nat × Nat × Nat)) := [(7, (4, 0, 9)), (13, (4, 2, 9)), (16, (4, 3, 9)), (19, (4, 4, 9)), (22, (4, 5, 9)), (25, (4, 6, 9)), (28, (4, 13, 9)), (31, (4, 14, 9)), (34, (4, 15, 9)), (37, (4, 16, 9)), (40, (4, 17, 9)), (43, (4, 18, 9)), (47, (4, 25, 9)), (50, (4, 26, 9)), (53, (4, 27, 9)), (56, (4, 28, 9)), (59, (4, 29, 9)), (62, (4, 34, 9)), (65, (4, 35, 9)), (69, (4, 36, 9)), (72, (4, 38, 9)), (75, (4, 19, 0)), (85, (4, 1, 0)), (92, (4, 10, 0)), (98, (4, 12, 1)), (102, (4, 11, 0)), (116, (4, 8, 0)), (119, (4, 20, 0)), (122, (4, 9, 0)), (125, (4, 7, 0)), (135, (4, 22, 0)), (138, (4, 21, 0)), (141, (4, 23, 1)), (155, (4, 24, 0)), (199, (4, 32, 1)), (202, (4, 33, 2)), (205, (4, 31, 0)), (215, (4, 30, 1)), (305, (4, 37, 0))]
def fPX6 (own : String) (idx : Nat) (v : Nat × Nat × Nat) : Prop := ∃ (C : String) (T : u_T) (N : Nat) (t0 : Nat → FieldType), vwCl[v.1]? = some (C, T, N) ∧ v.2.1 < N ∧ (∀ w ∈ u_ws C T N, w ∈ uW) ∧ (T v.2.1).1 = C ∧ Cond.fieldLink own idx C (T v.2.1).2.1 (T v.2.1).2.2.1 ∈ uW ∧ (∀ k, k < N → parseFieldDescriptor (T k).2.2.1 = some (t0 k)) ∧ (∀ a, a < N → ∀ b, b < N → a ≠ b → (T a).2.1 ≠ (T b).2.1) ∧ (v.2.2 = 0 → (T v.2.1).2.2.2 = false ∧ t0 v.2.1 = .int) ∧ (v.2.2 = 1 → (T v.2.1).2.2.2 = false ∧ t0 v.2.1 = .boolean) ∧ (v.2.2 = 2 → (T v.2.1).2.2.2 = false ∧ ∃ t, t0 v.2.1 = .array t)
theorem fqX6_7 : fPX6 RX6 7 (4, 0, 9) := ⟨RX6, TX6, 39, tyX6, rfl, by decide, inX6, rfl, uT 717 (by decide +kernel) rfl, tyX6_ok, nmX6, (fun q => by cases q), (fun q => by cases q), (fun q => by cases q)⟩
theorem fqX6_13 : fPX6 RX6 13 (4, 2, 9) := ⟨RX6, TX6, 39, tyX6, rfl, by decide, inX6, rfl, uT 719 (by decide +kernel) rfl, tyX6_ok, nmX6, (fun q => by cases q), (fun q => by cases q), (fun q => by cases q)⟩
theorem fqX6_16 : fPX6 RX6 16 (4, 3, 9) := ⟨RX6, TX6, 39, tyX6, rfl, by decide, inX6, rfl, uT 720 (by decide +kernel) rfl, tyX6_ok, nmX6, (fun q => by cases q), (fun q => by cases q), (fun q => by cases q)⟩
theorem fqX6_19 : fPX6 RX6 19 (4, 4, 9) := ⟨RX6, TX6, 39, tyX6, rfl, by decide, inX6, rfl, uT 721 (by decide +kernel) rfl, tyX6_ok, nmX6, (fun q => by cases q), (fun q => by cases q), (fun q => by cases q)⟩
theorem fqX6_22 : fPX6 RX6 22 (4, 5, 9) := ⟨RX6, TX6, 39, tyX6, rfl, by decide, inX6, rfl, uT 722 (by decide +kernel) rfl, tyX6_ok, nmX6, (fun q => by cases q), (fun q => by cases q), (fun q => by cases q)⟩
theorem fqX6_25 : fPX6 RX6 25 (4, 6, 9) := ⟨RX6, TX6, 39, tyX6, rfl, by decide, inX6, rfl, uT 723 (by decide +kernel) rfl, tyX6_ok, nmX6, (fun q => by cases q), (fun q => by cases q), (fun q => by cases q)⟩
theorem fqX6_28 : fPX6 RX6 28 (4, 13, 9) := ⟨RX6, TX6, 39, tyX6, rfl, by decide, inX6, rfl, uT 730 (by decide +kernel) rfl, tyX6_ok, nmX6, (fun q => by cases q), (fun q => by cases q), (fun q => by cases q)⟩
theorem fqX6_31 : fPX6 RX6 31 (4, 14, 9) := ⟨RX6, TX6, 39, tyX6, rfl, by decide, inX6, rfl, uT 731 (by decide +kernel) rfl, tyX6_ok, nmX6, (fun q => by cases q), (fun q => by cases q), (fun q => by cases q)⟩
theorem fqX6_34 : fPX6 RX6 34 (4, 15, 9) := ⟨RX6, TX6, 39, tyX6, rfl, by decide, inX6, rfl, uT 732 (by decide +kernel) rfl, tyX6_ok, nmX6, (fun q => by cases q), (fun q => by cases q), (fun q => by cases q)⟩
theorem fqX6_37 : fPX6 RX6 37 (4, 16, 9) := ⟨RX6, TX6, 39, tyX6, rfl, by decide, inX6, rfl, uT 733 (by decide +kernel) rfl, tyX6_ok, nmX6, (fun q => by cases q), (fun q => by cases q), (fun q => by cases q)⟩
theorem fqX6_40 : fPX6 RX6 40 (4, 17, 9) := ⟨RX6, TX6, 39, tyX6, rfl, by decide, inX6, rfl, uT 734 (by decide +kernel) rfl, tyX6_ok, nmX6, (fun q => by cases q), (fun q => by cases q), (fun q => by cases q)⟩
theorem fqX6_43 : fPX6 RX6 43 (4, 18, 9) := ⟨RX6, TX6, 39, tyX6, rfl, by decide, inX6, rfl, uT 735 (by decide +kernel) rfl, tyX6_ok, nmX6, (fun q => by cases q), (fun q => by cases q), (fun q => by cases q)⟩
theorem fqX6_47 : fPX6 RX6 47 (4, 25, 9) := ⟨RX6, TX6, 39, tyX6, rfl, by decide, inX6, rfl, uT 742 (by decide +kernel) rfl, tyX6_ok, nmX6, (fun q => by cases q), (fun q => by cases q), (fun q => by cases q)⟩
theorem fqX6_50 : fPX6 RX6 50 (4, 26, 9) := ⟨RX6, TX6, 39, tyX6, rfl, by decide, inX6, rfl, uT 743 (by decide +kernel) rfl, tyX6_ok, nmX6, (fun q => by cases q), (fun q => by cases q), (fun q => by cases q)⟩
theorem fqX6_53 : fPX6 RX6 53 (4, 27, 9) := ⟨RX6, TX6, 39, tyX6, rfl, by decide, inX6, rfl, uT 744 (by decide +kernel) rfl, tyX6_ok, nmX6, (fun q => by cases q), (fun q => by cases q), (fun q => by cases q)⟩
theorem fqX6_56 : fPX6 RX6 56 (4, 28, 9) := ⟨RX6, TX6, 39, tyX6, rfl, by decide, inX6, rfl, uT 745 (by decide +kernel) rfl, tyX6_ok, nmX6, (fun q => by cases q), (fun q => by cases q), (fun q => by cases q)⟩
theorem fqX6_59 : fPX6 RX6 59 (4, 29, 9) := ⟨RX6, TX6, 39, tyX6, rfl, by decide, inX6, rfl, uT 746 (by decide +kernel) rfl, tyX6_ok, nmX6, (fun q => by cases q), (fun q => by cases q), (fun q => by cases q)⟩
theorem fqX6_62 : fPX6 RX6 62 (4, 34, 9) := ⟨RX6, TX6, 39, tyX6, rfl, by decide, inX6, rfl, uT 751 (by decide +kernel) rfl, tyX6_ok, nmX6, (fun q => by cases q), (fun q => by cases q), (fun q => by cases q)⟩
theorem fqX6_65 : fPX6 RX6 65 (4, 35, 9) := ⟨RX6, TX6, 39, tyX6, rfl, by decide, inX6, rfl, uT 752 (by decide +kernel) rfl, tyX6_ok, nmX6, (fun q => by cases q), (fun q => by cases q), (fun q => by cases q)⟩
theorem fqX6_69 : fPX6 RX6 69 (4, 36, 9) := ⟨RX6, TX6, 39, tyX6, rfl, by decide, inX6, rfl, uT 753 (by decide +kernel) rfl, tyX6_ok, nmX6, (fun q => by cases q), (fun q => by cases q), (fun q => by cases q)⟩
theorem fqX6_72 : fPX6 RX6 72 (4, 38, 9) := ⟨RX6, TX6, 39, tyX6, rfl, by decide, inX6, rfl, uT 755 (by decide +kernel) rfl, tyX6_ok, nmX6, (fun q => by cases q), (fun q => by cases q), (fun q => by cases q)⟩
theorem fqX6_75 : fPX6 RX6 75 (4, 19, 0) := ⟨RX6, TX6, 39, tyX6, rfl, by decide, inX6, rfl, uT 736 (by decide +kernel) rfl, tyX6_ok, nmX6, fun _ => ⟨rfl, rfl⟩, (fun q => by cases q), (fun q => by cases q)⟩
theorem fqX6_85 : fPX6 RX6 85 (4, 1, 0) := ⟨RX6, TX6, 39, tyX6, rfl, by decide, inX6, rfl, uT 718 (by decide +kernel) rfl, tyX6_ok, nmX6, fun _ => ⟨rfl, rfl⟩, (fun q => by cases q), (fun q => by cases q)⟩
theorem fqX6_92 : fPX6 RX6 92 (4, 10, 0) := ⟨RX6, TX6, 39, tyX6, rfl, by decide, inX6, rfl, uT 727 (by decide +kernel) rfl, tyX6_ok, nmX6, fun _ => ⟨rfl, rfl⟩, (fun q => by cases q), (fun q => by cases q)⟩
theorem fqX6_98 : fPX6 RX6 98 (4, 12, 1) := ⟨RX6, TX6, 39, tyX6, rfl, by decide, inX6, rfl, uT 729 (by decide +kernel) rfl, tyX6_ok, nmX6, (fun q => by cases q), fun _ => ⟨rfl, rfl⟩, (fun q => by cases q)⟩
theorem fqX6_102 : fPX6 RX6 102 (4, 11, 0) := ⟨RX6, TX6, 39, tyX6, rfl, by decide, inX6, rfl, uT 728 (by decide +kernel) rfl, tyX6_ok, nmX6, fun _ => ⟨rfl, rfl⟩, (fun q => by cases q), (fun q => by cases q)⟩
theorem fqX6_116 : fPX6 RX6 116 (4, 8, 0) := ⟨RX6, TX6, 39, tyX6, rfl, by decide, inX6, rfl, uT 725 (by decide +kernel) rfl, tyX6_ok, nmX6, fun _ => ⟨rfl, rfl⟩, (fun q => by cases q), (fun q => by cases q)⟩
theorem fqX6_119 : fPX6 RX6 119 (4, 20, 0) := ⟨RX6, TX6, 39, tyX6, rfl, by decide, inX6, rfl, uT 737 (by decide +kernel) rfl, tyX6_ok, nmX6, fun _ => ⟨rfl, rfl⟩, (fun q => by cases q), (fun q => by cases q)⟩
theorem fqX6_122 : fPX6 RX6 122 (4, 9, 0) := ⟨RX6, TX6, 39, tyX6, rfl, by decide, inX6, rfl, uT 726 (by decide +kernel) rfl, tyX6_ok, nmX6, fun _ => ⟨rfl, rfl⟩, (fun q => by cases q), (fun q => by cases q)⟩
theorem fqX6_125 : fPX6 RX6 125 (4, 7, 0) := ⟨RX6, TX6, 39, tyX6, rfl, by decide, inX6, rfl, uT 724 (by decide +kernel) rfl, tyX6_ok, nmX6, fun _ => ⟨rfl, rfl⟩, (fun q => by cases q), (fun q => by cases q)⟩
theorem fqX6_135 : fPX6 RX6 135 (4, 22, 0) := ⟨RX6, TX6, 39, tyX6, rfl, by decide, inX6, rfl, uT 739 (by decide +kernel) rfl, tyX6_ok, nmX6, fun _ => ⟨rfl, rfl⟩, (fun q => by cases q), (fun q => by cases q)⟩
theorem fqX6_138 : fPX6 RX6 138 (4, 21, 0) := ⟨RX6, TX6, 39, tyX6, rfl, by decide, inX6, rfl, uT 738 (by decide +kernel) rfl, tyX6_ok, nmX6, fun _ => ⟨rfl, rfl⟩, (fun q => by cases q), (fun q => by cases q)⟩
theorem fqX6_141 : fPX6 RX6 141 (4, 23, 1) := ⟨RX6, TX6, 39, tyX6, rfl, by decide, inX6, rfl, uT 740 (by decide +kernel) rfl, tyX6_ok, nmX6, (fun q => by cases q), fun _ => ⟨rfl, rfl⟩, (fun q => by cases q)⟩
theorem fqX6_155 : fPX6 RX6 155 (4, 24, 0) := ⟨RX6, TX6, 39, tyX6, rfl, by decide, inX6, rfl, uT 741 (by decide +kernel) rfl, tyX6_ok, nmX6, fun _ => ⟨rfl, rfl⟩, (fun q => by cases q), (fun q => by cases q)⟩
theorem fqX6_199 : fPX6 RX6 199 (4, 32, 1) := ⟨RX6, TX6, 39, tyX6, rfl, by decide, inX6, rfl, uT 749 (by decide +kernel) rfl, tyX6_ok, nmX6, (fun q => by cases q), fun _ => ⟨rfl, rfl⟩, (fun q => by cases q)⟩
theorem fqX6_202 : fPX6 RX6 202 (4, 33, 2) := ⟨RX6, TX6, 39, tyX6, rfl, by decide, inX6, rfl, uT 750 (by decide +kernel) rfl, tyX6_ok, nmX6, (fun q => by cases q), (fun q => by cases q), fun _ => ⟨rfl, _, rfl⟩⟩
theorem fqX6_205 : fPX6 RX6 205 (4, 31, 0) := ⟨RX6, TX6, 39, tyX6, rfl, by decide, inX6, rfl, uT 748 (by decide +kernel) rfl, tyX6_ok, nmX6, fun _ => ⟨rfl, rfl⟩, (fun q => by cases q), (fun q => by cases q)⟩
theorem fqX6_215 : fPX6 RX6 215 (4, 30, 1) := ⟨RX6, TX6, 39, tyX6, rfl, by decide, inX6, rfl, uT 747 (by decide +kernel) rfl, tyX6_ok, nmX6, (fun q => by cases q), fun _ => ⟨rfl, rfl⟩, (fun q => by cases q)⟩
theorem fqX6_305 : fPX6 RX6 305 (4, 37, 0) := ⟨RX6, TX6, 39, tyX6, rfl, by decide, inX6, rfl, uT 754 (by decide +kernel) rfl, tyX6_ok, nmX6, fun _ => ⟨rfl, rfl⟩, (fun q => by cases q), (fun q => by cases q)⟩
theorem flX6_all : ∀ q ∈ flX6, fPX6 RX6 q.1 q.2 := List.forall_mem_cons.mpr ⟨fqX6_7, List.forall_mem_cons.mpr ⟨fqX6_13, List.forall_mem_cons.mpr ⟨fqX6_16, List.forall_mem_cons.mpr ⟨fqX6_19, List.forall_mem_cons.mpr ⟨fqX6_22, List.forall_mem_cons.mpr ⟨fqX6_25, List.forall_mem_cons.mpr ⟨fqX6_28, List.forall_mem_cons.mpr ⟨fqX6_31, List.forall_mem_cons.mpr ⟨fqX6_34, List.forall_mem_cons.mpr ⟨fqX6_37, List.forall_mem_cons.mpr ⟨fqX6_40, List.forall_mem_cons.mpr ⟨fqX6_43, List.forall_mem_cons.mpr ⟨fqX6_47, List.forall_mem_cons.mpr ⟨fqX6_50, List.forall_mem_cons.mpr ⟨fqX6_53, List.forall_mem_cons.mpr ⟨fqX6_56, List.forall_mem_cons.mpr ⟨fqX6_59, List.forall_mem_cons.mpr ⟨fqX6_62, List.forall_mem_cons.mpr ⟨fqX6_65, List.forall_mem_cons.mpr ⟨fqX6_69, List.forall_mem_cons.mpr ⟨fqX6_72, List.forall_mem_cons.mpr ⟨fqX6_75, List.forall_mem_cons.mpr ⟨fqX6_85, List.forall_mem_cons.mpr ⟨fqX6_92, List.forall_mem_cons.mpr ⟨fqX6_98, List.forall_mem_cons.mpr ⟨fqX6_102, List.forall_mem_cons.mpr ⟨fqX6_116, List.forall_mem_cons.mpr ⟨fqX6_119, List.forall_mem_cons.mpr ⟨fqX6_122, List.forall_mem_cons.mpr ⟨fqX6_125, List.forall_mem_cons.mpr ⟨fqX6_135, List.forall_mem_cons.mpr ⟨fqX6_138, List.forall_mem_cons.mpr ⟨fqX6_141, List.forall_mem_cons.mpr ⟨fqX6_155, List.forall_mem_cons.mpr ⟨fqX6_199, List.forall_mem_cons.mpr ⟨fqX6_202, List.forall_mem_cons.mpr ⟨fqX6_205, List.forall_mem_cons.mpr ⟨fqX6_215, List.forall_mem_cons.mpr ⟨fqX6_305, fun _ h => absurd h List.not_mem_nil⟩⟩⟩⟩⟩⟩⟩⟩⟩⟩⟩⟩⟩⟩⟩⟩⟩⟩⟩⟩⟩⟩⟩⟩⟩⟩⟩⟩⟩⟩⟩⟩⟩⟩⟩⟩⟩⟩⟩
theorem fdX6 : fdo RX6 (lkF flX6) := fun idx ci k ty h => lkF_e (P := fPX6 RX6) flX6_all h
def flX1 : List (Nat × (Nat × Nat × Nat)) := []
theorem fdX1 : fdo RX1 (lkF flX1) := fun idx ci k ty h => by cases h
def flJ6 : List (Nat × (Nat × Nat × Nat)) := []
theorem fdJ6 : fdo RJ6 (lkF flJ6) := fun idx ci k ty h => by cases h
def csX0 : List (Nat × Int32) := []
def clX0 : List (Nat × Int64) := []
theorem csX0_all : ∀ q ∈ csX0, Cond.constant RX0 q.1 q.2 ∈ uW := fun _ h => absurd h List.not_mem_nil
theorem clX0_all : ∀ q ∈ clX0, Cond.constantLong RX0 q.1 q.2 ∈ uW := fun _ h => absurd h List.not_mem_nil
theorem cdX0 : cdo RX0 (lkF csX0) (lkF clX0) := ⟨fun i v h => lkF_e (P := fun i v => Cond.constant RX0 i v ∈ uW) csX0_all h, fun i v h => lkF_e (P := fun i v => Cond.constantLong RX0 i v ∈ uW) clX0_all h⟩
def csX1 : List (Nat × Int32) := []
def clX1 : List (Nat × Int64) := []
theorem csX1_all : ∀ q ∈ csX1, Cond.constant RX1 q.1 q.2 ∈ uW := fun _ h => absurd h List.not_mem_nil
theorem clX1_all : ∀ q ∈ clX1, Cond.constantLong RX1 q.1 q.2 ∈ uW := fun _ h => absurd h List.not_mem_nil
theorem cdX1 : cdo RX1 (lkF csX1) (lkF clX1) := ⟨fun i v h => lkF_e (P := fun i v => Cond.constant RX1 i v ∈ uW) csX1_all h, fun i v h => lkF_e (P := fun i v => Cond.constantLong RX1 i v ∈ uW) clX1_all h⟩
def csX2 : List (Nat × Int32) := []
def clX2 : List (Nat × Int64) := []
theorem csX2_all : ∀ q ∈ csX2, Cond.constant RX2 q.1 q.2 ∈ uW := fun _ h => absurd h List.not_mem_nil
theorem clX2_all : ∀ q ∈ clX2, Cond.constantLong RX2 q.1 q.2 ∈ uW := fun _ h => absurd h List.not_mem_nil
theorem cdX2 : cdo RX2 (lkF csX2) (lkF clX2) := ⟨fun i v h => lkF_e (P := fun i v => Cond.constant RX2 i v ∈ uW) csX2_all h, fun i v h => lkF_e (P := fun i v => Cond.constantLong RX2 i v ∈ uW) clX2_all h⟩
def csX3 : List (Nat × Int32) := [(39, -2147483648)]
def clX3 : List (Nat × Int64) := []
theorem csX3_all : ∀ q ∈ csX3, Cond.constant RX3 q.1 q.2 ∈ uW := List.forall_mem_cons.mpr ⟨uT 473 (by decide +kernel) rfl, fun _ h => absurd h List.not_mem_nil⟩
theorem clX3_all : ∀ q ∈ clX3, Cond.constantLong RX3 q.1 q.2 ∈ uW := fun _ h => absurd h List.not_mem_nil
theorem cdX3 : cdo RX3 (lkF csX3) (lkF clX3) := ⟨fun i v h => lkF_e (P := fun i v => Cond.constant RX3 i v ∈ uW) csX3_all h, fun i v h => lkF_e (P := fun i v => Cond.constantLong RX3 i v ∈ uW) clX3_all h⟩
def csX4 : List (Nat × Int32) := []
def clX4 : List (Nat × Int64) := []
theorem csX4_all : ∀ q ∈ csX4, Cond.constant RX4 q.1 q.2 ∈ uW := fun _ h => absurd h List.not_mem_nil
theorem clX4_all : ∀ q ∈ clX4, Cond.constantLong RX4 q.1 q.2 ∈ uW := fun _ h => absurd h List.not_mem_nil
theorem cdX4 : cdo RX4 (lkF csX4) (lkF clX4) := ⟨fun i v h => lkF_e (P := fun i v => Cond.constant RX4 i v ∈ uW) csX4_all h, fun i v h => lkF_e (P := fun i v => Cond.constantLong RX4 i v ∈ uW) clX4_all h⟩
def csX5 : List (Nat × Int32) := [(243, 1103515245), (244, 2147483647), (245, 65536)]
def clX5 : List (Nat × Int64) := [(311, 1000000000)]
theorem csX5_all : ∀ q ∈ csX5, Cond.constant RX5 q.1 q.2 ∈ uW := List.forall_mem_cons.mpr ⟨uT 523 (by decide +kernel) rfl, List.forall_mem_cons.mpr ⟨uT 524 (by decide +kernel) rfl, List.forall_mem_cons.mpr ⟨uT 525 (by decide +kernel) rfl, fun _ h => absurd h List.not_mem_nil⟩⟩⟩
theorem clX5_all : ∀ q ∈ clX5, Cond.constantLong RX5 q.1 q.2 ∈ uW := List.forall_mem_cons.mpr ⟨uT 497 (by decide +kernel) rfl, fun _ h => absurd h List.not_mem_nil⟩
theorem cdX5 : cdo RX5 (lkF csX5) (lkF clX5) := ⟨fun i v h => lkF_e (P := fun i v => Cond.constant RX5 i v ∈ uW) csX5_all h, fun i v h => lkF_e (P := fun i v => Cond.constantLong RX5 i v ∈ uW) clX5_all h⟩
def csX6 : List (Nat × Int32) := [(308, 1103515245), (309, 2147483647), (310, 65536)]
def clX6 : List (Nat × Int64) := [(79, 9), (148, 48), (150, 57), (166, 60), (218, 7), (226, 99), (231, 2), (233, -1), (244, 20), (274, -128), (276, -32768), (278, -2147483648), (293, 30), (299, 1000000001)]
theorem csX6_all : ∀ q ∈ csX6, Cond.constant RX6 q.1 q.2 ∈ uW := List.forall_mem_cons.mpr ⟨uT 1150 (by decide +kernel) rfl, List.forall_mem_cons.mpr ⟨uT 1151 (by decide +kernel) rfl, List.forall_mem_cons.mpr ⟨uT 1152 (by decide +kernel) rfl, fun _ h => absurd h List.not_mem_nil⟩⟩⟩
theorem clX6_all : ∀ q ∈ clX6, Cond.constantLong RX6 q.1 q.2 ∈ uW := List.forall_mem_cons.mpr ⟨uT 960 (by decide +kernel) rfl, List.forall_mem_cons.mpr ⟨uT 872 (by decide +kernel) rfl, List.forall_mem_cons.mpr ⟨uT 873 (by decide +kernel) rfl, List.forall_mem_cons.mpr ⟨uT 901 (by decide +kernel) rfl, List.forall_mem_cons.mpr ⟨uT 849 (by decide +kernel) rfl, List.forall_mem_cons.mpr ⟨uT 977 (by decide +kernel) rfl, List.forall_mem_cons.mpr ⟨uT 1001 (by decide +kernel) rfl, List.forall_mem_cons.mpr ⟨uT 1006 (by decide +kernel) rfl, List.forall_mem_cons.mpr ⟨uT 1039 (by decide +kernel) rfl, List.forall_mem_cons.mpr ⟨uT 1103 (by decide +kernel) rfl, List.forall_mem_cons.mpr ⟨uT 1104 (by decide +kernel) rfl, List.forall_mem_cons.mpr ⟨uT 1105 (by decide +kernel) rfl, List.forall_mem_cons.mpr ⟨uT 1118 (by decide +kernel) rfl, List.forall_mem_cons.mpr ⟨uT 1123 (by decide +kernel) rfl, fun _ h => absurd h List.not_mem_nil⟩⟩⟩⟩⟩⟩⟩⟩⟩⟩⟩⟩⟩⟩
theorem cdX6 : cdo RX6 (lkF csX6) (lkF clX6) := ⟨fun i v h => lkF_e (P := fun i v => Cond.constant RX6 i v ∈ uW) csX6_all h, fun i v h => lkF_e (P := fun i v => Cond.constantLong RX6 i v ∈ uW) clX6_all h⟩
def csJ6 : List (Nat × Int32) := [(265, 1431655765), (266, 858993459), (267, 252645135)]
def clJ6 : List (Nat × Int64) := []
theorem csJ6_all : ∀ q ∈ csJ6, Cond.constant RJ6 q.1 q.2 ∈ uW := List.forall_mem_cons.mpr ⟨uT 337 (by decide +kernel) rfl, List.forall_mem_cons.mpr ⟨uT 338 (by decide +kernel) rfl, List.forall_mem_cons.mpr ⟨uT 339 (by decide +kernel) rfl, fun _ h => absurd h List.not_mem_nil⟩⟩⟩
theorem clJ6_all : ∀ q ∈ clJ6, Cond.constantLong RJ6 q.1 q.2 ∈ uW := fun _ h => absurd h List.not_mem_nil
theorem cdJ6 : cdo RJ6 (lkF csJ6) (lkF clJ6) := ⟨fun i v h => lkF_e (P := fun i v => Cond.constant RJ6 i v ∈ uW) csJ6_all h, fun i v h => lkF_e (P := fun i v => Cond.constantLong RJ6 i v ∈ uW) clJ6_all h⟩
end
