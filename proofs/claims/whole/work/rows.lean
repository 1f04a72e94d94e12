section
-- ===== PART A: goes FIRST, ahead of the names: the tables' words, and 'selects' of the private methods out of them =====
/-- a private method of a class that the tables say can be made, by its rows of tables_1 -/
def lw_okq (q : MethodName × Nat) : Prop := (q.1.cls ≠ "java/lang/invoke/MethodHandle" ∧ q.1.cls ≠ "java/lang/invoke/VarHandle") ∧ Cond.instantiable q.1.cls q.2 ∈ tables_1 ∧ Cond.privateMethod q.1 ∈ tables_1 ∧ Cond.instanceMethod q.1 ∈ tables_1
theorem lw_p0 : lw_okq (⟨"ServesWhatOneDreamt", "rowRefusal", "(I)I"⟩, 7) := ⟨⟨by decide +kernel, by decide +kernel⟩, List.mem_of_getElem? (i := 18) (by decide +kernel), List.mem_of_getElem? (i := 166) (by decide +kernel), List.mem_of_getElem? (i := 167) (by decide +kernel)⟩
theorem lw_p1 : lw_okq (⟨"ServesWhatOneDreamt", "refusalUnless", "(II)I"⟩, 7) := ⟨⟨by decide +kernel, by decide +kernel⟩, List.mem_of_getElem? (i := 18) (by decide +kernel), List.mem_of_getElem? (i := 170) (by decide +kernel), List.mem_of_getElem? (i := 171) (by decide +kernel)⟩
theorem lw_p2 : lw_okq (⟨"ServesWhatOneDreamt", "inMind", "()LServesWhatOneDreamt$Inn;"⟩, 7) := ⟨⟨by decide +kernel, by decide +kernel⟩, List.mem_of_getElem? (i := 18) (by decide +kernel), List.mem_of_getElem? (i := 189) (by decide +kernel), List.mem_of_getElem? (i := 190) (by decide +kernel)⟩
theorem lw_p3 : lw_okq (⟨"ServesWhatOneDreamt$Inn", "dream", "(II)I"⟩, 13) := ⟨⟨by decide +kernel, by decide +kernel⟩, List.mem_of_getElem? (i := 26) (by decide +kernel), List.mem_of_getElem? (i := 266) (by decide +kernel), List.mem_of_getElem? (i := 267) (by decide +kernel)⟩
theorem lw_p4 : lw_okq (⟨"ServesWhatOneDreamt$Inn", "breakfast", "(II)V"⟩, 13) := ⟨⟨by decide +kernel, by decide +kernel⟩, List.mem_of_getElem? (i := 26) (by decide +kernel), List.mem_of_getElem? (i := 276) (by decide +kernel), List.mem_of_getElem? (i := 277) (by decide +kernel)⟩
theorem lw_p5 : lw_okq (⟨"ServesWhatOneDreamt$Inn", "changeHealth", "(II)V"⟩, 13) := ⟨⟨by decide +kernel, by decide +kernel⟩, List.mem_of_getElem? (i := 26) (by decide +kernel), List.mem_of_getElem? (i := 283) (by decide +kernel), List.mem_of_getElem? (i := 284) (by decide +kernel)⟩
theorem lw_p6 : lw_okq (⟨"ServesWhatOneDreamt", "kindRefusal", "(I)I"⟩, 7) := ⟨⟨by decide +kernel, by decide +kernel⟩, List.mem_of_getElem? (i := 18) (by decide +kernel), List.mem_of_getElem? (i := 313) (by decide +kernel), List.mem_of_getElem? (i := 314) (by decide +kernel)⟩
theorem lw_p7 : lw_okq (⟨"ServesWhatOneDreamt", "firstToLeave", "()I"⟩, 7) := ⟨⟨by decide +kernel, by decide +kernel⟩, List.mem_of_getElem? (i := 18) (by decide +kernel), List.mem_of_getElem? (i := 360) (by decide +kernel), List.mem_of_getElem? (i := 361) (by decide +kernel)⟩
theorem lw_p8 : lw_okq (⟨"ServesWhatOneDreamt", "suffices", "(III)Z"⟩, 7) := ⟨⟨by decide +kernel, by decide +kernel⟩, List.mem_of_getElem? (i := 18) (by decide +kernel), List.mem_of_getElem? (i := 392) (by decide +kernel), List.mem_of_getElem? (i := 393) (by decide +kernel)⟩
theorem lw_p9 : lw_okq (⟨"ServesWhatOneDreamt", "healthThen", "(III)I"⟩, 7) := ⟨⟨by decide +kernel, by decide +kernel⟩, List.mem_of_getElem? (i := 18) (by decide +kernel), List.mem_of_getElem? (i := 404) (by decide +kernel), List.mem_of_getElem? (i := 405) (by decide +kernel)⟩
theorem lw_p10 : lw_okq (⟨"ServesWhatOneDreamt$Seating", "seatRest", "(II)Z"⟩, 2) := ⟨⟨by decide +kernel, by decide +kernel⟩, List.mem_of_getElem? (i := 127) (by decide +kernel), List.mem_of_getElem? (i := 422) (by decide +kernel), List.mem_of_getElem? (i := 423) (by decide +kernel)⟩
theorem lw_p11 : lw_okq (⟨"ServesWhatOneDreamt$Seating", "fits", "(II)Z"⟩, 2) := ⟨⟨by decide +kernel, by decide +kernel⟩, List.mem_of_getElem? (i := 127) (by decide +kernel), List.mem_of_getElem? (i := 426) (by decide +kernel), List.mem_of_getElem? (i := 427) (by decide +kernel)⟩
theorem lw_p12 : lw_okq (⟨"ServesWhatOneDreamt$Shelf", "leastNumber", "()I"⟩, 6) := ⟨⟨by decide +kernel, by decide +kernel⟩, List.mem_of_getElem? (i := 94) (by decide +kernel), List.mem_of_getElem? (i := 470) (by decide +kernel), List.mem_of_getElem? (i := 471) (by decide +kernel)⟩
theorem lw_p13 : lw_okq (⟨"ServesWhatOneDreamt", "choose", "(IIII)V"⟩, 7) := ⟨⟨by decide +kernel, by decide +kernel⟩, List.mem_of_getElem? (i := 18) (by decide +kernel), List.mem_of_getElem? (i := 486) (by decide +kernel), List.mem_of_getElem? (i := 487) (by decide +kernel)⟩
theorem lw_p14 : lw_okq (⟨"java/lang/Throwable", "fillInStackTrace", "(I)Ljava/lang/Throwable;"⟩, 6) := ⟨⟨by decide +kernel, by decide +kernel⟩, List.mem_of_getElem? (i := 636) (by decide +kernel), List.mem_of_getElem? (i := 634) (by decide +kernel), List.mem_of_getElem? (i := 635) (by decide +kernel)⟩
theorem lw_p15 : lw_okq (⟨"ServesWhatOneDreamtModel", "wrongRow", "(I)I"⟩, 39) := ⟨⟨by decide +kernel, by decide +kernel⟩, List.mem_of_getElem? (i := 712) (by decide +kernel), List.mem_of_getElem? (i := 846) (by decide +kernel), List.mem_of_getElem? (i := 847) (by decide +kernel)⟩
def lw_privs_1 : List (MethodName × Nat) := [(⟨"ServesWhatOneDreamt", "rowRefusal", "(I)I"⟩, 7), (⟨"ServesWhatOneDreamt", "refusalUnless", "(II)I"⟩, 7), (⟨"ServesWhatOneDreamt", "inMind", "()LServesWhatOneDreamt$Inn;"⟩, 7), (⟨"ServesWhatOneDreamt$Inn", "dream", "(II)I"⟩, 13), (⟨"ServesWhatOneDreamt$Inn", "breakfast", "(II)V"⟩, 13), (⟨"ServesWhatOneDreamt$Inn", "changeHealth", "(II)V"⟩, 13), (⟨"ServesWhatOneDreamt", "kindRefusal", "(I)I"⟩, 7), (⟨"ServesWhatOneDreamt", "firstToLeave", "()I"⟩, 7), (⟨"ServesWhatOneDreamt", "suffices", "(III)Z"⟩, 7), (⟨"ServesWhatOneDreamt", "healthThen", "(III)I"⟩, 7), (⟨"ServesWhatOneDreamt$Seating", "seatRest", "(II)Z"⟩, 2), (⟨"ServesWhatOneDreamt$Seating", "fits", "(II)Z"⟩, 2), (⟨"ServesWhatOneDreamt$Shelf", "leastNumber", "()I"⟩, 6), (⟨"ServesWhatOneDreamt", "choose", "(IIII)V"⟩, 7), (⟨"java/lang/Throwable", "fillInStackTrace", "(I)Ljava/lang/Throwable;"⟩, 6), (⟨"ServesWhatOneDreamtModel", "wrongRow", "(I)I"⟩, 39)]
theorem lw_r1 : ∀ q ∈ lw_privs_1, lw_okq q := List.forall_mem_cons.mpr ⟨lw_p0, List.forall_mem_cons.mpr ⟨lw_p1, List.forall_mem_cons.mpr ⟨lw_p2, List.forall_mem_cons.mpr ⟨lw_p3, List.forall_mem_cons.mpr ⟨lw_p4, List.forall_mem_cons.mpr ⟨lw_p5, List.forall_mem_cons.mpr ⟨lw_p6, List.forall_mem_cons.mpr ⟨lw_p7, List.forall_mem_cons.mpr ⟨lw_p8, List.forall_mem_cons.mpr ⟨lw_p9, List.forall_mem_cons.mpr ⟨lw_p10, List.forall_mem_cons.mpr ⟨lw_p11, List.forall_mem_cons.mpr ⟨lw_p12, List.forall_mem_cons.mpr ⟨lw_p13, List.forall_mem_cons.mpr ⟨lw_p14, List.forall_mem_cons.mpr ⟨lw_p15, fun _ h => absurd h List.not_mem_nil⟩⟩⟩⟩⟩⟩⟩⟩⟩⟩⟩⟩⟩⟩⟩⟩
theorem lw_p16 : lw_okq (⟨"ServesWhatOneDreamtModel", "readStatement", "()V"⟩, 39) := ⟨⟨by decide +kernel, by decide +kernel⟩, List.mem_of_getElem? (i := 712) (by decide +kernel), List.mem_of_getElem? (i := 854) (by decide +kernel), List.mem_of_getElem? (i := 855) (by decide +kernel)⟩
theorem lw_p17 : lw_okq (⟨"ServesWhatOneDreamtModel", "here", "()I"⟩, 39) := ⟨⟨by decide +kernel, by decide +kernel⟩, List.mem_of_getElem? (i := 712) (by decide +kernel), List.mem_of_getElem? (i := 858) (by decide +kernel), List.mem_of_getElem? (i := 859) (by decide +kernel)⟩
theorem lw_p18 : lw_okq (⟨"ServesWhatOneDreamtModel", "readNumbers", "(II)V"⟩, 39) := ⟨⟨by decide +kernel, by decide +kernel⟩, List.mem_of_getElem? (i := 712) (by decide +kernel), List.mem_of_getElem? (i := 865) (by decide +kernel), List.mem_of_getElem? (i := 866) (by decide +kernel)⟩
theorem lw_p19 : lw_okq (⟨"ServesWhatOneDreamtModel", "readDigits", "(I)I"⟩, 39) := ⟨⟨by decide +kernel, by decide +kernel⟩, List.mem_of_getElem? (i := 712) (by decide +kernel), List.mem_of_getElem? (i := 869) (by decide +kernel), List.mem_of_getElem? (i := 870) (by decide +kernel)⟩
theorem lw_p20 : lw_okq (⟨"ServesWhatOneDreamtModel", "think", "()V"⟩, 39) := ⟨⟨by decide +kernel, by decide +kernel⟩, List.mem_of_getElem? (i := 712) (by decide +kernel), List.mem_of_getElem? (i := 875) (by decide +kernel), List.mem_of_getElem? (i := 876) (by decide +kernel)⟩
theorem lw_p21 : lw_okq (⟨"ServesWhatOneDreamtModel", "carryAll", "([IZ)V"⟩, 39) := ⟨⟨by decide +kernel, by decide +kernel⟩, List.mem_of_getElem? (i := 712) (by decide +kernel), List.mem_of_getElem? (i := 879) (by decide +kernel), List.mem_of_getElem? (i := 880) (by decide +kernel)⟩
theorem lw_p22 : lw_okq (⟨"ServesWhatOneDreamtModel", "carry", "(I)I"⟩, 39) := ⟨⟨by decide +kernel, by decide +kernel⟩, List.mem_of_getElem? (i := 712) (by decide +kernel), List.mem_of_getElem? (i := 883) (by decide +kernel), List.mem_of_getElem? (i := 884) (by decide +kernel)⟩
theorem lw_p23 : lw_okq (⟨"ServesWhatOneDreamtModel", "comesTold", "(I)Z"⟩, 39) := ⟨⟨by decide +kernel, by decide +kernel⟩, List.mem_of_getElem? (i := 712) (by decide +kernel), List.mem_of_getElem? (i := 887) (by decide +kernel), List.mem_of_getElem? (i := 888) (by decide +kernel)⟩
theorem lw_p24 : lw_okq (⟨"ServesWhatOneDreamtModel", "guestComes", "(III)Z"⟩, 39) := ⟨⟨by decide +kernel, by decide +kernel⟩, List.mem_of_getElem? (i := 712) (by decide +kernel), List.mem_of_getElem? (i := 891) (by decide +kernel), List.mem_of_getElem? (i := 892) (by decide +kernel)⟩
theorem lw_p25 : lw_okq (⟨"ServesWhatOneDreamtModel", "nightsCome", "(I)Z"⟩, 39) := ⟨⟨by decide +kernel, by decide +kernel⟩, List.mem_of_getElem? (i := 712) (by decide +kernel), List.mem_of_getElem? (i := 898) (by decide +kernel), List.mem_of_getElem? (i := 899) (by decide +kernel)⟩
theorem lw_p26 : lw_okq (⟨"ServesWhatOneDreamtModel", "goNights", "(I)V"⟩, 39) := ⟨⟨by decide +kernel, by decide +kernel⟩, List.mem_of_getElem? (i := 712) (by decide +kernel), List.mem_of_getElem? (i := 903) (by decide +kernel), List.mem_of_getElem? (i := 904) (by decide +kernel)⟩
theorem lw_p27 : lw_okq (⟨"ServesWhatOneDreamtModel", "nightOn", "()V"⟩, 39) := ⟨⟨by decide +kernel, by decide +kernel⟩, List.mem_of_getElem? (i := 712) (by decide +kernel), List.mem_of_getElem? (i := 907) (by decide +kernel), List.mem_of_getElem? (i := 908) (by decide +kernel)⟩
theorem lw_p28 : lw_okq (⟨"ServesWhatOneDreamtModel", "breakfast", "(I)V"⟩, 39) := ⟨⟨by decide +kernel, by decide +kernel⟩, List.mem_of_getElem? (i := 712) (by decide +kernel), List.mem_of_getElem? (i := 914) (by decide +kernel), List.mem_of_getElem? (i := 915) (by decide +kernel)⟩
theorem lw_p29 : lw_okq (⟨"ServesWhatOneDreamtModel", "dreamsOf", "(II)I"⟩, 39) := ⟨⟨by decide +kernel, by decide +kernel⟩, List.mem_of_getElem? (i := 712) (by decide +kernel), List.mem_of_getElem? (i := 918) (by decide +kernel), List.mem_of_getElem? (i := 919) (by decide +kernel)⟩
theorem lw_p30 : lw_okq (⟨"ServesWhatOneDreamtModel", "eatsOf", "(I)I"⟩, 39) := ⟨⟨by decide +kernel, by decide +kernel⟩, List.mem_of_getElem? (i := 712) (by decide +kernel), List.mem_of_getElem? (i := 922) (by decide +kernel), List.mem_of_getElem? (i := 923) (by decide +kernel)⟩
theorem lw_p31 : lw_okq (⟨"ServesWhatOneDreamtModel", "gainsOf", "(II)I"⟩, 39) := ⟨⟨by decide +kernel, by decide +kernel⟩, List.mem_of_getElem? (i := 712) (by decide +kernel), List.mem_of_getElem? (i := 926) (by decide +kernel), List.mem_of_getElem? (i := 927) (by decide +kernel)⟩
def lw_privs_2 : List (MethodName × Nat) := [(⟨"ServesWhatOneDreamtModel", "readStatement", "()V"⟩, 39), (⟨"ServesWhatOneDreamtModel", "here", "()I"⟩, 39), (⟨"ServesWhatOneDreamtModel", "readNumbers", "(II)V"⟩, 39), (⟨"ServesWhatOneDreamtModel", "readDigits", "(I)I"⟩, 39), (⟨"ServesWhatOneDreamtModel", "think", "()V"⟩, 39), (⟨"ServesWhatOneDreamtModel", "carryAll", "([IZ)V"⟩, 39), (⟨"ServesWhatOneDreamtModel", "carry", "(I)I"⟩, 39), (⟨"ServesWhatOneDreamtModel", "comesTold", "(I)Z"⟩, 39), (⟨"ServesWhatOneDreamtModel", "guestComes", "(III)Z"⟩, 39), (⟨"ServesWhatOneDreamtModel", "nightsCome", "(I)Z"⟩, 39), (⟨"ServesWhatOneDreamtModel", "goNights", "(I)V"⟩, 39), (⟨"ServesWhatOneDreamtModel", "nightOn", "()V"⟩, 39), (⟨"ServesWhatOneDreamtModel", "breakfast", "(I)V"⟩, 39), (⟨"ServesWhatOneDreamtModel", "dreamsOf", "(II)I"⟩, 39), (⟨"ServesWhatOneDreamtModel", "eatsOf", "(I)I"⟩, 39), (⟨"ServesWhatOneDreamtModel", "gainsOf", "(II)I"⟩, 39)]
theorem lw_r2 : ∀ q ∈ lw_privs_2, lw_okq q := List.forall_mem_cons.mpr ⟨lw_p16, List.forall_mem_cons.mpr ⟨lw_p17, List.forall_mem_cons.mpr ⟨lw_p18, List.forall_mem_cons.mpr ⟨lw_p19, List.forall_mem_cons.mpr ⟨lw_p20, List.forall_mem_cons.mpr ⟨lw_p21, List.forall_mem_cons.mpr ⟨lw_p22, List.forall_mem_cons.mpr ⟨lw_p23, List.forall_mem_cons.mpr ⟨lw_p24, List.forall_mem_cons.mpr ⟨lw_p25, List.forall_mem_cons.mpr ⟨lw_p26, List.forall_mem_cons.mpr ⟨lw_p27, List.forall_mem_cons.mpr ⟨lw_p28, List.forall_mem_cons.mpr ⟨lw_p29, List.forall_mem_cons.mpr ⟨lw_p30, List.forall_mem_cons.mpr ⟨lw_p31, fun _ h => absurd h List.not_mem_nil⟩⟩⟩⟩⟩⟩⟩⟩⟩⟩⟩⟩⟩⟩⟩⟩
theorem lw_p32 : lw_okq (⟨"ServesWhatOneDreamtModel", "ofGuest", "(III)Z"⟩, 39) := ⟨⟨by decide +kernel, by decide +kernel⟩, List.mem_of_getElem? (i := 712) (by decide +kernel), List.mem_of_getElem? (i := 930) (by decide +kernel), List.mem_of_getElem? (i := 931) (by decide +kernel)⟩
theorem lw_p33 : lw_okq (⟨"ServesWhatOneDreamtModel", "isOne", "(I)Z"⟩, 39) := ⟨⟨by decide +kernel, by decide +kernel⟩, List.mem_of_getElem? (i := 712) (by decide +kernel), List.mem_of_getElem? (i := 934) (by decide +kernel), List.mem_of_getElem? (i := 935) (by decide +kernel)⟩
theorem lw_p34 : lw_okq (⟨"ServesWhatOneDreamtModel", "again", "()V"⟩, 39) := ⟨⟨by decide +kernel, by decide +kernel⟩, List.mem_of_getElem? (i := 712) (by decide +kernel), List.mem_of_getElem? (i := 938) (by decide +kernel), List.mem_of_getElem? (i := 939) (by decide +kernel)⟩
theorem lw_p35 : lw_okq (⟨"ServesWhatOneDreamtModel", "wrongKept", "(I)I"⟩, 39) := ⟨⟨by decide +kernel, by decide +kernel⟩, List.mem_of_getElem? (i := 712) (by decide +kernel), List.mem_of_getElem? (i := 966) (by decide +kernel), List.mem_of_getElem? (i := 967) (by decide +kernel)⟩
theorem lw_p36 : lw_okq (⟨"ServesWhatOneDreamtModel", "leavesIn", "(I)I"⟩, 39) := ⟨⟨by decide +kernel, by decide +kernel⟩, List.mem_of_getElem? (i := 712) (by decide +kernel), List.mem_of_getElem? (i := 1008) (by decide +kernel), List.mem_of_getElem? (i := 1009) (by decide +kernel)⟩
theorem lw_p37 : lw_okq (⟨"ServesWhatOneDreamtModel", "dreamsNext", "(I)I"⟩, 39) := ⟨⟨by decide +kernel, by decide +kernel⟩, List.mem_of_getElem? (i := 712) (by decide +kernel), List.mem_of_getElem? (i := 1020) (by decide +kernel), List.mem_of_getElem? (i := 1021) (by decide +kernel)⟩
theorem lw_p38 : lw_okq (⟨"ServesWhatOneDreamtModel", "lackingThen", "(I)I"⟩, 39) := ⟨⟨by decide +kernel, by decide +kernel⟩, List.mem_of_getElem? (i := 712) (by decide +kernel), List.mem_of_getElem? (i := 1032) (by decide +kernel), List.mem_of_getElem? (i := 1033) (by decide +kernel)⟩
theorem lw_p39 : lw_okq (⟨"ServesWhatOneDreamtModel", "healthBut", "(II)I"⟩, 39) := ⟨⟨by decide +kernel, by decide +kernel⟩, List.mem_of_getElem? (i := 712) (by decide +kernel), List.mem_of_getElem? (i := 1045) (by decide +kernel), List.mem_of_getElem? (i := 1046) (by decide +kernel)⟩
theorem lw_p40 : lw_okq (⟨"ServesWhatOneDreamtModel", "laySeats", "()V"⟩, 39) := ⟨⟨by decide +kernel, by decide +kernel⟩, List.mem_of_getElem? (i := 712) (by decide +kernel), List.mem_of_getElem? (i := 1053) (by decide +kernel), List.mem_of_getElem? (i := 1054) (by decide +kernel)⟩
theorem lw_p41 : lw_okq (⟨"ServesWhatOneDreamtModel", "isUnlike", "(II)Z"⟩, 39) := ⟨⟨by decide +kernel, by decide +kernel⟩, List.mem_of_getElem? (i := 712) (by decide +kernel), List.mem_of_getElem? (i := 1057) (by decide +kernel), List.mem_of_getElem? (i := 1058) (by decide +kernel)⟩
theorem lw_p42 : lw_okq (⟨"ServesWhatOneDreamtModel", "sameTwos", "()I"⟩, 39) := ⟨⟨by decide +kernel, by decide +kernel⟩, List.mem_of_getElem? (i := 712) (by decide +kernel), List.mem_of_getElem? (i := 1065) (by decide +kernel), List.mem_of_getElem? (i := 1066) (by decide +kernel)⟩
theorem lw_p43 : lw_okq (⟨"ServesWhatOneDreamtModel", "wellest", "()I"⟩, 39) := ⟨⟨by decide +kernel, by decide +kernel⟩, List.mem_of_getElem? (i := 712) (by decide +kernel), List.mem_of_getElem? (i := 1069) (by decide +kernel), List.mem_of_getElem? (i := 1070) (by decide +kernel)⟩
theorem lw_p44 : lw_okq (⟨"ServesWhatOneDreamtModel", "fullestPlate", "()I"⟩, 39) := ⟨⟨by decide +kernel, by decide +kernel⟩, List.mem_of_getElem? (i := 712) (by decide +kernel), List.mem_of_getElem? (i := 1073) (by decide +kernel), List.mem_of_getElem? (i := 1074) (by decide +kernel)⟩
theorem lw_p45 : lw_okq (⟨"ServesWhatOneDreamtModel", "allPlates", "()I"⟩, 39) := ⟨⟨by decide +kernel, by decide +kernel⟩, List.mem_of_getElem? (i := 712) (by decide +kernel), List.mem_of_getElem? (i := 1077) (by decide +kernel), List.mem_of_getElem? (i := 1078) (by decide +kernel)⟩
theorem lw_p46 : lw_okq (⟨"ServesWhatOneDreamtModel", "emptyPlates", "()I"⟩, 39) := ⟨⟨by decide +kernel, by decide +kernel⟩, List.mem_of_getElem? (i := 712) (by decide +kernel), List.mem_of_getElem? (i := 1081) (by decide +kernel), List.mem_of_getElem? (i := 1082) (by decide +kernel)⟩
theorem lw_p47 : lw_okq (⟨"ServesWhatOneDreamtModel", "platesOf", "(Z)I"⟩, 39) := ⟨⟨by decide +kernel, by decide +kernel⟩, List.mem_of_getElem? (i := 712) (by decide +kernel), List.mem_of_getElem? (i := 1085) (by decide +kernel), List.mem_of_getElem? (i := 1086) (by decide +kernel)⟩
def lw_privs_3 : List (MethodName × Nat) := [(⟨"ServesWhatOneDreamtModel", "ofGuest", "(III)Z"⟩, 39), (⟨"ServesWhatOneDreamtModel", "isOne", "(I)Z"⟩, 39), (⟨"ServesWhatOneDreamtModel", "again", "()V"⟩, 39), (⟨"ServesWhatOneDreamtModel", "wrongKept", "(I)I"⟩, 39), (⟨"ServesWhatOneDreamtModel", "leavesIn", "(I)I"⟩, 39), (⟨"ServesWhatOneDreamtModel", "dreamsNext", "(I)I"⟩, 39), (⟨"ServesWhatOneDreamtModel", "lackingThen", "(I)I"⟩, 39), (⟨"ServesWhatOneDreamtModel", "healthBut", "(II)I"⟩, 39), (⟨"ServesWhatOneDreamtModel", "laySeats", "()V"⟩, 39), (⟨"ServesWhatOneDreamtModel", "isUnlike", "(II)Z"⟩, 39), (⟨"ServesWhatOneDreamtModel", "sameTwos", "()I"⟩, 39), (⟨"ServesWhatOneDreamtModel", "wellest", "()I"⟩, 39), (⟨"ServesWhatOneDreamtModel", "fullestPlate", "()I"⟩, 39), (⟨"ServesWhatOneDreamtModel", "allPlates", "()I"⟩, 39), (⟨"ServesWhatOneDreamtModel", "emptyPlates", "()I"⟩, 39), (⟨"ServesWhatOneDreamtModel", "platesOf", "(Z)I"⟩, 39)]
theorem lw_r3 : ∀ q ∈ lw_privs_3, lw_okq q := List.forall_mem_cons.mpr ⟨lw_p32, List.forall_mem_cons.mpr ⟨lw_p33, List.forall_mem_cons.mpr ⟨lw_p34, List.forall_mem_cons.mpr ⟨lw_p35, List.forall_mem_cons.mpr ⟨lw_p36, List.forall_mem_cons.mpr ⟨lw_p37, List.forall_mem_cons.mpr ⟨lw_p38, List.forall_mem_cons.mpr ⟨lw_p39, List.forall_mem_cons.mpr ⟨lw_p40, List.forall_mem_cons.mpr ⟨lw_p41, List.forall_mem_cons.mpr ⟨lw_p42, List.forall_mem_cons.mpr ⟨lw_p43, List.forall_mem_cons.mpr ⟨lw_p44, List.forall_mem_cons.mpr ⟨lw_p45, List.forall_mem_cons.mpr ⟨lw_p46, List.forall_mem_cons.mpr ⟨lw_p47, fun _ h => absurd h List.not_mem_nil⟩⟩⟩⟩⟩⟩⟩⟩⟩⟩⟩⟩⟩⟩⟩⟩
theorem lw_p48 : lw_okq (⟨"ServesWhatOneDreamtModel", "isHealthRow", "(II)Z"⟩, 39) := ⟨⟨by decide +kernel, by decide +kernel⟩, List.mem_of_getElem? (i := 712) (by decide +kernel), List.mem_of_getElem? (i := 1093) (by decide +kernel), List.mem_of_getElem? (i := 1094) (by decide +kernel)⟩
theorem lw_p49 : lw_okq (⟨"ServesWhatOneDreamtModel", "isSkipped", "(II)Z"⟩, 39) := ⟨⟨by decide +kernel, by decide +kernel⟩, List.mem_of_getElem? (i := 712) (by decide +kernel), List.mem_of_getElem? (i := 1097) (by decide +kernel), List.mem_of_getElem? (i := 1098) (by decide +kernel)⟩
theorem lw_p50 : lw_okq (⟨"ServesWhatOneDreamtModel", "isPlateRow", "(II)Z"⟩, 39) := ⟨⟨by decide +kernel, by decide +kernel⟩, List.mem_of_getElem? (i := 712) (by decide +kernel), List.mem_of_getElem? (i := 1111) (by decide +kernel), List.mem_of_getElem? (i := 1112) (by decide +kernel)⟩
theorem lw_p51 : lw_okq (⟨"ServesWhatOneDreamtModel", "drawBelow", "(I)I"⟩, 39) := ⟨⟨by decide +kernel, by decide +kernel⟩, List.mem_of_getElem? (i := 712) (by decide +kernel), List.mem_of_getElem? (i := 1147) (by decide +kernel), List.mem_of_getElem? (i := 1148) (by decide +kernel)⟩
def lw_privs_4 : List (MethodName × Nat) := [(⟨"ServesWhatOneDreamtModel", "isHealthRow", "(II)Z"⟩, 39), (⟨"ServesWhatOneDreamtModel", "isSkipped", "(II)Z"⟩, 39), (⟨"ServesWhatOneDreamtModel", "isPlateRow", "(II)Z"⟩, 39), (⟨"ServesWhatOneDreamtModel", "drawBelow", "(I)I"⟩, 39)]
theorem lw_r4 : ∀ q ∈ lw_privs_4, lw_okq q := List.forall_mem_cons.mpr ⟨lw_p48, List.forall_mem_cons.mpr ⟨lw_p49, List.forall_mem_cons.mpr ⟨lw_p50, List.forall_mem_cons.mpr ⟨lw_p51, fun _ h => absurd h List.not_mem_nil⟩⟩⟩⟩
def lw_privs : List (MethodName × Nat) := lw_privs_1 ++ (lw_privs_2 ++ (lw_privs_3 ++ (lw_privs_4)))
def lw_tbl : List Cond := k2_sels lw_privs ++ tables_1
theorem lw_privs_ok : ∀ q ∈ lw_privs, lw_okq q := by
  show ∀ q ∈ lw_privs_1 ++ (lw_privs_2 ++ (lw_privs_3 ++ (lw_privs_4))), lw_okq q
  exact List.forall_mem_append.mpr ⟨lw_r1, List.forall_mem_append.mpr ⟨lw_r2, List.forall_mem_append.mpr ⟨lw_r3, lw_r4⟩⟩⟩
end
section
def RX0 : String := "ServesWhatOneDreamt$Inn"
def TX0 : u_T := fun k => match k with
  | 0 => ("ServesWhatOneDreamt$Inn", "kinds", "[I", true)
  | 1 => ("ServesWhatOneDreamt$Inn", "figures", "[I", true)
  | 2 => ("ServesWhatOneDreamt$Inn", "wishes", "[I", true)
  | 3 => ("ServesWhatOneDreamt$Inn", "lasts", "[I", true)
  | 4 => ("ServesWhatOneDreamt$Inn", "healths", "[I", true)
  | 5 => ("ServesWhatOneDreamt$Inn", "plates", "[I", true)
  | 6 => ("ServesWhatOneDreamt$Inn", "guests", "I", false)
  | 7 => ("ServesWhatOneDreamt$Inn", "there", "I", false)
  | 8 => ("ServesWhatOneDreamt$Inn", "night", "I", false)
  | 9 => ("ServesWhatOneDreamt$Inn", "served", "I", false)
  | 10 => ("ServesWhatOneDreamt$Inn", "lacking", "I", false)
  | 11 => ("ServesWhatOneDreamt$Inn", "servedNow", "I", false)
  | _ => ("ServesWhatOneDreamt$Inn", "lackedNow", "I", false)
def tyX0 : Nat → FieldType := fun k => match k with
  | 0 => .array .int
  | 1 => .array .int
  | 2 => .array .int
  | 3 => .array .int
  | 4 => .array .int
  | 5 => .array .int
  | 6 => .int
  | 7 => .int
  | 8 => .int
  | 9 => .int
  | 10 => .int
  | 11 => .int
  | _ => .int
abbrev wsX00 : List Cond := u_ws RX0 TX0 13
theorem nmX0 : ∀ a, a < 13 → ∀ b, b < 13 → a ≠ b → (TX0 a).2.1 ≠ (TX0 b).2.1 := by decide +kernel
theorem tyX0_ok : ∀ k, k < 13 → parseFieldDescriptor (TX0 k).2.2.1 = some (tyX0 k) := by decide +kernel
abbrev cX0_init : ByteArray := prog_2_method_1_code
def yX0_init : MethodName := ⟨RX0, "<init>", "()V"⟩
abbrev cX0_become : ByteArray := prog_2_method_2_code
def yX0_become : MethodName := ⟨RX0, "become", "(LServesWhatOneDreamt$Inn;)V"⟩
abbrev cX0_knows : ByteArray := prog_2_method_3_code
def yX0_knows : MethodName := ⟨RX0, "knows", "(I)Z"⟩
abbrev cX0_isThere : ByteArray := prog_2_method_4_code
def yX0_isThere : MethodName := ⟨RX0, "isThere", "(I)Z"⟩
abbrev cX0_admit : ByteArray := prog_2_method_5_code
def yX0_admit : MethodName := ⟨RX0, "admit", "(III)I"⟩
abbrev cX0_stock : ByteArray := prog_2_method_6_code
def yX0_stock : MethodName := ⟨RX0, "stock", "(II)V"⟩
abbrev cX0_pass : ByteArray := prog_2_method_7_code
def yX0_pass : MethodName := ⟨RX0, "pass", "(I)V"⟩
abbrev cX0_passUnlacking : ByteArray := prog_2_method_8_code
def yX0_passUnlacking : MethodName := ⟨RX0, "passUnlacking", "(I)Z"⟩
abbrev cX0_passNight : ByteArray := prog_2_method_9_code
def yX0_passNight : MethodName := ⟨RX0, "passNight", "(ZI)V"⟩
abbrev cX0_dream : ByteArray := prog_2_method_10_code
def yX0_dream : MethodName := ⟨RX0, "dream", "(II)I"⟩
abbrev cX0_nextDream : ByteArray := prog_2_method_11_code
def yX0_nextDream : MethodName := ⟨RX0, "nextDream", "(I)I"⟩
abbrev cX0_breakfast : ByteArray := prog_2_method_12_code
def yX0_breakfast : MethodName := ⟨RX0, "breakfast", "(II)V"⟩
abbrev cX0_changeHealth : ByteArray := prog_2_method_13_code
def yX0_changeHealth : MethodName := ⟨RX0, "changeHealth", "(II)V"⟩
abbrev cX0_healthOf : ByteArray := prog_2_method_14_code
def yX0_healthOf : MethodName := ⟨RX0, "healthOf", "(I)I"⟩
abbrev cX0_twosOfOneDream : ByteArray := prog_2_method_15_code
def yX0_twosOfOneDream : MethodName := ⟨RX0, "twosOfOneDream", "()I"⟩
abbrev cX0_wellest : ByteArray := prog_2_method_16_code
def yX0_wellest : MethodName := ⟨RX0, "wellest", "()I"⟩
abbrev cX0_fullest : ByteArray := prog_2_method_17_code
def yX0_fullest : MethodName := ⟨RX0, "fullest", "()I"⟩
abbrev cX0_platesInAll : ByteArray := prog_2_method_18_code
def yX0_platesInAll : MethodName := ⟨RX0, "platesInAll", "()I"⟩
abbrev cX0_emptyPlates : ByteArray := prog_2_method_19_code
def yX0_emptyPlates : MethodName := ⟨RX0, "emptyPlates", "()I"⟩
abbrev cX0_platesOf : ByteArray := prog_2_method_20_code
def yX0_platesOf : MethodName := ⟨RX0, "platesOf", "([I)I"⟩
def RX1 : String := "ServesWhatOneDreamt$Kind"
def TX1 : u_T := fun k => match k with
  | _ => ("", "", "", false)
def tyX1 : Nat → FieldType := fun k => match k with
  | _ => .int
abbrev wsX10 : List Cond := u_ws RX1 TX1 0
theorem nmX1 : ∀ a, a < 0 → ∀ b, b < 0 → a ≠ b → (TX1 a).2.1 ≠ (TX1 b).2.1 := by decide +kernel
theorem tyX1_ok : ∀ k, k < 0 → parseFieldDescriptor (TX1 k).2.2.1 = some (tyX1 k) := by decide +kernel
abbrev cX1_isKind : ByteArray := prog_3_method_2_code
def yX1_isKind : MethodName := ⟨RX1, "isKind", "(I)Z"⟩
abbrev cX1_dream : ByteArray := prog_3_method_3_code
def yX1_dream : MethodName := ⟨RX1, "dream", "(IIIII)I"⟩
abbrev cX1_cooksDream : ByteArray := prog_3_method_4_code
def yX1_cooksDream : MethodName := ⟨RX1, "cooksDream", "(III)I"⟩
abbrev cX1_eats : ByteArray := prog_3_method_5_code
def yX1_eats : MethodName := ⟨RX1, "eats", "(I)I"⟩
abbrev cX1_gain : ByteArray := prog_3_method_6_code
def yX1_gain : MethodName := ⟨RX1, "gain", "(IIII)I"⟩
abbrev cX1_price : ByteArray := prog_3_method_7_code
def yX1_price : MethodName := ⟨RX1, "price", "(II)I"⟩
abbrev cX1_fail : ByteArray := prog_3_method_8_code
def yX1_fail : MethodName := ⟨RX1, "fail", "(II)V"⟩
def RX2 : String := "ServesWhatOneDreamt$Seating"
def TX2 : u_T := fun k => match k with
  | 0 => ("ServesWhatOneDreamt$Seating", "dreams", "[I", true)
  | _ => ("ServesWhatOneDreamt$Seating", "order", "[I", true)
def tyX2 : Nat → FieldType := fun k => match k with
  | 0 => .array .int
  | _ => .array .int
abbrev wsX20 : List Cond := u_ws RX2 TX2 2
theorem nmX2 : ∀ a, a < 2 → ∀ b, b < 2 → a ≠ b → (TX2 a).2.1 ≠ (TX2 b).2.1 := by decide +kernel
theorem tyX2_ok : ∀ k, k < 2 → parseFieldDescriptor (TX2 k).2.2.1 = some (tyX2 k) := by decide +kernel
abbrev cX2_init : ByteArray := prog_4_method_1_code
def yX2_init : MethodName := ⟨RX2, "<init>", "()V"⟩
abbrev cX2_seat : ByteArray := prog_4_method_2_code
def yX2_seat : MethodName := ⟨RX2, "seat", "(LServesWhatOneDreamt$Inn;I)I"⟩
abbrev cX2_seatRest : ByteArray := prog_4_method_3_code
def yX2_seatRest : MethodName := ⟨RX2, "seatRest", "(II)Z"⟩
abbrev cX2_fits : ByteArray := prog_4_method_4_code
def yX2_fits : MethodName := ⟨RX2, "fits", "(II)Z"⟩
def RX3 : String := "ServesWhatOneDreamt$Shelf"
def TX3 : u_T := fun k => match k with
  | 0 => ("ServesWhatOneDreamt$Shelf", "holds", "I", false)
  | 1 => ("ServesWhatOneDreamt$Shelf", "kind", "I", false)
  | 2 => ("ServesWhatOneDreamt$Shelf", "figure", "I", false)
  | 3 => ("ServesWhatOneDreamt$Shelf", "sort", "I", false)
  | 4 => ("ServesWhatOneDreamt$Shelf", "size", "I", false)
  | _ => ("ServesWhatOneDreamt$Shelf", "cells", "[I", true)
def tyX3 : Nat → FieldType := fun k => match k with
  | 0 => .int
  | 1 => .int
  | 2 => .int
  | 3 => .int
  | 4 => .int
  | _ => .array .int
abbrev wsX30 : List Cond := u_ws RX3 TX3 6
theorem nmX3 : ∀ a, a < 6 → ∀ b, b < 6 → a ≠ b → (TX3 a).2.1 ≠ (TX3 b).2.1 := by decide +kernel
theorem tyX3_ok : ∀ k, k < 6 → parseFieldDescriptor (TX3 k).2.2.1 = some (tyX3 k) := by decide +kernel
abbrev cX3_init : ByteArray := prog_5_method_1_code
def yX3_init : MethodName := ⟨RX3, "<init>", "()V"⟩
abbrev cX3_isSort : ByteArray := prog_5_method_2_code
def yX3_isSort : MethodName := ⟨RX3, "isSort", "(I)Z"⟩
abbrev cX3_lowestBits : ByteArray := prog_5_method_3_code
def yX3_lowestBits : MethodName := ⟨RX3, "lowestBits", "(II)I"⟩
abbrev cX3_holdNothing : ByteArray := prog_5_method_4_code
def yX3_holdNothing : MethodName := ⟨RX3, "holdNothing", "()V"⟩
abbrev cX3_holdKind : ByteArray := prog_5_method_5_code
def yX3_holdKind : MethodName := ⟨RX3, "holdKind", "(II)V"⟩
abbrev cX3_holdRow : ByteArray := prog_5_method_6_code
def yX3_holdRow : MethodName := ⟨RX3, "holdRow", "(II)V"⟩
abbrev cX3_hasCell : ByteArray := prog_5_method_7_code
def yX3_hasCell : MethodName := ⟨RX3, "hasCell", "(I)Z"⟩
abbrev cX3_hasCells : ByteArray := prog_5_method_8_code
def yX3_hasCells : MethodName := ⟨RX3, "hasCells", "(II)Z"⟩
abbrev cX3_isSo : ByteArray := prog_5_method_9_code
def yX3_isSo : MethodName := ⟨RX3, "isSo", "(II)Z"⟩
abbrev cX3_leastNumber : ByteArray := prog_5_method_10_code
def yX3_leastNumber : MethodName := ⟨RX3, "leastNumber", "()I"⟩
def RX4 : String := "ServesWhatOneDreamt$Text"
def TX4 : u_T := fun k => match k with
  | _ => ("", "", "", false)
def tyX4 : Nat → FieldType := fun k => match k with
  | _ => .int
abbrev wsX40 : List Cond := u_ws RX4 TX4 0
theorem nmX4 : ∀ a, a < 0 → ∀ b, b < 0 → a ≠ b → (TX4 a).2.1 ≠ (TX4 b).2.1 := by decide +kernel
theorem tyX4_ok : ∀ k, k < 0 → parseFieldDescriptor (TX4 k).2.2.1 = some (tyX4 k) := by decide +kernel
abbrev cX4_digitsBehind : ByteArray := prog_6_method_2_code
def yX4_digitsBehind : MethodName := ⟨RX4, "digitsBehind", "(I)I"⟩
abbrev cX4_placeOfBadByte : ByteArray := prog_6_method_3_code
def yX4_placeOfBadByte : MethodName := ⟨RX4, "placeOfBadByte", "(LServesWhatOneDreamt$Shelf;)I"⟩
abbrev cX4_isLetter : ByteArray := prog_6_method_4_code
def yX4_isLetter : MethodName := ⟨RX4, "isLetter", "(I)Z"⟩
abbrev cX4_digitAt : ByteArray := prog_6_method_5_code
def yX4_digitAt : MethodName := ⟨RX4, "digitAt", "(LServesWhatOneDreamt$Shelf;I)I"⟩
abbrev cX4_tell : ByteArray := prog_6_method_6_code
def yX4_tell : MethodName := ⟨RX4, "tell", "(LServesWhatOneDreamt$Shelf;ILServesWhatOneDreamt$Inn;)Z"⟩
abbrev cX4_setStock : ByteArray := prog_6_method_7_code
def yX4_setStock : MethodName := ⟨RX4, "setStock", "(LServesWhatOneDreamt$Inn;II)Z"⟩
abbrev cX4_addStock : ByteArray := prog_6_method_8_code
def yX4_addStock : MethodName := ⟨RX4, "addStock", "(LServesWhatOneDreamt$Inn;II)Z"⟩
abbrev cX4_setWish : ByteArray := prog_6_method_9_code
def yX4_setWish : MethodName := ⟨RX4, "setWish", "(LServesWhatOneDreamt$Inn;II)Z"⟩
abbrev cX4_setLast : ByteArray := prog_6_method_10_code
def yX4_setLast : MethodName := ⟨RX4, "setLast", "(LServesWhatOneDreamt$Inn;II)Z"⟩
abbrev cX4_setHealth : ByteArray := prog_6_method_11_code
def yX4_setHealth : MethodName := ⟨RX4, "setHealth", "(LServesWhatOneDreamt$Inn;II)Z"⟩
abbrev cX4_passNights : ByteArray := prog_6_method_12_code
def yX4_passNights : MethodName := ⟨RX4, "passNights", "(LServesWhatOneDreamt$Inn;I)Z"⟩
def RX5 : String := "ServesWhatOneDreamt"
def TX5 : u_T := fun k => match k with
  | 0 => ("ServesWhatOneDreamt", "now", "LServesWhatOneDreamt$Inn;", true)
  | 1 => ("ServesWhatOneDreamt", "mind", "LServesWhatOneDreamt$Inn;", true)
  | 2 => ("ServesWhatOneDreamt", "kept", "LServesWhatOneDreamt$Inn;", true)
  | 3 => ("ServesWhatOneDreamt", "hasImage", "Z", false)
  | 4 => ("ServesWhatOneDreamt", "shelves", "[LServesWhatOneDreamt$Shelf;", true)
  | 5 => ("ServesWhatOneDreamt", "seating", "LServesWhatOneDreamt$Seating;", true)
  | _ => ("ServesWhatOneDreamt", "pays", "[I", true)
def tyX5 : Nat → FieldType := fun k => match k with
  | 0 => .object "ServesWhatOneDreamt$Inn"
  | 1 => .object "ServesWhatOneDreamt$Inn"
  | 2 => .object "ServesWhatOneDreamt$Inn"
  | 3 => .boolean
  | 4 => .array (.object "ServesWhatOneDreamt$Shelf")
  | 5 => .object "ServesWhatOneDreamt$Seating"
  | _ => .array .int
abbrev wsX50 : List Cond := u_ws RX5 TX5 7
theorem nmX5 : ∀ a, a < 7 → ∀ b, b < 7 → a ≠ b → (TX5 a).2.1 ≠ (TX5 b).2.1 := by decide +kernel
theorem tyX5_ok : ∀ k, k < 7 → parseFieldDescriptor (TX5 k).2.2.1 = some (tyX5 k) := by decide +kernel
abbrev cX5_init : ByteArray := prog_1_method_1_code
def yX5_init : MethodName := ⟨RX5, "<init>", "()V"⟩
abbrev cX5_inn : ByteArray := prog_1_method_2_code
def yX5_inn : MethodName := ⟨RX5, "inn", "(I)I"⟩
abbrev cX5_guest : ByteArray := prog_1_method_3_code
def yX5_guest : MethodName := ⟨RX5, "guest", "(II)I"⟩
abbrev cX5_larder : ByteArray := prog_1_method_4_code
def yX5_larder : MethodName := ⟨RX5, "larder", "(I)I"⟩
abbrev cX5_comes : ByteArray := prog_1_method_5_code
def yX5_comes : MethodName := ⟨RX5, "comes", "(II)I"⟩
abbrev cX5_wishes : ByteArray := prog_1_method_6_code
def yX5_wishes : MethodName := ⟨RX5, "wishes", "(II)I"⟩
abbrev cX5_heals : ByteArray := prog_1_method_7_code
def yX5_heals : MethodName := ⟨RX5, "heals", "(II)I"⟩
abbrev cX5_fills : ByteArray := prog_1_method_8_code
def yX5_fills : MethodName := ⟨RX5, "fills", "(II)I"⟩
abbrev cX5_nights : ByteArray := prog_1_method_9_code
def yX5_nights : MethodName := ⟨RX5, "nights", "(I)I"⟩
abbrev cX5_guestThen : ByteArray := prog_1_method_10_code
def yX5_guestThen : MethodName := ⟨RX5, "guestThen", "(III)I"⟩
abbrev cX5_larderThen : ByteArray := prog_1_method_11_code
def yX5_larderThen : MethodName := ⟨RX5, "larderThen", "(II)I"⟩
abbrev cX5_then : ByteArray := prog_1_method_12_code
def yX5_then : MethodName := ⟨RX5, "then", "(II)I"⟩
abbrev cX5_leaves : ByteArray := prog_1_method_13_code
def yX5_leaves : MethodName := ⟨RX5, "leaves", "(I)I"⟩
abbrev cX5_firstToLeave : ByteArray := prog_1_method_14_code
def yX5_firstToLeave : MethodName := ⟨RX5, "firstToLeave", "()I"⟩
abbrev cX5_out : ByteArray := prog_1_method_15_code
def yX5_out : MethodName := ⟨RX5, "out", "(I)I"⟩
abbrev cX5_table : ByteArray := prog_1_method_16_code
def yX5_table : MethodName := ⟨RX5, "table", "(II)I"⟩
abbrev cX5_bestWish : ByteArray := prog_1_method_17_code
def yX5_bestWish : MethodName := ⟨RX5, "bestWish", "(III)I"⟩
abbrev cX5_buy : ByteArray := prog_1_method_18_code
def yX5_buy : MethodName := ⟨RX5, "buy", "(I)I"⟩
abbrev cX5_least : ByteArray := prog_1_method_19_code
def yX5_least : MethodName := ⟨RX5, "least", "(II)I"⟩
abbrev cX5_suffices : ByteArray := prog_1_method_20_code
def yX5_suffices : MethodName := ⟨RX5, "suffices", "(III)Z"⟩
abbrev cX5_send : ByteArray := prog_1_method_21_code
def yX5_send : MethodName := ⟨RX5, "send", "(I)I"⟩
abbrev cX5_healthThen : ByteArray := prog_1_method_22_code
def yX5_healthThen : MethodName := ⟨RX5, "healthThen", "(III)I"⟩
abbrev cX5_seats : ByteArray := prog_1_method_23_code
def yX5_seats : MethodName := ⟨RX5, "seats", "(I)I"⟩
abbrev cX5_same : ByteArray := prog_1_method_24_code
def yX5_same : MethodName := ⟨RX5, "same", "(I)I"⟩
abbrev cX5_whatIs : ByteArray := prog_1_method_25_code
def yX5_whatIs : MethodName := ⟨RX5, "whatIs", "(III)I"⟩
abbrev cX5_healthsAreSo : ByteArray := prog_1_method_26_code
def yX5_healthsAreSo : MethodName := ⟨RX5, "healthsAreSo", "(LServesWhatOneDreamt$Shelf;LServesWhatOneDreamt$Inn;I)Z"⟩
abbrev cX5_whatWish : ByteArray := prog_1_method_27_code
def yX5_whatWish : MethodName := ⟨RX5, "whatWish", "(II)I"⟩
abbrev cX5_lastPlatesAreSo : ByteArray := prog_1_method_28_code
def yX5_lastPlatesAreSo : MethodName := ⟨RX5, "lastPlatesAreSo", "(LServesWhatOneDreamt$Shelf;LServesWhatOneDreamt$Inn;I)Z"⟩
abbrev cX5_two : ByteArray := prog_1_method_29_code
def yX5_two : MethodName := ⟨RX5, "two", "(III)I"⟩
abbrev cX5_choose : ByteArray := prog_1_method_30_code
def yX5_choose : MethodName := ⟨RX5, "choose", "(IIII)V"⟩
abbrev cX5_mares : ByteArray := prog_1_method_31_code
def yX5_mares : MethodName := ⟨RX5, "mares", "(IIIII)J"⟩
abbrev cX5_mean : ByteArray := prog_1_method_32_code
def yX5_mean : MethodName := ⟨RX5, "mean", "(I)J"⟩
abbrev cX5_forged : ByteArray := prog_1_method_33_code
def yX5_forged : MethodName := ⟨RX5, "forged", "(I)I"⟩
abbrev cX5_judge : ByteArray := prog_1_method_34_code
def yX5_judge : MethodName := ⟨RX5, "judge", "(I)I"⟩
abbrev cX5_years : ByteArray := prog_1_method_35_code
def yX5_years : MethodName := ⟨RX5, "years", "(III)I"⟩
abbrev cX5_drawInto : ByteArray := prog_1_method_36_code
def yX5_drawInto : MethodName := ⟨RX5, "drawInto", "([IIII)I"⟩
abbrev cX5_image : ByteArray := prog_1_method_37_code
def yX5_image : MethodName := ⟨RX5, "image", "()I"⟩
abbrev cX5_restore : ByteArray := prog_1_method_38_code
def yX5_restore : MethodName := ⟨RX5, "restore", "()I"⟩
abbrev cX5_count : ByteArray := prog_1_method_39_code
def yX5_count : MethodName := ⟨RX5, "count", "(I)I"⟩
abbrev cX5_keep : ByteArray := prog_1_method_40_code
def yX5_keep : MethodName := ⟨RX5, "keep", "(IIII)I"⟩
abbrev cX5_row : ByteArray := prog_1_method_41_code
def yX5_row : MethodName := ⟨RX5, "row", "(III)I"⟩
abbrev cX5_put : ByteArray := prog_1_method_42_code
def yX5_put : MethodName := ⟨RX5, "put", "(III)I"⟩
abbrev cX5_element : ByteArray := prog_1_method_43_code
def yX5_element : MethodName := ⟨RX5, "element", "(II)J"⟩
abbrev cX5_copy : ByteArray := prog_1_method_44_code
def yX5_copy : MethodName := ⟨RX5, "copy", "(IIIII)I"⟩
abbrev cX5_cost : ByteArray := prog_1_method_45_code
def yX5_cost : MethodName := ⟨RX5, "cost", "(I)I"⟩
abbrev cX5_toss : ByteArray := prog_1_method_46_code
def yX5_toss : MethodName := ⟨RX5, "toss", "(I)I"⟩
abbrev cX5_inMind : ByteArray := prog_1_method_47_code
def yX5_inMind : MethodName := ⟨RX5, "inMind", "()LServesWhatOneDreamt$Inn;"⟩
abbrev cX5_rowRefusal : ByteArray := prog_1_method_48_code
def yX5_rowRefusal : MethodName := ⟨RX5, "rowRefusal", "(I)I"⟩
abbrev cX5_kindRefusal : ByteArray := prog_1_method_49_code
def yX5_kindRefusal : MethodName := ⟨RX5, "kindRefusal", "(I)I"⟩
abbrev cX5_refusalUnless : ByteArray := prog_1_method_50_code
def yX5_refusalUnless : MethodName := ⟨RX5, "refusalUnless", "(II)I"⟩
abbrev cX5_within : ByteArray := prog_1_method_51_code
def yX5_within : MethodName := ⟨RX5, "within", "(III)Z"⟩
abbrev cX5_isPlate : ByteArray := prog_1_method_52_code
def yX5_isPlate : MethodName := ⟨RX5, "isPlate", "(I)Z"⟩
abbrev cX5_isWhile : ByteArray := prog_1_method_53_code
def yX5_isWhile : MethodName := ⟨RX5, "isWhile", "(I)Z"⟩
abbrev cX5_isShelf : ByteArray := prog_1_method_54_code
def yX5_isShelf : MethodName := ⟨RX5, "isShelf", "(I)Z"⟩
abbrev cX5_isDigit : ByteArray := prog_1_method_55_code
def yX5_isDigit : MethodName := ⟨RX5, "isDigit", "(I)Z"⟩
abbrev cX5_leastOf : ByteArray := prog_1_method_56_code
def yX5_leastOf : MethodName := ⟨RX5, "leastOf", "(I)I"⟩
abbrev cX5_refusedLong : ByteArray := prog_1_method_57_code
def yX5_refusedLong : MethodName := ⟨RX5, "refusedLong", "(I)J"⟩
abbrev cX5_partOf : ByteArray := prog_1_method_58_code
def yX5_partOf : MethodName := ⟨RX5, "partOf", "(JJI)J"⟩
abbrev cX5_sharedDivisor : ByteArray := prog_1_method_59_code
def yX5_sharedDivisor : MethodName := ⟨RX5, "sharedDivisor", "(JJ)J"⟩
def RX6 : String := "ServesWhatOneDreamtModel"
def TX6 : u_T := fun k => match k with
  | 0 => ("ServesWhatOneDreamtModel", "plates", "[I", true)
  | 1 => ("ServesWhatOneDreamtModel", "many", "I", false)
  | 2 => ("ServesWhatOneDreamtModel", "kinds", "[I", true)
  | 3 => ("ServesWhatOneDreamtModel", "figures", "[I", true)
  | 4 => ("ServesWhatOneDreamtModel", "wish", "[I", true)
  | 5 => ("ServesWhatOneDreamtModel", "tasted", "[I", true)
  | 6 => ("ServesWhatOneDreamtModel", "health", "[I", true)
  | 7 => ("ServesWhatOneDreamtModel", "there", "I", false)
  | 8 => ("ServesWhatOneDreamtModel", "served", "I", false)
  | 9 => ("ServesWhatOneDreamtModel", "lacking", "I", false)
  | 10 => ("ServesWhatOneDreamtModel", "today", "I", false)
  | 11 => ("ServesWhatOneDreamtModel", "says", "I", false)
  | 12 => ("ServesWhatOneDreamtModel", "isMare", "Z", false)
  | 13 => ("ServesWhatOneDreamtModel", "holdsWhat", "[I", true)
  | 14 => ("ServesWhatOneDreamtModel", "keptKind", "[I", true)
  | 15 => ("ServesWhatOneDreamtModel", "keptFigure", "[I", true)
  | 16 => ("ServesWhatOneDreamtModel", "rowSort", "[I", true)
  | 17 => ("ServesWhatOneDreamtModel", "rowMany", "[I", true)
  | 18 => ("ServesWhatOneDreamtModel", "rows", "[J", true)
  | 19 => ("ServesWhatOneDreamtModel", "thrown", "I", false)
  | 20 => ("ServesWhatOneDreamtModel", "servedIn", "I", false)
  | 21 => ("ServesWhatOneDreamtModel", "reading", "I", false)
  | 22 => ("ServesWhatOneDreamtModel", "place", "I", false)
  | 23 => ("ServesWhatOneDreamtModel", "isBad", "Z", false)
  | 24 => ("ServesWhatOneDreamtModel", "statements", "I", false)
  | 25 => ("ServesWhatOneDreamtModel", "placeIn", "[I", true)
  | 26 => ("ServesWhatOneDreamtModel", "letterOf", "[I", true)
  | 27 => ("ServesWhatOneDreamtModel", "told", "[I", true)
  | 28 => ("ServesWhatOneDreamtModel", "kept", "[I", true)
  | 29 => ("ServesWhatOneDreamtModel", "imaged", "[I", true)
  | 30 => ("ServesWhatOneDreamtModel", "hasImage", "Z", false)
  | 31 => ("ServesWhatOneDreamtModel", "place0", "I", false)
  | 32 => ("ServesWhatOneDreamtModel", "isTaking", "Z", false)
  | 33 => ("ServesWhatOneDreamtModel", "keptIn", "[I", false)
  | 34 => ("ServesWhatOneDreamtModel", "dreamt", "[I", true)
  | 35 => ("ServesWhatOneDreamtModel", "canEnd", "[Z", true)
  | 36 => ("ServesWhatOneDreamtModel", "gains", "[I", true)
  | 37 => ("ServesWhatOneDreamtModel", "seed", "I", false)
  | _ => ("ServesWhatOneDreamtModel", "between", "[J", true)
def tyX6 : Nat → FieldType := fun k => match k with
  | 0 => .array .int
  | 1 => .int
  | 2 => .array .int
  | 3 => .array .int
  | 4 => .array .int
  | 5 => .array .int
  | 6 => .array .int
  | 7 => .int
  | 8 => .int
  | 9 => .int
  | 10 => .int
  | 11 => .int
  | 12 => .boolean
  | 13 => .array .int
  | 14 => .array .int
  | 15 => .array .int
  | 16 => .array .int
  | 17 => .array .int
  | 18 => .array .long
  | 19 => .int
  | 20 => .int
  | 21 => .int
  | 22 => .int
  | 23 => .boolean
  | 24 => .int
  | 25 => .array .int
  | 26 => .array .int
  | 27 => .array .int
  | 28 => .array .int
  | 29 => .array .int
  | 30 => .boolean
  | 31 => .int
  | 32 => .boolean
  | 33 => .array .int
  | 34 => .array .int
  | 35 => .array .boolean
  | 36 => .array .int
  | 37 => .int
  | _ => .array .long
abbrev wsX60 : List Cond := u_ws RX6 TX6 39
theorem nmX6 : ∀ a, a < 39 → ∀ b, b < 39 → a ≠ b → (TX6 a).2.1 ≠ (TX6 b).2.1 := by decide +kernel
theorem tyX6_ok : ∀ k, k < 39 → parseFieldDescriptor (TX6 k).2.2.1 = some (tyX6 k) := by decide +kernel
abbrev cX6_init : ByteArray := prog_8_method_1_code
def yX6_init : MethodName := ⟨RX6, "<init>", "()V"⟩
abbrev cX6_thrown : ByteArray := prog_8_method_2_code
def yX6_thrown : MethodName := ⟨RX6, "thrown", "()I"⟩
abbrev cX6_in : ByteArray := prog_8_method_3_code
def yX6_in : MethodName := ⟨RX6, "in", "(JJJ)Z"⟩
abbrev cX6_hasBit : ByteArray := prog_8_method_4_code
def yX6_hasBit : MethodName := ⟨RX6, "hasBit", "(II)Z"⟩
abbrev cX6_onesOf : ByteArray := prog_8_method_5_code
def yX6_onesOf : MethodName := ⟨RX6, "onesOf", "(I)I"⟩
abbrev cX6_held : ByteArray := prog_8_method_6_code
def yX6_held : MethodName := ⟨RX6, "held", "(II)I"⟩
abbrev cX6_isPlate : ByteArray := prog_8_method_7_code
def yX6_isPlate : MethodName := ⟨RX6, "isPlate", "(I)Z"⟩
abbrev cX6_isOne : ByteArray := prog_8_method_8_code
def yX6_isOne : MethodName := ⟨RX6, "isOne", "(I)Z"⟩
abbrev cX6_dreamsOf : ByteArray := prog_8_method_9_code
def yX6_dreamsOf : MethodName := ⟨RX6, "dreamsOf", "(II)I"⟩
abbrev cX6_eatsOf : ByteArray := prog_8_method_10_code
def yX6_eatsOf : MethodName := ⟨RX6, "eatsOf", "(I)I"⟩
abbrev cX6_gainsOf : ByteArray := prog_8_method_11_code
def yX6_gainsOf : MethodName := ⟨RX6, "gainsOf", "(II)I"⟩
abbrev cX6_breakfast : ByteArray := prog_8_method_12_code
def yX6_breakfast : MethodName := ⟨RX6, "breakfast", "(I)V"⟩
abbrev cX6_nightOn : ByteArray := prog_8_method_13_code
def yX6_nightOn : MethodName := ⟨RX6, "nightOn", "()V"⟩
abbrev cX6_goNights : ByteArray := prog_8_method_14_code
def yX6_goNights : MethodName := ⟨RX6, "goNights", "(I)V"⟩
abbrev cX6_allPlates : ByteArray := prog_8_method_15_code
def yX6_allPlates : MethodName := ⟨RX6, "allPlates", "()I"⟩
abbrev cX6_here : ByteArray := prog_8_method_16_code
def yX6_here : MethodName := ⟨RX6, "here", "()I"⟩
abbrev cX6_readDigits : ByteArray := prog_8_method_17_code
def yX6_readDigits : MethodName := ⟨RX6, "readDigits", "(I)I"⟩
abbrev cX6_isLetter : ByteArray := prog_8_method_18_code
def yX6_isLetter : MethodName := ⟨RX6, "isLetter", "(I)Z"⟩
abbrev cX6_readNumbers : ByteArray := prog_8_method_19_code
def yX6_readNumbers : MethodName := ⟨RX6, "readNumbers", "(II)V"⟩
abbrev cX6_readStatement : ByteArray := prog_8_method_20_code
def yX6_readStatement : MethodName := ⟨RX6, "readStatement", "()V"⟩
abbrev cX6_guestComes : ByteArray := prog_8_method_21_code
def yX6_guestComes : MethodName := ⟨RX6, "guestComes", "(III)Z"⟩
abbrev cX6_nightsCome : ByteArray := prog_8_method_22_code
def yX6_nightsCome : MethodName := ⟨RX6, "nightsCome", "(I)Z"⟩
abbrev cX6_ofGuest : ByteArray := prog_8_method_23_code
def yX6_ofGuest : MethodName := ⟨RX6, "ofGuest", "(III)Z"⟩
abbrev cX6_comesTold : ByteArray := prog_8_method_24_code
def yX6_comesTold : MethodName := ⟨RX6, "comesTold", "(I)Z"⟩
abbrev cX6_inn : ByteArray := prog_8_method_25_code
def yX6_inn : MethodName := ⟨RX6, "inn", "(I)I"⟩
abbrev cX6_carry : ByteArray := prog_8_method_26_code
def yX6_carry : MethodName := ⟨RX6, "carry", "(I)I"⟩
abbrev cX6_carryAll : ByteArray := prog_8_method_27_code
def yX6_carryAll : MethodName := ⟨RX6, "carryAll", "([IZ)V"⟩
abbrev cX6_think : ByteArray := prog_8_method_28_code
def yX6_think : MethodName := ⟨RX6, "think", "()V"⟩
abbrev cX6_again : ByteArray := prog_8_method_29_code
def yX6_again : MethodName := ⟨RX6, "again", "()V"⟩
abbrev cX6_image : ByteArray := prog_8_method_30_code
def yX6_image : MethodName := ⟨RX6, "image", "()I"⟩
abbrev cX6_restore : ByteArray := prog_8_method_31_code
def yX6_restore : MethodName := ⟨RX6, "restore", "()I"⟩
abbrev cX6_guest : ByteArray := prog_8_method_32_code
def yX6_guest : MethodName := ⟨RX6, "guest", "(II)I"⟩
abbrev cX6_larder : ByteArray := prog_8_method_33_code
def yX6_larder : MethodName := ⟨RX6, "larder", "(I)I"⟩
abbrev cX6_comes : ByteArray := prog_8_method_34_code
def yX6_comes : MethodName := ⟨RX6, "comes", "(II)I"⟩
abbrev cX6_wishes : ByteArray := prog_8_method_35_code
def yX6_wishes : MethodName := ⟨RX6, "wishes", "(II)I"⟩
abbrev cX6_heals : ByteArray := prog_8_method_36_code
def yX6_heals : MethodName := ⟨RX6, "heals", "(II)I"⟩
abbrev cX6_fills : ByteArray := prog_8_method_37_code
def yX6_fills : MethodName := ⟨RX6, "fills", "(II)I"⟩
abbrev cX6_nights : ByteArray := prog_8_method_38_code
def yX6_nights : MethodName := ⟨RX6, "nights", "(I)I"⟩
abbrev cX6_guestThen : ByteArray := prog_8_method_39_code
def yX6_guestThen : MethodName := ⟨RX6, "guestThen", "(III)I"⟩
abbrev cX6_larderThen : ByteArray := prog_8_method_40_code
def yX6_larderThen : MethodName := ⟨RX6, "larderThen", "(II)I"⟩
abbrev cX6_then : ByteArray := prog_8_method_41_code
def yX6_then : MethodName := ⟨RX6, "then", "(II)I"⟩
abbrev cX6_leavesIn : ByteArray := prog_8_method_42_code
def yX6_leavesIn : MethodName := ⟨RX6, "leavesIn", "(I)I"⟩
abbrev cX6_leaves : ByteArray := prog_8_method_43_code
def yX6_leaves : MethodName := ⟨RX6, "leaves", "(I)I"⟩
abbrev cX6_out : ByteArray := prog_8_method_44_code
def yX6_out : MethodName := ⟨RX6, "out", "(I)I"⟩
abbrev cX6_dreamsNext : ByteArray := prog_8_method_45_code
def yX6_dreamsNext : MethodName := ⟨RX6, "dreamsNext", "(I)I"⟩
abbrev cX6_table : ByteArray := prog_8_method_46_code
def yX6_table : MethodName := ⟨RX6, "table", "(II)I"⟩
abbrev cX6_bestWish : ByteArray := prog_8_method_47_code
def yX6_bestWish : MethodName := ⟨RX6, "bestWish", "(III)I"⟩
abbrev cX6_lackingThen : ByteArray := prog_8_method_48_code
def yX6_lackingThen : MethodName := ⟨RX6, "lackingThen", "(I)I"⟩
abbrev cX6_buy : ByteArray := prog_8_method_49_code
def yX6_buy : MethodName := ⟨RX6, "buy", "(I)I"⟩
abbrev cX6_least : ByteArray := prog_8_method_50_code
def yX6_least : MethodName := ⟨RX6, "least", "(II)I"⟩
abbrev cX6_healthBut : ByteArray := prog_8_method_51_code
def yX6_healthBut : MethodName := ⟨RX6, "healthBut", "(II)I"⟩
abbrev cX6_send : ByteArray := prog_8_method_52_code
def yX6_send : MethodName := ⟨RX6, "send", "(I)I"⟩
abbrev cX6_isUnlike : ByteArray := prog_8_method_53_code
def yX6_isUnlike : MethodName := ⟨RX6, "isUnlike", "(II)Z"⟩
abbrev cX6_laySeats : ByteArray := prog_8_method_54_code
def yX6_laySeats : MethodName := ⟨RX6, "laySeats", "()V"⟩
abbrev cX6_seats : ByteArray := prog_8_method_55_code
def yX6_seats : MethodName := ⟨RX6, "seats", "(I)I"⟩
abbrev cX6_sameTwos : ByteArray := prog_8_method_56_code
def yX6_sameTwos : MethodName := ⟨RX6, "sameTwos", "()I"⟩
abbrev cX6_wellest : ByteArray := prog_8_method_57_code
def yX6_wellest : MethodName := ⟨RX6, "wellest", "()I"⟩
abbrev cX6_fullestPlate : ByteArray := prog_8_method_58_code
def yX6_fullestPlate : MethodName := ⟨RX6, "fullestPlate", "()I"⟩
abbrev cX6_emptyPlates : ByteArray := prog_8_method_59_code
def yX6_emptyPlates : MethodName := ⟨RX6, "emptyPlates", "()I"⟩
abbrev cX6_platesOf : ByteArray := prog_8_method_60_code
def yX6_platesOf : MethodName := ⟨RX6, "platesOf", "(Z)I"⟩
abbrev cX6_same : ByteArray := prog_8_method_61_code
def yX6_same : MethodName := ⟨RX6, "same", "(I)I"⟩
abbrev cX6_leastOf : ByteArray := prog_8_method_62_code
def yX6_leastOf : MethodName := ⟨RX6, "leastOf", "(I)J"⟩
abbrev cX6_isSkipped : ByteArray := prog_8_method_63_code
def yX6_isSkipped : MethodName := ⟨RX6, "isSkipped", "(II)Z"⟩
abbrev cX6_isHealthRow : ByteArray := prog_8_method_64_code
def yX6_isHealthRow : MethodName := ⟨RX6, "isHealthRow", "(II)Z"⟩
abbrev cX6_isPlateRow : ByteArray := prog_8_method_65_code
def yX6_isPlateRow : MethodName := ⟨RX6, "isPlateRow", "(II)Z"⟩
abbrev cX6_whatIs : ByteArray := prog_8_method_66_code
def yX6_whatIs : MethodName := ⟨RX6, "whatIs", "(III)I"⟩
abbrev cX6_whatWish : ByteArray := prog_8_method_67_code
def yX6_whatWish : MethodName := ⟨RX6, "whatWish", "(II)I"⟩
abbrev cX6_two : ByteArray := prog_8_method_68_code
def yX6_two : MethodName := ⟨RX6, "two", "(III)I"⟩
abbrev cX6_divisor : ByteArray := prog_8_method_69_code
def yX6_divisor : MethodName := ⟨RX6, "divisor", "(JJ)J"⟩
abbrev cX6_partOf : ByteArray := prog_8_method_70_code
def yX6_partOf : MethodName := ⟨RX6, "partOf", "(JJI)J"⟩
abbrev cX6_mares : ByteArray := prog_8_method_71_code
def yX6_mares : MethodName := ⟨RX6, "mares", "(IIIII)J"⟩
abbrev cX6_mean : ByteArray := prog_8_method_72_code
def yX6_mean : MethodName := ⟨RX6, "mean", "(I)J"⟩
abbrev cX6_forged : ByteArray := prog_8_method_73_code
def yX6_forged : MethodName := ⟨RX6, "forged", "(I)I"⟩
abbrev cX6_judge : ByteArray := prog_8_method_74_code
def yX6_judge : MethodName := ⟨RX6, "judge", "(I)I"⟩
abbrev cX6_drawBelow : ByteArray := prog_8_method_75_code
def yX6_drawBelow : MethodName := ⟨RX6, "drawBelow", "(I)I"⟩
abbrev cX6_years : ByteArray := prog_8_method_76_code
def yX6_years : MethodName := ⟨RX6, "years", "(III)I"⟩
abbrev cX6_count : ByteArray := prog_8_method_77_code
def yX6_count : MethodName := ⟨RX6, "count", "(I)I"⟩
abbrev cX6_wrongKept : ByteArray := prog_8_method_78_code
def yX6_wrongKept : MethodName := ⟨RX6, "wrongKept", "(I)I"⟩
abbrev cX6_keep : ByteArray := prog_8_method_79_code
def yX6_keep : MethodName := ⟨RX6, "keep", "(IIII)I"⟩
abbrev cX6_wrongRow : ByteArray := prog_8_method_80_code
def yX6_wrongRow : MethodName := ⟨RX6, "wrongRow", "(I)I"⟩
abbrev cX6_narrowed : ByteArray := prog_8_method_81_code
def yX6_narrowed : MethodName := ⟨RX6, "narrowed", "(II)J"⟩
abbrev cX6_row : ByteArray := prog_8_method_82_code
def yX6_row : MethodName := ⟨RX6, "row", "(III)I"⟩
abbrev cX6_put : ByteArray := prog_8_method_83_code
def yX6_put : MethodName := ⟨RX6, "put", "(III)I"⟩
abbrev cX6_element : ByteArray := prog_8_method_84_code
def yX6_element : MethodName := ⟨RX6, "element", "(II)J"⟩
abbrev cX6_copy : ByteArray := prog_8_method_85_code
def yX6_copy : MethodName := ⟨RX6, "copy", "(IIIII)I"⟩
abbrev cX6_costOf : ByteArray := prog_8_method_86_code
def yX6_costOf : MethodName := ⟨RX6, "costOf", "(II)I"⟩
abbrev cX6_cost : ByteArray := prog_8_method_87_code
def yX6_cost : MethodName := ⟨RX6, "cost", "(I)I"⟩
abbrev cX6_toss : ByteArray := prog_8_method_88_code
def yX6_toss : MethodName := ⟨RX6, "toss", "(I)I"⟩
def RJ6 : String := "java/lang/Integer"
def TJ6 : u_T := fun k => match k with
  | _ => ("", "", "", false)
def tyJ6 : Nat → FieldType := fun k => match k with
  | _ => .int
abbrev wsJ60 : List Cond := u_ws RJ6 TJ6 0
theorem nmJ6 : ∀ a, a < 0 → ∀ b, b < 0 → a ≠ b → (TJ6 a).2.1 ≠ (TJ6 b).2.1 := by decide +kernel
theorem tyJ6_ok : ∀ k, k < 0 → parseFieldDescriptor (TJ6 k).2.2.1 = some (tyJ6 k) := by decide +kernel
abbrev cJ6_bitCount_0f7a4 : ByteArray := prog_12_method_49_code
def yJ6_bitCount_0f7a4 : MethodName := ⟨RJ6, "bitCount", "(I)I"⟩
def RJ9 : String := "java/lang/Math"
def TJ9 : u_T := fun k => match k with
  | _ => ("", "", "", false)
def tyJ9 : Nat → FieldType := fun k => match k with
  | _ => .int
abbrev wsJ90 : List Cond := u_ws RJ9 TJ9 0
theorem nmJ9 : ∀ a, a < 0 → ∀ b, b < 0 → a ≠ b → (TJ9 a).2.1 ≠ (TJ9 b).2.1 := by decide +kernel
theorem tyJ9_ok : ∀ k, k < 0 → parseFieldDescriptor (TJ9 k).2.2.1 = some (tyJ9 k) := by decide +kernel
abbrev cJ9_max_7cf53 : ByteArray := prog_13_method_65_code
def yJ9_max_7cf53 : MethodName := ⟨RJ9, "max", "(II)I"⟩
abbrev cJ9_min_7cf53 : ByteArray := prog_13_method_69_code
def yJ9_min_7cf53 : MethodName := ⟨RJ9, "min", "(II)I"⟩
def RJ0 : String := "java/lang/String"
def TJ0 : u_T := fun k => match k with
  | _ => ("", "", "", false)
def tyJ0 : Nat → FieldType := fun k => match k with
  | _ => .int
abbrev wsJ00 : List Cond := u_ws RJ0 TJ0 0
theorem nmJ0 : ∀ a, a < 0 → ∀ b, b < 0 → a ≠ b → (TJ0 a).2.1 ≠ (TJ0 b).2.1 := by decide +kernel
theorem tyJ0_ok : ∀ k, k < 0 → parseFieldDescriptor (TJ0 k).2.2.1 = some (tyJ0 k) := by decide +kernel
def RJ10 : String := "java/lang/System"
def TJ10 : u_T := fun k => match k with
  | _ => ("", "", "", false)
def tyJ10 : Nat → FieldType := fun k => match k with
  | _ => .int
abbrev wsJ100 : List Cond := u_ws RJ10 TJ10 0
theorem nmJ10 : ∀ a, a < 0 → ∀ b, b < 0 → a ≠ b → (TJ10 a).2.1 ≠ (TJ10 b).2.1 := by decide +kernel
theorem tyJ10_ok : ∀ k, k < 0 → parseFieldDescriptor (TJ10 k).2.2.1 = some (tyJ10 k) := by decide +kernel
def RL : String := "ServesWhatOneDreamtLaw"
abbrev cL_element : ByteArray := method_3_code
def yL_element : MethodName := ⟨RL, "element", "(LServesWhatOneDreamt;II[J)I"⟩
abbrev cL_law : ByteArray := code
def yL_law : MethodName := ⟨RL, "law", "([I)Z"⟩
end
section
/-! decode, with what a step needs at hand: the next place, the target (of a jump; else the number in the instruction), the constant -/
def xtg : Instr → Nat → Nat
  | .goto o, pc => ((pc : Int) + o).toNat
  | .if_icmp _ o, pc => ((pc : Int) + o).toNat
  | .ifCond _ o, pc => ((pc : Int) + o).toNat
  | .iload_n n, _ => n.val
  | .lload_n n, _ => n.val
  | .aload_n n, _ => n.val
  | .istore_n n, _ => n.val
  | .lstore_n n, _ => n.val
  | .astore_n n, _ => n.val
  | .iload n, _ => n
  | .lload n, _ => n
  | .aload n, _ => n
  | .istore n, _ => n
  | .lstore n, _ => n
  | .astore n, _ => n
  | .iinc n _, _ => n
  | .getfield n, _ => n
  | .putfield n, _ => n
  | .ldc n, _ => n
  | .ldc_w n, _ => n
  | .ldc2_w n, _ => n
  | _, _ => 0
def xli : Instr → Int32
  | .iconst n => Int32.ofInt n
  | .bipush n => (Int8.ofInt n).toInt32
  | .sipush n => (Int16.ofInt n).toInt32
  | .iinc _ n => Int32.ofInt n
  | .lconst n => Int32.ofNat n.val
  | _ => 0
def xln : Instr → Nat
  | .bipush _ => 2
  | .sipush _ => 3
  | .ldc _ => 2
  | .ldc_w _ => 3
  | .ldc2_w _ => 3
  | .iload _ => 2
  | .lload _ => 2
  | .aload _ => 2
  | .istore _ => 2
  | .lstore _ => 2
  | .astore _ => 2
  | .iinc _ _ => 3
  | .goto _ => 3
  | .if_icmp _ _ => 3
  | .ifCond _ _ => 3
  | .getfield _ => 3
  | .putfield _ => 3
  | .invokevirtual _ => 3
  | .invokestatic _ => 3
  | .invokespecial _ => 3
  | .new _ => 3
  | .newarray _ => 2
  | .anewarray _ => 3
  | .tableswitch _ _ _ _ => 0
  | .lookupswitch _ _ => 0
  | _ => 1
def xps : Instr → Nat → Bool
  | .goto o, pc => decide (0 ≤ (pc : Int) + o)
  | .if_icmp _ o, pc => decide (0 ≤ (pc : Int) + o)
  | .ifCond _ o, pc => decide (0 ≤ (pc : Int) + o)
  | .tableswitch d _ _ os, pc => decide (0 ≤ (pc : Int) + d) && os.toList.all (fun o => decide (0 ≤ (pc : Int) + o))
  | .lookupswitch d ps, pc => decide (0 ≤ (pc : Int) + d) && ps.toList.all (fun o => decide (0 ≤ (pc : Int) + o.2))
  | _, _ => true
def xdec (cc : ByteArray) (pc : Nat) : Option (Instr × Nat × Nat × Int32) := match decode cc pc with
  | .ok (i, len) => if (len = xln i ∨ xln i = 0) ∧ xps i pc = true then some (i, pc + len, xtg i pc, xli i) else none
  | _ => none
theorem xdec_ok {cc : ByteArray} {pc nx tg : Nat} {i : Instr} {li : Int32} (h : xdec cc pc = some (i, nx, tg, li)) : ∃ len, decode cc pc = .ok (i, len) ∧ (len = xln i ∨ xln i = 0) ∧ xps i pc = true ∧ nx = pc + len ∧ tg = xtg i pc ∧ li = xli i := by
  unfold xdec at h
  split at h
  · rename_i i' len hd
    split at h
    · rename_i hl
      simp only [Option.some.injEq, Prod.mk.injEq] at h
      obtain ⟨rfl, rfl, rfl, rfl⟩ := h
      exact ⟨len, hd, hl.1, hl.2, rfl, rfl, rfl⟩
    · cases h
  · cases h
def lkB {α : Type} : List (Nat × α) → Nat → Option α
  | [], _ => none
  | (q, a) :: t, i => cond (Nat.beq i q) (some a) (lkB t i)
theorem lkB_e {α : Type} {P : Nat → α → Prop} : ∀ {L : List (Nat × α)} {i : Nat} {v : α}, (∀ q ∈ L, P q.1 q.2) → lkB L i = some v → P i v
  | [], _, _, _, h => by cases h
  | (q, a) :: t, i, v, hL, h => by
    unfold lkB at h
    cases e : Nat.beq i q with
    | true =>
      rw [e] at h
      have h1 : some a = some v := h
      cases h1
      rw [Nat.eq_of_beq_eq_true e]; exact hL _ List.mem_cons_self
    | false =>
      rw [e] at h
      exact lkB_e (fun z hz => hL z (List.mem_cons_of_mem _ hz)) h
theorem lkB_all {L : List (Nat × (Instr × Nat × Nat × Int32))} {cc : ByteArray} (h : L.all (fun q => decide (xdec cc q.1 = some q.2)) = true) : ∀ pc q, lkB L pc = some q → xdec cc pc = some q :=
  fun pc q hq => lkB_e (P := fun pc q => xdec cc pc = some q) (fun z hz => of_decide_eq_true (List.all_eq_true.mp h z hz)) hq
end
section
def pJ6_bitCount_0f7a4 : List (Nat × (Instr × Nat × Nat × Int32)) := [(0, (.iload_n 0, 1, 0, 0)), (1, (.iload_n 0, 2, 0, 0)), (2, (.iconst 1, 3, 0, 1)), (3, (.iushr, 4, 0, 0)), (4, (.ldc_w 265, 7, 265, 0)), (7, (.iand, 8, 0, 0)), (8, (.isub, 9, 0, 0)), (9, (.istore_n 0, 10, 0, 0)), (10, (.iload_n 0, 11, 0, 0)), (11, (.ldc_w 266, 14, 266, 0)), (14, (.iand, 15, 0, 0)), (15, (.iload_n 0, 16, 0, 0)), (16, (.iconst 2, 17, 0, 2)), (17, (.iushr, 18, 0, 0)), (18, (.ldc_w 266, 21, 266, 0)), (21, (.iand, 22, 0, 0)), (22, (.iadd, 23, 0, 0)), (23, (.istore_n 0, 24, 0, 0)), (24, (.iload_n 0, 25, 0, 0)), (25, (.iload_n 0, 26, 0, 0)), (26, (.iconst 4, 27, 0, 4)), (27, (.iushr, 28, 0, 0)), (28, (.iadd, 29, 0, 0)), (29, (.ldc_w 267, 32, 267, 0)), (32, (.iand, 33, 0, 0)), (33, (.istore_n 0, 34, 0, 0)), (34, (.iload_n 0, 35, 0, 0)), (35, (.iload_n 0, 36, 0, 0)), (36, (.bipush 8, 38, 0, 8)), (38, (.iushr, 39, 0, 0)), (39, (.iadd, 40, 0, 0)), (40, (.istore_n 0, 41, 0, 0)), (41, (.iload_n 0, 42, 0, 0)), (42, (.iload_n 0, 43, 0, 0)), (43, (.bipush 16, 45, 0, 16)), (45, (.iushr, 46, 0, 0)), (46, (.iadd, 47, 0, 0)), (47, (.istore_n 0, 48, 0, 0)), (48, (.iload_n 0, 49, 0, 0)), (49, (.bipush 63, 51, 0, 63)), (51, (.iand, 52, 0, 0)), (52, (.ireturn, 53, 0, 0))]
theorem pJ6_bitCount_0f7a4_ok : ∀ pc q, lkB pJ6_bitCount_0f7a4 pc = some q → xdec cJ6_bitCount_0f7a4 pc = some q := lkB_all (by decide +kernel)
end
section
def pJ9_max_7cf53 : List (Nat × (Instr × Nat × Nat × Int32)) := [(0, (.iload_n 0, 1, 0, 0)), (1, (.iload_n 1, 2, 1, 0)), (2, (.if_icmp .lt 7, 5, 9, 0)), (5, (.iload_n 0, 6, 0, 0)), (6, (.goto 4, 9, 10, 0)), (9, (.iload_n 1, 10, 1, 0)), (10, (.ireturn, 11, 0, 0))]
theorem pJ9_max_7cf53_ok : ∀ pc q, lkB pJ9_max_7cf53 pc = some q → xdec cJ9_max_7cf53 pc = some q := lkB_all (by decide +kernel)
def pJ9_min_7cf53 : List (Nat × (Instr × Nat × Nat × Int32)) := [(0, (.iload_n 0, 1, 0, 0)), (1, (.iload_n 1, 2, 1, 0)), (2, (.if_icmp .gt 7, 5, 9, 0)), (5, (.iload_n 0, 6, 0, 0)), (6, (.goto 4, 9, 10, 0)), (9, (.iload_n 1, 10, 1, 0)), (10, (.ireturn, 11, 0, 0))]
theorem pJ9_min_7cf53_ok : ∀ pc q, lkB pJ9_min_7cf53 pc = some q → xdec cJ9_min_7cf53 pc = some q := lkB_all (by decide +kernel)
end
section
def pL_element : List (Nat × (Instr × Nat × Nat × Int32)) := [(0, (.aload_n 3, 1, 3, 0)), (1, (.iconst 0, 2, 0, 0)), (2, (.aload_n 0, 3, 0, 0)), (3, (.iload_n 1, 4, 1, 0)), (4, (.iload_n 2, 5, 2, 0)), (5, (.invokevirtual 7, 8, 0, 0)), (8, (.lastore, 9, 0, 0)), (9, (.goto 11, 12, 20, 0)), (12, (.astore 4, 14, 4, 0)), (14, (.iconst 1, 15, 0, 1)), (15, (.ireturn, 16, 0, 0)), (16, (.astore 4, 18, 4, 0)), (18, (.iconst 2, 19, 0, 2)), (19, (.ireturn, 20, 0, 0)), (20, (.iconst 0, 21, 0, 0)), (21, (.ireturn, 22, 0, 0))]
theorem pL_element_ok : ∀ pc q, lkB pL_element pc = some q → xdec cL_element pc = some q := lkB_all (by decide +kernel)
end
section
def pX0_init : List (Nat × (Instr × Nat × Nat × Int32)) := [(0, (.aload_n 0, 1, 0, 0)), (1, (.invokespecial 3, 4, 0, 0)), (4, (.aload_n 0, 5, 0, 0)), (5, (.bipush 7, 7, 0, 7)), (7, (.newarray .int, 9, 0, 0)), (9, (.putfield 9, 12, 9, 0)), (12, (.aload_n 0, 13, 0, 0)), (13, (.bipush 7, 15, 0, 7)), (15, (.newarray .int, 17, 0, 0)), (17, (.putfield 15, 20, 15, 0)), (20, (.aload_n 0, 21, 0, 0)), (21, (.bipush 7, 23, 0, 7)), (23, (.newarray .int, 25, 0, 0)), (25, (.putfield 18, 28, 18, 0)), (28, (.aload_n 0, 29, 0, 0)), (29, (.bipush 7, 31, 0, 7)), (31, (.newarray .int, 33, 0, 0)), (33, (.putfield 21, 36, 21, 0)), (36, (.aload_n 0, 37, 0, 0)), (37, (.bipush 7, 39, 0, 7)), (39, (.newarray .int, 41, 0, 0)), (41, (.putfield 24, 44, 24, 0)), (44, (.aload_n 0, 45, 0, 0)), (45, (.bipush 10, 47, 0, 10)), (47, (.newarray .int, 49, 0, 0)), (49, (.putfield 27, 52, 27, 0)), (52, (.iconst 0, 53, 0, 0)), (53, (.istore_n 1, 54, 1, 0)), (54, (.iload_n 1, 55, 1, 0)), (55, (.bipush 10, 57, 0, 10)), (57, (.if_icmp .ge 16, 60, 73, 0)), (60, (.aload_n 0, 61, 0, 0)), (61, (.getfield 27, 64, 27, 0)), (64, (.iload_n 1, 65, 1, 0)), (65, (.iconst 5, 66, 0, 5)), (66, (.iastore, 67, 0, 0)), (67, (.iinc 1 1, 70, 1, 1)), (70, (.goto (-16), 73, 54, 0)), (73, (.return_, 74, 0, 0))]
theorem pX0_init_ok : ∀ pc q, lkB pX0_init pc = some q → xdec cX0_init pc = some q := lkB_all (by decide +kernel)
def pX0_become : List (Nat × (Instr × Nat × Nat × Int32)) := [(0, (.aload_n 1, 1, 1, 0)), (1, (.getfield 9, 4, 9, 0)), (4, (.iconst 0, 5, 0, 0)), (5, (.aload_n 0, 6, 0, 0)), (6, (.getfield 9, 9, 9, 0)), (9, (.iconst 0, 10, 0, 0)), (10, (.bipush 7, 12, 0, 7)), (12, (.invokestatic 30, 15, 0, 0)), (15, (.aload_n 1, 16, 1, 0)), (16, (.getfield 15, 19, 15, 0)), (19, (.iconst 0, 20, 0, 0)), (20, (.aload_n 0, 21, 0, 0)), (21, (.getfield 15, 24, 15, 0)), (24, (.iconst 0, 25, 0, 0)), (25, (.bipush 7, 27, 0, 7)), (27, (.invokestatic 30, 30, 0, 0)), (30, (.aload_n 1, 31, 1, 0)), (31, (.getfield 18, 34, 18, 0)), (34, (.iconst 0, 35, 0, 0)), (35, (.aload_n 0, 36, 0, 0)), (36, (.getfield 18, 39, 18, 0)), (39, (.iconst 0, 40, 0, 0)), (40, (.bipush 7, 42, 0, 7)), (42, (.invokestatic 30, 45, 0, 0)), (45, (.aload_n 1, 46, 1, 0)), (46, (.getfield 21, 49, 21, 0)), (49, (.iconst 0, 50, 0, 0)), (50, (.aload_n 0, 51, 0, 0)), (51, (.getfield 21, 54, 21, 0)), (54, (.iconst 0, 55, 0, 0)), (55, (.bipush 7, 57, 0, 7)), (57, (.invokestatic 30, 60, 0, 0)), (60, (.aload_n 1, 61, 1, 0)), (61, (.getfield 24, 64, 24, 0)), (64, (.iconst 0, 65, 0, 0)), (65, (.aload_n 0, 66, 0, 0)), (66, (.getfield 24, 69, 24, 0)), (69, (.iconst 0, 70, 0, 0)), (70, (.bipush 7, 72, 0, 7)), (72, (.invokestatic 30, 75, 0, 0)), (75, (.aload_n 1, 76, 1, 0)), (76, (.getfield 27, 79, 27, 0)), (79, (.iconst 0, 80, 0, 0)), (80, (.aload_n 0, 81, 0, 0)), (81, (.getfield 27, 84, 27, 0)), (84, (.iconst 0, 85, 0, 0)), (85, (.bipush 10, 87, 0, 10)), (87, (.invokestatic 30, 90, 0, 0)), (90, (.aload_n 0, 91, 0, 0)), (91, (.aload_n 1, 92, 1, 0)), (92, (.getfield 36, 95, 36, 0)), (95, (.putfield 36, 98, 36, 0)), (98, (.aload_n 0, 99, 0, 0)), (99, (.aload_n 1, 100, 1, 0)), (100, (.getfield 40, 103, 40, 0)), (103, (.putfield 40, 106, 40, 0)), (106, (.aload_n 0, 107, 0, 0)), (107, (.aload_n 1, 108, 1, 0)), (108, (.getfield 43, 111, 43, 0)), (111, (.putfield 43, 114, 43, 0)), (114, (.aload_n 0, 115, 0, 0)), (115, (.aload_n 1, 116, 1, 0)), (116, (.getfield 46, 119, 46, 0)), (119, (.putfield 46, 122, 46, 0)), (122, (.aload_n 0, 123, 0, 0)), (123, (.aload_n 1, 124, 1, 0)), (124, (.getfield 49, 127, 49, 0)), (127, (.putfield 49, 130, 49, 0)), (130, (.aload_n 0, 131, 0, 0)), (131, (.aload_n 1, 132, 1, 0)), (132, (.getfield 52, 135, 52, 0)), (135, (.putfield 52, 138, 52, 0)), (138, (.aload_n 0, 139, 0, 0)), (139, (.aload_n 1, 140, 1, 0)), (140, (.getfield 55, 143, 55, 0)), (143, (.putfield 55, 146, 55, 0)), (146, (.return_, 147, 0, 0))]
theorem pX0_become_ok : ∀ pc q, lkB pX0_become pc = some q → xdec cX0_become pc = some q := lkB_all (by decide +kernel)
def pX0_knows : List (Nat × (Instr × Nat × Nat × Int32)) := [(0, (.iload_n 1, 1, 1, 0)), (1, (.iconst 0, 2, 0, 0)), (2, (.aload_n 0, 3, 0, 0)), (3, (.getfield 36, 6, 36, 0)), (6, (.iconst 1, 7, 0, 1)), (7, (.isub, 8, 0, 0)), (8, (.invokestatic 58, 11, 0, 0)), (11, (.ireturn, 12, 0, 0))]
theorem pX0_knows_ok : ∀ pc q, lkB pX0_knows pc = some q → xdec cX0_knows pc = some q := lkB_all (by decide +kernel)
def pX0_isThere : List (Nat × (Instr × Nat × Nat × Int32)) := [(0, (.aload_n 0, 1, 0, 0)), (1, (.getfield 40, 4, 40, 0)), (4, (.iload_n 1, 5, 1, 0)), (5, (.ishr, 6, 0, 0)), (6, (.iconst 1, 7, 0, 1)), (7, (.iand, 8, 0, 0)), (8, (.ifCond .eq 7, 11, 15, 0)), (11, (.iconst 1, 12, 0, 1)), (12, (.goto 4, 15, 16, 0)), (15, (.iconst 0, 16, 0, 0)), (16, (.ireturn, 17, 0, 0))]
theorem pX0_isThere_ok : ∀ pc q, lkB pX0_isThere pc = some q → xdec cX0_isThere pc = some q := lkB_all (by decide +kernel)
def pX0_admit : List (Nat × (Instr × Nat × Nat × Int32)) := [(0, (.aload_n 0, 1, 0, 0)), (1, (.getfield 36, 4, 36, 0)), (4, (.bipush 7, 6, 0, 7)), (6, (.if_icmp .lt 6, 9, 12, 0)), (9, (.bipush (-2), 11, 0, (-2))), (11, (.ireturn, 12, 0, 0)), (12, (.aload_n 0, 13, 0, 0)), (13, (.getfield 36, 16, 36, 0)), (16, (.istore 4, 18, 4, 0)), (18, (.aload_n 0, 19, 0, 0)), (19, (.getfield 9, 22, 9, 0)), (22, (.iload 4, 24, 4, 0)), (24, (.iload_n 1, 25, 1, 0)), (25, (.iastore, 26, 0, 0)), (26, (.aload_n 0, 27, 0, 0)), (27, (.getfield 15, 30, 15, 0)), (30, (.iload 4, 32, 4, 0)), (32, (.iload_n 2, 33, 2, 0)), (33, (.iastore, 34, 0, 0)), (34, (.aload_n 0, 35, 0, 0)), (35, (.getfield 18, 38, 18, 0)), (38, (.iload 4, 40, 4, 0)), (40, (.iload_n 3, 41, 3, 0)), (41, (.iastore, 42, 0, 0)), (42, (.aload_n 0, 43, 0, 0)), (43, (.getfield 21, 46, 21, 0)), (46, (.iload 4, 48, 4, 0)), (48, (.iconst 0, 49, 0, 0)), (49, (.iastore, 50, 0, 0)), (50, (.aload_n 0, 51, 0, 0)), (51, (.getfield 24, 54, 24, 0)), (54, (.iload 4, 56, 4, 0)), (56, (.bipush 50, 58, 0, 50)), (58, (.iastore, 59, 0, 0)), (59, (.aload_n 0, 60, 0, 0)), (60, (.dup, 61, 0, 0)), (61, (.getfield 40, 64, 40, 0)), (64, (.iconst 1, 65, 0, 1)), (65, (.iload 4, 67, 4, 0)), (67, (.ishl, 68, 0, 0)), (68, (.ior, 69, 0, 0)), (69, (.putfield 40, 72, 40, 0)), (72, (.aload_n 0, 73, 0, 0)), (73, (.dup, 74, 0, 0)), (74, (.getfield 36, 77, 36, 0)), (77, (.iconst 1, 78, 0, 1)), (78, (.iadd, 79, 0, 0)), (79, (.putfield 36, 82, 36, 0)), (82, (.iload 4, 84, 4, 0)), (84, (.ireturn, 85, 0, 0))]
theorem pX0_admit_ok : ∀ pc q, lkB pX0_admit pc = some q → xdec cX0_admit pc = some q := lkB_all (by decide +kernel)
def pX0_stock : List (Nat × (Instr × Nat × Nat × Int32)) := [(0, (.aload_n 0, 1, 0, 0)), (1, (.getfield 27, 4, 27, 0)), (4, (.iload_n 1, 5, 1, 0)), (5, (.bipush 99, 7, 0, 99)), (7, (.aload_n 0, 8, 0, 0)), (8, (.getfield 27, 11, 27, 0)), (11, (.iload_n 1, 12, 1, 0)), (12, (.iaload, 13, 0, 0)), (13, (.iload_n 2, 14, 2, 0)), (14, (.iadd, 15, 0, 0)), (15, (.invokestatic 62, 18, 0, 0)), (18, (.iastore, 19, 0, 0)), (19, (.return_, 20, 0, 0))]
theorem pX0_stock_ok : ∀ pc q, lkB pX0_stock pc = some q → xdec cX0_stock pc = some q := lkB_all (by decide +kernel)
def pX0_pass : List (Nat × (Instr × Nat × Nat × Int32)) := [(0, (.iconst 0, 1, 0, 0)), (1, (.istore_n 2, 2, 2, 0)), (2, (.iload_n 2, 3, 2, 0)), (3, (.iload_n 1, 4, 1, 0)), (4, (.if_icmp .ge 15, 7, 19, 0)), (7, (.aload_n 0, 8, 0, 0)), (8, (.iconst 0, 9, 0, 0)), (9, (.iconst 0, 10, 0, 0)), (10, (.invokevirtual 68, 13, 0, 0)), (13, (.iinc 2 1, 16, 2, 1)), (16, (.goto (-14), 19, 2, 0)), (19, (.return_, 20, 0, 0))]
theorem pX0_pass_ok : ∀ pc q, lkB pX0_pass pc = some q → xdec cX0_pass pc = some q := lkB_all (by decide +kernel)
def pX0_passUnlacking : List (Nat × (Instr × Nat × Nat × Int32)) := [(0, (.iconst 0, 1, 0, 0)), (1, (.istore_n 2, 2, 2, 0)), (2, (.iload_n 2, 3, 2, 0)), (3, (.iload_n 1, 4, 1, 0)), (4, (.if_icmp .ge 24, 7, 28, 0)), (7, (.aload_n 0, 8, 0, 0)), (8, (.iconst 0, 9, 0, 0)), (9, (.iconst 0, 10, 0, 0)), (10, (.invokevirtual 68, 13, 0, 0)), (13, (.aload_n 0, 14, 0, 0)), (14, (.getfield 55, 17, 55, 0)), (17, (.ifCond .eq 5, 20, 22, 0)), (20, (.iconst 0, 21, 0, 0)), (21, (.ireturn, 22, 0, 0)), (22, (.iinc 2 1, 25, 2, 1)), (25, (.goto (-23), 28, 2, 0)), (28, (.iconst 1, 29, 0, 1)), (29, (.ireturn, 30, 0, 0))]
theorem pX0_passUnlacking_ok : ∀ pc q, lkB pX0_passUnlacking pc = some q → xdec cX0_passUnlacking pc = some q := lkB_all (by decide +kernel)
def pX0_passNight : List (Nat × (Instr × Nat × Nat × Int32)) := [(0, (.aload_n 0, 1, 0, 0)), (1, (.dup, 2, 0, 0)), (2, (.getfield 43, 5, 43, 0)), (5, (.iconst 1, 6, 0, 1)), (6, (.iadd, 7, 0, 0)), (7, (.putfield 43, 10, 43, 0)), (10, (.aload_n 0, 11, 0, 0)), (11, (.aload_n 0, 12, 0, 0)), (12, (.getfield 43, 15, 43, 0)), (15, (.bipush 10, 17, 0, 10)), (17, (.irem, 18, 0, 0)), (18, (.iconst 2, 19, 0, 2)), (19, (.invokevirtual 72, 22, 0, 0)), (22, (.aload_n 0, 23, 0, 0)), (23, (.iconst 0, 24, 0, 0)), (24, (.putfield 52, 27, 52, 0)), (27, (.aload_n 0, 28, 0, 0)), (28, (.iconst 0, 29, 0, 0)), (29, (.putfield 55, 32, 55, 0)), (32, (.iconst 0, 33, 0, 0)), (33, (.istore_n 3, 34, 3, 0)), (34, (.iload_n 3, 35, 3, 0)), (35, (.aload_n 0, 36, 0, 0)), (36, (.getfield 36, 39, 36, 0)), (39, (.if_icmp .ge 62, 42, 101, 0)), (42, (.aload_n 0, 43, 0, 0)), (43, (.iload_n 3, 44, 3, 0)), (44, (.invokevirtual 76, 47, 0, 0)), (47, (.ifCond .eq 48, 50, 95, 0)), (50, (.aload_n 0, 51, 0, 0)), (51, (.iload_n 3, 52, 3, 0)), (52, (.aload_n 0, 53, 0, 0)), (53, (.getfield 43, 56, 43, 0)), (56, (.invokevirtual 80, 59, 0, 0)), (59, (.istore 4, 61, 4, 0)), (61, (.iload_n 1, 62, 1, 0)), (62, (.ifCond .eq 14, 65, 76, 0)), (65, (.iload 4, 67, 4, 0)), (67, (.bipush (-4), 69, 0, (-4))), (69, (.if_icmp .eq 7, 72, 76, 0)), (72, (.bipush 7, 74, 0, 7)), (74, (.istore 4, 76, 4, 0)), (76, (.aload_n 0, 77, 0, 0)), (77, (.iload_n 3, 78, 3, 0)), (78, (.iload_n 2, 79, 2, 0)), (79, (.iload_n 3, 80, 3, 0)), (80, (.ishr, 81, 0, 0)), (81, (.iconst 1, 82, 0, 1)), (82, (.iand, 83, 0, 0)), (83, (.ifCond .eq 7, 86, 90, 0)), (86, (.iconst 1, 87, 0, 1)), (87, (.goto 5, 90, 92, 0)), (90, (.iload 4, 92, 4, 0)), (92, (.invokevirtual 83, 95, 0, 0)), (95, (.iinc 3 1, 98, 3, 1)), (98, (.goto (-64), 101, 34, 0)), (101, (.return_, 102, 0, 0))]
theorem pX0_passNight_ok : ∀ pc q, lkB pX0_passNight pc = some q → xdec cX0_passNight pc = some q := lkB_all (by decide +kernel)
def pX0_dream : List (Nat × (Instr × Nat × Nat × Int32)) := [(0, (.aload_n 0, 1, 0, 0)), (1, (.getfield 9, 4, 9, 0)), (4, (.iload_n 1, 5, 1, 0)), (5, (.iaload, 6, 0, 0)), (6, (.aload_n 0, 7, 0, 0)), (7, (.getfield 15, 10, 15, 0)), (10, (.iload_n 1, 11, 1, 0)), (11, (.iaload, 12, 0, 0)), (12, (.aload_n 0, 13, 0, 0)), (13, (.getfield 18, 16, 18, 0)), (16, (.iload_n 1, 17, 1, 0)), (17, (.iaload, 18, 0, 0)), (18, (.aload_n 0, 19, 0, 0)), (19, (.getfield 21, 22, 21, 0)), (22, (.iload_n 1, 23, 1, 0)), (23, (.iaload, 24, 0, 0)), (24, (.iload_n 2, 25, 2, 0)), (25, (.invokestatic 86, 28, 0, 0)), (28, (.ireturn, 29, 0, 0))]
theorem pX0_dream_ok : ∀ pc q, lkB pX0_dream pc = some q → xdec cX0_dream pc = some q := lkB_all (by decide +kernel)
def pX0_nextDream : List (Nat × (Instr × Nat × Nat × Int32)) := [(0, (.aload_n 0, 1, 0, 0)), (1, (.iload_n 1, 2, 1, 0)), (2, (.invokevirtual 76, 5, 0, 0)), (5, (.ifCond .eq 17, 8, 22, 0)), (8, (.aload_n 0, 9, 0, 0)), (9, (.iload_n 1, 10, 1, 0)), (10, (.aload_n 0, 11, 0, 0)), (11, (.getfield 43, 14, 43, 0)), (14, (.iconst 1, 15, 0, 1)), (15, (.iadd, 16, 0, 0)), (16, (.invokevirtual 80, 19, 0, 0)), (19, (.goto 5, 22, 24, 0)), (22, (.bipush (-4), 24, 0, (-4))), (24, (.ireturn, 25, 0, 0))]
theorem pX0_nextDream_ok : ∀ pc q, lkB pX0_nextDream pc = some q → xdec cX0_nextDream pc = some q := lkB_all (by decide +kernel)
def pX0_breakfast : List (Nat × (Instr × Nat × Nat × Int32)) := [(0, (.aload_n 0, 1, 0, 0)), (1, (.getfield 9, 4, 9, 0)), (4, (.iload_n 1, 5, 1, 0)), (5, (.iaload, 6, 0, 0)), (6, (.invokestatic 91, 9, 0, 0)), (9, (.istore_n 3, 10, 3, 0)), (10, (.iload_n 2, 11, 2, 0)), (11, (.bipush (-4), 13, 0, (-4))), (13, (.if_icmp .ne 13, 16, 26, 0)), (16, (.aload_n 0, 17, 0, 0)), (17, (.iload_n 1, 18, 1, 0)), (18, (.bipush (-5), 20, 0, (-5))), (20, (.invokevirtual 95, 23, 0, 0)), (23, (.goto 123, 26, 146, 0)), (26, (.aload_n 0, 27, 0, 0)), (27, (.getfield 27, 30, 27, 0)), (30, (.iload_n 2, 31, 2, 0)), (31, (.iaload, 32, 0, 0)), (32, (.iload_n 3, 33, 3, 0)), (33, (.if_icmp .lt 78, 36, 111, 0)), (36, (.aload_n 0, 37, 0, 0)), (37, (.getfield 27, 40, 27, 0)), (40, (.iload_n 2, 41, 2, 0)), (41, (.dup2, 42, 0, 0)), (42, (.iaload, 43, 0, 0)), (43, (.iload_n 3, 44, 3, 0)), (44, (.isub, 45, 0, 0)), (45, (.iastore, 46, 0, 0)), (46, (.aload_n 0, 47, 0, 0)), (47, (.iload_n 1, 48, 1, 0)), (48, (.aload_n 0, 49, 0, 0)), (49, (.getfield 9, 52, 9, 0)), (52, (.iload_n 1, 53, 1, 0)), (53, (.iaload, 54, 0, 0)), (54, (.aload_n 0, 55, 0, 0)), (55, (.getfield 15, 58, 15, 0)), (58, (.iload_n 1, 59, 1, 0)), (59, (.iaload, 60, 0, 0)), (60, (.iload_n 2, 61, 2, 0)), (61, (.aload_n 0, 62, 0, 0)), (62, (.getfield 21, 65, 21, 0)), (65, (.iload_n 1, 66, 1, 0)), (66, (.iaload, 67, 0, 0)), (67, (.invokestatic 98, 70, 0, 0)), (70, (.invokevirtual 95, 73, 0, 0)), (73, (.aload_n 0, 74, 0, 0)), (74, (.getfield 21, 77, 21, 0)), (77, (.iload_n 1, 78, 1, 0)), (78, (.iload_n 2, 79, 2, 0)), (79, (.iastore, 80, 0, 0)), (80, (.aload_n 0, 81, 0, 0)), (81, (.sipush 9999, 84, 0, 9999)), (84, (.aload_n 0, 85, 0, 0)), (85, (.getfield 46, 88, 46, 0)), (88, (.iconst 1, 89, 0, 1)), (89, (.iadd, 90, 0, 0)), (90, (.invokestatic 62, 93, 0, 0)), (93, (.putfield 46, 96, 46, 0)), (96, (.aload_n 0, 97, 0, 0)), (97, (.dup, 98, 0, 0)), (98, (.getfield 52, 101, 52, 0)), (101, (.iconst 1, 102, 0, 1)), (102, (.iload_n 1, 103, 1, 0)), (103, (.ishl, 104, 0, 0)), (104, (.ior, 105, 0, 0)), (105, (.putfield 52, 108, 52, 0)), (108, (.goto 38, 111, 146, 0)), (111, (.aload_n 0, 112, 0, 0)), (112, (.iload_n 1, 113, 1, 0)), (113, (.bipush (-3), 115, 0, (-3))), (115, (.invokevirtual 95, 118, 0, 0)), (118, (.aload_n 0, 119, 0, 0)), (119, (.sipush 9999, 122, 0, 9999)), (122, (.aload_n 0, 123, 0, 0)), (123, (.getfield 49, 126, 49, 0)), (126, (.iconst 1, 127, 0, 1)), (127, (.iadd, 128, 0, 0)), (128, (.invokestatic 62, 131, 0, 0)), (131, (.putfield 49, 134, 49, 0)), (134, (.aload_n 0, 135, 0, 0)), (135, (.dup, 136, 0, 0)), (136, (.getfield 55, 139, 55, 0)), (139, (.iconst 1, 140, 0, 1)), (140, (.iload_n 1, 141, 1, 0)), (141, (.ishl, 142, 0, 0)), (142, (.ior, 143, 0, 0)), (143, (.putfield 55, 146, 55, 0)), (146, (.return_, 147, 0, 0))]
theorem pX0_breakfast_ok : ∀ pc q, lkB pX0_breakfast pc = some q → xdec cX0_breakfast pc = some q := lkB_all (by decide +kernel)
def pX0_changeHealth : List (Nat × (Instr × Nat × Nat × Int32)) := [(0, (.aload_n 0, 1, 0, 0)), (1, (.getfield 24, 4, 24, 0)), (4, (.iload_n 1, 5, 1, 0)), (5, (.iconst 0, 6, 0, 0)), (6, (.bipush 99, 8, 0, 99)), (8, (.aload_n 0, 9, 0, 0)), (9, (.getfield 24, 12, 24, 0)), (12, (.iload_n 1, 13, 1, 0)), (13, (.iaload, 14, 0, 0)), (14, (.iload_n 2, 15, 2, 0)), (15, (.iadd, 16, 0, 0)), (16, (.invokestatic 62, 19, 0, 0)), (19, (.invokestatic 102, 22, 0, 0)), (22, (.iastore, 23, 0, 0)), (23, (.aload_n 0, 24, 0, 0)), (24, (.getfield 24, 27, 24, 0)), (27, (.iload_n 1, 28, 1, 0)), (28, (.iaload, 29, 0, 0)), (29, (.ifCond .ne 17, 32, 46, 0)), (32, (.aload_n 0, 33, 0, 0)), (33, (.dup, 34, 0, 0)), (34, (.getfield 40, 37, 40, 0)), (37, (.iconst 1, 38, 0, 1)), (38, (.iload_n 1, 39, 1, 0)), (39, (.ishl, 40, 0, 0)), (40, (.iconst (-1), 41, 0, (-1))), (41, (.ixor, 42, 0, 0)), (42, (.iand, 43, 0, 0)), (43, (.putfield 40, 46, 40, 0)), (46, (.return_, 47, 0, 0))]
theorem pX0_changeHealth_ok : ∀ pc q, lkB pX0_changeHealth pc = some q → xdec cX0_changeHealth pc = some q := lkB_all (by decide +kernel)
def pX0_healthOf : List (Nat × (Instr × Nat × Nat × Int32)) := [(0, (.iconst 0, 1, 0, 0)), (1, (.istore_n 2, 2, 2, 0)), (2, (.iconst 0, 3, 0, 0)), (3, (.istore_n 3, 4, 3, 0)), (4, (.iload_n 3, 5, 3, 0)), (5, (.aload_n 0, 6, 0, 0)), (6, (.getfield 36, 9, 36, 0)), (9, (.if_icmp .ge 30, 12, 39, 0)), (12, (.iload_n 2, 13, 2, 0)), (13, (.iload_n 1, 14, 1, 0)), (14, (.iload_n 3, 15, 3, 0)), (15, (.ishr, 16, 0, 0)), (16, (.iconst 1, 17, 0, 1)), (17, (.iand, 18, 0, 0)), (18, (.ifCond .eq 12, 21, 30, 0)), (21, (.aload_n 0, 22, 0, 0)), (22, (.getfield 24, 25, 24, 0)), (25, (.iload_n 3, 26, 3, 0)), (26, (.iaload, 27, 0, 0)), (27, (.goto 4, 30, 31, 0)), (30, (.iconst 0, 31, 0, 0)), (31, (.iadd, 32, 0, 0)), (32, (.istore_n 2, 33, 2, 0)), (33, (.iinc 3 1, 36, 3, 1)), (36, (.goto (-32), 39, 4, 0)), (39, (.iload_n 2, 40, 2, 0)), (40, (.ireturn, 41, 0, 0))]
theorem pX0_healthOf_ok : ∀ pc q, lkB pX0_healthOf pc = some q → xdec cX0_healthOf pc = some q := lkB_all (by decide +kernel)
def pX0_twosOfOneDream : List (Nat × (Instr × Nat × Nat × Int32)) := [(0, (.iconst 0, 1, 0, 0)), (1, (.istore_n 1, 2, 1, 0)), (2, (.iconst 0, 3, 0, 0)), (3, (.istore_n 2, 4, 2, 0)), (4, (.iload_n 2, 5, 2, 0)), (5, (.aload_n 0, 6, 0, 0)), (6, (.getfield 36, 9, 36, 0)), (9, (.if_icmp .ge 54, 12, 63, 0)), (12, (.iconst 0, 13, 0, 0)), (13, (.istore_n 3, 14, 3, 0)), (14, (.iload_n 3, 15, 3, 0)), (15, (.iload_n 2, 16, 2, 0)), (16, (.if_icmp .ge 41, 19, 57, 0)), (19, (.aload_n 0, 20, 0, 0)), (20, (.iload_n 2, 21, 2, 0)), (21, (.invokevirtual 105, 24, 0, 0)), (24, (.istore 4, 26, 4, 0)), (26, (.iload_n 1, 27, 1, 0)), (27, (.iload 4, 29, 4, 0)), (29, (.bipush (-4), 31, 0, (-4))), (31, (.if_icmp .eq 17, 34, 48, 0)), (34, (.iload 4, 36, 4, 0)), (36, (.aload_n 0, 37, 0, 0)), (37, (.iload_n 3, 38, 3, 0)), (38, (.invokevirtual 105, 41, 0, 0)), (41, (.if_icmp .ne 7, 44, 48, 0)), (44, (.iconst 1, 45, 0, 1)), (45, (.goto 4, 48, 49, 0)), (48, (.iconst 0, 49, 0, 0)), (49, (.iadd, 50, 0, 0)), (50, (.istore_n 1, 51, 1, 0)), (51, (.iinc 3 1, 54, 3, 1)), (54, (.goto (-40), 57, 14, 0)), (57, (.iinc 2 1, 60, 2, 1)), (60, (.goto (-56), 63, 4, 0)), (63, (.iload_n 1, 64, 1, 0)), (64, (.ireturn, 65, 0, 0))]
theorem pX0_twosOfOneDream_ok : ∀ pc q, lkB pX0_twosOfOneDream pc = some q → xdec cX0_twosOfOneDream pc = some q := lkB_all (by decide +kernel)
def pX0_wellest : List (Nat × (Instr × Nat × Nat × Int32)) := [(0, (.bipush (-4), 2, 0, (-4))), (2, (.istore_n 1, 3, 1, 0)), (3, (.iconst (-1), 4, 0, (-1))), (4, (.istore_n 2, 5, 2, 0)), (5, (.iconst 0, 6, 0, 0)), (6, (.istore_n 3, 7, 3, 0)), (7, (.iload_n 3, 8, 3, 0)), (8, (.aload_n 0, 9, 0, 0)), (9, (.getfield 36, 12, 36, 0)), (12, (.if_icmp .ge 36, 15, 48, 0)), (15, (.aload_n 0, 16, 0, 0)), (16, (.iload_n 3, 17, 3, 0)), (17, (.invokevirtual 76, 20, 0, 0)), (20, (.ifCond .eq 22, 23, 42, 0)), (23, (.aload_n 0, 24, 0, 0)), (24, (.getfield 24, 27, 24, 0)), (27, (.iload_n 3, 28, 3, 0)), (28, (.iaload, 29, 0, 0)), (29, (.iload_n 2, 30, 2, 0)), (30, (.if_icmp .le 12, 33, 42, 0)), (33, (.aload_n 0, 34, 0, 0)), (34, (.getfield 24, 37, 24, 0)), (37, (.iload_n 3, 38, 3, 0)), (38, (.iaload, 39, 0, 0)), (39, (.istore_n 2, 40, 2, 0)), (40, (.iload_n 3, 41, 3, 0)), (41, (.istore_n 1, 42, 1, 0)), (42, (.iinc 3 1, 45, 3, 1)), (45, (.goto (-38), 48, 7, 0)), (48, (.iload_n 1, 49, 1, 0)), (49, (.ireturn, 50, 0, 0))]
theorem pX0_wellest_ok : ∀ pc q, lkB pX0_wellest pc = some q → xdec cX0_wellest pc = some q := lkB_all (by decide +kernel)
def pX0_fullest : List (Nat × (Instr × Nat × Nat × Int32)) := [(0, (.iconst 0, 1, 0, 0)), (1, (.istore_n 1, 2, 1, 0)), (2, (.iconst 1, 3, 0, 1)), (3, (.istore_n 2, 4, 2, 0)), (4, (.iload_n 2, 5, 2, 0)), (5, (.bipush 10, 7, 0, 10)), (7, (.if_icmp .ge 26, 10, 33, 0)), (10, (.aload_n 0, 11, 0, 0)), (11, (.getfield 27, 14, 27, 0)), (14, (.iload_n 2, 15, 2, 0)), (15, (.iaload, 16, 0, 0)), (16, (.aload_n 0, 17, 0, 0)), (17, (.getfield 27, 20, 27, 0)), (20, (.iload_n 1, 21, 1, 0)), (21, (.iaload, 22, 0, 0)), (22, (.if_icmp .le 5, 25, 27, 0)), (25, (.iload_n 2, 26, 2, 0)), (26, (.istore_n 1, 27, 1, 0)), (27, (.iinc 2 1, 30, 2, 1)), (30, (.goto (-26), 33, 4, 0)), (33, (.iload_n 1, 34, 1, 0)), (34, (.ireturn, 35, 0, 0))]
theorem pX0_fullest_ok : ∀ pc q, lkB pX0_fullest pc = some q → xdec cX0_fullest pc = some q := lkB_all (by decide +kernel)
def pX0_platesInAll : List (Nat × (Instr × Nat × Nat × Int32)) := [(0, (.iconst 0, 1, 0, 0)), (1, (.istore_n 1, 2, 1, 0)), (2, (.iconst 0, 3, 0, 0)), (3, (.istore_n 2, 4, 2, 0)), (4, (.iload_n 2, 5, 2, 0)), (5, (.bipush 10, 7, 0, 10)), (7, (.if_icmp .ge 18, 10, 25, 0)), (10, (.iload_n 1, 11, 1, 0)), (11, (.aload_n 0, 12, 0, 0)), (12, (.getfield 27, 15, 27, 0)), (15, (.iload_n 2, 16, 2, 0)), (16, (.iaload, 17, 0, 0)), (17, (.iadd, 18, 0, 0)), (18, (.istore_n 1, 19, 1, 0)), (19, (.iinc 2 1, 22, 2, 1)), (22, (.goto (-18), 25, 4, 0)), (25, (.iload_n 1, 26, 1, 0)), (26, (.ireturn, 27, 0, 0))]
theorem pX0_platesInAll_ok : ∀ pc q, lkB pX0_platesInAll pc = some q → xdec cX0_platesInAll pc = some q := lkB_all (by decide +kernel)
def pX0_emptyPlates : List (Nat × (Instr × Nat × Nat × Int32)) := [(0, (.iconst 0, 1, 0, 0)), (1, (.istore_n 1, 2, 1, 0)), (2, (.iconst 0, 3, 0, 0)), (3, (.istore_n 2, 4, 2, 0)), (4, (.iload_n 2, 5, 2, 0)), (5, (.bipush 10, 7, 0, 10)), (7, (.if_icmp .ge 28, 10, 35, 0)), (10, (.iload_n 1, 11, 1, 0)), (11, (.aload_n 0, 12, 0, 0)), (12, (.getfield 27, 15, 27, 0)), (15, (.iload_n 2, 16, 2, 0)), (16, (.iaload, 17, 0, 0)), (17, (.ifCond .ne 9, 20, 26, 0)), (20, (.iconst 1, 21, 0, 1)), (21, (.iload_n 2, 22, 2, 0)), (22, (.ishl, 23, 0, 0)), (23, (.goto 4, 26, 27, 0)), (26, (.iconst 0, 27, 0, 0)), (27, (.ior, 28, 0, 0)), (28, (.istore_n 1, 29, 1, 0)), (29, (.iinc 2 1, 32, 2, 1)), (32, (.goto (-28), 35, 4, 0)), (35, (.iload_n 1, 36, 1, 0)), (36, (.ireturn, 37, 0, 0))]
theorem pX0_emptyPlates_ok : ∀ pc q, lkB pX0_emptyPlates pc = some q → xdec cX0_emptyPlates pc = some q := lkB_all (by decide +kernel)
def pX0_platesOf : List (Nat × (Instr × Nat × Nat × Int32)) := [(0, (.iconst 0, 1, 0, 0)), (1, (.istore_n 2, 2, 2, 0)), (2, (.iconst 0, 3, 0, 0)), (3, (.istore_n 3, 4, 3, 0)), (4, (.iload_n 3, 5, 3, 0)), (5, (.aload_n 0, 6, 0, 0)), (6, (.getfield 36, 9, 36, 0)), (9, (.if_icmp .ge 35, 12, 44, 0)), (12, (.iload_n 3, 13, 3, 0)), (13, (.aload_n 1, 14, 1, 0)), (14, (.arraylength, 15, 0, 0)), (15, (.if_icmp .ge 29, 18, 44, 0)), (18, (.iload_n 2, 19, 2, 0)), (19, (.aload_n 0, 20, 0, 0)), (20, (.iload_n 3, 21, 3, 0)), (21, (.invokevirtual 76, 24, 0, 0)), (24, (.ifCond .eq 11, 27, 35, 0)), (27, (.iconst 1, 28, 0, 1)), (28, (.aload_n 1, 29, 1, 0)), (29, (.iload_n 3, 30, 3, 0)), (30, (.iaload, 31, 0, 0)), (31, (.ishl, 32, 0, 0)), (32, (.goto 4, 35, 36, 0)), (35, (.iconst 0, 36, 0, 0)), (36, (.ior, 37, 0, 0)), (37, (.istore_n 2, 38, 2, 0)), (38, (.iinc 3 1, 41, 3, 1)), (41, (.goto (-37), 44, 4, 0)), (44, (.iload_n 2, 45, 2, 0)), (45, (.ireturn, 46, 0, 0))]
theorem pX0_platesOf_ok : ∀ pc q, lkB pX0_platesOf pc = some q → xdec cX0_platesOf pc = some q := lkB_all (by decide +kernel)
end
section
def pX1_isKind : List (Nat × (Instr × Nat × Nat × Int32)) := [(0, (.iload_n 0, 1, 0, 0)), (1, (.iconst 0, 2, 0, 0)), (2, (.bipush 7, 4, 0, 7)), (4, (.invokestatic 11, 7, 0, 0)), (7, (.ireturn, 8, 0, 0))]
theorem pX1_isKind_ok : ∀ pc q, lkB pX1_isKind pc = some q → xdec cX1_isKind pc = some q := lkB_all (by decide +kernel)
def pX1_dream : List (Nat × (Instr × Nat × Nat × Int32)) := [(0, (.iload_n 0, 1, 0, 0)), (1, (.tableswitch 94 1 7 #[43, 45, 53, 61, 63, 72, 75], 44, 0, 0)), (44, (.iconst 1, 45, 0, 1)), (45, (.ireturn, 46, 0, 0)), (46, (.iload_n 2, 47, 2, 0)), (47, (.iload 4, 49, 4, 0)), (49, (.iadd, 50, 0, 0)), (50, (.bipush 10, 52, 0, 10)), (52, (.irem, 53, 0, 0)), (53, (.ireturn, 54, 0, 0)), (54, (.iload_n 1, 55, 1, 0)), (55, (.iload_n 2, 56, 2, 0)), (56, (.iload 4, 58, 4, 0)), (58, (.invokestatic 15, 61, 0, 0)), (61, (.ireturn, 62, 0, 0)), (62, (.iconst 0, 63, 0, 0)), (63, (.ireturn, 64, 0, 0)), (64, (.iload_n 3, 65, 3, 0)), (65, (.iconst 1, 66, 0, 1)), (66, (.iadd, 67, 0, 0)), (67, (.iload_n 1, 68, 1, 0)), (68, (.iadd, 69, 0, 0)), (69, (.bipush 10, 71, 0, 10)), (71, (.irem, 72, 0, 0)), (72, (.ireturn, 73, 0, 0)), (73, (.bipush 9, 75, 0, 9)), (75, (.ireturn, 76, 0, 0)), (76, (.iload 4, 78, 4, 0)), (78, (.iconst 2, 79, 0, 2)), (79, (.irem, 80, 0, 0)), (80, (.ifCond .ne 7, 83, 87, 0)), (83, (.iload_n 3, 84, 3, 0)), (84, (.goto 10, 87, 94, 0)), (87, (.iload_n 1, 88, 1, 0)), (88, (.iload_n 2, 89, 2, 0)), (89, (.iload 4, 91, 4, 0)), (91, (.invokestatic 15, 94, 0, 0)), (94, (.ireturn, 95, 0, 0)), (95, (.iload_n 2, 96, 2, 0)), (96, (.ireturn, 97, 0, 0))]
theorem pX1_dream_ok : ∀ pc q, lkB pX1_dream pc = some q → xdec cX1_dream pc = some q := lkB_all (by decide +kernel)
def pX1_cooksDream : List (Nat × (Instr × Nat × Nat × Int32)) := [(0, (.iload_n 0, 1, 0, 0)), (1, (.iconst 2, 2, 0, 2)), (2, (.iadd, 3, 0, 0)), (3, (.istore_n 3, 4, 3, 0)), (4, (.iload_n 3, 5, 3, 0)), (5, (.ifCond .le 13, 8, 18, 0)), (8, (.iload_n 2, 9, 2, 0)), (9, (.iload_n 3, 10, 3, 0)), (10, (.irem, 11, 0, 0)), (11, (.ifCond .ne 7, 14, 18, 0)), (14, (.iload_n 1, 15, 1, 0)), (15, (.goto 5, 18, 20, 0)), (18, (.bipush (-4), 20, 0, (-4))), (20, (.ireturn, 21, 0, 0))]
theorem pX1_cooksDream_ok : ∀ pc q, lkB pX1_cooksDream pc = some q → xdec cX1_cooksDream pc = some q := lkB_all (by decide +kernel)
def pX1_eats : List (Nat × (Instr × Nat × Nat × Int32)) := [(0, (.iload_n 0, 1, 0, 0)), (1, (.iconst 2, 2, 0, 2)), (2, (.if_icmp .eq 9, 5, 11, 0)), (5, (.iload_n 0, 6, 0, 0)), (6, (.bipush 7, 8, 0, 7)), (8, (.if_icmp .ne 7, 11, 15, 0)), (11, (.iconst 2, 12, 0, 2)), (12, (.goto 4, 15, 16, 0)), (15, (.iconst 1, 16, 0, 1)), (16, (.ireturn, 17, 0, 0))]
theorem pX1_eats_ok : ∀ pc q, lkB pX1_eats pc = some q → xdec cX1_eats pc = some q := lkB_all (by decide +kernel)
def pX1_gain : List (Nat × (Instr × Nat × Nat × Int32)) := [(0, (.iload_n 0, 1, 0, 0)), (1, (.tableswitch 71 1 7 #[43, 45, 49, 43, 54, 60, 62], 44, 0, 0)), (44, (.iconst 1, 45, 0, 1)), (45, (.ireturn, 46, 0, 0)), (46, (.iload_n 2, 47, 2, 0)), (47, (.iconst 2, 48, 0, 2)), (48, (.idiv, 49, 0, 0)), (49, (.ireturn, 50, 0, 0)), (50, (.bipush 9, 52, 0, 9)), (52, (.iload_n 2, 53, 2, 0)), (53, (.isub, 54, 0, 0)), (54, (.ireturn, 55, 0, 0)), (55, (.iload_n 2, 56, 2, 0)), (56, (.iconst 2, 57, 0, 2)), (57, (.idiv, 58, 0, 0)), (58, (.iconst 3, 59, 0, 3)), (59, (.isub, 60, 0, 0)), (60, (.ireturn, 61, 0, 0)), (61, (.iload_n 1, 62, 1, 0)), (62, (.ireturn, 63, 0, 0)), (63, (.iconst 0, 64, 0, 0)), (64, (.bipush 8, 66, 0, 8)), (66, (.iload_n 2, 67, 2, 0)), (67, (.isub, 68, 0, 0)), (68, (.invokestatic 19, 71, 0, 0)), (71, (.ireturn, 72, 0, 0)), (72, (.iload_n 2, 73, 2, 0)), (73, (.iload_n 3, 74, 3, 0)), (74, (.if_icmp .ne 7, 77, 81, 0)), (77, (.iconst 0, 78, 0, 0)), (78, (.goto 4, 81, 82, 0)), (81, (.iconst 2, 82, 0, 2)), (82, (.ireturn, 83, 0, 0))]
theorem pX1_gain_ok : ∀ pc q, lkB pX1_gain pc = some q → xdec cX1_gain pc = some q := lkB_all (by decide +kernel)
def pX1_price : List (Nat × (Instr × Nat × Nat × Int32)) := [(0, (.iload_n 0, 1, 0, 0)), (1, (.tableswitch 69 1 7 #[43, 45, 49, 52, 54, 52, 60], 44, 0, 0)), (44, (.iconst 1, 45, 0, 1)), (45, (.ireturn, 46, 0, 0)), (46, (.iconst 3, 47, 0, 3)), (47, (.iload_n 1, 48, 1, 0)), (48, (.iadd, 49, 0, 0)), (49, (.ireturn, 50, 0, 0)), (50, (.bipush 6, 52, 0, 6)), (52, (.ireturn, 53, 0, 0)), (53, (.iconst 0, 54, 0, 0)), (54, (.ireturn, 55, 0, 0)), (55, (.iconst 3, 56, 0, 3)), (56, (.iload_n 1, 57, 1, 0)), (57, (.iadd, 58, 0, 0)), (58, (.iconst 2, 59, 0, 2)), (59, (.idiv, 60, 0, 0)), (60, (.ireturn, 61, 0, 0)), (61, (.iconst 0, 62, 0, 0)), (62, (.bipush 6, 64, 0, 6)), (64, (.iload_n 1, 65, 1, 0)), (65, (.isub, 66, 0, 0)), (66, (.invokestatic 19, 69, 0, 0)), (69, (.ireturn, 70, 0, 0)), (70, (.iconst 3, 71, 0, 3)), (71, (.ireturn, 72, 0, 0))]
theorem pX1_price_ok : ∀ pc q, lkB pX1_price pc = some q → xdec cX1_price pc = some q := lkB_all (by decide +kernel)
def pX1_fail : List (Nat × (Instr × Nat × Nat × Int32)) := [(0, (.iload_n 1, 1, 1, 0)), (1, (.ifCond .eq 19, 4, 20, 0)), (4, (.iload_n 0, 5, 0, 0)), (5, (.iconst 1, 6, 0, 1)), (6, (.if_icmp .eq 14, 9, 20, 0)), (9, (.iload_n 0, 10, 0, 0)), (10, (.iconst 4, 11, 0, 4)), (11, (.if_icmp .eq 9, 14, 20, 0)), (14, (.iload_n 0, 15, 0, 0)), (15, (.bipush 6, 17, 0, 6)), (17, (.if_icmp .ne 4, 20, 21, 0)), (20, (.return_, 21, 0, 0)), (21, (.iload_n 0, 22, 0, 0)), (22, (.iconst 2, 23, 0, 2)), (23, (.if_icmp .eq 8, 26, 31, 0)), (26, (.iload_n 0, 27, 0, 0)), (27, (.iconst 5, 28, 0, 5)), (28, (.if_icmp .ne 13, 31, 41, 0)), (31, (.new 25, 34, 0, 0)), (34, (.dup, 35, 0, 0)), (35, (.ldc 27, 37, 27, 0)), (37, (.invokespecial 29, 40, 0, 0)), (40, (.athrow, 41, 0, 0)), (41, (.iload_n 0, 42, 0, 0)), (42, (.bipush 7, 44, 0, 7)), (44, (.if_icmp .ne 13, 47, 57, 0)), (47, (.new 32, 50, 0, 0)), (50, (.dup, 51, 0, 0)), (51, (.ldc 34, 53, 34, 0)), (53, (.invokespecial 36, 56, 0, 0)), (56, (.athrow, 57, 0, 0)), (57, (.new 37, 60, 0, 0)), (60, (.dup, 61, 0, 0)), (61, (.ldc 39, 63, 39, 0)), (63, (.invokespecial 41, 66, 0, 0)), (66, (.athrow, 67, 0, 0))]
theorem pX1_fail_ok : ∀ pc q, lkB pX1_fail pc = some q → xdec cX1_fail pc = some q := lkB_all (by decide +kernel)
end
section
def pX2_init : List (Nat × (Instr × Nat × Nat × Int32)) := [(0, (.aload_n 0, 1, 0, 0)), (1, (.invokespecial 3, 4, 0, 0)), (4, (.aload_n 0, 5, 0, 0)), (5, (.bipush 7, 7, 0, 7)), (7, (.newarray .int, 9, 0, 0)), (9, (.putfield 9, 12, 9, 0)), (12, (.aload_n 0, 13, 0, 0)), (13, (.bipush 7, 15, 0, 7)), (15, (.newarray .int, 17, 0, 0)), (17, (.putfield 15, 20, 15, 0)), (20, (.return_, 21, 0, 0))]
theorem pX2_init_ok : ∀ pc q, lkB pX2_init pc = some q → xdec cX2_init pc = some q := lkB_all (by decide +kernel)
def pX2_seat : List (Nat × (Instr × Nat × Nat × Int32)) := [(0, (.iload_n 2, 1, 2, 0)), (1, (.aload_n 1, 2, 1, 0)), (2, (.getfield 18, 5, 18, 0)), (5, (.invokestatic 24, 8, 0, 0)), (8, (.if_icmp .lt 6, 11, 14, 0)), (11, (.bipush (-4), 13, 0, (-4))), (13, (.ireturn, 14, 0, 0)), (14, (.iconst 0, 15, 0, 0)), (15, (.istore_n 3, 16, 3, 0)), (16, (.iload_n 3, 17, 3, 0)), (17, (.aload_n 1, 18, 1, 0)), (18, (.getfield 30, 21, 30, 0)), (21, (.if_icmp .ge 20, 24, 41, 0)), (24, (.aload_n 0, 25, 0, 0)), (25, (.getfield 9, 28, 9, 0)), (28, (.iload_n 3, 29, 3, 0)), (29, (.aload_n 1, 30, 1, 0)), (30, (.iload_n 3, 31, 3, 0)), (31, (.invokevirtual 33, 34, 0, 0)), (34, (.iastore, 35, 0, 0)), (35, (.iinc 3 1, 38, 3, 1)), (38, (.goto (-22), 41, 16, 0)), (41, (.aload_n 0, 42, 0, 0)), (42, (.iconst 0, 43, 0, 0)), (43, (.aload_n 1, 44, 1, 0)), (44, (.getfield 18, 47, 18, 0)), (47, (.invokevirtual 36, 50, 0, 0)), (50, (.ifCond .eq 12, 53, 62, 0)), (53, (.aload_n 0, 54, 0, 0)), (54, (.getfield 15, 57, 15, 0)), (57, (.iload_n 2, 58, 2, 0)), (58, (.iaload, 59, 0, 0)), (59, (.goto 5, 62, 64, 0)), (62, (.bipush (-4), 64, 0, (-4))), (64, (.ireturn, 65, 0, 0))]
theorem pX2_seat_ok : ∀ pc q, lkB pX2_seat pc = some q → xdec cX2_seat pc = some q := lkB_all (by decide +kernel)
def pX2_seatRest : List (Nat × (Instr × Nat × Nat × Int32)) := [(0, (.iload_n 2, 1, 2, 0)), (1, (.ifCond .eq 9, 4, 10, 0)), (4, (.iload_n 1, 5, 1, 0)), (5, (.bipush 7, 7, 0, 7)), (7, (.if_icmp .lt 13, 10, 20, 0)), (10, (.iload_n 2, 11, 2, 0)), (11, (.ifCond .ne 7, 14, 18, 0)), (14, (.iconst 1, 15, 0, 1)), (15, (.goto 4, 18, 19, 0)), (18, (.iconst 0, 19, 0, 0)), (19, (.ireturn, 20, 0, 0)), (20, (.iconst 0, 21, 0, 0)), (21, (.istore_n 3, 22, 3, 0)), (22, (.iload_n 3, 23, 3, 0)), (23, (.bipush 7, 25, 0, 7)), (25, (.if_icmp .ge 52, 28, 77, 0)), (28, (.iload_n 2, 29, 2, 0)), (29, (.iload_n 3, 30, 3, 0)), (30, (.ishr, 31, 0, 0)), (31, (.iconst 1, 32, 0, 1)), (32, (.iand, 33, 0, 0)), (33, (.ifCond .eq 38, 36, 71, 0)), (36, (.aload_n 0, 37, 0, 0)), (37, (.iload_n 1, 38, 1, 0)), (38, (.iload_n 3, 39, 3, 0)), (39, (.invokevirtual 40, 42, 0, 0)), (42, (.ifCond .eq 29, 45, 71, 0)), (45, (.aload_n 0, 46, 0, 0)), (46, (.getfield 15, 49, 15, 0)), (49, (.iload_n 1, 50, 1, 0)), (50, (.iload_n 3, 51, 3, 0)), (51, (.iastore, 52, 0, 0)), (52, (.aload_n 0, 53, 0, 0)), (53, (.iload_n 1, 54, 1, 0)), (54, (.iconst 1, 55, 0, 1)), (55, (.iadd, 56, 0, 0)), (56, (.iload_n 2, 57, 2, 0)), (57, (.iconst 1, 58, 0, 1)), (58, (.iload_n 3, 59, 3, 0)), (59, (.ishl, 60, 0, 0)), (60, (.iconst (-1), 61, 0, (-1))), (61, (.ixor, 62, 0, 0)), (62, (.iand, 63, 0, 0)), (63, (.invokevirtual 36, 66, 0, 0)), (66, (.ifCond .eq 5, 69, 71, 0)), (69, (.iconst 1, 70, 0, 1)), (70, (.ireturn, 71, 0, 0)), (71, (.iinc 3 1, 74, 3, 1)), (74, (.goto (-52), 77, 22, 0)), (77, (.iconst 0, 78, 0, 0)), (78, (.ireturn, 79, 0, 0))]
theorem pX2_seatRest_ok : ∀ pc q, lkB pX2_seatRest pc = some q → xdec cX2_seatRest pc = some q := lkB_all (by decide +kernel)
def pX2_fits : List (Nat × (Instr × Nat × Nat × Int32)) := [(0, (.iload_n 1, 1, 1, 0)), (1, (.ifCond .eq 36, 4, 37, 0)), (4, (.aload_n 0, 5, 0, 0)), (5, (.getfield 9, 8, 9, 0)), (8, (.iload_n 2, 9, 2, 0)), (9, (.iaload, 10, 0, 0)), (10, (.bipush (-4), 12, 0, (-4))), (12, (.if_icmp .eq 25, 15, 37, 0)), (15, (.aload_n 0, 16, 0, 0)), (16, (.getfield 9, 19, 9, 0)), (19, (.iload_n 2, 20, 2, 0)), (20, (.iaload, 21, 0, 0)), (21, (.aload_n 0, 22, 0, 0)), (22, (.getfield 9, 25, 9, 0)), (25, (.aload_n 0, 26, 0, 0)), (26, (.getfield 15, 29, 15, 0)), (29, (.iload_n 1, 30, 1, 0)), (30, (.iconst 1, 31, 0, 1)), (31, (.isub, 32, 0, 0)), (32, (.iaload, 33, 0, 0)), (33, (.iaload, 34, 0, 0)), (34, (.if_icmp .eq 7, 37, 41, 0)), (37, (.iconst 1, 38, 0, 1)), (38, (.goto 4, 41, 42, 0)), (41, (.iconst 0, 42, 0, 0)), (42, (.ireturn, 43, 0, 0))]
theorem pX2_fits_ok : ∀ pc q, lkB pX2_fits pc = some q → xdec cX2_fits pc = some q := lkB_all (by decide +kernel)
end
section
def pX3_init : List (Nat × (Instr × Nat × Nat × Int32)) := [(0, (.aload_n 0, 1, 0, 0)), (1, (.invokespecial 3, 4, 0, 0)), (4, (.aload_n 0, 5, 0, 0)), (5, (.iconst 0, 6, 0, 0)), (6, (.putfield 11, 9, 11, 0)), (9, (.aload_n 0, 10, 0, 0)), (10, (.bipush 100, 12, 0, 100)), (12, (.newarray .int, 14, 0, 0)), (14, (.putfield 15, 17, 15, 0)), (17, (.return_, 18, 0, 0))]
theorem pX3_init_ok : ∀ pc q, lkB pX3_init pc = some q → xdec cX3_init pc = some q := lkB_all (by decide +kernel)
def pX3_isSort : List (Nat × (Instr × Nat × Nat × Int32)) := [(0, (.iload_n 0, 1, 0, 0)), (1, (.iconst 0, 2, 0, 0)), (2, (.iconst 2, 3, 0, 2)), (3, (.invokestatic 19, 6, 0, 0)), (6, (.ireturn, 7, 0, 0))]
theorem pX3_isSort_ok : ∀ pc q, lkB pX3_isSort pc = some q → xdec cX3_isSort pc = some q := lkB_all (by decide +kernel)
def pX3_lowestBits : List (Nat × (Instr × Nat × Nat × Int32)) := [(0, (.iload_n 0, 1, 0, 0)), (1, (.ifCond .ne 6, 4, 7, 0)), (4, (.iload_n 1, 5, 1, 0)), (5, (.i2b, 6, 0, 0)), (6, (.ireturn, 7, 0, 0)), (7, (.iload_n 0, 8, 0, 0)), (8, (.iconst 1, 9, 0, 1)), (9, (.if_icmp .ne 8, 12, 17, 0)), (12, (.iload_n 1, 13, 1, 0)), (13, (.i2s, 14, 0, 0)), (14, (.goto 4, 17, 18, 0)), (17, (.iload_n 1, 18, 1, 0)), (18, (.ireturn, 19, 0, 0))]
theorem pX3_lowestBits_ok : ∀ pc q, lkB pX3_lowestBits pc = some q → xdec cX3_lowestBits pc = some q := lkB_all (by decide +kernel)
def pX3_holdNothing : List (Nat × (Instr × Nat × Nat × Int32)) := [(0, (.aload_n 0, 1, 0, 0)), (1, (.iconst 0, 2, 0, 0)), (2, (.putfield 11, 5, 11, 0)), (5, (.return_, 6, 0, 0))]
theorem pX3_holdNothing_ok : ∀ pc q, lkB pX3_holdNothing pc = some q → xdec cX3_holdNothing pc = some q := lkB_all (by decide +kernel)
def pX3_holdKind : List (Nat × (Instr × Nat × Nat × Int32)) := [(0, (.aload_n 0, 1, 0, 0)), (1, (.iconst 1, 2, 0, 1)), (2, (.putfield 11, 5, 11, 0)), (5, (.aload_n 0, 6, 0, 0)), (6, (.iload_n 1, 7, 1, 0)), (7, (.putfield 23, 10, 23, 0)), (10, (.aload_n 0, 11, 0, 0)), (11, (.iload_n 2, 12, 2, 0)), (12, (.putfield 26, 15, 26, 0)), (15, (.return_, 16, 0, 0))]
theorem pX3_holdKind_ok : ∀ pc q, lkB pX3_holdKind pc = some q → xdec cX3_holdKind pc = some q := lkB_all (by decide +kernel)
def pX3_holdRow : List (Nat × (Instr × Nat × Nat × Int32)) := [(0, (.aload_n 0, 1, 0, 0)), (1, (.iconst 2, 2, 0, 2)), (2, (.putfield 11, 5, 11, 0)), (5, (.aload_n 0, 6, 0, 0)), (6, (.iload_n 1, 7, 1, 0)), (7, (.putfield 29, 10, 29, 0)), (10, (.aload_n 0, 11, 0, 0)), (11, (.iload_n 2, 12, 2, 0)), (12, (.putfield 32, 15, 32, 0)), (15, (.iconst 0, 16, 0, 0)), (16, (.istore_n 3, 17, 3, 0)), (17, (.iload_n 3, 18, 3, 0)), (18, (.iload_n 2, 19, 2, 0)), (19, (.if_icmp .ge 22, 22, 41, 0)), (22, (.iload_n 3, 23, 3, 0)), (23, (.bipush 100, 25, 0, 100)), (25, (.if_icmp .ge 16, 28, 41, 0)), (28, (.aload_n 0, 29, 0, 0)), (29, (.getfield 15, 32, 15, 0)), (32, (.iload_n 3, 33, 3, 0)), (33, (.iconst 0, 34, 0, 0)), (34, (.iastore, 35, 0, 0)), (35, (.iinc 3 1, 38, 3, 1)), (38, (.goto (-21), 41, 17, 0)), (41, (.return_, 42, 0, 0))]
theorem pX3_holdRow_ok : ∀ pc q, lkB pX3_holdRow pc = some q → xdec cX3_holdRow pc = some q := lkB_all (by decide +kernel)
def pX3_hasCell : List (Nat × (Instr × Nat × Nat × Int32)) := [(0, (.iload_n 1, 1, 1, 0)), (1, (.iconst 0, 2, 0, 0)), (2, (.aload_n 0, 3, 0, 0)), (3, (.getfield 32, 6, 32, 0)), (6, (.iconst 1, 7, 0, 1)), (7, (.isub, 8, 0, 0)), (8, (.invokestatic 19, 11, 0, 0)), (11, (.ireturn, 12, 0, 0))]
theorem pX3_hasCell_ok : ∀ pc q, lkB pX3_hasCell pc = some q → xdec cX3_hasCell pc = some q := lkB_all (by decide +kernel)
def pX3_hasCells : List (Nat × (Instr × Nat × Nat × Int32)) := [(0, (.iload_n 1, 1, 1, 0)), (1, (.ifCond .lt 29, 4, 30, 0)), (4, (.iload_n 2, 5, 2, 0)), (5, (.ifCond .lt 25, 8, 30, 0)), (8, (.iload_n 1, 9, 1, 0)), (9, (.aload_n 0, 10, 0, 0)), (10, (.getfield 32, 13, 32, 0)), (13, (.if_icmp .gt 17, 16, 30, 0)), (16, (.iload_n 2, 17, 2, 0)), (17, (.aload_n 0, 18, 0, 0)), (18, (.getfield 32, 21, 32, 0)), (21, (.iload_n 1, 22, 1, 0)), (22, (.isub, 23, 0, 0)), (23, (.if_icmp .gt 7, 26, 30, 0)), (26, (.iconst 1, 27, 0, 1)), (27, (.goto 4, 30, 31, 0)), (30, (.iconst 0, 31, 0, 0)), (31, (.ireturn, 32, 0, 0))]
theorem pX3_hasCells_ok : ∀ pc q, lkB pX3_hasCells pc = some q → xdec cX3_hasCells pc = some q := lkB_all (by decide +kernel)
def pX3_isSo : List (Nat × (Instr × Nat × Nat × Int32)) := [(0, (.aload_n 0, 1, 0, 0)), (1, (.getfield 15, 4, 15, 0)), (4, (.iload_n 1, 5, 1, 0)), (5, (.iaload, 6, 0, 0)), (6, (.iload_n 2, 7, 2, 0)), (7, (.if_icmp .eq 16, 10, 23, 0)), (10, (.aload_n 0, 11, 0, 0)), (11, (.getfield 15, 14, 15, 0)), (14, (.iload_n 1, 15, 1, 0)), (15, (.iaload, 16, 0, 0)), (16, (.aload_n 0, 17, 0, 0)), (17, (.invokevirtual 35, 20, 0, 0)), (20, (.if_icmp .ne 7, 23, 27, 0)), (23, (.iconst 1, 24, 0, 1)), (24, (.goto 4, 27, 28, 0)), (27, (.iconst 0, 28, 0, 0)), (28, (.ireturn, 29, 0, 0))]
theorem pX3_isSo_ok : ∀ pc q, lkB pX3_isSo pc = some q → xdec cX3_isSo pc = some q := lkB_all (by decide +kernel)
def pX3_leastNumber : List (Nat × (Instr × Nat × Nat × Int32)) := [(0, (.aload_n 0, 1, 0, 0)), (1, (.getfield 29, 4, 29, 0)), (4, (.ifCond .ne 6, 7, 10, 0)), (7, (.bipush (-128), 9, 0, (-128))), (9, (.ireturn, 10, 0, 0)), (10, (.aload_n 0, 11, 0, 0)), (11, (.getfield 29, 14, 29, 0)), (14, (.iconst 1, 15, 0, 1)), (15, (.if_icmp .ne 9, 18, 24, 0)), (18, (.sipush (-32768), 21, 0, (-32768))), (21, (.goto 5, 24, 26, 0)), (24, (.ldc 39, 26, 39, 0)), (26, (.ireturn, 27, 0, 0))]
theorem pX3_leastNumber_ok : ∀ pc q, lkB pX3_leastNumber pc = some q → xdec cX3_leastNumber pc = some q := lkB_all (by decide +kernel)
end
section
def pX4_digitsBehind : List (Nat × (Instr × Nat × Nat × Int32)) := [(0, (.iload_n 0, 1, 0, 0)), (1, (.tableswitch 107 98 119 #[105, 107, 105, 105, 107, 103, 103, 107, 107, 107, 103, 107, 107, 107, 107, 107, 107, 107, 107, 107, 107, 105], 104, 0, 0)), (104, (.iconst 3, 105, 0, 3)), (105, (.ireturn, 106, 0, 0)), (106, (.iconst 2, 107, 0, 2)), (107, (.ireturn, 108, 0, 0)), (108, (.iconst 0, 109, 0, 0)), (109, (.ireturn, 110, 0, 0))]
theorem pX4_digitsBehind_ok : ∀ pc q, lkB pX4_digitsBehind pc = some q → xdec cX4_digitsBehind pc = some q := lkB_all (by decide +kernel)
def pX4_placeOfBadByte : List (Nat × (Instr × Nat × Nat × Int32)) := [(0, (.iconst (-1), 1, 0, (-1))), (1, (.istore_n 1, 2, 1, 0)), (2, (.iconst 0, 3, 0, 0)), (3, (.istore_n 2, 4, 2, 0)), (4, (.iload_n 2, 5, 2, 0)), (5, (.aload_n 0, 6, 0, 0)), (6, (.getfield 11, 9, 11, 0)), (9, (.if_icmp .ge 64, 12, 73, 0)), (12, (.aload_n 0, 13, 0, 0)), (13, (.getfield 17, 16, 17, 0)), (16, (.iload_n 2, 17, 2, 0)), (17, (.iaload, 18, 0, 0)), (18, (.istore_n 3, 19, 3, 0)), (19, (.iload_n 1, 20, 1, 0)), (20, (.iconst (-1), 21, 0, (-1))), (21, (.if_icmp .ne 14, 24, 35, 0)), (24, (.iload_n 3, 25, 3, 0)), (25, (.invokestatic 21, 28, 0, 0)), (28, (.istore_n 1, 29, 1, 0)), (29, (.iload_n 1, 30, 1, 0)), (30, (.ifCond .ne 37, 33, 67, 0)), (33, (.iload_n 2, 34, 2, 0)), (34, (.ireturn, 35, 0, 0)), (35, (.iload_n 1, 36, 1, 0)), (36, (.ifCond .le 21, 39, 57, 0)), (39, (.iload_n 3, 40, 3, 0)), (40, (.bipush 48, 42, 0, 48)), (42, (.isub, 43, 0, 0)), (43, (.invokestatic 25, 46, 0, 0)), (46, (.ifCond .ne 5, 49, 51, 0)), (49, (.iload_n 2, 50, 2, 0)), (50, (.ireturn, 51, 0, 0)), (51, (.iinc 1 (-1), 54, 1, (-1))), (54, (.goto 13, 57, 67, 0)), (57, (.iload_n 3, 58, 3, 0)), (58, (.bipush 59, 60, 0, 59)), (60, (.if_icmp .eq 5, 63, 65, 0)), (63, (.iload_n 2, 64, 2, 0)), (64, (.ireturn, 65, 0, 0)), (65, (.iconst (-1), 66, 0, (-1))), (66, (.istore_n 1, 67, 1, 0)), (67, (.iinc 2 1, 70, 2, 1)), (70, (.goto (-66), 73, 4, 0)), (73, (.aload_n 0, 74, 0, 0)), (74, (.getfield 11, 77, 11, 0)), (77, (.ifCond .le 12, 80, 89, 0)), (80, (.iload_n 1, 81, 1, 0)), (81, (.iconst (-1), 82, 0, (-1))), (82, (.if_icmp .ne 7, 85, 89, 0)), (85, (.iconst 1, 86, 0, 1)), (86, (.goto 4, 89, 90, 0)), (89, (.iconst 0, 90, 0, 0)), (90, (.istore_n 2, 91, 2, 0)), (91, (.iload_n 2, 92, 2, 0)), (92, (.ifCond .eq 7, 95, 99, 0)), (95, (.iconst (-1), 96, 0, (-1))), (96, (.goto 7, 99, 103, 0)), (99, (.aload_n 0, 100, 0, 0)), (100, (.getfield 11, 103, 11, 0)), (103, (.ireturn, 104, 0, 0))]
theorem pX4_placeOfBadByte_ok : ∀ pc q, lkB pX4_placeOfBadByte pc = some q → xdec cX4_placeOfBadByte pc = some q := lkB_all (by decide +kernel)
def pX4_isLetter : List (Nat × (Instr × Nat × Nat × Int32)) := [(0, (.iload_n 0, 1, 0, 0)), (1, (.invokestatic 21, 4, 0, 0)), (4, (.ifCond .eq 7, 7, 11, 0)), (7, (.iconst 1, 8, 0, 1)), (8, (.goto 4, 11, 12, 0)), (11, (.iconst 0, 12, 0, 0)), (12, (.ireturn, 13, 0, 0))]
theorem pX4_isLetter_ok : ∀ pc q, lkB pX4_isLetter pc = some q → xdec cX4_isLetter pc = some q := lkB_all (by decide +kernel)
def pX4_digitAt : List (Nat × (Instr × Nat × Nat × Int32)) := [(0, (.aload_n 0, 1, 0, 0)), (1, (.iload_n 1, 2, 1, 0)), (2, (.invokevirtual 29, 5, 0, 0)), (5, (.ifCond .eq 15, 8, 20, 0)), (8, (.aload_n 0, 9, 0, 0)), (9, (.getfield 17, 12, 17, 0)), (12, (.iload_n 1, 13, 1, 0)), (13, (.iaload, 14, 0, 0)), (14, (.bipush 48, 16, 0, 48)), (16, (.isub, 17, 0, 0)), (17, (.goto 4, 20, 21, 0)), (20, (.iconst 0, 21, 0, 0)), (21, (.ireturn, 22, 0, 0))]
theorem pX4_digitAt_ok : ∀ pc q, lkB pX4_digitAt pc = some q → xdec cX4_digitAt pc = some q := lkB_all (by decide +kernel)
def pX4_tell : List (Nat × (Instr × Nat × Nat × Int32)) := [(0, (.aload_n 0, 1, 0, 0)), (1, (.iload_n 1, 2, 1, 0)), (2, (.iconst 1, 3, 0, 1)), (3, (.iadd, 4, 0, 0)), (4, (.invokestatic 32, 7, 0, 0)), (7, (.istore_n 3, 8, 3, 0)), (8, (.aload_n 0, 9, 0, 0)), (9, (.iload_n 1, 10, 1, 0)), (10, (.iconst 2, 11, 0, 2)), (11, (.iadd, 12, 0, 0)), (12, (.invokestatic 32, 15, 0, 0)), (15, (.istore 4, 17, 4, 0)), (17, (.aload_n 0, 18, 0, 0)), (18, (.iload_n 1, 19, 1, 0)), (19, (.iconst 3, 20, 0, 3)), (20, (.iadd, 21, 0, 0)), (21, (.invokestatic 32, 24, 0, 0)), (24, (.istore 5, 26, 5, 0)), (26, (.aload_n 0, 27, 0, 0)), (27, (.getfield 17, 30, 17, 0)), (30, (.iload_n 1, 31, 1, 0)), (31, (.iaload, 32, 0, 0)), (32, (.lookupswitch 137 #[(98, 129), (101, 121), (103, 60), (104, 107), (108, 85), (119, 99)], 92, 0, 0)), (92, (.iload_n 3, 93, 3, 0)), (93, (.invokestatic 36, 96, 0, 0)), (96, (.ifCond .eq 19, 99, 115, 0)), (99, (.aload_n 2, 100, 2, 0)), (100, (.iload_n 3, 101, 3, 0)), (101, (.iload 4, 103, 4, 0)), (103, (.iload 5, 105, 5, 0)), (105, (.invokevirtual 41, 108, 0, 0)), (108, (.ifCond .lt 7, 111, 115, 0)), (111, (.iconst 1, 112, 0, 1)), (112, (.goto 4, 115, 116, 0)), (115, (.iconst 0, 116, 0, 0)), (116, (.ireturn, 117, 0, 0)), (117, (.aload_n 2, 118, 2, 0)), (118, (.iload_n 3, 119, 3, 0)), (119, (.bipush 10, 121, 0, 10)), (121, (.iload 4, 123, 4, 0)), (123, (.imul, 124, 0, 0)), (124, (.iload 5, 126, 5, 0)), (126, (.iadd, 127, 0, 0)), (127, (.invokestatic 47, 130, 0, 0)), (130, (.ireturn, 131, 0, 0)), (131, (.aload_n 2, 132, 2, 0)), (132, (.iload_n 3, 133, 3, 0)), (133, (.iload 4, 135, 4, 0)), (135, (.invokestatic 51, 138, 0, 0)), (138, (.ireturn, 139, 0, 0)), (139, (.aload_n 2, 140, 2, 0)), (140, (.iload_n 3, 141, 3, 0)), (141, (.bipush 10, 143, 0, 10)), (143, (.iload 4, 145, 4, 0)), (145, (.imul, 146, 0, 0)), (146, (.iload 5, 148, 5, 0)), (148, (.iadd, 149, 0, 0)), (149, (.invokestatic 54, 152, 0, 0)), (152, (.ireturn, 153, 0, 0)), (153, (.aload_n 2, 154, 2, 0)), (154, (.iload_n 3, 155, 3, 0)), (155, (.iload 4, 157, 4, 0)), (157, (.invokestatic 57, 160, 0, 0)), (160, (.ireturn, 161, 0, 0)), (161, (.aload_n 2, 162, 2, 0)), (162, (.iload_n 3, 163, 3, 0)), (163, (.iload 4, 165, 4, 0)), (165, (.invokestatic 60, 168, 0, 0)), (168, (.ireturn, 169, 0, 0)), (169, (.aload_n 2, 170, 2, 0)), (170, (.bipush 10, 172, 0, 10)), (172, (.iload_n 3, 173, 3, 0)), (173, (.imul, 174, 0, 0)), (174, (.iload 4, 176, 4, 0)), (176, (.iadd, 177, 0, 0)), (177, (.invokestatic 63, 180, 0, 0)), (180, (.ireturn, 181, 0, 0))]
theorem pX4_tell_ok : ∀ pc q, lkB pX4_tell pc = some q → xdec cX4_tell pc = some q := lkB_all (by decide +kernel)
def pX4_setStock : List (Nat × (Instr × Nat × Nat × Int32)) := [(0, (.aload_n 0, 1, 0, 0)), (1, (.getfield 67, 4, 67, 0)), (4, (.iload_n 1, 5, 1, 0)), (5, (.iload_n 2, 6, 2, 0)), (6, (.iastore, 7, 0, 0)), (7, (.iconst 1, 8, 0, 1)), (8, (.ireturn, 9, 0, 0))]
theorem pX4_setStock_ok : ∀ pc q, lkB pX4_setStock pc = some q → xdec cX4_setStock pc = some q := lkB_all (by decide +kernel)
def pX4_addStock : List (Nat × (Instr × Nat × Nat × Int32)) := [(0, (.aload_n 0, 1, 0, 0)), (1, (.iload_n 1, 2, 1, 0)), (2, (.iload_n 2, 3, 2, 0)), (3, (.invokevirtual 70, 6, 0, 0)), (6, (.iconst 1, 7, 0, 1)), (7, (.ireturn, 8, 0, 0))]
theorem pX4_addStock_ok : ∀ pc q, lkB pX4_addStock pc = some q → xdec cX4_addStock pc = some q := lkB_all (by decide +kernel)
def pX4_setWish : List (Nat × (Instr × Nat × Nat × Int32)) := [(0, (.aload_n 0, 1, 0, 0)), (1, (.iload_n 1, 2, 1, 0)), (2, (.invokevirtual 74, 5, 0, 0)), (5, (.ifCond .ne 5, 8, 10, 0)), (8, (.iconst 0, 9, 0, 0)), (9, (.ireturn, 10, 0, 0)), (10, (.aload_n 0, 11, 0, 0)), (11, (.getfield 77, 14, 77, 0)), (14, (.iload_n 1, 15, 1, 0)), (15, (.iload_n 2, 16, 2, 0)), (16, (.iastore, 17, 0, 0)), (17, (.iconst 1, 18, 0, 1)), (18, (.ireturn, 19, 0, 0))]
theorem pX4_setWish_ok : ∀ pc q, lkB pX4_setWish pc = some q → xdec cX4_setWish pc = some q := lkB_all (by decide +kernel)
def pX4_setLast : List (Nat × (Instr × Nat × Nat × Int32)) := [(0, (.aload_n 0, 1, 0, 0)), (1, (.iload_n 1, 2, 1, 0)), (2, (.invokevirtual 74, 5, 0, 0)), (5, (.ifCond .ne 5, 8, 10, 0)), (8, (.iconst 0, 9, 0, 0)), (9, (.ireturn, 10, 0, 0)), (10, (.aload_n 0, 11, 0, 0)), (11, (.getfield 80, 14, 80, 0)), (14, (.iload_n 1, 15, 1, 0)), (15, (.iload_n 2, 16, 2, 0)), (16, (.iastore, 17, 0, 0)), (17, (.iconst 1, 18, 0, 1)), (18, (.ireturn, 19, 0, 0))]
theorem pX4_setLast_ok : ∀ pc q, lkB pX4_setLast pc = some q → xdec cX4_setLast pc = some q := lkB_all (by decide +kernel)
def pX4_setHealth : List (Nat × (Instr × Nat × Nat × Int32)) := [(0, (.aload_n 0, 1, 0, 0)), (1, (.iload_n 1, 2, 1, 0)), (2, (.invokevirtual 74, 5, 0, 0)), (5, (.ifCond .eq 13, 8, 18, 0)), (8, (.iload_n 2, 9, 2, 0)), (9, (.iconst 1, 10, 0, 1)), (10, (.bipush 99, 12, 0, 99)), (12, (.invokestatic 83, 15, 0, 0)), (15, (.ifCond .ne 5, 18, 20, 0)), (18, (.iconst 0, 19, 0, 0)), (19, (.ireturn, 20, 0, 0)), (20, (.aload_n 0, 21, 0, 0)), (21, (.getfield 87, 24, 87, 0)), (24, (.iload_n 1, 25, 1, 0)), (25, (.iload_n 2, 26, 2, 0)), (26, (.iastore, 27, 0, 0)), (27, (.aload_n 0, 28, 0, 0)), (28, (.dup, 29, 0, 0)), (29, (.getfield 90, 32, 90, 0)), (32, (.iconst 1, 33, 0, 1)), (33, (.iload_n 1, 34, 1, 0)), (34, (.ishl, 35, 0, 0)), (35, (.ior, 36, 0, 0)), (36, (.putfield 90, 39, 90, 0)), (39, (.iconst 1, 40, 0, 1)), (40, (.ireturn, 41, 0, 0))]
theorem pX4_setHealth_ok : ∀ pc q, lkB pX4_setHealth pc = some q → xdec cX4_setHealth pc = some q := lkB_all (by decide +kernel)
def pX4_passNights : List (Nat × (Instr × Nat × Nat × Int32)) := [(0, (.iload_n 1, 1, 1, 0)), (1, (.iconst 1, 2, 0, 1)), (2, (.bipush 60, 4, 0, 60)), (4, (.invokestatic 83, 7, 0, 0)), (7, (.ifCond .eq 15, 10, 22, 0)), (10, (.aload_n 0, 11, 0, 0)), (11, (.getfield 93, 14, 93, 0)), (14, (.iload_n 1, 15, 1, 0)), (15, (.iadd, 16, 0, 0)), (16, (.sipush 999, 19, 0, 999)), (19, (.if_icmp .le 5, 22, 24, 0)), (22, (.iconst 0, 23, 0, 0)), (23, (.ireturn, 24, 0, 0)), (24, (.aload_n 0, 25, 0, 0)), (25, (.iload_n 1, 26, 1, 0)), (26, (.invokevirtual 96, 29, 0, 0)), (29, (.iconst 1, 30, 0, 1)), (30, (.ireturn, 31, 0, 0))]
theorem pX4_passNights_ok : ∀ pc q, lkB pX4_passNights pc = some q → xdec cX4_passNights pc = some q := lkB_all (by decide +kernel)
end
section
def pX5_init : List (Nat × (Instr × Nat × Nat × Int32)) := [(0, (.aload_n 0, 1, 0, 0)), (1, (.invokespecial 1, 4, 0, 0)), (4, (.aload_n 0, 5, 0, 0)), (5, (.new 7, 8, 0, 0)), (8, (.dup, 9, 0, 0)), (9, (.invokespecial 9, 12, 0, 0)), (12, (.putfield 10, 15, 10, 0)), (15, (.aload_n 0, 16, 0, 0)), (16, (.new 7, 19, 0, 0)), (19, (.dup, 20, 0, 0)), (20, (.invokespecial 9, 23, 0, 0)), (23, (.putfield 16, 26, 16, 0)), (26, (.aload_n 0, 27, 0, 0)), (27, (.new 7, 30, 0, 0)), (30, (.dup, 31, 0, 0)), (31, (.invokespecial 9, 34, 0, 0)), (34, (.putfield 19, 37, 19, 0)), (37, (.aload_n 0, 38, 0, 0)), (38, (.iconst 0, 39, 0, 0)), (39, (.putfield 22, 42, 22, 0)), (42, (.aload_n 0, 43, 0, 0)), (43, (.bipush 8, 45, 0, 8)), (45, (.anewarray 26, 48, 0, 0)), (48, (.putfield 28, 51, 28, 0)), (51, (.iconst 0, 52, 0, 0)), (52, (.istore_n 1, 53, 1, 0)), (53, (.iload_n 1, 54, 1, 0)), (54, (.bipush 8, 56, 0, 8)), (56, (.if_icmp .ge 22, 59, 78, 0)), (59, (.aload_n 0, 60, 0, 0)), (60, (.getfield 28, 63, 28, 0)), (63, (.iload_n 1, 64, 1, 0)), (64, (.new 26, 67, 0, 0)), (67, (.dup, 68, 0, 0)), (68, (.invokespecial 32, 71, 0, 0)), (71, (.aastore, 72, 0, 0)), (72, (.iinc 1 1, 75, 1, 1)), (75, (.goto (-22), 78, 53, 0)), (78, (.aload_n 0, 79, 0, 0)), (79, (.new 33, 82, 0, 0)), (82, (.dup, 83, 0, 0)), (83, (.invokespecial 35, 86, 0, 0)), (86, (.putfield 36, 89, 36, 0)), (89, (.aload_n 0, 90, 0, 0)), (90, (.bipush 8, 92, 0, 8)), (92, (.newarray .int, 94, 0, 0)), (94, (.putfield 40, 97, 40, 0)), (97, (.return_, 98, 0, 0))]
theorem pX5_init_ok : ∀ pc q, lkB pX5_init pc = some q → xdec cX5_init pc = some q := lkB_all (by decide +kernel)
def pX5_inn : List (Nat × (Instr × Nat × Nat × Int32)) := [(0, (.aload_n 0, 1, 0, 0)), (1, (.iload_n 1, 2, 1, 0)), (2, (.invokevirtual 44, 5, 0, 0)), (5, (.istore_n 2, 6, 2, 0)), (6, (.iload_n 2, 7, 2, 0)), (7, (.ifCond .eq 5, 10, 12, 0)), (10, (.iload_n 2, 11, 2, 0)), (11, (.ireturn, 12, 0, 0)), (12, (.aload_n 0, 13, 0, 0)), (13, (.getfield 28, 16, 28, 0)), (16, (.iload_n 1, 17, 1, 0)), (17, (.aaload, 18, 0, 0)), (18, (.astore_n 3, 19, 3, 0)), (19, (.aload_n 3, 20, 3, 0)), (20, (.getfield 48, 23, 48, 0)), (23, (.ifCond .eq 6, 26, 29, 0)), (26, (.bipush (-12), 28, 0, (-12))), (28, (.ireturn, 29, 0, 0)), (29, (.aload_n 3, 30, 3, 0)), (30, (.invokestatic 52, 33, 0, 0)), (33, (.istore 4, 35, 4, 0)), (35, (.iload 4, 37, 4, 0)), (37, (.ifCond .lt 10, 40, 47, 0)), (40, (.sipush (-1000), 43, 0, (-1000))), (43, (.iload 4, 45, 4, 0)), (45, (.isub, 46, 0, 0)), (46, (.ireturn, 47, 0, 0)), (47, (.aload_n 0, 48, 0, 0)), (48, (.invokevirtual 58, 51, 0, 0)), (51, (.astore 5, 53, 5, 0)), (53, (.iconst 0, 54, 0, 0)), (54, (.istore 6, 56, 6, 0)), (56, (.iconst 0, 57, 0, 0)), (57, (.istore 7, 59, 7, 0)), (59, (.iload 7, 61, 7, 0)), (61, (.aload_n 3, 62, 3, 0)), (62, (.getfield 62, 65, 62, 0)), (65, (.if_icmp .ge 43, 68, 108, 0)), (68, (.aload_n 3, 69, 3, 0)), (69, (.getfield 65, 72, 65, 0)), (72, (.iload 7, 74, 7, 0)), (74, (.iaload, 75, 0, 0)), (75, (.invokestatic 68, 78, 0, 0)), (78, (.ifCond .eq 24, 81, 102, 0)), (81, (.aload_n 3, 82, 3, 0)), (82, (.iload 7, 84, 7, 0)), (84, (.aload 5, 86, 5, 0)), (86, (.invokestatic 72, 89, 0, 0)), (89, (.ifCond .ne 10, 92, 99, 0)), (92, (.sipush (-2000), 95, 0, (-2000))), (95, (.iload 7, 97, 7, 0)), (97, (.isub, 98, 0, 0)), (98, (.ireturn, 99, 0, 0)), (99, (.iinc 6 1, 102, 6, 1)), (102, (.iinc 7 1, 105, 7, 1)), (105, (.goto (-46), 108, 59, 0)), (108, (.aload_n 0, 109, 0, 0)), (109, (.getfield 10, 112, 10, 0)), (112, (.aload 5, 114, 5, 0)), (114, (.invokevirtual 76, 117, 0, 0)), (117, (.iload 6, 119, 6, 0)), (119, (.ireturn, 120, 0, 0))]
theorem pX5_inn_ok : ∀ pc q, lkB pX5_inn pc = some q → xdec cX5_inn pc = some q := lkB_all (by decide +kernel)
def pX5_guest : List (Nat × (Instr × Nat × Nat × Int32)) := [(0, (.aload_n 0, 1, 0, 0)), (1, (.getfield 10, 4, 10, 0)), (4, (.iload_n 1, 5, 1, 0)), (5, (.invokevirtual 80, 8, 0, 0)), (8, (.ifCond .ne 5, 11, 13, 0)), (11, (.iconst (-1), 12, 0, (-1))), (12, (.ireturn, 13, 0, 0)), (13, (.iload_n 2, 14, 2, 0)), (14, (.tableswitch 169 0 7 #[46, 56, 66, 76, 86, 96, 113, 126], 60, 0, 0)), (60, (.aload_n 0, 61, 0, 0)), (61, (.getfield 10, 64, 10, 0)), (64, (.getfield 83, 67, 83, 0)), (67, (.iload_n 1, 68, 1, 0)), (68, (.iaload, 69, 0, 0)), (69, (.ireturn, 70, 0, 0)), (70, (.aload_n 0, 71, 0, 0)), (71, (.getfield 10, 74, 10, 0)), (74, (.getfield 86, 77, 86, 0)), (77, (.iload_n 1, 78, 1, 0)), (78, (.iaload, 79, 0, 0)), (79, (.ireturn, 80, 0, 0)), (80, (.aload_n 0, 81, 0, 0)), (81, (.getfield 10, 84, 10, 0)), (84, (.getfield 89, 87, 89, 0)), (87, (.iload_n 1, 88, 1, 0)), (88, (.iaload, 89, 0, 0)), (89, (.ireturn, 90, 0, 0)), (90, (.aload_n 0, 91, 0, 0)), (91, (.getfield 10, 94, 10, 0)), (94, (.getfield 92, 97, 92, 0)), (97, (.iload_n 1, 98, 1, 0)), (98, (.iaload, 99, 0, 0)), (99, (.ireturn, 100, 0, 0)), (100, (.aload_n 0, 101, 0, 0)), (101, (.getfield 10, 104, 10, 0)), (104, (.getfield 95, 107, 95, 0)), (107, (.iload_n 1, 108, 1, 0)), (108, (.iaload, 109, 0, 0)), (109, (.ireturn, 110, 0, 0)), (110, (.aload_n 0, 111, 0, 0)), (111, (.getfield 10, 114, 10, 0)), (114, (.iload_n 1, 115, 1, 0)), (115, (.invokevirtual 98, 118, 0, 0)), (118, (.ifCond .eq 7, 121, 125, 0)), (121, (.iconst 1, 122, 0, 1)), (122, (.goto 4, 125, 126, 0)), (125, (.iconst 0, 126, 0, 0)), (126, (.ireturn, 127, 0, 0)), (127, (.aload_n 0, 128, 0, 0)), (128, (.getfield 10, 131, 10, 0)), (131, (.getfield 83, 134, 83, 0)), (134, (.iload_n 1, 135, 1, 0)), (135, (.iaload, 136, 0, 0)), (136, (.invokestatic 101, 139, 0, 0)), (139, (.ireturn, 140, 0, 0)), (140, (.bipush 10, 142, 0, 10)), (142, (.aload_n 0, 143, 0, 0)), (143, (.getfield 10, 146, 10, 0)), (146, (.getfield 83, 149, 83, 0)), (149, (.iload_n 1, 150, 1, 0)), (150, (.iaload, 151, 0, 0)), (151, (.aload_n 0, 152, 0, 0)), (152, (.getfield 10, 155, 10, 0)), (155, (.getfield 86, 158, 86, 0)), (158, (.iload_n 1, 159, 1, 0)), (159, (.iaload, 160, 0, 0)), (160, (.aload_n 0, 161, 0, 0)), (161, (.getfield 10, 164, 10, 0)), (164, (.getfield 89, 167, 89, 0)), (167, (.iload_n 1, 168, 1, 0)), (168, (.iaload, 169, 0, 0)), (169, (.aload_n 0, 170, 0, 0)), (170, (.getfield 10, 173, 10, 0)), (173, (.getfield 92, 176, 92, 0)), (176, (.iload_n 1, 177, 1, 0)), (177, (.iaload, 178, 0, 0)), (178, (.invokestatic 106, 181, 0, 0)), (181, (.iadd, 182, 0, 0)), (182, (.ireturn, 183, 0, 0)), (183, (.iconst (-1), 184, 0, (-1))), (184, (.ireturn, 185, 0, 0))]
theorem pX5_guest_ok : ∀ pc q, lkB pX5_guest pc = some q → xdec cX5_guest pc = some q := lkB_all (by decide +kernel)
def pX5_larder : List (Nat × (Instr × Nat × Nat × Int32)) := [(0, (.iload_n 1, 1, 1, 0)), (1, (.invokestatic 110, 4, 0, 0)), (4, (.ifCond .eq 15, 7, 19, 0)), (7, (.aload_n 0, 8, 0, 0)), (8, (.getfield 10, 11, 10, 0)), (11, (.getfield 113, 14, 113, 0)), (14, (.iload_n 1, 15, 1, 0)), (15, (.iaload, 16, 0, 0)), (16, (.goto 4, 19, 20, 0)), (19, (.iconst (-1), 20, 0, (-1))), (20, (.ireturn, 21, 0, 0))]
theorem pX5_larder_ok : ∀ pc q, lkB pX5_larder pc = some q → xdec cX5_larder pc = some q := lkB_all (by decide +kernel)
def pX5_comes : List (Nat × (Instr × Nat × Nat × Int32)) := [(0, (.iload_n 2, 1, 2, 0)), (1, (.invokestatic 110, 4, 0, 0)), (4, (.ifCond .ne 5, 7, 9, 0)), (7, (.iconst (-1), 8, 0, (-1))), (8, (.ireturn, 9, 0, 0)), (9, (.aload_n 0, 10, 0, 0)), (10, (.iload_n 1, 11, 1, 0)), (11, (.invokevirtual 116, 14, 0, 0)), (14, (.istore_n 3, 15, 3, 0)), (15, (.iload_n 3, 16, 3, 0)), (16, (.ifCond .eq 5, 19, 21, 0)), (19, (.iload_n 3, 20, 3, 0)), (20, (.ireturn, 21, 0, 0)), (21, (.aload_n 0, 22, 0, 0)), (22, (.getfield 10, 25, 10, 0)), (25, (.aload_n 0, 26, 0, 0)), (26, (.getfield 28, 29, 28, 0)), (29, (.iload_n 1, 30, 1, 0)), (30, (.aaload, 31, 0, 0)), (31, (.getfield 119, 34, 119, 0)), (34, (.aload_n 0, 35, 0, 0)), (35, (.getfield 28, 38, 28, 0)), (38, (.iload_n 1, 39, 1, 0)), (39, (.aaload, 40, 0, 0)), (40, (.getfield 122, 43, 122, 0)), (43, (.iload_n 2, 44, 2, 0)), (44, (.invokevirtual 125, 47, 0, 0)), (47, (.ireturn, 48, 0, 0))]
theorem pX5_comes_ok : ∀ pc q, lkB pX5_comes pc = some q → xdec cX5_comes pc = some q := lkB_all (by decide +kernel)
def pX5_wishes : List (Nat × (Instr × Nat × Nat × Int32)) := [(0, (.aload_n 0, 1, 0, 0)), (1, (.getfield 10, 4, 10, 0)), (4, (.iload_n 1, 5, 1, 0)), (5, (.invokevirtual 80, 8, 0, 0)), (8, (.ifCond .eq 10, 11, 18, 0)), (11, (.iload_n 2, 12, 2, 0)), (12, (.invokestatic 110, 15, 0, 0)), (15, (.ifCond .ne 5, 18, 20, 0)), (18, (.iconst (-1), 19, 0, (-1))), (19, (.ireturn, 20, 0, 0)), (20, (.aload_n 0, 21, 0, 0)), (21, (.getfield 10, 24, 10, 0)), (24, (.getfield 89, 27, 89, 0)), (27, (.iload_n 1, 28, 1, 0)), (28, (.iaload, 29, 0, 0)), (29, (.istore_n 3, 30, 3, 0)), (30, (.aload_n 0, 31, 0, 0)), (31, (.getfield 10, 34, 10, 0)), (34, (.getfield 89, 37, 89, 0)), (37, (.iload_n 1, 38, 1, 0)), (38, (.iload_n 2, 39, 2, 0)), (39, (.iastore, 40, 0, 0)), (40, (.iload_n 3, 41, 3, 0)), (41, (.ireturn, 42, 0, 0))]
theorem pX5_wishes_ok : ∀ pc q, lkB pX5_wishes pc = some q → xdec cX5_wishes pc = some q := lkB_all (by decide +kernel)
def pX5_heals : List (Nat × (Instr × Nat × Nat × Int32)) := [(0, (.aload_n 0, 1, 0, 0)), (1, (.getfield 10, 4, 10, 0)), (4, (.iload_n 1, 5, 1, 0)), (5, (.invokevirtual 80, 8, 0, 0)), (8, (.ifCond .eq 13, 11, 21, 0)), (11, (.iload_n 2, 12, 2, 0)), (12, (.iconst 1, 13, 0, 1)), (13, (.bipush 99, 15, 0, 99)), (15, (.invokestatic 129, 18, 0, 0)), (18, (.ifCond .ne 5, 21, 23, 0)), (21, (.iconst (-1), 22, 0, (-1))), (22, (.ireturn, 23, 0, 0)), (23, (.aload_n 0, 24, 0, 0)), (24, (.getfield 10, 27, 10, 0)), (27, (.iload_n 1, 28, 1, 0)), (28, (.invokevirtual 98, 31, 0, 0)), (31, (.ifCond .ne 6, 34, 37, 0)), (34, (.bipush (-3), 36, 0, (-3))), (36, (.ireturn, 37, 0, 0)), (37, (.aload_n 0, 38, 0, 0)), (38, (.getfield 10, 41, 10, 0)), (41, (.getfield 95, 44, 95, 0)), (44, (.iload_n 1, 45, 1, 0)), (45, (.iaload, 46, 0, 0)), (46, (.istore_n 3, 47, 3, 0)), (47, (.aload_n 0, 48, 0, 0)), (48, (.getfield 10, 51, 10, 0)), (51, (.getfield 95, 54, 95, 0)), (54, (.iload_n 1, 55, 1, 0)), (55, (.iload_n 2, 56, 2, 0)), (56, (.iastore, 57, 0, 0)), (57, (.iload_n 3, 58, 3, 0)), (58, (.ireturn, 59, 0, 0))]
theorem pX5_heals_ok : ∀ pc q, lkB pX5_heals pc = some q → xdec cX5_heals pc = some q := lkB_all (by decide +kernel)
def pX5_fills : List (Nat × (Instr × Nat × Nat × Int32)) := [(0, (.iload_n 1, 1, 1, 0)), (1, (.invokestatic 110, 4, 0, 0)), (4, (.ifCond .eq 13, 7, 17, 0)), (7, (.iload_n 2, 8, 2, 0)), (8, (.iconst 0, 9, 0, 0)), (9, (.bipush 99, 11, 0, 99)), (11, (.invokestatic 129, 14, 0, 0)), (14, (.ifCond .ne 5, 17, 19, 0)), (17, (.iconst (-1), 18, 0, (-1))), (18, (.ireturn, 19, 0, 0)), (19, (.aload_n 0, 20, 0, 0)), (20, (.getfield 10, 23, 10, 0)), (23, (.getfield 113, 26, 113, 0)), (26, (.iload_n 1, 27, 1, 0)), (27, (.iaload, 28, 0, 0)), (28, (.istore_n 3, 29, 3, 0)), (29, (.aload_n 0, 30, 0, 0)), (30, (.getfield 10, 33, 10, 0)), (33, (.getfield 113, 36, 113, 0)), (36, (.iload_n 1, 37, 1, 0)), (37, (.iload_n 2, 38, 2, 0)), (38, (.iastore, 39, 0, 0)), (39, (.iload_n 3, 40, 3, 0)), (40, (.ireturn, 41, 0, 0))]
theorem pX5_fills_ok : ∀ pc q, lkB pX5_fills pc = some q → xdec cX5_fills pc = some q := lkB_all (by decide +kernel)
def pX5_nights : List (Nat × (Instr × Nat × Nat × Int32)) := [(0, (.iload_n 1, 1, 1, 0)), (1, (.iconst 1, 2, 0, 1)), (2, (.bipush 60, 4, 0, 60)), (4, (.invokestatic 129, 7, 0, 0)), (7, (.ifCond .ne 5, 10, 12, 0)), (10, (.iconst (-1), 11, 0, (-1))), (11, (.ireturn, 12, 0, 0)), (12, (.aload_n 0, 13, 0, 0)), (13, (.getfield 10, 16, 10, 0)), (16, (.getfield 133, 19, 133, 0)), (19, (.iload_n 1, 20, 1, 0)), (20, (.iadd, 21, 0, 0)), (21, (.sipush 999, 24, 0, 999)), (24, (.if_icmp .le 6, 27, 30, 0)), (27, (.bipush (-3), 29, 0, (-3))), (29, (.ireturn, 30, 0, 0)), (30, (.aload_n 0, 31, 0, 0)), (31, (.getfield 10, 34, 10, 0)), (34, (.iload_n 1, 35, 1, 0)), (35, (.invokevirtual 136, 38, 0, 0)), (38, (.aload_n 0, 39, 0, 0)), (39, (.getfield 10, 42, 10, 0)), (42, (.getfield 140, 45, 140, 0)), (45, (.invokestatic 143, 48, 0, 0)), (48, (.ireturn, 49, 0, 0))]
theorem pX5_nights_ok : ∀ pc q, lkB pX5_nights pc = some q → xdec cX5_nights pc = some q := lkB_all (by decide +kernel)
def pX5_guestThen : List (Nat × (Instr × Nat × Nat × Int32)) := [(0, (.aload_n 0, 1, 0, 0)), (1, (.getfield 10, 4, 10, 0)), (4, (.iload_n 1, 5, 1, 0)), (5, (.invokevirtual 80, 8, 0, 0)), (8, (.ifCond .eq 19, 11, 27, 0)), (11, (.iload_n 2, 12, 2, 0)), (12, (.invokestatic 148, 15, 0, 0)), (15, (.ifCond .eq 12, 18, 27, 0)), (18, (.iload_n 3, 19, 3, 0)), (19, (.iconst 0, 20, 0, 0)), (20, (.iconst 1, 21, 0, 1)), (21, (.invokestatic 129, 24, 0, 0)), (24, (.ifCond .ne 5, 27, 29, 0)), (27, (.iconst (-1), 28, 0, (-1))), (28, (.ireturn, 29, 0, 0)), (29, (.aload_n 0, 30, 0, 0)), (30, (.invokevirtual 58, 33, 0, 0)), (33, (.astore 4, 35, 4, 0)), (35, (.aload 4, 37, 4, 0)), (37, (.iload_n 2, 38, 2, 0)), (38, (.invokevirtual 136, 41, 0, 0)), (41, (.iload_n 3, 42, 3, 0)), (42, (.ifCond .ne 13, 45, 55, 0)), (45, (.aload 4, 47, 4, 0)), (47, (.getfield 95, 50, 95, 0)), (50, (.iload_n 1, 51, 1, 0)), (51, (.iaload, 52, 0, 0)), (52, (.goto 10, 55, 62, 0)), (55, (.aload 4, 57, 4, 0)), (57, (.getfield 92, 60, 92, 0)), (60, (.iload_n 1, 61, 1, 0)), (61, (.iaload, 62, 0, 0)), (62, (.ireturn, 63, 0, 0))]
theorem pX5_guestThen_ok : ∀ pc q, lkB pX5_guestThen pc = some q → xdec cX5_guestThen pc = some q := lkB_all (by decide +kernel)
def pX5_larderThen : List (Nat × (Instr × Nat × Nat × Int32)) := [(0, (.iload_n 1, 1, 1, 0)), (1, (.invokestatic 110, 4, 0, 0)), (4, (.ifCond .eq 10, 7, 14, 0)), (7, (.iload_n 2, 8, 2, 0)), (8, (.invokestatic 148, 11, 0, 0)), (11, (.ifCond .ne 5, 14, 16, 0)), (14, (.iconst (-1), 15, 0, (-1))), (15, (.ireturn, 16, 0, 0)), (16, (.aload_n 0, 17, 0, 0)), (17, (.invokevirtual 58, 20, 0, 0)), (20, (.astore_n 3, 21, 3, 0)), (21, (.aload_n 3, 22, 3, 0)), (22, (.iload_n 2, 23, 2, 0)), (23, (.invokevirtual 136, 26, 0, 0)), (26, (.aload_n 3, 27, 3, 0)), (27, (.getfield 113, 30, 113, 0)), (30, (.iload_n 1, 31, 1, 0)), (31, (.iaload, 32, 0, 0)), (32, (.ireturn, 33, 0, 0))]
theorem pX5_larderThen_ok : ∀ pc q, lkB pX5_larderThen pc = some q → xdec cX5_larderThen pc = some q := lkB_all (by decide +kernel)
def pX5_then : List (Nat × (Instr × Nat × Nat × Int32)) := [(0, (.iload_n 1, 1, 1, 0)), (1, (.invokestatic 148, 4, 0, 0)), (4, (.ifCond .eq 12, 7, 16, 0)), (7, (.iload_n 2, 8, 2, 0)), (8, (.iconst 0, 9, 0, 0)), (9, (.iconst 2, 10, 0, 2)), (10, (.invokestatic 129, 13, 0, 0)), (13, (.ifCond .ne 5, 16, 18, 0)), (16, (.iconst (-1), 17, 0, (-1))), (17, (.ireturn, 18, 0, 0)), (18, (.aload_n 0, 19, 0, 0)), (19, (.invokevirtual 58, 22, 0, 0)), (22, (.astore_n 3, 23, 3, 0)), (23, (.aload_n 3, 24, 3, 0)), (24, (.iload_n 1, 25, 1, 0)), (25, (.invokevirtual 136, 28, 0, 0)), (28, (.iload_n 2, 29, 2, 0)), (29, (.ifCond .ne 8, 32, 37, 0)), (32, (.aload_n 3, 33, 3, 0)), (33, (.getfield 140, 36, 140, 0)), (36, (.ireturn, 37, 0, 0)), (37, (.iload_n 2, 38, 2, 0)), (38, (.iconst 1, 39, 0, 1)), (39, (.if_icmp .ne 10, 42, 49, 0)), (42, (.aload_n 3, 43, 3, 0)), (43, (.getfield 151, 46, 151, 0)), (46, (.goto 7, 49, 53, 0)), (49, (.aload_n 3, 50, 3, 0)), (50, (.getfield 154, 53, 154, 0)), (53, (.ireturn, 54, 0, 0))]
theorem pX5_then_ok : ∀ pc q, lkB pX5_then pc = some q → xdec cX5_then pc = some q := lkB_all (by decide +kernel)
def pX5_leaves : List (Nat × (Instr × Nat × Nat × Int32)) := [(0, (.iload_n 1, 1, 1, 0)), (1, (.iconst (-1), 2, 0, (-1))), (2, (.if_icmp .ne 8, 5, 10, 0)), (5, (.aload_n 0, 6, 0, 0)), (6, (.invokevirtual 157, 9, 0, 0)), (9, (.ireturn, 10, 0, 0)), (10, (.aload_n 0, 11, 0, 0)), (11, (.getfield 10, 14, 10, 0)), (14, (.iload_n 1, 15, 1, 0)), (15, (.invokevirtual 80, 18, 0, 0)), (18, (.ifCond .ne 5, 21, 23, 0)), (21, (.iconst (-1), 22, 0, (-1))), (22, (.ireturn, 23, 0, 0)), (23, (.aload_n 0, 24, 0, 0)), (24, (.invokevirtual 58, 27, 0, 0)), (27, (.astore_n 2, 28, 2, 0)), (28, (.iconst 0, 29, 0, 0)), (29, (.istore_n 3, 30, 3, 0)), (30, (.iload_n 3, 31, 3, 0)), (31, (.bipush 60, 33, 0, 60)), (33, (.if_icmp .gt 24, 36, 57, 0)), (36, (.aload_n 2, 37, 2, 0)), (37, (.iload_n 1, 38, 1, 0)), (38, (.invokevirtual 98, 41, 0, 0)), (41, (.ifCond .ne 5, 44, 46, 0)), (44, (.iload_n 3, 45, 3, 0)), (45, (.ireturn, 46, 0, 0)), (46, (.aload_n 2, 47, 2, 0)), (47, (.iconst 1, 48, 0, 1)), (48, (.invokevirtual 136, 51, 0, 0)), (51, (.iinc 3 1, 54, 3, 1)), (54, (.goto (-24), 57, 30, 0)), (57, (.bipush (-4), 59, 0, (-4))), (59, (.ireturn, 60, 0, 0))]
theorem pX5_leaves_ok : ∀ pc q, lkB pX5_leaves pc = some q → xdec cX5_leaves pc = some q := lkB_all (by decide +kernel)
def pX5_firstToLeave : List (Nat × (Instr × Nat × Nat × Int32)) := [(0, (.aload_n 0, 1, 0, 0)), (1, (.invokevirtual 58, 4, 0, 0)), (4, (.astore_n 1, 5, 1, 0)), (5, (.iconst 0, 6, 0, 0)), (6, (.istore_n 2, 7, 2, 0)), (7, (.iload_n 2, 8, 2, 0)), (8, (.bipush 60, 10, 0, 60)), (10, (.if_icmp .ge 38, 13, 48, 0)), (13, (.aload_n 1, 14, 1, 0)), (14, (.iconst 1, 15, 0, 1)), (15, (.invokevirtual 136, 18, 0, 0)), (18, (.aload_n 0, 19, 0, 0)), (19, (.getfield 10, 22, 10, 0)), (22, (.getfield 140, 25, 140, 0)), (25, (.aload_n 1, 26, 1, 0)), (26, (.getfield 140, 29, 140, 0)), (29, (.iconst (-1), 30, 0, (-1))), (30, (.ixor, 31, 0, 0)), (31, (.iand, 32, 0, 0)), (32, (.istore_n 3, 33, 3, 0)), (33, (.iload_n 3, 34, 3, 0)), (34, (.ifCond .eq 8, 37, 42, 0)), (37, (.iload_n 3, 38, 3, 0)), (38, (.invokestatic 161, 41, 0, 0)), (41, (.ireturn, 42, 0, 0)), (42, (.iinc 2 1, 45, 2, 1)), (45, (.goto (-38), 48, 7, 0)), (48, (.bipush (-4), 50, 0, (-4))), (50, (.ireturn, 51, 0, 0))]
theorem pX5_firstToLeave_ok : ∀ pc q, lkB pX5_firstToLeave pc = some q → xdec cX5_firstToLeave pc = some q := lkB_all (by decide +kernel)
def pX5_out : List (Nat × (Instr × Nat × Nat × Int32)) := [(0, (.iload_n 1, 1, 1, 0)), (1, (.invokestatic 110, 4, 0, 0)), (4, (.ifCond .ne 5, 7, 9, 0)), (7, (.iconst (-1), 8, 0, (-1))), (8, (.ireturn, 9, 0, 0)), (9, (.aload_n 0, 10, 0, 0)), (10, (.invokevirtual 58, 13, 0, 0)), (13, (.astore_n 2, 14, 2, 0)), (14, (.iconst 0, 15, 0, 0)), (15, (.istore_n 3, 16, 3, 0)), (16, (.iload_n 3, 17, 3, 0)), (17, (.bipush 60, 19, 0, 60)), (19, (.if_icmp .gt 25, 22, 44, 0)), (22, (.aload_n 2, 23, 2, 0)), (23, (.getfield 113, 26, 113, 0)), (26, (.iload_n 1, 27, 1, 0)), (27, (.iaload, 28, 0, 0)), (28, (.ifCond .ne 5, 31, 33, 0)), (31, (.iload_n 3, 32, 3, 0)), (32, (.ireturn, 33, 0, 0)), (33, (.aload_n 2, 34, 2, 0)), (34, (.iconst 1, 35, 0, 1)), (35, (.invokevirtual 136, 38, 0, 0)), (38, (.iinc 3 1, 41, 3, 1)), (41, (.goto (-25), 44, 16, 0)), (44, (.bipush (-4), 46, 0, (-4))), (46, (.ireturn, 47, 0, 0))]
theorem pX5_out_ok : ∀ pc q, lkB pX5_out pc = some q → xdec cX5_out pc = some q := lkB_all (by decide +kernel)
def pX5_table : List (Nat × (Instr × Nat × Nat × Int32)) := [(0, (.aload_n 0, 1, 0, 0)), (1, (.getfield 10, 4, 10, 0)), (4, (.iload_n 1, 5, 1, 0)), (5, (.invokevirtual 80, 8, 0, 0)), (8, (.ifCond .eq 12, 11, 20, 0)), (11, (.iload_n 2, 12, 2, 0)), (12, (.iconst 0, 13, 0, 0)), (13, (.iconst 1, 14, 0, 1)), (14, (.invokestatic 129, 17, 0, 0)), (17, (.ifCond .ne 5, 20, 22, 0)), (20, (.iconst (-1), 21, 0, (-1))), (21, (.ireturn, 22, 0, 0)), (22, (.iload_n 2, 23, 2, 0)), (23, (.ifCond .ne 12, 26, 35, 0)), (26, (.aload_n 0, 27, 0, 0)), (27, (.getfield 10, 30, 10, 0)), (30, (.iload_n 1, 31, 1, 0)), (31, (.invokevirtual 164, 34, 0, 0)), (34, (.ireturn, 35, 0, 0)), (35, (.aload_n 0, 36, 0, 0)), (36, (.invokevirtual 58, 39, 0, 0)), (39, (.astore_n 3, 40, 3, 0)), (40, (.aload_n 3, 41, 3, 0)), (41, (.iconst 1, 42, 0, 1)), (42, (.invokevirtual 136, 45, 0, 0)), (45, (.aload_n 3, 46, 3, 0)), (46, (.getfield 167, 49, 167, 0)), (49, (.iload_n 1, 50, 1, 0)), (50, (.ishr, 51, 0, 0)), (51, (.iconst 1, 52, 0, 1)), (52, (.iand, 53, 0, 0)), (53, (.ireturn, 54, 0, 0))]
theorem pX5_table_ok : ∀ pc q, lkB pX5_table pc = some q → xdec cX5_table pc = some q := lkB_all (by decide +kernel)
def pX5_bestWish : List (Nat × (Instr × Nat × Nat × Int32)) := [(0, (.aload_n 0, 1, 0, 0)), (1, (.getfield 10, 4, 10, 0)), (4, (.iload_n 1, 5, 1, 0)), (5, (.invokevirtual 80, 8, 0, 0)), (8, (.ifCond .eq 19, 11, 27, 0)), (11, (.iload_n 2, 12, 2, 0)), (12, (.invokestatic 148, 15, 0, 0)), (15, (.ifCond .eq 12, 18, 27, 0)), (18, (.iload_n 3, 19, 3, 0)), (19, (.iconst 0, 20, 0, 0)), (20, (.iconst 1, 21, 0, 1)), (21, (.invokestatic 129, 24, 0, 0)), (24, (.ifCond .ne 5, 27, 29, 0)), (27, (.iconst (-1), 28, 0, (-1))), (28, (.ireturn, 29, 0, 0)), (29, (.iconst 0, 30, 0, 0)), (30, (.istore 4, 32, 4, 0)), (32, (.iconst (-1), 33, 0, (-1))), (33, (.istore 5, 35, 5, 0)), (35, (.iconst 0, 36, 0, 0)), (36, (.istore 6, 38, 6, 0)), (38, (.iload 6, 40, 6, 0)), (40, (.bipush 10, 42, 0, 10)), (42, (.if_icmp .ge 55, 45, 97, 0)), (45, (.aload_n 0, 46, 0, 0)), (46, (.invokevirtual 58, 49, 0, 0)), (49, (.astore 7, 51, 7, 0)), (51, (.aload 7, 53, 7, 0)), (53, (.getfield 89, 56, 89, 0)), (56, (.iload_n 1, 57, 1, 0)), (57, (.iload 6, 59, 6, 0)), (59, (.iastore, 60, 0, 0)), (60, (.aload 7, 62, 7, 0)), (62, (.iload_n 2, 63, 2, 0)), (63, (.invokevirtual 136, 66, 0, 0)), (66, (.aload 7, 68, 7, 0)), (68, (.getfield 95, 71, 95, 0)), (71, (.iload_n 1, 72, 1, 0)), (72, (.iaload, 73, 0, 0)), (73, (.iload 5, 75, 5, 0)), (75, (.if_icmp .le 16, 78, 91, 0)), (78, (.aload 7, 80, 7, 0)), (80, (.getfield 95, 83, 95, 0)), (83, (.iload_n 1, 84, 1, 0)), (84, (.iaload, 85, 0, 0)), (85, (.istore 5, 87, 5, 0)), (87, (.iload 6, 89, 6, 0)), (89, (.istore 4, 91, 4, 0)), (91, (.iinc 6 1, 94, 6, 1)), (94, (.goto (-56), 97, 38, 0)), (97, (.iload_n 3, 98, 3, 0)), (98, (.ifCond .ne 8, 101, 106, 0)), (101, (.iload 4, 103, 4, 0)), (103, (.goto 5, 106, 108, 0)), (106, (.iload 5, 108, 5, 0)), (108, (.ireturn, 109, 0, 0))]
theorem pX5_bestWish_ok : ∀ pc q, lkB pX5_bestWish pc = some q → xdec cX5_bestWish pc = some q := lkB_all (by decide +kernel)
def pX5_buy : List (Nat × (Instr × Nat × Nat × Int32)) := [(0, (.iload_n 1, 1, 1, 0)), (1, (.invokestatic 148, 4, 0, 0)), (4, (.ifCond .ne 5, 7, 9, 0)), (7, (.iconst (-1), 8, 0, (-1))), (8, (.ireturn, 9, 0, 0)), (9, (.aload_n 0, 10, 0, 0)), (10, (.invokevirtual 58, 13, 0, 0)), (13, (.astore_n 2, 14, 2, 0)), (14, (.aload_n 2, 15, 2, 0)), (15, (.iload_n 1, 16, 1, 0)), (16, (.invokevirtual 136, 19, 0, 0)), (19, (.aload_n 2, 20, 2, 0)), (20, (.getfield 154, 23, 154, 0)), (23, (.istore_n 3, 24, 3, 0)), (24, (.bipush (-4), 26, 0, (-4))), (26, (.istore 4, 28, 4, 0)), (28, (.iconst 0, 29, 0, 0)), (29, (.istore 5, 31, 5, 0)), (31, (.iload 5, 33, 5, 0)), (33, (.bipush 10, 35, 0, 10)), (35, (.if_icmp .ge 43, 38, 78, 0)), (38, (.aload_n 0, 39, 0, 0)), (39, (.invokevirtual 58, 42, 0, 0)), (42, (.astore_n 2, 43, 2, 0)), (43, (.aload_n 2, 44, 2, 0)), (44, (.iload 5, 46, 5, 0)), (46, (.iconst 5, 47, 0, 5)), (47, (.invokevirtual 170, 50, 0, 0)), (50, (.aload_n 2, 51, 2, 0)), (51, (.iload_n 1, 52, 1, 0)), (52, (.invokevirtual 136, 55, 0, 0)), (55, (.aload_n 2, 56, 2, 0)), (56, (.getfield 154, 59, 154, 0)), (59, (.iload_n 3, 60, 3, 0)), (60, (.if_icmp .ge 12, 63, 72, 0)), (63, (.aload_n 2, 64, 2, 0)), (64, (.getfield 154, 67, 154, 0)), (67, (.istore_n 3, 68, 3, 0)), (68, (.iload 5, 70, 5, 0)), (70, (.istore 4, 72, 4, 0)), (72, (.iinc 5 1, 75, 5, 1)), (75, (.goto (-44), 78, 31, 0)), (78, (.iload 4, 80, 4, 0)), (80, (.ireturn, 81, 0, 0))]
theorem pX5_buy_ok : ∀ pc q, lkB pX5_buy pc = some q → xdec cX5_buy pc = some q := lkB_all (by decide +kernel)
def pX5_least : List (Nat × (Instr × Nat × Nat × Int32)) := [(0, (.iload_n 1, 1, 1, 0)), (1, (.invokestatic 110, 4, 0, 0)), (4, (.ifCond .eq 13, 7, 17, 0)), (7, (.iload_n 2, 8, 2, 0)), (8, (.iconst 1, 9, 0, 1)), (9, (.bipush 20, 11, 0, 20)), (11, (.invokestatic 129, 14, 0, 0)), (14, (.ifCond .ne 5, 17, 19, 0)), (17, (.iconst (-1), 18, 0, (-1))), (18, (.ireturn, 19, 0, 0)), (19, (.iconst 0, 20, 0, 0)), (20, (.istore_n 3, 21, 3, 0)), (21, (.bipush 100, 23, 0, 100)), (23, (.istore 4, 25, 4, 0)), (25, (.iconst 0, 26, 0, 0)), (26, (.istore 5, 28, 5, 0)), (28, (.iload 5, 30, 5, 0)), (30, (.bipush 99, 32, 0, 99)), (32, (.if_icmp .gt 46, 35, 78, 0)), (35, (.iload_n 3, 36, 3, 0)), (36, (.iload 4, 38, 4, 0)), (38, (.if_icmp .ge 40, 41, 78, 0)), (41, (.iload_n 3, 42, 3, 0)), (42, (.iload 4, 44, 4, 0)), (44, (.iadd, 45, 0, 0)), (45, (.iconst 2, 46, 0, 2)), (46, (.idiv, 47, 0, 0)), (47, (.istore 6, 49, 6, 0)), (49, (.aload_n 0, 50, 0, 0)), (50, (.iload_n 1, 51, 1, 0)), (51, (.iload 6, 53, 6, 0)), (53, (.iload_n 2, 54, 2, 0)), (54, (.invokevirtual 174, 57, 0, 0)), (57, (.ifCond .eq 10, 60, 67, 0)), (60, (.iload 6, 62, 6, 0)), (62, (.istore 4, 64, 4, 0)), (64, (.goto 8, 67, 72, 0)), (67, (.iload 6, 69, 6, 0)), (69, (.iconst 1, 70, 0, 1)), (70, (.iadd, 71, 0, 0)), (71, (.istore_n 3, 72, 3, 0)), (72, (.iinc 5 1, 75, 5, 1)), (75, (.goto (-47), 78, 28, 0)), (78, (.iload_n 3, 79, 3, 0)), (79, (.bipush 99, 81, 0, 99)), (81, (.if_icmp .le 8, 84, 89, 0)), (84, (.bipush (-4), 86, 0, (-4))), (86, (.goto 4, 89, 90, 0)), (89, (.iload_n 3, 90, 3, 0)), (90, (.ireturn, 91, 0, 0))]
theorem pX5_least_ok : ∀ pc q, lkB pX5_least pc = some q → xdec cX5_least pc = some q := lkB_all (by decide +kernel)
def pX5_suffices : List (Nat × (Instr × Nat × Nat × Int32)) := [(0, (.aload_n 0, 1, 0, 0)), (1, (.invokevirtual 58, 4, 0, 0)), (4, (.astore 4, 6, 4, 0)), (6, (.aload 4, 8, 4, 0)), (8, (.getfield 113, 11, 113, 0)), (11, (.iload_n 1, 12, 1, 0)), (12, (.iload_n 2, 13, 2, 0)), (13, (.iastore, 14, 0, 0)), (14, (.aload 4, 16, 4, 0)), (16, (.iload_n 3, 17, 3, 0)), (17, (.invokevirtual 177, 20, 0, 0)), (20, (.ireturn, 21, 0, 0))]
theorem pX5_suffices_ok : ∀ pc q, lkB pX5_suffices pc = some q → xdec cX5_suffices pc = some q := lkB_all (by decide +kernel)
def pX5_send : List (Nat × (Instr × Nat × Nat × Int32)) := [(0, (.iload_n 1, 1, 1, 0)), (1, (.invokestatic 148, 4, 0, 0)), (4, (.ifCond .ne 5, 7, 9, 0)), (7, (.iconst (-1), 8, 0, (-1))), (8, (.ireturn, 9, 0, 0)), (9, (.iconst (-1), 10, 0, (-1))), (10, (.istore_n 2, 11, 2, 0)), (11, (.bipush (-4), 13, 0, (-4))), (13, (.istore_n 3, 14, 3, 0)), (14, (.iconst 0, 15, 0, 0)), (15, (.istore 4, 17, 4, 0)), (17, (.iload 4, 19, 4, 0)), (19, (.aload_n 0, 20, 0, 0)), (20, (.getfield 10, 23, 10, 0)), (23, (.getfield 180, 26, 180, 0)), (26, (.if_icmp .ge 79, 29, 105, 0)), (29, (.aload_n 0, 30, 0, 0)), (30, (.getfield 10, 33, 10, 0)), (33, (.iload 4, 35, 4, 0)), (35, (.invokevirtual 98, 38, 0, 0)), (38, (.ifCond .eq 61, 41, 99, 0)), (41, (.aload_n 0, 42, 0, 0)), (42, (.getfield 10, 45, 10, 0)), (45, (.getfield 140, 48, 140, 0)), (48, (.iconst 1, 49, 0, 1)), (49, (.iload 4, 51, 4, 0)), (51, (.ishl, 52, 0, 0)), (52, (.iconst (-1), 53, 0, (-1))), (53, (.ixor, 54, 0, 0)), (54, (.iand, 55, 0, 0)), (55, (.istore 5, 57, 5, 0)), (57, (.aload_n 0, 58, 0, 0)), (58, (.iload 5, 60, 5, 0)), (60, (.iload 5, 62, 5, 0)), (62, (.iload_n 1, 63, 1, 0)), (63, (.invokevirtual 183, 66, 0, 0)), (66, (.istore 6, 68, 6, 0)), (68, (.iload 6, 70, 6, 0)), (70, (.iload_n 2, 71, 2, 0)), (71, (.if_icmp .le 28, 74, 99, 0)), (74, (.iload 6, 76, 6, 0)), (76, (.aload_n 0, 77, 0, 0)), (77, (.iload 5, 79, 5, 0)), (79, (.aload_n 0, 80, 0, 0)), (80, (.getfield 10, 83, 10, 0)), (83, (.getfield 140, 86, 140, 0)), (86, (.iload_n 1, 87, 1, 0)), (87, (.invokevirtual 183, 90, 0, 0)), (90, (.if_icmp .le 9, 93, 99, 0)), (93, (.iload 6, 95, 6, 0)), (95, (.istore_n 2, 96, 2, 0)), (96, (.iload 4, 98, 4, 0)), (98, (.istore_n 3, 99, 3, 0)), (99, (.iinc 4 1, 102, 4, 1)), (102, (.goto (-85), 105, 17, 0)), (105, (.iload_n 3, 106, 3, 0)), (106, (.ireturn, 107, 0, 0))]
theorem pX5_send_ok : ∀ pc q, lkB pX5_send pc = some q → xdec cX5_send pc = some q := lkB_all (by decide +kernel)
def pX5_healthThen : List (Nat × (Instr × Nat × Nat × Int32)) := [(0, (.aload_n 0, 1, 0, 0)), (1, (.invokevirtual 58, 4, 0, 0)), (4, (.astore 4, 6, 4, 0)), (6, (.aload 4, 8, 4, 0)), (8, (.iload_n 2, 9, 2, 0)), (9, (.putfield 140, 12, 140, 0)), (12, (.aload 4, 14, 4, 0)), (14, (.iload_n 3, 15, 3, 0)), (15, (.invokevirtual 136, 18, 0, 0)), (18, (.aload 4, 20, 4, 0)), (20, (.iload_n 1, 21, 1, 0)), (21, (.aload 4, 23, 4, 0)), (23, (.getfield 140, 26, 140, 0)), (26, (.iand, 27, 0, 0)), (27, (.invokevirtual 186, 30, 0, 0)), (30, (.ireturn, 31, 0, 0))]
theorem pX5_healthThen_ok : ∀ pc q, lkB pX5_healthThen pc = some q → xdec cX5_healthThen pc = some q := lkB_all (by decide +kernel)
def pX5_seats : List (Nat × (Instr × Nat × Nat × Int32)) := [(0, (.iload_n 1, 1, 1, 0)), (1, (.ifCond .ge 5, 4, 6, 0)), (4, (.iconst (-1), 5, 0, (-1))), (5, (.ireturn, 6, 0, 0)), (6, (.aload_n 0, 7, 0, 0)), (7, (.getfield 36, 10, 36, 0)), (10, (.aload_n 0, 11, 0, 0)), (11, (.getfield 10, 14, 10, 0)), (14, (.iload_n 1, 15, 1, 0)), (15, (.invokevirtual 189, 18, 0, 0)), (18, (.ireturn, 19, 0, 0))]
theorem pX5_seats_ok : ∀ pc q, lkB pX5_seats pc = some q → xdec cX5_seats pc = some q := lkB_all (by decide +kernel)
def pX5_same : List (Nat × (Instr × Nat × Nat × Int32)) := [(0, (.iload_n 1, 1, 1, 0)), (1, (.tableswitch 113 0 6 #[43, 51, 59, 67, 75, 83, 98], 44, 0, 0)), (44, (.aload_n 0, 45, 0, 0)), (45, (.getfield 10, 48, 10, 0)), (48, (.invokevirtual 193, 51, 0, 0)), (51, (.ireturn, 52, 0, 0)), (52, (.aload_n 0, 53, 0, 0)), (53, (.getfield 10, 56, 10, 0)), (56, (.invokevirtual 196, 59, 0, 0)), (59, (.ireturn, 60, 0, 0)), (60, (.aload_n 0, 61, 0, 0)), (61, (.getfield 10, 64, 10, 0)), (64, (.invokevirtual 199, 67, 0, 0)), (67, (.ireturn, 68, 0, 0)), (68, (.aload_n 0, 69, 0, 0)), (69, (.getfield 10, 72, 10, 0)), (72, (.invokevirtual 202, 75, 0, 0)), (75, (.ireturn, 76, 0, 0)), (76, (.aload_n 0, 77, 0, 0)), (77, (.getfield 10, 80, 10, 0)), (80, (.invokevirtual 205, 83, 0, 0)), (83, (.ireturn, 84, 0, 0)), (84, (.aload_n 0, 85, 0, 0)), (85, (.getfield 10, 88, 10, 0)), (88, (.aload_n 0, 89, 0, 0)), (89, (.getfield 10, 92, 10, 0)), (92, (.getfield 89, 95, 89, 0)), (95, (.invokevirtual 208, 98, 0, 0)), (98, (.ireturn, 99, 0, 0)), (99, (.aload_n 0, 100, 0, 0)), (100, (.getfield 10, 103, 10, 0)), (103, (.aload_n 0, 104, 0, 0)), (104, (.getfield 10, 107, 10, 0)), (107, (.getfield 92, 110, 92, 0)), (110, (.invokevirtual 208, 113, 0, 0)), (113, (.ireturn, 114, 0, 0)), (114, (.iconst (-1), 115, 0, (-1))), (115, (.ireturn, 116, 0, 0))]
theorem pX5_same_ok : ∀ pc q, lkB pX5_same pc = some q → xdec cX5_same pc = some q := lkB_all (by decide +kernel)
def pX5_whatIs : List (Nat × (Instr × Nat × Nat × Int32)) := [(0, (.aload_n 0, 1, 0, 0)), (1, (.getfield 10, 4, 10, 0)), (4, (.iload_n 2, 5, 2, 0)), (5, (.invokevirtual 80, 8, 0, 0)), (8, (.ifCond .eq 12, 11, 20, 0)), (11, (.iload_n 3, 12, 3, 0)), (12, (.iconst 0, 13, 0, 0)), (13, (.iconst 1, 14, 0, 1)), (14, (.invokestatic 129, 17, 0, 0)), (17, (.ifCond .ne 5, 20, 22, 0)), (20, (.iconst (-1), 21, 0, (-1))), (21, (.ireturn, 22, 0, 0)), (22, (.aload_n 0, 23, 0, 0)), (23, (.iload_n 1, 24, 1, 0)), (24, (.invokevirtual 44, 27, 0, 0)), (27, (.istore 4, 29, 4, 0)), (29, (.iload 4, 31, 4, 0)), (31, (.ifCond .eq 6, 34, 37, 0)), (34, (.iload 4, 36, 4, 0)), (36, (.ireturn, 37, 0, 0)), (37, (.iconst 0, 38, 0, 0)), (38, (.istore 5, 40, 5, 0)), (40, (.iload_n 3, 41, 3, 0)), (41, (.ifCond .ne 8, 44, 49, 0)), (44, (.bipush 8, 46, 0, 8)), (46, (.goto 5, 49, 51, 0)), (49, (.bipush 10, 51, 0, 10)), (51, (.istore 6, 53, 6, 0)), (53, (.iconst 0, 54, 0, 0)), (54, (.istore 7, 56, 7, 0)), (56, (.iload 7, 58, 7, 0)), (58, (.iload 6, 60, 6, 0)), (60, (.if_icmp .ge 64, 63, 124, 0)), (63, (.aload_n 0, 64, 0, 0)), (64, (.invokevirtual 58, 67, 0, 0)), (67, (.astore 8, 69, 8, 0)), (69, (.iload_n 3, 70, 3, 0)), (70, (.ifCond .ne 11, 73, 81, 0)), (73, (.aload 8, 75, 8, 0)), (75, (.getfield 83, 78, 83, 0)), (78, (.goto 8, 81, 86, 0)), (81, (.aload 8, 83, 8, 0)), (83, (.getfield 86, 86, 86, 0)), (86, (.astore 9, 88, 9, 0)), (88, (.aload 9, 90, 9, 0)), (90, (.iload_n 2, 91, 2, 0)), (91, (.iload 7, 93, 7, 0)), (93, (.iastore, 94, 0, 0)), (94, (.aload_n 0, 95, 0, 0)), (95, (.getfield 28, 98, 28, 0)), (98, (.iload_n 1, 99, 1, 0)), (99, (.aaload, 100, 0, 0)), (100, (.aload 8, 102, 8, 0)), (102, (.iload_n 2, 103, 2, 0)), (103, (.invokestatic 212, 106, 0, 0)), (106, (.ifCond .eq 12, 109, 118, 0)), (109, (.iload 5, 111, 5, 0)), (111, (.iconst 1, 112, 0, 1)), (112, (.iload 7, 114, 7, 0)), (114, (.ishl, 115, 0, 0)), (115, (.ior, 116, 0, 0)), (116, (.istore 5, 118, 5, 0)), (118, (.iinc 7 1, 121, 7, 1)), (121, (.goto (-65), 124, 56, 0)), (124, (.iload 5, 126, 5, 0)), (126, (.ireturn, 127, 0, 0))]
theorem pX5_whatIs_ok : ∀ pc q, lkB pX5_whatIs pc = some q → xdec cX5_whatIs pc = some q := lkB_all (by decide +kernel)
def pX5_healthsAreSo : List (Nat × (Instr × Nat × Nat × Int32)) := [(0, (.iconst 0, 1, 0, 0)), (1, (.istore_n 3, 2, 3, 0)), (2, (.iload_n 3, 3, 3, 0)), (3, (.aload_n 0, 4, 0, 0)), (4, (.getfield 62, 7, 62, 0)), (7, (.if_icmp .ge 30, 10, 37, 0)), (10, (.aload_n 0, 11, 0, 0)), (11, (.iload_n 3, 12, 3, 0)), (12, (.aload_n 1, 13, 1, 0)), (13, (.getfield 95, 16, 95, 0)), (16, (.iload_n 2, 17, 2, 0)), (17, (.iaload, 18, 0, 0)), (18, (.invokevirtual 216, 21, 0, 0)), (21, (.ifCond .ne 5, 24, 26, 0)), (24, (.iconst 0, 25, 0, 0)), (25, (.ireturn, 26, 0, 0)), (26, (.aload_n 1, 27, 1, 0)), (27, (.iconst 1, 28, 0, 1)), (28, (.invokevirtual 136, 31, 0, 0)), (31, (.iinc 3 1, 34, 3, 1)), (34, (.goto (-32), 37, 2, 0)), (37, (.iconst 1, 38, 0, 1)), (38, (.ireturn, 39, 0, 0))]
theorem pX5_healthsAreSo_ok : ∀ pc q, lkB pX5_healthsAreSo pc = some q → xdec cX5_healthsAreSo pc = some q := lkB_all (by decide +kernel)
def pX5_whatWish : List (Nat × (Instr × Nat × Nat × Int32)) := [(0, (.aload_n 0, 1, 0, 0)), (1, (.getfield 10, 4, 10, 0)), (4, (.iload_n 2, 5, 2, 0)), (5, (.invokevirtual 80, 8, 0, 0)), (8, (.ifCond .ne 5, 11, 13, 0)), (11, (.iconst (-1), 12, 0, (-1))), (12, (.ireturn, 13, 0, 0)), (13, (.aload_n 0, 14, 0, 0)), (14, (.iload_n 1, 15, 1, 0)), (15, (.invokevirtual 44, 18, 0, 0)), (18, (.istore_n 3, 19, 3, 0)), (19, (.iload_n 3, 20, 3, 0)), (20, (.ifCond .eq 5, 23, 25, 0)), (23, (.iload_n 3, 24, 3, 0)), (24, (.ireturn, 25, 0, 0)), (25, (.iconst 0, 26, 0, 0)), (26, (.istore 4, 28, 4, 0)), (28, (.iconst 0, 29, 0, 0)), (29, (.istore 5, 31, 5, 0)), (31, (.iload 5, 33, 5, 0)), (33, (.bipush 10, 35, 0, 10)), (35, (.if_icmp .ge 48, 38, 83, 0)), (38, (.aload_n 0, 39, 0, 0)), (39, (.invokevirtual 58, 42, 0, 0)), (42, (.astore 6, 44, 6, 0)), (44, (.aload 6, 46, 6, 0)), (46, (.getfield 89, 49, 89, 0)), (49, (.iload_n 2, 50, 2, 0)), (50, (.iload 5, 52, 5, 0)), (52, (.iastore, 53, 0, 0)), (53, (.aload_n 0, 54, 0, 0)), (54, (.getfield 28, 57, 28, 0)), (57, (.iload_n 1, 58, 1, 0)), (58, (.aaload, 59, 0, 0)), (59, (.aload 6, 61, 6, 0)), (61, (.iload_n 2, 62, 2, 0)), (62, (.invokestatic 220, 65, 0, 0)), (65, (.ifCond .eq 12, 68, 77, 0)), (68, (.iload 4, 70, 4, 0)), (70, (.iconst 1, 71, 0, 1)), (71, (.iload 5, 73, 5, 0)), (73, (.ishl, 74, 0, 0)), (74, (.ior, 75, 0, 0)), (75, (.istore 4, 77, 4, 0)), (77, (.iinc 5 1, 80, 5, 1)), (80, (.goto (-49), 83, 31, 0)), (83, (.iload 4, 85, 4, 0)), (85, (.ireturn, 86, 0, 0))]
theorem pX5_whatWish_ok : ∀ pc q, lkB pX5_whatWish pc = some q → xdec cX5_whatWish pc = some q := lkB_all (by decide +kernel)
def pX5_lastPlatesAreSo : List (Nat × (Instr × Nat × Nat × Int32)) := [(0, (.iconst 0, 1, 0, 0)), (1, (.istore_n 3, 2, 3, 0)), (2, (.iload_n 3, 3, 3, 0)), (3, (.aload_n 0, 4, 0, 0)), (4, (.getfield 62, 7, 62, 0)), (7, (.if_icmp .ge 30, 10, 37, 0)), (10, (.aload_n 1, 11, 1, 0)), (11, (.iconst 1, 12, 0, 1)), (12, (.invokevirtual 136, 15, 0, 0)), (15, (.aload_n 0, 16, 0, 0)), (16, (.iload_n 3, 17, 3, 0)), (17, (.aload_n 1, 18, 1, 0)), (18, (.getfield 92, 21, 92, 0)), (21, (.iload_n 2, 22, 2, 0)), (22, (.iaload, 23, 0, 0)), (23, (.invokevirtual 216, 26, 0, 0)), (26, (.ifCond .ne 5, 29, 31, 0)), (29, (.iconst 0, 30, 0, 0)), (30, (.ireturn, 31, 0, 0)), (31, (.iinc 3 1, 34, 3, 1)), (34, (.goto (-32), 37, 2, 0)), (37, (.iconst 1, 38, 0, 1)), (38, (.ireturn, 39, 0, 0))]
theorem pX5_lastPlatesAreSo_ok : ∀ pc q, lkB pX5_lastPlatesAreSo pc = some q → xdec cX5_lastPlatesAreSo pc = some q := lkB_all (by decide +kernel)
def pX5_two : List (Nat × (Instr × Nat × Nat × Int32)) := [(0, (.aload_n 0, 1, 0, 0)), (1, (.getfield 10, 4, 10, 0)), (4, (.iload_n 1, 5, 1, 0)), (5, (.invokevirtual 80, 8, 0, 0)), (8, (.ifCond .eq 29, 11, 37, 0)), (11, (.aload_n 0, 12, 0, 0)), (12, (.getfield 10, 15, 10, 0)), (15, (.iload_n 2, 16, 2, 0)), (16, (.invokevirtual 80, 19, 0, 0)), (19, (.ifCond .eq 18, 22, 37, 0)), (22, (.iload_n 1, 23, 1, 0)), (23, (.iload_n 2, 24, 2, 0)), (24, (.if_icmp .eq 13, 27, 37, 0)), (27, (.iload_n 3, 28, 3, 0)), (28, (.iconst 1, 29, 0, 1)), (29, (.bipush 30, 31, 0, 30)), (31, (.invokestatic 129, 34, 0, 0)), (34, (.ifCond .ne 5, 37, 39, 0)), (37, (.iconst (-1), 38, 0, (-1))), (38, (.ireturn, 39, 0, 0)), (39, (.aload_n 0, 40, 0, 0)), (40, (.getfield 10, 43, 10, 0)), (43, (.iload_n 1, 44, 1, 0)), (44, (.invokevirtual 98, 47, 0, 0)), (47, (.ifCond .eq 14, 50, 61, 0)), (50, (.aload_n 0, 51, 0, 0)), (51, (.getfield 10, 54, 10, 0)), (54, (.iload_n 2, 55, 2, 0)), (55, (.invokevirtual 98, 58, 0, 0)), (58, (.ifCond .ne 6, 61, 64, 0)), (61, (.bipush (-3), 63, 0, (-3))), (63, (.ireturn, 64, 0, 0)), (64, (.iconst 0, 65, 0, 0)), (65, (.istore 4, 67, 4, 0)), (67, (.iload 4, 69, 4, 0)), (69, (.iconst 4, 70, 0, 4)), (70, (.if_icmp .ge 18, 73, 88, 0)), (73, (.aload_n 0, 74, 0, 0)), (74, (.iload_n 1, 75, 1, 0)), (75, (.iload_n 2, 76, 2, 0)), (76, (.iload_n 3, 77, 3, 0)), (77, (.iload 4, 79, 4, 0)), (79, (.invokevirtual 223, 82, 0, 0)), (82, (.iinc 4 1, 85, 4, 1)), (85, (.goto (-18), 88, 67, 0)), (88, (.iconst 0, 89, 0, 0)), (89, (.istore 4, 91, 4, 0)), (91, (.iload 4, 93, 4, 0)), (93, (.iconst 4, 94, 0, 4)), (94, (.if_icmp .ge 88, 97, 182, 0)), (97, (.aload_n 0, 98, 0, 0)), (98, (.getfield 40, 101, 40, 0)), (101, (.iload 4, 103, 4, 0)), (103, (.iaload, 104, 0, 0)), (104, (.aload_n 0, 105, 0, 0)), (105, (.getfield 40, 108, 40, 0)), (108, (.iload 4, 110, 4, 0)), (110, (.iconst 2, 111, 0, 2)), (111, (.ixor, 112, 0, 0)), (112, (.iaload, 113, 0, 0)), (113, (.if_icmp .lt 7, 116, 120, 0)), (116, (.iconst 1, 117, 0, 1)), (117, (.goto 4, 120, 121, 0)), (120, (.iconst 0, 121, 0, 0)), (121, (.istore 5, 123, 5, 0)), (123, (.aload_n 0, 124, 0, 0)), (124, (.getfield 40, 127, 40, 0)), (127, (.iconst 4, 128, 0, 4)), (128, (.iload 4, 130, 4, 0)), (130, (.iadd, 131, 0, 0)), (131, (.iaload, 132, 0, 0)), (132, (.aload_n 0, 133, 0, 0)), (133, (.getfield 40, 136, 40, 0)), (136, (.iconst 4, 137, 0, 4)), (137, (.iload 4, 139, 4, 0)), (139, (.iconst 1, 140, 0, 1)), (140, (.ixor, 141, 0, 0)), (141, (.iadd, 142, 0, 0)), (142, (.iaload, 143, 0, 0)), (143, (.if_icmp .lt 7, 146, 150, 0)), (146, (.iconst 1, 147, 0, 1)), (147, (.goto 4, 150, 151, 0)), (150, (.iconst 0, 151, 0, 0)), (151, (.istore 6, 153, 6, 0)), (153, (.iload 5, 155, 5, 0)), (155, (.ifCond .eq 21, 158, 176, 0)), (158, (.iload 6, 160, 6, 0)), (160, (.ifCond .eq 16, 163, 176, 0)), (163, (.bipush 10, 165, 0, 10)), (165, (.iload 4, 167, 4, 0)), (167, (.iconst 1, 168, 0, 1)), (168, (.ishr, 169, 0, 0)), (169, (.imul, 170, 0, 0)), (170, (.iload 4, 172, 4, 0)), (172, (.iconst 1, 173, 0, 1)), (173, (.iand, 174, 0, 0)), (174, (.iadd, 175, 0, 0)), (175, (.ireturn, 176, 0, 0)), (176, (.iinc 4 1, 179, 4, 1)), (179, (.goto (-88), 182, 91, 0)), (182, (.bipush (-4), 184, 0, (-4))), (184, (.ireturn, 185, 0, 0))]
theorem pX5_two_ok : ∀ pc q, lkB pX5_two pc = some q → xdec cX5_two pc = some q := lkB_all (by decide +kernel)
def pX5_choose : List (Nat × (Instr × Nat × Nat × Int32)) := [(0, (.iload 4, 2, 4, 0)), (2, (.iconst 2, 3, 0, 2)), (3, (.iand, 4, 0, 0)), (4, (.ifCond .eq 7, 7, 11, 0)), (7, (.iconst 1, 8, 0, 1)), (8, (.goto 4, 11, 12, 0)), (11, (.iconst 0, 12, 0, 0)), (12, (.istore 5, 14, 5, 0)), (14, (.iload 4, 16, 4, 0)), (16, (.iconst 1, 17, 0, 1)), (17, (.iand, 18, 0, 0)), (18, (.ifCond .eq 7, 21, 25, 0)), (21, (.iconst 1, 22, 0, 1)), (22, (.goto 4, 25, 26, 0)), (25, (.iconst 0, 26, 0, 0)), (26, (.istore 6, 28, 6, 0)), (28, (.iload 5, 30, 5, 0)), (30, (.ifCond .eq 7, 33, 37, 0)), (33, (.iconst 0, 34, 0, 0)), (34, (.goto 6, 37, 40, 0)), (37, (.iconst 1, 38, 0, 1)), (38, (.iload_n 1, 39, 1, 0)), (39, (.ishl, 40, 0, 0)), (40, (.iload 6, 42, 6, 0)), (42, (.ifCond .eq 7, 45, 49, 0)), (45, (.iconst 0, 46, 0, 0)), (46, (.goto 6, 49, 52, 0)), (49, (.iconst 1, 50, 0, 1)), (50, (.iload_n 2, 51, 2, 0)), (51, (.ishl, 52, 0, 0)), (52, (.ior, 53, 0, 0)), (53, (.istore 7, 55, 7, 0)), (55, (.aload_n 0, 56, 0, 0)), (56, (.invokevirtual 58, 59, 0, 0)), (59, (.astore 8, 61, 8, 0)), (61, (.aload 8, 63, 8, 0)), (63, (.iconst 0, 64, 0, 0)), (64, (.iload 7, 66, 7, 0)), (66, (.invokevirtual 227, 69, 0, 0)), (69, (.aload 8, 71, 8, 0)), (71, (.iload_n 3, 72, 3, 0)), (72, (.iconst 1, 73, 0, 1)), (73, (.isub, 74, 0, 0)), (74, (.invokevirtual 136, 77, 0, 0)), (77, (.aload_n 0, 78, 0, 0)), (78, (.getfield 40, 81, 40, 0)), (81, (.iload 4, 83, 4, 0)), (83, (.aload 8, 85, 8, 0)), (85, (.getfield 95, 88, 95, 0)), (88, (.iload_n 1, 89, 1, 0)), (89, (.iaload, 90, 0, 0)), (90, (.iload 5, 92, 5, 0)), (92, (.ifCond .eq 7, 95, 99, 0)), (95, (.iconst 0, 96, 0, 0)), (96, (.goto 4, 99, 100, 0)), (99, (.iconst 2, 100, 0, 2)), (100, (.isub, 101, 0, 0)), (101, (.iastore, 102, 0, 0)), (102, (.aload_n 0, 103, 0, 0)), (103, (.getfield 40, 106, 40, 0)), (106, (.iconst 4, 107, 0, 4)), (107, (.iload 4, 109, 4, 0)), (109, (.iadd, 110, 0, 0)), (110, (.aload 8, 112, 8, 0)), (112, (.getfield 95, 115, 95, 0)), (115, (.iload_n 2, 116, 2, 0)), (116, (.iaload, 117, 0, 0)), (117, (.iload 6, 119, 6, 0)), (119, (.ifCond .eq 7, 122, 126, 0)), (122, (.iconst 0, 123, 0, 0)), (123, (.goto 4, 126, 127, 0)), (126, (.iconst 2, 127, 0, 2)), (127, (.isub, 128, 0, 0)), (128, (.iastore, 129, 0, 0)), (129, (.return_, 130, 0, 0))]
theorem pX5_choose_ok : ∀ pc q, lkB pX5_choose pc = some q → xdec cX5_choose pc = some q := lkB_all (by decide +kernel)
def pX5_mares : List (Nat × (Instr × Nat × Nat × Int32)) := [(0, (.aload_n 0, 1, 0, 0)), (1, (.getfield 10, 4, 10, 0)), (4, (.iload_n 1, 5, 1, 0)), (5, (.invokevirtual 80, 8, 0, 0)), (8, (.ifCond .eq 23, 11, 31, 0)), (11, (.iload_n 2, 12, 2, 0)), (12, (.iconst 0, 13, 0, 0)), (13, (.bipush 7, 15, 0, 7)), (15, (.invokestatic 129, 18, 0, 0)), (18, (.ifCond .eq 13, 21, 31, 0)), (21, (.iload_n 3, 22, 3, 0)), (22, (.iconst 2, 23, 0, 2)), (23, (.bipush 20, 25, 0, 20)), (25, (.invokestatic 129, 28, 0, 0)), (28, (.ifCond .ne 8, 31, 36, 0)), (31, (.iconst (-1), 32, 0, (-1))), (32, (.invokestatic 231, 35, 0, 0)), (35, (.lreturn, 36, 0, 0)), (36, (.iload 4, 38, 4, 0)), (38, (.iconst 0, 39, 0, 0)), (39, (.bipush 99, 41, 0, 99)), (41, (.invokestatic 129, 44, 0, 0)), (44, (.ifCond .eq 13, 47, 57, 0)), (47, (.iload 5, 49, 5, 0)), (49, (.iconst 0, 50, 0, 0)), (50, (.iconst 1, 51, 0, 1)), (51, (.invokestatic 129, 54, 0, 0)), (54, (.ifCond .ne 8, 57, 62, 0)), (57, (.iconst (-1), 58, 0, (-1))), (58, (.invokestatic 231, 61, 0, 0)), (61, (.lreturn, 62, 0, 0)), (62, (.lconst 0, 63, 0, 0)), (63, (.lstore 6, 65, 6, 0)), (65, (.lconst 0, 66, 0, 0)), (66, (.lstore 8, 68, 8, 0)), (68, (.iconst 0, 69, 0, 0)), (69, (.istore 10, 71, 10, 0)), (71, (.iload 10, 73, 10, 0)), (73, (.iconst 1, 74, 0, 1)), (74, (.iload_n 2, 75, 2, 0)), (75, (.ishl, 76, 0, 0)), (76, (.if_icmp .ge 106, 79, 182, 0)), (79, (.aload_n 0, 80, 0, 0)), (80, (.invokevirtual 58, 83, 0, 0)), (83, (.astore 11, 85, 11, 0)), (85, (.lconst 1, 86, 0, 1)), (86, (.lstore 12, 88, 12, 0)), (88, (.iconst 0, 89, 0, 0)), (89, (.istore 14, 91, 14, 0)), (91, (.iload 14, 93, 14, 0)), (93, (.iload_n 2, 94, 2, 0)), (94, (.if_icmp .ge 52, 97, 146, 0)), (97, (.iload 10, 99, 10, 0)), (99, (.iload 14, 101, 14, 0)), (101, (.ishr, 102, 0, 0)), (102, (.iconst 1, 103, 0, 1)), (103, (.iand, 104, 0, 0)), (104, (.ifCond .eq 7, 107, 111, 0)), (107, (.iconst 1, 108, 0, 1)), (108, (.goto 4, 111, 112, 0)), (111, (.iconst 0, 112, 0, 0)), (112, (.istore 15, 114, 15, 0)), (114, (.aload 11, 116, 11, 0)), (116, (.iload 15, 118, 15, 0)), (118, (.iconst 0, 119, 0, 0)), (119, (.invokevirtual 227, 122, 0, 0)), (122, (.lload 12, 124, 12, 0)), (124, (.iload 15, 126, 15, 0)), (126, (.ifCond .eq 7, 129, 133, 0)), (129, (.lconst 1, 130, 0, 1)), (130, (.goto 7, 133, 137, 0)), (133, (.iload_n 3, 134, 3, 0)), (134, (.iconst 1, 135, 0, 1)), (135, (.isub, 136, 0, 0)), (136, (.i2l, 137, 0, 0)), (137, (.lmul, 138, 0, 0)), (138, (.lstore 12, 140, 12, 0)), (140, (.iinc 14 1, 143, 14, 1)), (143, (.goto (-52), 146, 91, 0)), (146, (.lload 8, 148, 8, 0)), (148, (.lload 12, 150, 12, 0)), (150, (.ladd, 151, 0, 0)), (151, (.lstore 8, 153, 8, 0)), (153, (.lload 6, 155, 6, 0)), (155, (.aload 11, 157, 11, 0)), (157, (.getfield 95, 160, 95, 0)), (160, (.iload_n 1, 161, 1, 0)), (161, (.iaload, 162, 0, 0)), (162, (.iload 4, 164, 4, 0)), (164, (.if_icmp .lt 8, 167, 172, 0)), (167, (.lload 12, 169, 12, 0)), (169, (.goto 4, 172, 173, 0)), (172, (.lconst 0, 173, 0, 0)), (173, (.ladd, 174, 0, 0)), (174, (.lstore 6, 176, 6, 0)), (176, (.iinc 10 1, 179, 10, 1)), (179, (.goto (-108), 182, 71, 0)), (182, (.lload 6, 184, 6, 0)), (184, (.lload 8, 186, 8, 0)), (186, (.iload 5, 188, 5, 0)), (188, (.invokestatic 235, 191, 0, 0)), (191, (.lreturn, 192, 0, 0))]
theorem pX5_mares_ok : ∀ pc q, lkB pX5_mares pc = some q → xdec cX5_mares pc = some q := lkB_all (by decide +kernel)
def pX5_mean : List (Nat × (Instr × Nat × Nat × Int32)) := [(0, (.iload_n 1, 1, 1, 0)), (1, (.iconst 0, 2, 0, 0)), (2, (.iconst 1, 3, 0, 1)), (3, (.invokestatic 129, 6, 0, 0)), (6, (.ifCond .ne 8, 9, 14, 0)), (9, (.iconst (-1), 10, 0, (-1))), (10, (.invokestatic 231, 13, 0, 0)), (13, (.lreturn, 14, 0, 0)), (14, (.aload_n 0, 15, 0, 0)), (15, (.getfield 10, 18, 10, 0)), (18, (.aload_n 0, 19, 0, 0)), (19, (.getfield 10, 22, 10, 0)), (22, (.getfield 140, 25, 140, 0)), (25, (.invokevirtual 186, 28, 0, 0)), (28, (.i2l, 29, 0, 0)), (29, (.aload_n 0, 30, 0, 0)), (30, (.getfield 10, 33, 10, 0)), (33, (.getfield 140, 36, 140, 0)), (36, (.invokestatic 143, 39, 0, 0)), (39, (.i2l, 40, 0, 0)), (40, (.iload_n 1, 41, 1, 0)), (41, (.invokestatic 235, 44, 0, 0)), (44, (.lreturn, 45, 0, 0))]
theorem pX5_mean_ok : ∀ pc q, lkB pX5_mean pc = some q → xdec cX5_mean pc = some q := lkB_all (by decide +kernel)
def pX5_forged : List (Nat × (Instr × Nat × Nat × Int32)) := [(0, (.aload_n 0, 1, 0, 0)), (1, (.iload_n 1, 2, 1, 0)), (2, (.invokevirtual 44, 5, 0, 0)), (5, (.istore_n 2, 6, 2, 0)), (6, (.iload_n 2, 7, 2, 0)), (7, (.ifCond .eq 5, 10, 12, 0)), (10, (.iload_n 2, 11, 2, 0)), (11, (.ireturn, 12, 0, 0)), (12, (.aload_n 0, 13, 0, 0)), (13, (.getfield 28, 16, 28, 0)), (16, (.iload_n 1, 17, 1, 0)), (17, (.aaload, 18, 0, 0)), (18, (.astore_n 3, 19, 3, 0)), (19, (.iconst 0, 20, 0, 0)), (20, (.istore 4, 22, 4, 0)), (22, (.iload 4, 24, 4, 0)), (24, (.aload_n 3, 25, 3, 0)), (25, (.getfield 62, 28, 62, 0)), (28, (.if_icmp .ge 40, 31, 68, 0)), (31, (.iload 4, 33, 4, 0)), (33, (.invokestatic 110, 36, 0, 0)), (36, (.ifCond .eq 23, 39, 59, 0)), (39, (.aload_n 3, 40, 3, 0)), (40, (.getfield 65, 43, 65, 0)), (43, (.iload 4, 45, 4, 0)), (45, (.iaload, 46, 0, 0)), (46, (.aload_n 0, 47, 0, 0)), (47, (.getfield 10, 50, 10, 0)), (50, (.getfield 113, 53, 113, 0)), (53, (.iload 4, 55, 4, 0)), (55, (.iaload, 56, 0, 0)), (56, (.if_icmp .eq 6, 59, 62, 0)), (59, (.iload 4, 61, 4, 0)), (61, (.ireturn, 62, 0, 0)), (62, (.iinc 4 1, 65, 4, 1)), (65, (.goto (-43), 68, 22, 0)), (68, (.bipush (-4), 70, 0, (-4))), (70, (.ireturn, 71, 0, 0))]
theorem pX5_forged_ok : ∀ pc q, lkB pX5_forged pc = some q → xdec cX5_forged pc = some q := lkB_all (by decide +kernel)
def pX5_judge : List (Nat × (Instr × Nat × Nat × Int32)) := [(0, (.aload_n 0, 1, 0, 0)), (1, (.iload_n 1, 2, 1, 0)), (2, (.invokevirtual 44, 5, 0, 0)), (5, (.istore_n 2, 6, 2, 0)), (6, (.iload_n 2, 7, 2, 0)), (7, (.ifCond .eq 5, 10, 12, 0)), (10, (.iload_n 2, 11, 2, 0)), (11, (.ireturn, 12, 0, 0)), (12, (.aload_n 0, 13, 0, 0)), (13, (.getfield 28, 16, 28, 0)), (16, (.iload_n 1, 17, 1, 0)), (17, (.aaload, 18, 0, 0)), (18, (.astore_n 3, 19, 3, 0)), (19, (.aload_n 0, 20, 0, 0)), (20, (.invokevirtual 58, 23, 0, 0)), (23, (.astore 4, 25, 4, 0)), (25, (.iconst 0, 26, 0, 0)), (26, (.istore 5, 28, 5, 0)), (28, (.iload 5, 30, 5, 0)), (30, (.aload_n 3, 31, 3, 0)), (31, (.getfield 62, 34, 62, 0)), (34, (.if_icmp .ge 32, 37, 66, 0)), (37, (.aload_n 3, 38, 3, 0)), (38, (.iload 5, 40, 5, 0)), (40, (.aload 4, 42, 4, 0)), (42, (.invokevirtual 202, 45, 0, 0)), (45, (.invokevirtual 216, 48, 0, 0)), (48, (.ifCond .ne 6, 51, 54, 0)), (51, (.iload 5, 53, 5, 0)), (53, (.ireturn, 54, 0, 0)), (54, (.aload 4, 56, 4, 0)), (56, (.iconst 1, 57, 0, 1)), (57, (.invokevirtual 136, 60, 0, 0)), (60, (.iinc 5 1, 63, 5, 1)), (63, (.goto (-35), 66, 28, 0)), (66, (.bipush (-4), 68, 0, (-4))), (68, (.ireturn, 69, 0, 0))]
theorem pX5_judge_ok : ∀ pc q, lkB pX5_judge pc = some q → xdec cX5_judge pc = some q := lkB_all (by decide +kernel)
def pX5_years : List (Nat × (Instr × Nat × Nat × Int32)) := [(0, (.iload_n 1, 1, 1, 0)), (1, (.iconst 1, 2, 0, 1)), (2, (.bipush 20, 4, 0, 20)), (4, (.invokestatic 129, 7, 0, 0)), (7, (.ifCond .eq 12, 10, 19, 0)), (10, (.iload_n 3, 11, 3, 0)), (11, (.iconst 0, 12, 0, 0)), (12, (.iconst 1, 13, 0, 1)), (13, (.invokestatic 129, 16, 0, 0)), (16, (.ifCond .ne 5, 19, 21, 0)), (19, (.iconst (-1), 20, 0, (-1))), (20, (.ireturn, 21, 0, 0)), (21, (.iload_n 2, 22, 2, 0)), (22, (.istore 4, 24, 4, 0)), (24, (.iconst 0, 25, 0, 0)), (25, (.istore 5, 27, 5, 0)), (27, (.iconst 0, 28, 0, 0)), (28, (.istore 6, 30, 6, 0)), (30, (.iload 6, 32, 6, 0)), (32, (.iload_n 1, 33, 1, 0)), (33, (.if_icmp .ge 90, 36, 123, 0)), (36, (.aload_n 0, 37, 0, 0)), (37, (.invokevirtual 58, 40, 0, 0)), (40, (.astore 7, 42, 7, 0)), (42, (.aload 7, 44, 7, 0)), (44, (.getfield 89, 47, 89, 0)), (47, (.aload 7, 49, 7, 0)), (49, (.getfield 180, 52, 180, 0)), (52, (.bipush 10, 54, 0, 10)), (54, (.iload 4, 56, 4, 0)), (56, (.invokestatic 239, 59, 0, 0)), (59, (.istore 4, 61, 4, 0)), (61, (.aload 7, 63, 7, 0)), (63, (.getfield 113, 66, 113, 0)), (66, (.bipush 10, 68, 0, 10)), (68, (.bipush 6, 70, 0, 6)), (70, (.iload 4, 72, 4, 0)), (72, (.invokestatic 239, 75, 0, 0)), (75, (.istore 4, 77, 4, 0)), (77, (.aload 7, 79, 7, 0)), (79, (.bipush 12, 81, 0, 12)), (81, (.invokevirtual 136, 84, 0, 0)), (84, (.iload 5, 86, 5, 0)), (86, (.iload_n 3, 87, 3, 0)), (87, (.ifCond .ne 19, 90, 106, 0)), (90, (.aload 7, 92, 7, 0)), (92, (.getfield 151, 95, 151, 0)), (95, (.aload_n 0, 96, 0, 0)), (96, (.getfield 10, 99, 10, 0)), (99, (.getfield 151, 102, 151, 0)), (102, (.isub, 103, 0, 0)), (103, (.goto 11, 106, 114, 0)), (106, (.aload 7, 108, 7, 0)), (108, (.getfield 140, 111, 140, 0)), (111, (.invokestatic 143, 114, 0, 0)), (114, (.iadd, 115, 0, 0)), (115, (.istore 5, 117, 5, 0)), (117, (.iinc 6 1, 120, 6, 1)), (120, (.goto (-90), 123, 30, 0)), (123, (.iload 5, 125, 5, 0)), (125, (.ireturn, 126, 0, 0))]
theorem pX5_years_ok : ∀ pc q, lkB pX5_years pc = some q → xdec cX5_years pc = some q := lkB_all (by decide +kernel)
def pX5_drawInto : List (Nat × (Instr × Nat × Nat × Int32)) := [(0, (.iload_n 3, 1, 3, 0)), (1, (.istore 4, 3, 4, 0)), (3, (.iconst 0, 4, 0, 0)), (4, (.istore 5, 6, 5, 0)), (6, (.iload 5, 8, 5, 0)), (8, (.iload_n 1, 9, 1, 0)), (9, (.if_icmp .ge 49, 12, 58, 0)), (12, (.iload 5, 14, 5, 0)), (14, (.aload_n 0, 15, 0, 0)), (15, (.arraylength, 16, 0, 0)), (16, (.if_icmp .ge 42, 19, 58, 0)), (19, (.iload 4, 21, 4, 0)), (21, (.ldc 243, 23, 243, 0)), (23, (.imul, 24, 0, 0)), (24, (.sipush 12345, 27, 0, 12345)), (27, (.iadd, 28, 0, 0)), (28, (.istore 4, 30, 4, 0)), (30, (.aload_n 0, 31, 0, 0)), (31, (.iload 5, 33, 5, 0)), (33, (.iload_n 2, 34, 2, 0)), (34, (.ifCond .le 16, 37, 50, 0)), (37, (.iload 4, 39, 4, 0)), (39, (.ldc 244, 41, 244, 0)), (41, (.iand, 42, 0, 0)), (42, (.ldc 245, 44, 245, 0)), (44, (.idiv, 45, 0, 0)), (45, (.iload_n 2, 46, 2, 0)), (46, (.irem, 47, 0, 0)), (47, (.goto 4, 50, 51, 0)), (50, (.iconst 0, 51, 0, 0)), (51, (.iastore, 52, 0, 0)), (52, (.iinc 5 1, 55, 5, 1)), (55, (.goto (-49), 58, 6, 0)), (58, (.iload 4, 60, 4, 0)), (60, (.ireturn, 61, 0, 0))]
theorem pX5_drawInto_ok : ∀ pc q, lkB pX5_drawInto pc = some q → xdec cX5_drawInto pc = some q := lkB_all (by decide +kernel)
def pX5_image : List (Nat × (Instr × Nat × Nat × Int32)) := [(0, (.aload_n 0, 1, 0, 0)), (1, (.getfield 19, 4, 19, 0)), (4, (.aload_n 0, 5, 0, 0)), (5, (.getfield 10, 8, 10, 0)), (8, (.invokevirtual 76, 11, 0, 0)), (11, (.aload_n 0, 12, 0, 0)), (12, (.iconst 1, 13, 0, 1)), (13, (.putfield 22, 16, 22, 0)), (16, (.aload_n 0, 17, 0, 0)), (17, (.getfield 10, 20, 10, 0)), (20, (.getfield 133, 23, 133, 0)), (23, (.ireturn, 24, 0, 0))]
theorem pX5_image_ok : ∀ pc q, lkB pX5_image pc = some q → xdec cX5_image pc = some q := lkB_all (by decide +kernel)
def pX5_restore : List (Nat × (Instr × Nat × Nat × Int32)) := [(0, (.aload_n 0, 1, 0, 0)), (1, (.getfield 22, 4, 22, 0)), (4, (.ifCond .ne 6, 7, 10, 0)), (7, (.bipush (-3), 9, 0, (-3))), (9, (.ireturn, 10, 0, 0)), (10, (.aload_n 0, 11, 0, 0)), (11, (.getfield 10, 14, 10, 0)), (14, (.aload_n 0, 15, 0, 0)), (15, (.getfield 19, 18, 19, 0)), (18, (.invokevirtual 76, 21, 0, 0)), (21, (.aload_n 0, 22, 0, 0)), (22, (.getfield 10, 25, 10, 0)), (25, (.getfield 133, 28, 133, 0)), (28, (.ireturn, 29, 0, 0))]
theorem pX5_restore_ok : ∀ pc q, lkB pX5_restore pc = some q → xdec cX5_restore pc = some q := lkB_all (by decide +kernel)
def pX5_count : List (Nat × (Instr × Nat × Nat × Int32)) := [(0, (.iload_n 1, 1, 1, 0)), (1, (.tableswitch 87 0 5 #[39, 47, 55, 63, 71, 79], 40, 0, 0)), (40, (.aload_n 0, 41, 0, 0)), (41, (.getfield 10, 44, 10, 0)), (44, (.getfield 180, 47, 180, 0)), (47, (.ireturn, 48, 0, 0)), (48, (.aload_n 0, 49, 0, 0)), (49, (.getfield 10, 52, 10, 0)), (52, (.getfield 133, 55, 133, 0)), (55, (.ireturn, 56, 0, 0)), (56, (.aload_n 0, 57, 0, 0)), (57, (.getfield 10, 60, 10, 0)), (60, (.getfield 151, 63, 151, 0)), (63, (.ireturn, 64, 0, 0)), (64, (.aload_n 0, 65, 0, 0)), (65, (.getfield 10, 68, 10, 0)), (68, (.getfield 154, 71, 154, 0)), (71, (.ireturn, 72, 0, 0)), (72, (.aload_n 0, 73, 0, 0)), (73, (.getfield 10, 76, 10, 0)), (76, (.getfield 140, 79, 140, 0)), (79, (.ireturn, 80, 0, 0)), (80, (.aload_n 0, 81, 0, 0)), (81, (.getfield 10, 84, 10, 0)), (84, (.invokevirtual 202, 87, 0, 0)), (87, (.ireturn, 88, 0, 0)), (88, (.iconst (-1), 89, 0, (-1))), (89, (.ireturn, 90, 0, 0))]
theorem pX5_count_ok : ∀ pc q, lkB pX5_count pc = some q → xdec cX5_count pc = some q := lkB_all (by decide +kernel)
def pX5_keep : List (Nat × (Instr × Nat × Nat × Int32)) := [(0, (.iload_n 1, 1, 1, 0)), (1, (.invokestatic 246, 4, 0, 0)), (4, (.ifCond .eq 12, 7, 16, 0)), (7, (.iload_n 2, 8, 2, 0)), (8, (.iconst 0, 9, 0, 0)), (9, (.iconst 1, 10, 0, 1)), (10, (.invokestatic 129, 13, 0, 0)), (13, (.ifCond .ne 5, 16, 18, 0)), (16, (.iconst (-1), 17, 0, (-1))), (17, (.ireturn, 18, 0, 0)), (18, (.iload_n 2, 19, 2, 0)), (19, (.ifCond .ne 14, 22, 33, 0)), (22, (.aload_n 0, 23, 0, 0)), (23, (.getfield 28, 26, 28, 0)), (26, (.iload_n 1, 27, 1, 0)), (27, (.aaload, 28, 0, 0)), (28, (.invokevirtual 249, 31, 0, 0)), (31, (.iconst 0, 32, 0, 0)), (32, (.ireturn, 33, 0, 0)), (33, (.iload_n 3, 34, 3, 0)), (34, (.invokestatic 252, 37, 0, 0)), (37, (.ifCond .eq 11, 40, 48, 0)), (40, (.iload 4, 42, 4, 0)), (42, (.invokestatic 255, 45, 0, 0)), (45, (.ifCond .ne 5, 48, 50, 0)), (48, (.iconst (-1), 49, 0, (-1))), (49, (.ireturn, 50, 0, 0)), (50, (.aload_n 0, 51, 0, 0)), (51, (.getfield 28, 54, 28, 0)), (54, (.iload_n 1, 55, 1, 0)), (55, (.aaload, 56, 0, 0)), (56, (.iload_n 3, 57, 3, 0)), (57, (.iload 4, 59, 4, 0)), (59, (.invokevirtual 258, 62, 0, 0)), (62, (.iconst 0, 63, 0, 0)), (63, (.ireturn, 64, 0, 0))]
theorem pX5_keep_ok : ∀ pc q, lkB pX5_keep pc = some q → xdec cX5_keep pc = some q := lkB_all (by decide +kernel)
def pX5_row : List (Nat × (Instr × Nat × Nat × Int32)) := [(0, (.iload_n 1, 1, 1, 0)), (1, (.invokestatic 246, 4, 0, 0)), (4, (.ifCond .eq 16, 7, 20, 0)), (7, (.iload_n 2, 8, 2, 0)), (8, (.invokestatic 261, 11, 0, 0)), (11, (.ifCond .eq 9, 14, 20, 0)), (14, (.iload_n 3, 15, 3, 0)), (15, (.bipush 100, 17, 0, 100)), (17, (.if_icmp .le 5, 20, 22, 0)), (20, (.iconst (-1), 21, 0, (-1))), (21, (.ireturn, 22, 0, 0)), (22, (.iload_n 3, 23, 3, 0)), (23, (.ifCond .ge 6, 26, 29, 0)), (26, (.bipush (-14), 28, 0, (-14))), (28, (.ireturn, 29, 0, 0)), (29, (.aload_n 0, 30, 0, 0)), (30, (.getfield 28, 33, 28, 0)), (33, (.iload_n 1, 34, 1, 0)), (34, (.aaload, 35, 0, 0)), (35, (.iload_n 2, 36, 2, 0)), (36, (.iload_n 3, 37, 3, 0)), (37, (.invokevirtual 264, 40, 0, 0)), (40, (.iconst 0, 41, 0, 0)), (41, (.ireturn, 42, 0, 0))]
theorem pX5_row_ok : ∀ pc q, lkB pX5_row pc = some q → xdec cX5_row pc = some q := lkB_all (by decide +kernel)
def pX5_put : List (Nat × (Instr × Nat × Nat × Int32)) := [(0, (.aload_n 0, 1, 0, 0)), (1, (.iload_n 1, 2, 1, 0)), (2, (.invokevirtual 44, 5, 0, 0)), (5, (.istore 4, 7, 4, 0)), (7, (.iload 4, 9, 4, 0)), (9, (.ifCond .eq 6, 12, 15, 0)), (12, (.iload 4, 14, 4, 0)), (14, (.ireturn, 15, 0, 0)), (15, (.aload_n 0, 16, 0, 0)), (16, (.getfield 28, 19, 28, 0)), (19, (.iload_n 1, 20, 1, 0)), (20, (.aaload, 21, 0, 0)), (21, (.astore 5, 23, 5, 0)), (23, (.aload 5, 25, 5, 0)), (25, (.iload_n 2, 26, 2, 0)), (26, (.invokevirtual 267, 29, 0, 0)), (29, (.ifCond .ne 6, 32, 35, 0)), (32, (.bipush (-13), 34, 0, (-13))), (34, (.ireturn, 35, 0, 0)), (35, (.aload 5, 37, 5, 0)), (37, (.getfield 65, 40, 65, 0)), (40, (.iload_n 2, 41, 2, 0)), (41, (.aload 5, 43, 5, 0)), (43, (.getfield 48, 46, 48, 0)), (46, (.iload_n 3, 47, 3, 0)), (47, (.invokestatic 270, 50, 0, 0)), (50, (.iastore, 51, 0, 0)), (51, (.iconst 0, 52, 0, 0)), (52, (.ireturn, 53, 0, 0))]
theorem pX5_put_ok : ∀ pc q, lkB pX5_put pc = some q → xdec cX5_put pc = some q := lkB_all (by decide +kernel)
def pX5_element : List (Nat × (Instr × Nat × Nat × Int32)) := [(0, (.iload_n 1, 1, 1, 0)), (1, (.invokestatic 246, 4, 0, 0)), (4, (.ifCond .ne 14, 7, 18, 0)), (7, (.new 274, 10, 0, 0)), (10, (.dup, 11, 0, 0)), (11, (.ldc_w 276, 14, 276, 0)), (14, (.invokespecial 278, 17, 0, 0)), (17, (.athrow, 18, 0, 0)), (18, (.aload_n 0, 19, 0, 0)), (19, (.getfield 28, 22, 28, 0)), (22, (.iload_n 1, 23, 1, 0)), (23, (.aaload, 24, 0, 0)), (24, (.astore_n 3, 25, 3, 0)), (25, (.aload_n 3, 26, 3, 0)), (26, (.getfield 281, 29, 281, 0)), (29, (.iconst 2, 30, 0, 2)), (30, (.if_icmp .eq 14, 33, 44, 0)), (33, (.new 284, 36, 0, 0)), (36, (.dup, 37, 0, 0)), (37, (.ldc_w 286, 40, 286, 0)), (40, (.invokespecial 288, 43, 0, 0)), (43, (.athrow, 44, 0, 0)), (44, (.aload_n 3, 45, 3, 0)), (45, (.iload_n 2, 46, 2, 0)), (46, (.invokevirtual 267, 49, 0, 0)), (49, (.ifCond .ne 14, 52, 63, 0)), (52, (.new 284, 55, 0, 0)), (55, (.dup, 56, 0, 0)), (56, (.ldc_w 289, 59, 289, 0)), (59, (.invokespecial 288, 62, 0, 0)), (62, (.athrow, 63, 0, 0)), (63, (.aload_n 3, 64, 3, 0)), (64, (.getfield 65, 67, 65, 0)), (67, (.iload_n 2, 68, 2, 0)), (68, (.iaload, 69, 0, 0)), (69, (.i2l, 70, 0, 0)), (70, (.lreturn, 71, 0, 0))]
theorem pX5_element_ok : ∀ pc q, lkB pX5_element pc = some q → xdec cX5_element pc = some q := lkB_all (by decide +kernel)
def pX5_copy : List (Nat × (Instr × Nat × Nat × Int32)) := [(0, (.iload_n 1, 1, 1, 0)), (1, (.invokestatic 246, 4, 0, 0)), (4, (.ifCond .eq 10, 7, 14, 0)), (7, (.iload_n 3, 8, 3, 0)), (8, (.invokestatic 246, 11, 0, 0)), (11, (.ifCond .ne 5, 14, 16, 0)), (14, (.iconst (-1), 15, 0, (-1))), (15, (.ireturn, 16, 0, 0)), (16, (.aload_n 0, 17, 0, 0)), (17, (.getfield 28, 20, 28, 0)), (20, (.iload_n 1, 21, 1, 0)), (21, (.aaload, 22, 0, 0)), (22, (.astore 6, 24, 6, 0)), (24, (.aload_n 0, 25, 0, 0)), (25, (.getfield 28, 28, 28, 0)), (28, (.iload_n 3, 29, 3, 0)), (29, (.aaload, 30, 0, 0)), (30, (.astore 7, 32, 7, 0)), (32, (.aload 6, 34, 6, 0)), (34, (.getfield 281, 37, 281, 0)), (37, (.ifCond .eq 11, 40, 48, 0)), (40, (.aload 7, 42, 7, 0)), (42, (.getfield 281, 45, 281, 0)), (45, (.ifCond .ne 6, 48, 51, 0)), (48, (.bipush (-11), 50, 0, (-11))), (50, (.ireturn, 51, 0, 0)), (51, (.aload 6, 53, 6, 0)), (53, (.getfield 281, 56, 281, 0)), (56, (.iconst 2, 57, 0, 2)), (57, (.if_icmp .ne 25, 60, 82, 0)), (60, (.aload 7, 62, 7, 0)), (62, (.getfield 281, 65, 281, 0)), (65, (.iconst 2, 66, 0, 2)), (66, (.if_icmp .ne 16, 69, 82, 0)), (69, (.aload 6, 71, 6, 0)), (71, (.getfield 48, 74, 48, 0)), (74, (.aload 7, 76, 7, 0)), (76, (.getfield 48, 79, 48, 0)), (79, (.if_icmp .eq 6, 82, 85, 0)), (82, (.bipush (-12), 84, 0, (-12))), (84, (.ireturn, 85, 0, 0)), (85, (.aload 6, 87, 6, 0)), (87, (.iload_n 2, 88, 2, 0)), (88, (.iload 5, 90, 5, 0)), (90, (.invokevirtual 291, 93, 0, 0)), (93, (.ifCond .eq 15, 96, 108, 0)), (96, (.aload 7, 98, 7, 0)), (98, (.iload 4, 100, 4, 0)), (100, (.iload 5, 102, 5, 0)), (102, (.invokevirtual 291, 105, 0, 0)), (105, (.ifCond .ne 6, 108, 111, 0)), (108, (.bipush (-13), 110, 0, (-13))), (110, (.ireturn, 111, 0, 0)), (111, (.aload 6, 113, 6, 0)), (113, (.getfield 65, 116, 65, 0)), (116, (.iload_n 2, 117, 2, 0)), (117, (.aload 7, 119, 7, 0)), (119, (.getfield 65, 122, 65, 0)), (122, (.iload 4, 124, 4, 0)), (124, (.iload 5, 126, 5, 0)), (126, (.invokestatic 294, 129, 0, 0)), (129, (.iload 5, 131, 5, 0)), (131, (.ireturn, 132, 0, 0))]
theorem pX5_copy_ok : ∀ pc q, lkB pX5_copy pc = some q → xdec cX5_copy pc = some q := lkB_all (by decide +kernel)
def pX5_cost : List (Nat × (Instr × Nat × Nat × Int32)) := [(0, (.aload_n 0, 1, 0, 0)), (1, (.iload_n 1, 2, 1, 0)), (2, (.invokevirtual 116, 5, 0, 0)), (5, (.istore_n 2, 6, 2, 0)), (6, (.iload_n 2, 7, 2, 0)), (7, (.ifCond .eq 7, 10, 14, 0)), (10, (.iload_n 2, 11, 2, 0)), (11, (.goto 24, 14, 35, 0)), (14, (.aload_n 0, 15, 0, 0)), (15, (.getfield 28, 18, 28, 0)), (18, (.iload_n 1, 19, 1, 0)), (19, (.aaload, 20, 0, 0)), (20, (.getfield 119, 23, 119, 0)), (23, (.aload_n 0, 24, 0, 0)), (24, (.getfield 28, 27, 28, 0)), (27, (.iload_n 1, 28, 1, 0)), (28, (.aaload, 29, 0, 0)), (29, (.getfield 122, 32, 122, 0)), (32, (.invokestatic 300, 35, 0, 0)), (35, (.ireturn, 36, 0, 0))]
theorem pX5_cost_ok : ∀ pc q, lkB pX5_cost pc = some q → xdec cX5_cost pc = some q := lkB_all (by decide +kernel)
def pX5_toss : List (Nat × (Instr × Nat × Nat × Int32)) := [(0, (.aload_n 0, 1, 0, 0)), (1, (.iload_n 1, 2, 1, 0)), (2, (.invokevirtual 116, 5, 0, 0)), (5, (.istore_n 2, 6, 2, 0)), (6, (.iload_n 2, 7, 2, 0)), (7, (.ifCond .eq 5, 10, 12, 0)), (10, (.iload_n 2, 11, 2, 0)), (11, (.ireturn, 12, 0, 0)), (12, (.aload_n 0, 13, 0, 0)), (13, (.getfield 28, 16, 28, 0)), (16, (.iload_n 1, 17, 1, 0)), (17, (.aaload, 18, 0, 0)), (18, (.getfield 119, 21, 119, 0)), (21, (.istore_n 3, 22, 3, 0)), (22, (.aload_n 0, 23, 0, 0)), (23, (.getfield 28, 26, 28, 0)), (26, (.iload_n 1, 27, 1, 0)), (27, (.aaload, 28, 0, 0)), (28, (.getfield 122, 31, 122, 0)), (31, (.istore 4, 33, 4, 0)), (33, (.iload_n 3, 34, 3, 0)), (34, (.iload 4, 36, 4, 0)), (36, (.invokestatic 303, 39, 0, 0)), (39, (.goto 29, 42, 68, 0)), (42, (.astore 5, 44, 5, 0)), (44, (.bipush 100, 46, 0, 100)), (46, (.iload 4, 48, 4, 0)), (48, (.iadd, 49, 0, 0)), (49, (.ireturn, 50, 0, 0)), (50, (.astore 5, 52, 5, 0)), (52, (.sipush 200, 55, 0, 200)), (55, (.iload_n 3, 56, 3, 0)), (56, (.iload 4, 58, 4, 0)), (58, (.invokestatic 300, 61, 0, 0)), (61, (.iadd, 62, 0, 0)), (62, (.ireturn, 63, 0, 0)), (63, (.astore 5, 65, 5, 0)), (65, (.iload 4, 67, 4, 0)), (67, (.ireturn, 68, 0, 0)), (68, (.bipush (-15), 70, 0, (-15))), (70, (.ireturn, 71, 0, 0))]
theorem pX5_toss_ok : ∀ pc q, lkB pX5_toss pc = some q → xdec cX5_toss pc = some q := lkB_all (by decide +kernel)
def pX5_inMind : List (Nat × (Instr × Nat × Nat × Int32)) := [(0, (.aload_n 0, 1, 0, 0)), (1, (.getfield 16, 4, 16, 0)), (4, (.aload_n 0, 5, 0, 0)), (5, (.getfield 10, 8, 10, 0)), (8, (.invokevirtual 76, 11, 0, 0)), (11, (.aload_n 0, 12, 0, 0)), (12, (.getfield 16, 15, 16, 0)), (15, (.areturn, 16, 0, 0))]
theorem pX5_inMind_ok : ∀ pc q, lkB pX5_inMind pc = some q → xdec cX5_inMind pc = some q := lkB_all (by decide +kernel)
def pX5_rowRefusal : List (Nat × (Instr × Nat × Nat × Int32)) := [(0, (.aload_n 0, 1, 0, 0)), (1, (.iload_n 1, 2, 1, 0)), (2, (.iconst 2, 3, 0, 2)), (3, (.invokevirtual 308, 6, 0, 0)), (6, (.ireturn, 7, 0, 0))]
theorem pX5_rowRefusal_ok : ∀ pc q, lkB pX5_rowRefusal pc = some q → xdec cX5_rowRefusal pc = some q := lkB_all (by decide +kernel)
def pX5_kindRefusal : List (Nat × (Instr × Nat × Nat × Int32)) := [(0, (.aload_n 0, 1, 0, 0)), (1, (.iload_n 1, 2, 1, 0)), (2, (.iconst 1, 3, 0, 1)), (3, (.invokevirtual 308, 6, 0, 0)), (6, (.ireturn, 7, 0, 0))]
theorem pX5_kindRefusal_ok : ∀ pc q, lkB pX5_kindRefusal pc = some q → xdec cX5_kindRefusal pc = some q := lkB_all (by decide +kernel)
def pX5_refusalUnless : List (Nat × (Instr × Nat × Nat × Int32)) := [(0, (.iload_n 1, 1, 1, 0)), (1, (.invokestatic 246, 4, 0, 0)), (4, (.ifCond .ne 5, 7, 9, 0)), (7, (.iconst (-1), 8, 0, (-1))), (8, (.ireturn, 9, 0, 0)), (9, (.aload_n 0, 10, 0, 0)), (10, (.getfield 28, 13, 28, 0)), (13, (.iload_n 1, 14, 1, 0)), (14, (.aaload, 15, 0, 0)), (15, (.getfield 281, 18, 281, 0)), (18, (.ifCond .ne 6, 21, 24, 0)), (21, (.bipush (-11), 23, 0, (-11))), (23, (.ireturn, 24, 0, 0)), (24, (.aload_n 0, 25, 0, 0)), (25, (.getfield 28, 28, 28, 0)), (28, (.iload_n 1, 29, 1, 0)), (29, (.aaload, 30, 0, 0)), (30, (.getfield 281, 33, 281, 0)), (33, (.iload_n 2, 34, 2, 0)), (34, (.if_icmp .ne 7, 37, 41, 0)), (37, (.iconst 0, 38, 0, 0)), (38, (.goto 5, 41, 43, 0)), (41, (.bipush (-12), 43, 0, (-12))), (43, (.ireturn, 44, 0, 0))]
theorem pX5_refusalUnless_ok : ∀ pc q, lkB pX5_refusalUnless pc = some q → xdec cX5_refusalUnless pc = some q := lkB_all (by decide +kernel)
def pX5_within : List (Nat × (Instr × Nat × Nat × Int32)) := [(0, (.iload_n 0, 1, 0, 0)), (1, (.iload_n 1, 2, 1, 0)), (2, (.if_icmp .lt 12, 5, 14, 0)), (5, (.iload_n 0, 6, 0, 0)), (6, (.iload_n 2, 7, 2, 0)), (7, (.if_icmp .gt 7, 10, 14, 0)), (10, (.iconst 1, 11, 0, 1)), (11, (.goto 4, 14, 15, 0)), (14, (.iconst 0, 15, 0, 0)), (15, (.ireturn, 16, 0, 0))]
theorem pX5_within_ok : ∀ pc q, lkB pX5_within pc = some q → xdec cX5_within pc = some q := lkB_all (by decide +kernel)
def pX5_isPlate : List (Nat × (Instr × Nat × Nat × Int32)) := [(0, (.iload_n 0, 1, 0, 0)), (1, (.iconst 0, 2, 0, 0)), (2, (.bipush 9, 4, 0, 9)), (4, (.invokestatic 129, 7, 0, 0)), (7, (.ireturn, 8, 0, 0))]
theorem pX5_isPlate_ok : ∀ pc q, lkB pX5_isPlate pc = some q → xdec cX5_isPlate pc = some q := lkB_all (by decide +kernel)
def pX5_isWhile : List (Nat × (Instr × Nat × Nat × Int32)) := [(0, (.iload_n 0, 1, 0, 0)), (1, (.iconst 0, 2, 0, 0)), (2, (.bipush 60, 4, 0, 60)), (4, (.invokestatic 129, 7, 0, 0)), (7, (.ireturn, 8, 0, 0))]
theorem pX5_isWhile_ok : ∀ pc q, lkB pX5_isWhile pc = some q → xdec cX5_isWhile pc = some q := lkB_all (by decide +kernel)
def pX5_isShelf : List (Nat × (Instr × Nat × Nat × Int32)) := [(0, (.iload_n 0, 1, 0, 0)), (1, (.iconst 0, 2, 0, 0)), (2, (.bipush 7, 4, 0, 7)), (4, (.invokestatic 129, 7, 0, 0)), (7, (.ireturn, 8, 0, 0))]
theorem pX5_isShelf_ok : ∀ pc q, lkB pX5_isShelf pc = some q → xdec cX5_isShelf pc = some q := lkB_all (by decide +kernel)
def pX5_isDigit : List (Nat × (Instr × Nat × Nat × Int32)) := [(0, (.iload_n 0, 1, 0, 0)), (1, (.iconst 0, 2, 0, 0)), (2, (.bipush 9, 4, 0, 9)), (4, (.invokestatic 129, 7, 0, 0)), (7, (.ireturn, 8, 0, 0))]
theorem pX5_isDigit_ok : ∀ pc q, lkB pX5_isDigit pc = some q → xdec cX5_isDigit pc = some q := lkB_all (by decide +kernel)
def pX5_leastOf : List (Nat × (Instr × Nat × Nat × Int32)) := [(0, (.iconst 0, 1, 0, 0)), (1, (.istore_n 1, 2, 1, 0)), (2, (.iload_n 1, 3, 1, 0)), (3, (.bipush 32, 5, 0, 32)), (5, (.if_icmp .ge 19, 8, 24, 0)), (8, (.iload_n 0, 9, 0, 0)), (9, (.iload_n 1, 10, 1, 0)), (10, (.ishr, 11, 0, 0)), (11, (.iconst 1, 12, 0, 1)), (12, (.iand, 13, 0, 0)), (13, (.ifCond .eq 5, 16, 18, 0)), (16, (.iload_n 1, 17, 1, 0)), (17, (.ireturn, 18, 0, 0)), (18, (.iinc 1 1, 21, 1, 1)), (21, (.goto (-19), 24, 2, 0)), (24, (.bipush (-4), 26, 0, (-4))), (26, (.ireturn, 27, 0, 0))]
theorem pX5_leastOf_ok : ∀ pc q, lkB pX5_leastOf pc = some q → xdec cX5_leastOf pc = some q := lkB_all (by decide +kernel)
def pX5_refusedLong : List (Nat × (Instr × Nat × Nat × Int32)) := [(0, (.ldc2_w 311, 3, 311, 0)), (3, (.iload_n 0, 4, 0, 0)), (4, (.i2l, 5, 0, 0)), (5, (.lsub, 6, 0, 0)), (6, (.lreturn, 7, 0, 0))]
theorem pX5_refusedLong_ok : ∀ pc q, lkB pX5_refusedLong pc = some q → xdec cX5_refusedLong pc = some q := lkB_all (by decide +kernel)
def pX5_partOf : List (Nat × (Instr × Nat × Nat × Int32)) := [(0, (.lload_n 0, 1, 0, 0)), (1, (.lload_n 2, 2, 2, 0)), (2, (.invokestatic 313, 5, 0, 0)), (5, (.lstore 5, 7, 5, 0)), (7, (.lload 5, 9, 5, 0)), (9, (.lconst 0, 10, 0, 0)), (10, (.lcmp, 11, 0, 0)), (11, (.ifCond .le 9, 14, 20, 0)), (14, (.lload_n 2, 15, 2, 0)), (15, (.lconst 0, 16, 0, 0)), (16, (.lcmp, 17, 0, 0)), (17, (.ifCond .gt 14, 20, 31, 0)), (20, (.iload 4, 22, 4, 0)), (22, (.ifCond .ne 7, 25, 29, 0)), (25, (.lconst 0, 26, 0, 0)), (26, (.goto 4, 29, 30, 0)), (29, (.lconst 1, 30, 0, 1)), (30, (.lreturn, 31, 0, 0)), (31, (.iload 4, 33, 4, 0)), (33, (.ifCond .ne 10, 36, 43, 0)), (36, (.lload_n 0, 37, 0, 0)), (37, (.lload 5, 39, 5, 0)), (39, (.ldiv, 40, 0, 0)), (40, (.goto 7, 43, 47, 0)), (43, (.lload_n 2, 44, 2, 0)), (44, (.lload 5, 46, 5, 0)), (46, (.ldiv, 47, 0, 0)), (47, (.lreturn, 48, 0, 0))]
theorem pX5_partOf_ok : ∀ pc q, lkB pX5_partOf pc = some q → xdec cX5_partOf pc = some q := lkB_all (by decide +kernel)
def pX5_sharedDivisor : List (Nat × (Instr × Nat × Nat × Int32)) := [(0, (.lload_n 0, 1, 0, 0)), (1, (.lstore 4, 3, 4, 0)), (3, (.lload_n 2, 4, 2, 0)), (4, (.lstore 6, 6, 6, 0)), (6, (.iconst 0, 7, 0, 0)), (7, (.istore 8, 9, 8, 0)), (9, (.iload 8, 11, 8, 0)), (11, (.sipush 1000, 14, 0, 1000)), (14, (.if_icmp .ge 31, 17, 45, 0)), (17, (.lload 6, 19, 6, 0)), (19, (.lconst 0, 20, 0, 0)), (20, (.lcmp, 21, 0, 0)), (21, (.ifCond .eq 24, 24, 45, 0)), (24, (.lload 4, 26, 4, 0)), (26, (.lload 6, 28, 6, 0)), (28, (.lrem, 29, 0, 0)), (29, (.lstore 9, 31, 9, 0)), (31, (.lload 6, 33, 6, 0)), (33, (.lstore 4, 35, 4, 0)), (35, (.lload 9, 37, 9, 0)), (37, (.lstore 6, 39, 6, 0)), (39, (.iinc 8 1, 42, 8, 1)), (42, (.goto (-33), 45, 9, 0)), (45, (.lload 4, 47, 4, 0)), (47, (.lreturn, 48, 0, 0))]
theorem pX5_sharedDivisor_ok : ∀ pc q, lkB pX5_sharedDivisor pc = some q → xdec cX5_sharedDivisor pc = some q := lkB_all (by decide +kernel)
end
section
def pX6_init : List (Nat × (Instr × Nat × Nat × Int32)) := [(0, (.aload_n 0, 1, 0, 0)), (1, (.invokespecial 1, 4, 0, 0)), (4, (.aload_n 0, 5, 0, 0)), (5, (.bipush 10, 7, 0, 10)), (7, (.newarray .int, 9, 0, 0)), (9, (.putfield 7, 12, 7, 0)), (12, (.aload_n 0, 13, 0, 0)), (13, (.bipush 7, 15, 0, 7)), (15, (.newarray .int, 17, 0, 0)), (17, (.putfield 13, 20, 13, 0)), (20, (.aload_n 0, 21, 0, 0)), (21, (.bipush 7, 23, 0, 7)), (23, (.newarray .int, 25, 0, 0)), (25, (.putfield 16, 28, 16, 0)), (28, (.aload_n 0, 29, 0, 0)), (29, (.bipush 7, 31, 0, 7)), (31, (.newarray .int, 33, 0, 0)), (33, (.putfield 19, 36, 19, 0)), (36, (.aload_n 0, 37, 0, 0)), (37, (.bipush 7, 39, 0, 7)), (39, (.newarray .int, 41, 0, 0)), (41, (.putfield 22, 44, 22, 0)), (44, (.aload_n 0, 45, 0, 0)), (45, (.bipush 7, 47, 0, 7)), (47, (.newarray .int, 49, 0, 0)), (49, (.putfield 25, 52, 25, 0)), (52, (.aload_n 0, 53, 0, 0)), (53, (.bipush 8, 55, 0, 8)), (55, (.newarray .int, 57, 0, 0)), (57, (.putfield 28, 60, 28, 0)), (60, (.aload_n 0, 61, 0, 0)), (61, (.bipush 8, 63, 0, 8)), (63, (.newarray .int, 65, 0, 0)), (65, (.putfield 31, 68, 31, 0)), (68, (.aload_n 0, 69, 0, 0)), (69, (.bipush 8, 71, 0, 8)), (71, (.newarray .int, 73, 0, 0)), (73, (.putfield 34, 76, 34, 0)), (76, (.aload_n 0, 77, 0, 0)), (77, (.bipush 8, 79, 0, 8)), (79, (.newarray .int, 81, 0, 0)), (81, (.putfield 37, 84, 37, 0)), (84, (.aload_n 0, 85, 0, 0)), (85, (.bipush 8, 87, 0, 8)), (87, (.newarray .int, 89, 0, 0)), (89, (.putfield 40, 92, 40, 0)), (92, (.aload_n 0, 93, 0, 0)), (93, (.sipush 800, 96, 0, 800)), (96, (.newarray .long, 98, 0, 0)), (98, (.putfield 43, 101, 43, 0)), (101, (.aload_n 0, 102, 0, 0)), (102, (.bipush 51, 104, 0, 51)), (104, (.newarray .int, 106, 0, 0)), (106, (.putfield 47, 109, 47, 0)), (109, (.aload_n 0, 110, 0, 0)), (110, (.bipush 51, 112, 0, 51)), (112, (.newarray .int, 114, 0, 0)), (114, (.putfield 50, 117, 50, 0)), (117, (.aload_n 0, 118, 0, 0)), (118, (.sipush 153, 121, 0, 153)), (121, (.newarray .int, 123, 0, 0)), (123, (.putfield 53, 126, 53, 0)), (126, (.aload_n 0, 127, 0, 0)), (127, (.bipush 50, 129, 0, 50)), (129, (.newarray .int, 131, 0, 0)), (131, (.putfield 56, 134, 56, 0)), (134, (.aload_n 0, 135, 0, 0)), (135, (.bipush 50, 137, 0, 50)), (137, (.newarray .int, 139, 0, 0)), (139, (.putfield 59, 142, 59, 0)), (142, (.aload_n 0, 143, 0, 0)), (143, (.bipush 7, 145, 0, 7)), (145, (.newarray .int, 147, 0, 0)), (147, (.putfield 62, 150, 62, 0)), (150, (.aload_n 0, 151, 0, 0)), (151, (.sipush 1024, 154, 0, 1024)), (154, (.newarray .boolean, 156, 0, 0)), (156, (.putfield 65, 159, 65, 0)), (159, (.aload_n 0, 160, 0, 0)), (160, (.bipush 8, 162, 0, 8)), (162, (.newarray .int, 164, 0, 0)), (164, (.putfield 69, 167, 69, 0)), (167, (.aload_n 0, 168, 0, 0)), (168, (.bipush 100, 170, 0, 100)), (170, (.newarray .long, 172, 0, 0)), (172, (.putfield 72, 175, 72, 0)), (175, (.aload_n 0, 176, 0, 0)), (176, (.iconst 0, 177, 0, 0)), (177, (.putfield 75, 180, 75, 0)), (180, (.iconst 0, 181, 0, 0)), (181, (.istore_n 1, 182, 1, 0)), (182, (.iload_n 1, 183, 1, 0)), (183, (.bipush 10, 185, 0, 10)), (185, (.if_icmp .ge 16, 188, 201, 0)), (188, (.aload_n 0, 189, 0, 0)), (189, (.getfield 7, 192, 7, 0)), (192, (.iload_n 1, 193, 1, 0)), (193, (.iconst 5, 194, 0, 5)), (194, (.iastore, 195, 0, 0)), (195, (.iinc 1 1, 198, 1, 1)), (198, (.goto (-16), 201, 182, 0)), (201, (.return_, 202, 0, 0))]
theorem pX6_init_ok : ∀ pc q, lkB pX6_init pc = some q → xdec cX6_init pc = some q := lkB_all (by decide +kernel)
def pX6_thrown : List (Nat × (Instr × Nat × Nat × Int32)) := [(0, (.aload_n 0, 1, 0, 0)), (1, (.getfield 75, 4, 75, 0)), (4, (.ireturn, 5, 0, 0))]
theorem pX6_thrown_ok : ∀ pc q, lkB pX6_thrown pc = some q → xdec cX6_thrown pc = some q := lkB_all (by decide +kernel)
def pX6_in : List (Nat × (Instr × Nat × Nat × Int32)) := [(0, (.lload_n 0, 1, 0, 0)), (1, (.lload_n 2, 2, 2, 0)), (2, (.lcmp, 3, 0, 0)), (3, (.ifCond .lt 14, 6, 17, 0)), (6, (.lload_n 0, 7, 0, 0)), (7, (.lload 4, 9, 4, 0)), (9, (.lcmp, 10, 0, 0)), (10, (.ifCond .gt 7, 13, 17, 0)), (13, (.iconst 1, 14, 0, 1)), (14, (.goto 4, 17, 18, 0)), (17, (.iconst 0, 18, 0, 0)), (18, (.ireturn, 19, 0, 0))]
theorem pX6_in_ok : ∀ pc q, lkB pX6_in pc = some q → xdec cX6_in pc = some q := lkB_all (by decide +kernel)
def pX6_hasBit : List (Nat × (Instr × Nat × Nat × Int32)) := [(0, (.iload_n 0, 1, 0, 0)), (1, (.iload_n 1, 2, 1, 0)), (2, (.ishr, 3, 0, 0)), (3, (.iconst 1, 4, 0, 1)), (4, (.iand, 5, 0, 0)), (5, (.iconst 1, 6, 0, 1)), (6, (.if_icmp .ne 7, 9, 13, 0)), (9, (.iconst 1, 10, 0, 1)), (10, (.goto 4, 13, 14, 0)), (13, (.iconst 0, 14, 0, 0)), (14, (.ireturn, 15, 0, 0))]
theorem pX6_hasBit_ok : ∀ pc q, lkB pX6_hasBit pc = some q → xdec cX6_hasBit pc = some q := lkB_all (by decide +kernel)
def pX6_onesOf : List (Nat × (Instr × Nat × Nat × Int32)) := [(0, (.iconst 0, 1, 0, 0)), (1, (.istore_n 1, 2, 1, 0)), (2, (.iload_n 0, 3, 0, 0)), (3, (.istore_n 2, 4, 2, 0)), (4, (.iload_n 2, 5, 2, 0)), (5, (.ifCond .eq 15, 8, 20, 0)), (8, (.iinc 1 1, 11, 1, 1)), (11, (.iload_n 2, 12, 2, 0)), (12, (.iload_n 2, 13, 2, 0)), (13, (.iconst 1, 14, 0, 1)), (14, (.isub, 15, 0, 0)), (15, (.iand, 16, 0, 0)), (16, (.istore_n 2, 17, 2, 0)), (17, (.goto (-13), 20, 4, 0)), (20, (.iload_n 1, 21, 1, 0)), (21, (.ireturn, 22, 0, 0))]
theorem pX6_onesOf_ok : ∀ pc q, lkB pX6_onesOf pc = some q → xdec cX6_onesOf pc = some q := lkB_all (by decide +kernel)
def pX6_held : List (Nat × (Instr × Nat × Nat × Int32)) := [(0, (.iload_n 0, 1, 0, 0)), (1, (.ifCond .ge 7, 4, 8, 0)), (4, (.iconst 0, 5, 0, 0)), (5, (.goto 13, 8, 18, 0)), (8, (.iload_n 0, 9, 0, 0)), (9, (.iload_n 1, 10, 1, 0)), (10, (.if_icmp .le 7, 13, 17, 0)), (13, (.iload_n 1, 14, 1, 0)), (14, (.goto 4, 17, 18, 0)), (17, (.iload_n 0, 18, 0, 0)), (18, (.ireturn, 19, 0, 0))]
theorem pX6_held_ok : ∀ pc q, lkB pX6_held pc = some q → xdec cX6_held pc = some q := lkB_all (by decide +kernel)
def pX6_isPlate : List (Nat × (Instr × Nat × Nat × Int32)) := [(0, (.iload_n 0, 1, 0, 0)), (1, (.i2l, 2, 0, 0)), (2, (.lconst 0, 3, 0, 0)), (3, (.ldc2_w 79, 6, 79, 0)), (6, (.invokestatic 81, 9, 0, 0)), (9, (.ireturn, 10, 0, 0))]
theorem pX6_isPlate_ok : ∀ pc q, lkB pX6_isPlate pc = some q → xdec cX6_isPlate pc = some q := lkB_all (by decide +kernel)
def pX6_isOne : List (Nat × (Instr × Nat × Nat × Int32)) := [(0, (.iload_n 1, 1, 1, 0)), (1, (.i2l, 2, 0, 0)), (2, (.lconst 0, 3, 0, 0)), (3, (.aload_n 0, 4, 0, 0)), (4, (.getfield 85, 7, 85, 0)), (7, (.iconst 1, 8, 0, 1)), (8, (.isub, 9, 0, 0)), (9, (.i2l, 10, 0, 0)), (10, (.invokestatic 81, 13, 0, 0)), (13, (.ireturn, 14, 0, 0))]
theorem pX6_isOne_ok : ∀ pc q, lkB pX6_isOne pc = some q → xdec cX6_isOne pc = some q := lkB_all (by decide +kernel)
def pX6_dreamsOf : List (Nat × (Instr × Nat × Nat × Int32)) := [(0, (.aload_n 0, 1, 0, 0)), (1, (.getfield 16, 4, 16, 0)), (4, (.iload_n 1, 5, 1, 0)), (5, (.iaload, 6, 0, 0)), (6, (.istore_n 3, 7, 3, 0)), (7, (.iload_n 2, 8, 2, 0)), (8, (.iload_n 3, 9, 3, 0)), (9, (.iconst 2, 10, 0, 2)), (10, (.iadd, 11, 0, 0)), (11, (.irem, 12, 0, 0)), (12, (.ifCond .ne 12, 15, 24, 0)), (15, (.aload_n 0, 16, 0, 0)), (16, (.getfield 19, 19, 19, 0)), (19, (.iload_n 1, 20, 1, 0)), (20, (.iaload, 21, 0, 0)), (21, (.goto 5, 24, 26, 0)), (24, (.bipush (-4), 26, 0, (-4))), (26, (.istore 4, 28, 4, 0)), (28, (.aload_n 0, 29, 0, 0)), (29, (.getfield 13, 32, 13, 0)), (32, (.iload_n 1, 33, 1, 0)), (33, (.iaload, 34, 0, 0)), (34, (.tableswitch 96 1 7 #[42, 44, 56, 59, 61, 75, 78], 76, 0, 0)), (76, (.iconst 1, 77, 0, 1)), (77, (.ireturn, 78, 0, 0)), (78, (.aload_n 0, 79, 0, 0)), (79, (.getfield 19, 82, 19, 0)), (82, (.iload_n 1, 83, 1, 0)), (83, (.iaload, 84, 0, 0)), (84, (.iload_n 2, 85, 2, 0)), (85, (.iadd, 86, 0, 0)), (86, (.bipush 10, 88, 0, 10)), (88, (.irem, 89, 0, 0)), (89, (.ireturn, 90, 0, 0)), (90, (.iload 4, 92, 4, 0)), (92, (.ireturn, 93, 0, 0)), (93, (.iconst 0, 94, 0, 0)), (94, (.ireturn, 95, 0, 0)), (95, (.aload_n 0, 96, 0, 0)), (96, (.getfield 22, 99, 22, 0)), (99, (.iload_n 1, 100, 1, 0)), (100, (.iaload, 101, 0, 0)), (101, (.iconst 1, 102, 0, 1)), (102, (.iadd, 103, 0, 0)), (103, (.iload_n 3, 104, 3, 0)), (104, (.iadd, 105, 0, 0)), (105, (.bipush 10, 107, 0, 10)), (107, (.irem, 108, 0, 0)), (108, (.ireturn, 109, 0, 0)), (109, (.bipush 9, 111, 0, 9)), (111, (.ireturn, 112, 0, 0)), (112, (.iload_n 2, 113, 2, 0)), (113, (.iconst 2, 114, 0, 2)), (114, (.irem, 115, 0, 0)), (115, (.ifCond .ne 12, 118, 127, 0)), (118, (.aload_n 0, 119, 0, 0)), (119, (.getfield 22, 122, 22, 0)), (122, (.iload_n 1, 123, 1, 0)), (123, (.iaload, 124, 0, 0)), (124, (.goto 5, 127, 129, 0)), (127, (.iload 4, 129, 4, 0)), (129, (.ireturn, 130, 0, 0)), (130, (.aload_n 0, 131, 0, 0)), (131, (.getfield 19, 134, 19, 0)), (134, (.iload_n 1, 135, 1, 0)), (135, (.iaload, 136, 0, 0)), (136, (.ireturn, 137, 0, 0))]
theorem pX6_dreamsOf_ok : ∀ pc q, lkB pX6_dreamsOf pc = some q → xdec cX6_dreamsOf pc = some q := lkB_all (by decide +kernel)
def pX6_eatsOf : List (Nat × (Instr × Nat × Nat × Int32)) := [(0, (.aload_n 0, 1, 0, 0)), (1, (.getfield 13, 4, 13, 0)), (4, (.iload_n 1, 5, 1, 0)), (5, (.iaload, 6, 0, 0)), (6, (.iconst 2, 7, 0, 2)), (7, (.if_icmp .eq 14, 10, 21, 0)), (10, (.aload_n 0, 11, 0, 0)), (11, (.getfield 13, 14, 13, 0)), (14, (.iload_n 1, 15, 1, 0)), (15, (.iaload, 16, 0, 0)), (16, (.bipush 7, 18, 0, 7)), (18, (.if_icmp .ne 7, 21, 25, 0)), (21, (.iconst 2, 22, 0, 2)), (22, (.goto 4, 25, 26, 0)), (25, (.iconst 1, 26, 0, 1)), (26, (.ireturn, 27, 0, 0))]
theorem pX6_eatsOf_ok : ∀ pc q, lkB pX6_eatsOf pc = some q → xdec cX6_eatsOf pc = some q := lkB_all (by decide +kernel)
def pX6_gainsOf : List (Nat × (Instr × Nat × Nat × Int32)) := [(0, (.aload_n 0, 1, 0, 0)), (1, (.getfield 13, 4, 13, 0)), (4, (.iload_n 1, 5, 1, 0)), (5, (.iaload, 6, 0, 0)), (6, (.tableswitch 76 1 7 #[42, 44, 48, 42, 53, 59, 66], 48, 0, 0)), (48, (.iconst 1, 49, 0, 1)), (49, (.ireturn, 50, 0, 0)), (50, (.iload_n 2, 51, 2, 0)), (51, (.iconst 2, 52, 0, 2)), (52, (.idiv, 53, 0, 0)), (53, (.ireturn, 54, 0, 0)), (54, (.bipush 9, 56, 0, 9)), (56, (.iload_n 2, 57, 2, 0)), (57, (.isub, 58, 0, 0)), (58, (.ireturn, 59, 0, 0)), (59, (.iload_n 2, 60, 2, 0)), (60, (.iconst 2, 61, 0, 2)), (61, (.idiv, 62, 0, 0)), (62, (.iconst 3, 63, 0, 3)), (63, (.isub, 64, 0, 0)), (64, (.ireturn, 65, 0, 0)), (65, (.aload_n 0, 66, 0, 0)), (66, (.getfield 16, 69, 16, 0)), (69, (.iload_n 1, 70, 1, 0)), (70, (.iaload, 71, 0, 0)), (71, (.ireturn, 72, 0, 0)), (72, (.bipush 8, 74, 0, 8)), (74, (.iload_n 2, 75, 2, 0)), (75, (.isub, 76, 0, 0)), (76, (.bipush 9, 78, 0, 9)), (78, (.invokestatic 88, 81, 0, 0)), (81, (.ireturn, 82, 0, 0)), (82, (.iload_n 2, 83, 2, 0)), (83, (.aload_n 0, 84, 0, 0)), (84, (.getfield 22, 87, 22, 0)), (87, (.iload_n 1, 88, 1, 0)), (88, (.iaload, 89, 0, 0)), (89, (.if_icmp .ne 7, 92, 96, 0)), (92, (.iconst 0, 93, 0, 0)), (93, (.goto 4, 96, 97, 0)), (96, (.iconst 2, 97, 0, 2)), (97, (.ireturn, 98, 0, 0))]
theorem pX6_gainsOf_ok : ∀ pc q, lkB pX6_gainsOf pc = some q → xdec cX6_gainsOf pc = some q := lkB_all (by decide +kernel)
def pX6_breakfast : List (Nat × (Instr × Nat × Nat × Int32)) := [(0, (.aload_n 0, 1, 0, 0)), (1, (.iload_n 1, 2, 1, 0)), (2, (.aload_n 0, 3, 0, 0)), (3, (.getfield 92, 6, 92, 0)), (6, (.invokevirtual 95, 9, 0, 0)), (9, (.istore_n 2, 10, 2, 0)), (10, (.aload_n 0, 11, 0, 0)), (11, (.getfield 98, 14, 98, 0)), (14, (.ifCond .eq 12, 17, 26, 0)), (17, (.iload_n 2, 18, 2, 0)), (18, (.ifCond .lt 8, 21, 26, 0)), (21, (.bipush 7, 23, 0, 7)), (23, (.goto 4, 26, 27, 0)), (26, (.iload_n 2, 27, 2, 0)), (27, (.istore_n 2, 28, 2, 0)), (28, (.aload_n 0, 29, 0, 0)), (29, (.getfield 102, 32, 102, 0)), (32, (.iload_n 1, 33, 1, 0)), (33, (.invokestatic 105, 36, 0, 0)), (36, (.ifCond .eq 7, 39, 43, 0)), (39, (.iconst 1, 40, 0, 1)), (40, (.goto 4, 43, 44, 0)), (43, (.iload_n 2, 44, 2, 0)), (44, (.istore_n 2, 45, 2, 0)), (45, (.iload_n 2, 46, 2, 0)), (46, (.ifCond .ge 25, 49, 71, 0)), (49, (.aload_n 0, 50, 0, 0)), (50, (.getfield 25, 53, 25, 0)), (53, (.iload_n 1, 54, 1, 0)), (54, (.aload_n 0, 55, 0, 0)), (55, (.getfield 25, 58, 25, 0)), (58, (.iload_n 1, 59, 1, 0)), (59, (.iaload, 60, 0, 0)), (60, (.iconst 5, 61, 0, 5)), (61, (.isub, 62, 0, 0)), (62, (.bipush 99, 64, 0, 99)), (64, (.invokestatic 88, 67, 0, 0)), (67, (.iastore, 68, 0, 0)), (68, (.goto 128, 71, 196, 0)), (71, (.aload_n 0, 72, 0, 0)), (72, (.getfield 7, 75, 7, 0)), (75, (.iload_n 2, 76, 2, 0)), (76, (.iaload, 77, 0, 0)), (77, (.aload_n 0, 78, 0, 0)), (78, (.iload_n 1, 79, 1, 0)), (79, (.invokevirtual 109, 82, 0, 0)), (82, (.if_icmp .lt 79, 85, 161, 0)), (85, (.aload_n 0, 86, 0, 0)), (86, (.getfield 7, 89, 7, 0)), (89, (.iload_n 2, 90, 2, 0)), (90, (.dup2, 91, 0, 0)), (91, (.iaload, 92, 0, 0)), (92, (.aload_n 0, 93, 0, 0)), (93, (.iload_n 1, 94, 1, 0)), (94, (.invokevirtual 109, 97, 0, 0)), (97, (.isub, 98, 0, 0)), (98, (.iastore, 99, 0, 0)), (99, (.aload_n 0, 100, 0, 0)), (100, (.getfield 25, 103, 25, 0)), (103, (.iload_n 1, 104, 1, 0)), (104, (.aload_n 0, 105, 0, 0)), (105, (.getfield 25, 108, 25, 0)), (108, (.iload_n 1, 109, 1, 0)), (109, (.iaload, 110, 0, 0)), (110, (.aload_n 0, 111, 0, 0)), (111, (.iload_n 1, 112, 1, 0)), (112, (.iload_n 2, 113, 2, 0)), (113, (.invokevirtual 113, 116, 0, 0)), (116, (.iadd, 117, 0, 0)), (117, (.bipush 99, 119, 0, 99)), (119, (.invokestatic 88, 122, 0, 0)), (122, (.iastore, 123, 0, 0)), (123, (.aload_n 0, 124, 0, 0)), (124, (.getfield 22, 127, 22, 0)), (127, (.iload_n 1, 128, 1, 0)), (128, (.iload_n 2, 129, 2, 0)), (129, (.iastore, 130, 0, 0)), (130, (.aload_n 0, 131, 0, 0)), (131, (.aload_n 0, 132, 0, 0)), (132, (.getfield 116, 135, 116, 0)), (135, (.iconst 1, 136, 0, 1)), (136, (.iadd, 137, 0, 0)), (137, (.sipush 9999, 140, 0, 9999)), (140, (.invokestatic 88, 143, 0, 0)), (143, (.putfield 116, 146, 116, 0)), (146, (.aload_n 0, 147, 0, 0)), (147, (.dup, 148, 0, 0)), (148, (.getfield 119, 151, 119, 0)), (151, (.iconst 1, 152, 0, 1)), (152, (.iload_n 1, 153, 1, 0)), (153, (.ishl, 154, 0, 0)), (154, (.ior, 155, 0, 0)), (155, (.putfield 119, 158, 119, 0)), (158, (.goto 38, 161, 196, 0)), (161, (.aload_n 0, 162, 0, 0)), (162, (.getfield 25, 165, 25, 0)), (165, (.iload_n 1, 166, 1, 0)), (166, (.aload_n 0, 167, 0, 0)), (167, (.getfield 25, 170, 25, 0)), (170, (.iload_n 1, 171, 1, 0)), (171, (.iaload, 172, 0, 0)), (172, (.iconst 3, 173, 0, 3)), (173, (.isub, 174, 0, 0)), (174, (.bipush 99, 176, 0, 99)), (176, (.invokestatic 88, 179, 0, 0)), (179, (.iastore, 180, 0, 0)), (180, (.aload_n 0, 181, 0, 0)), (181, (.aload_n 0, 182, 0, 0)), (182, (.getfield 122, 185, 122, 0)), (185, (.iconst 1, 186, 0, 1)), (186, (.iadd, 187, 0, 0)), (187, (.sipush 9999, 190, 0, 9999)), (190, (.invokestatic 88, 193, 0, 0)), (193, (.putfield 122, 196, 122, 0)), (196, (.aload_n 0, 197, 0, 0)), (197, (.dup, 198, 0, 0)), (198, (.getfield 125, 201, 125, 0)), (201, (.aload_n 0, 202, 0, 0)), (202, (.getfield 25, 205, 25, 0)), (205, (.iload_n 1, 206, 1, 0)), (206, (.iaload, 207, 0, 0)), (207, (.ifCond .ne 11, 210, 218, 0)), (210, (.iconst 1, 211, 0, 1)), (211, (.iload_n 1, 212, 1, 0)), (212, (.ishl, 213, 0, 0)), (213, (.iconst (-1), 214, 0, (-1))), (214, (.ixor, 215, 0, 0)), (215, (.goto 4, 218, 219, 0)), (218, (.iconst (-1), 219, 0, (-1))), (219, (.iand, 220, 0, 0)), (220, (.putfield 125, 223, 125, 0)), (223, (.return_, 224, 0, 0))]
theorem pX6_breakfast_ok : ∀ pc q, lkB pX6_breakfast pc = some q → xdec cX6_breakfast pc = some q := lkB_all (by decide +kernel)
def pX6_nightOn : List (Nat × (Instr × Nat × Nat × Int32)) := [(0, (.aload_n 0, 1, 0, 0)), (1, (.dup, 2, 0, 0)), (2, (.getfield 92, 5, 92, 0)), (5, (.iconst 1, 6, 0, 1)), (6, (.iadd, 7, 0, 0)), (7, (.putfield 92, 10, 92, 0)), (10, (.aload_n 0, 11, 0, 0)), (11, (.iconst 0, 12, 0, 0)), (12, (.putfield 119, 15, 119, 0)), (15, (.aload_n 0, 16, 0, 0)), (16, (.getfield 7, 19, 7, 0)), (19, (.aload_n 0, 20, 0, 0)), (20, (.getfield 92, 23, 92, 0)), (23, (.bipush 10, 25, 0, 10)), (25, (.irem, 26, 0, 0)), (26, (.aload_n 0, 27, 0, 0)), (27, (.getfield 7, 30, 7, 0)), (30, (.aload_n 0, 31, 0, 0)), (31, (.getfield 92, 34, 92, 0)), (34, (.bipush 10, 36, 0, 10)), (36, (.irem, 37, 0, 0)), (37, (.iaload, 38, 0, 0)), (38, (.iconst 2, 39, 0, 2)), (39, (.iadd, 40, 0, 0)), (40, (.bipush 99, 42, 0, 99)), (42, (.invokestatic 88, 45, 0, 0)), (45, (.iastore, 46, 0, 0)), (46, (.iconst 0, 47, 0, 0)), (47, (.istore_n 1, 48, 1, 0)), (48, (.iload_n 1, 49, 1, 0)), (49, (.aload_n 0, 50, 0, 0)), (50, (.getfield 85, 53, 85, 0)), (53, (.if_icmp .ge 25, 56, 78, 0)), (56, (.aload_n 0, 57, 0, 0)), (57, (.getfield 125, 60, 125, 0)), (60, (.iload_n 1, 61, 1, 0)), (61, (.invokestatic 105, 64, 0, 0)), (64, (.ifCond .eq 8, 67, 72, 0)), (67, (.aload_n 0, 68, 0, 0)), (68, (.iload_n 1, 69, 1, 0)), (69, (.invokevirtual 128, 72, 0, 0)), (72, (.iinc 1 1, 75, 1, 1)), (75, (.goto (-27), 78, 48, 0)), (78, (.aload_n 0, 79, 0, 0)), (79, (.iconst 0, 80, 0, 0)), (80, (.putfield 102, 83, 102, 0)), (83, (.aload_n 0, 84, 0, 0)), (84, (.iconst 0, 85, 0, 0)), (85, (.putfield 98, 88, 98, 0)), (88, (.return_, 89, 0, 0))]
theorem pX6_nightOn_ok : ∀ pc q, lkB pX6_nightOn pc = some q → xdec cX6_nightOn pc = some q := lkB_all (by decide +kernel)
def pX6_goNights : List (Nat × (Instr × Nat × Nat × Int32)) := [(0, (.iconst 0, 1, 0, 0)), (1, (.istore_n 2, 2, 2, 0)), (2, (.iload_n 2, 3, 2, 0)), (3, (.iload_n 1, 4, 1, 0)), (4, (.if_icmp .ge 13, 7, 17, 0)), (7, (.aload_n 0, 8, 0, 0)), (8, (.invokevirtual 132, 11, 0, 0)), (11, (.iinc 2 1, 14, 2, 1)), (14, (.goto (-12), 17, 2, 0)), (17, (.return_, 18, 0, 0))]
theorem pX6_goNights_ok : ∀ pc q, lkB pX6_goNights pc = some q → xdec cX6_goNights pc = some q := lkB_all (by decide +kernel)
def pX6_allPlates : List (Nat × (Instr × Nat × Nat × Int32)) := [(0, (.iconst 0, 1, 0, 0)), (1, (.istore_n 1, 2, 1, 0)), (2, (.iconst 0, 3, 0, 0)), (3, (.istore_n 2, 4, 2, 0)), (4, (.iload_n 2, 5, 2, 0)), (5, (.bipush 10, 7, 0, 10)), (7, (.if_icmp .ge 18, 10, 25, 0)), (10, (.iload_n 1, 11, 1, 0)), (11, (.aload_n 0, 12, 0, 0)), (12, (.getfield 7, 15, 7, 0)), (15, (.iload_n 2, 16, 2, 0)), (16, (.iaload, 17, 0, 0)), (17, (.iadd, 18, 0, 0)), (18, (.istore_n 1, 19, 1, 0)), (19, (.iinc 2 1, 22, 2, 1)), (22, (.goto (-18), 25, 4, 0)), (25, (.iload_n 1, 26, 1, 0)), (26, (.ireturn, 27, 0, 0))]
theorem pX6_allPlates_ok : ∀ pc q, lkB pX6_allPlates pc = some q → xdec cX6_allPlates pc = some q := lkB_all (by decide +kernel)
def pX6_here : List (Nat × (Instr × Nat × Nat × Int32)) := [(0, (.aload_n 0, 1, 0, 0)), (1, (.getfield 135, 4, 135, 0)), (4, (.aload_n 0, 5, 0, 0)), (5, (.getfield 40, 8, 40, 0)), (8, (.aload_n 0, 9, 0, 0)), (9, (.getfield 138, 12, 138, 0)), (12, (.iaload, 13, 0, 0)), (13, (.if_icmp .ge 24, 16, 37, 0)), (16, (.aload_n 0, 17, 0, 0)), (17, (.getfield 43, 20, 43, 0)), (20, (.bipush 100, 22, 0, 100)), (22, (.aload_n 0, 23, 0, 0)), (23, (.getfield 138, 26, 138, 0)), (26, (.imul, 27, 0, 0)), (27, (.aload_n 0, 28, 0, 0)), (28, (.getfield 135, 31, 135, 0)), (31, (.iadd, 32, 0, 0)), (32, (.laload, 33, 0, 0)), (33, (.l2i, 34, 0, 0)), (34, (.goto 6, 37, 40, 0)), (37, (.sipush (-999), 40, 0, (-999))), (40, (.ireturn, 41, 0, 0))]
theorem pX6_here_ok : ∀ pc q, lkB pX6_here pc = some q → xdec cX6_here pc = some q := lkB_all (by decide +kernel)
def pX6_readDigits : List (Nat × (Instr × Nat × Nat × Int32)) := [(0, (.iconst 0, 1, 0, 0)), (1, (.istore_n 2, 2, 2, 0)), (2, (.iconst 0, 3, 0, 0)), (3, (.istore_n 3, 4, 3, 0)), (4, (.iload_n 3, 5, 3, 0)), (5, (.iload_n 1, 6, 1, 0)), (6, (.if_icmp .ge 87, 9, 93, 0)), (9, (.aload_n 0, 10, 0, 0)), (10, (.aload_n 0, 11, 0, 0)), (11, (.getfield 141, 14, 141, 0)), (14, (.ifCond .ne 20, 17, 34, 0)), (17, (.aload_n 0, 18, 0, 0)), (18, (.invokevirtual 144, 21, 0, 0)), (21, (.i2l, 22, 0, 0)), (22, (.ldc2_w 148, 25, 148, 0)), (25, (.ldc2_w 150, 28, 150, 0)), (28, (.invokestatic 81, 31, 0, 0)), (31, (.ifCond .ne 7, 34, 38, 0)), (34, (.iconst 1, 35, 0, 1)), (35, (.goto 4, 38, 39, 0)), (38, (.iconst 0, 39, 0, 0)), (39, (.putfield 141, 42, 141, 0)), (42, (.aload_n 0, 43, 0, 0)), (43, (.getfield 141, 46, 141, 0)), (46, (.ifCond .eq 7, 49, 53, 0)), (49, (.iconst 0, 50, 0, 0)), (50, (.goto 15, 53, 65, 0)), (53, (.bipush 10, 55, 0, 10)), (55, (.iload_n 2, 56, 2, 0)), (56, (.imul, 57, 0, 0)), (57, (.aload_n 0, 58, 0, 0)), (58, (.invokevirtual 144, 61, 0, 0)), (61, (.iadd, 62, 0, 0)), (62, (.bipush 48, 64, 0, 48)), (64, (.isub, 65, 0, 0)), (65, (.istore_n 2, 66, 2, 0)), (66, (.aload_n 0, 67, 0, 0)), (67, (.dup, 68, 0, 0)), (68, (.getfield 135, 71, 135, 0)), (71, (.aload_n 0, 72, 0, 0)), (72, (.getfield 141, 75, 141, 0)), (75, (.ifCond .eq 7, 78, 82, 0)), (78, (.iconst 0, 79, 0, 0)), (79, (.goto 4, 82, 83, 0)), (82, (.iconst 1, 83, 0, 1)), (83, (.iadd, 84, 0, 0)), (84, (.putfield 135, 87, 135, 0)), (87, (.iinc 3 1, 90, 3, 1)), (90, (.goto (-86), 93, 4, 0)), (93, (.iload_n 2, 94, 2, 0)), (94, (.ireturn, 95, 0, 0))]
theorem pX6_readDigits_ok : ∀ pc q, lkB pX6_readDigits pc = some q → xdec cX6_readDigits pc = some q := lkB_all (by decide +kernel)
def pX6_isLetter : List (Nat × (Instr × Nat × Nat × Int32)) := [(0, (.iload_n 0, 1, 0, 0)), (1, (.bipush 103, 3, 0, 103)), (3, (.if_icmp .eq 39, 6, 42, 0)), (6, (.iload_n 0, 7, 0, 0)), (7, (.bipush 108, 9, 0, 108)), (9, (.if_icmp .eq 33, 12, 42, 0)), (12, (.iload_n 0, 13, 0, 0)), (13, (.bipush 119, 15, 0, 119)), (15, (.if_icmp .eq 27, 18, 42, 0)), (18, (.iload_n 0, 19, 0, 0)), (19, (.bipush 104, 21, 0, 104)), (21, (.if_icmp .eq 21, 24, 42, 0)), (24, (.iload_n 0, 25, 0, 0)), (25, (.bipush 101, 27, 0, 101)), (27, (.if_icmp .eq 15, 30, 42, 0)), (30, (.iload_n 0, 31, 0, 0)), (31, (.bipush 98, 33, 0, 98)), (33, (.if_icmp .eq 9, 36, 42, 0)), (36, (.iload_n 0, 37, 0, 0)), (37, (.bipush 100, 39, 0, 100)), (39, (.if_icmp .ne 7, 42, 46, 0)), (42, (.iconst 1, 43, 0, 1)), (43, (.goto 4, 46, 47, 0)), (46, (.iconst 0, 47, 0, 0)), (47, (.ireturn, 48, 0, 0))]
theorem pX6_isLetter_ok : ∀ pc q, lkB pX6_isLetter pc = some q → xdec cX6_isLetter pc = some q := lkB_all (by decide +kernel)
def pX6_readNumbers : List (Nat × (Instr × Nat × Nat × Int32)) := [(0, (.aload_n 0, 1, 0, 0)), (1, (.getfield 53, 4, 53, 0)), (4, (.iload_n 2, 5, 2, 0)), (5, (.aload_n 0, 6, 0, 0)), (6, (.iload_n 1, 7, 1, 0)), (7, (.bipush 100, 9, 0, 100)), (9, (.if_icmp .ne 7, 12, 16, 0)), (12, (.iconst 2, 13, 0, 2)), (13, (.goto 4, 16, 17, 0)), (16, (.iconst 1, 17, 0, 1)), (17, (.invokevirtual 152, 20, 0, 0)), (20, (.iastore, 21, 0, 0)), (21, (.iload_n 1, 22, 1, 0)), (22, (.bipush 100, 24, 0, 100)), (24, (.if_icmp .eq 32, 27, 56, 0)), (27, (.aload_n 0, 28, 0, 0)), (28, (.getfield 53, 31, 53, 0)), (31, (.iload_n 2, 32, 2, 0)), (32, (.iconst 1, 33, 0, 1)), (33, (.iadd, 34, 0, 0)), (34, (.aload_n 0, 35, 0, 0)), (35, (.iload_n 1, 36, 1, 0)), (36, (.bipush 108, 38, 0, 108)), (38, (.if_icmp .eq 9, 41, 47, 0)), (41, (.iload_n 1, 42, 1, 0)), (42, (.bipush 104, 44, 0, 104)), (44, (.if_icmp .ne 7, 47, 51, 0)), (47, (.iconst 2, 48, 0, 2)), (48, (.goto 4, 51, 52, 0)), (51, (.iconst 1, 52, 0, 1)), (52, (.invokevirtual 152, 55, 0, 0)), (55, (.iastore, 56, 0, 0)), (56, (.iload_n 1, 57, 1, 0)), (57, (.bipush 103, 59, 0, 103)), (59, (.if_icmp .ne 16, 62, 75, 0)), (62, (.aload_n 0, 63, 0, 0)), (63, (.getfield 53, 66, 53, 0)), (66, (.iload_n 2, 67, 2, 0)), (67, (.iconst 2, 68, 0, 2)), (68, (.iadd, 69, 0, 0)), (69, (.aload_n 0, 70, 0, 0)), (70, (.iconst 1, 71, 0, 1)), (71, (.invokevirtual 152, 74, 0, 0)), (74, (.iastore, 75, 0, 0)), (75, (.return_, 76, 0, 0))]
theorem pX6_readNumbers_ok : ∀ pc q, lkB pX6_readNumbers pc = some q → xdec cX6_readNumbers pc = some q := lkB_all (by decide +kernel)
def pX6_readStatement : List (Nat × (Instr × Nat × Nat × Int32)) := [(0, (.aload_n 0, 1, 0, 0)), (1, (.getfield 155, 4, 155, 0)), (4, (.istore_n 1, 5, 1, 0)), (5, (.aload_n 0, 6, 0, 0)), (6, (.invokevirtual 144, 9, 0, 0)), (9, (.istore_n 2, 10, 2, 0)), (10, (.aload_n 0, 11, 0, 0)), (11, (.getfield 47, 14, 47, 0)), (14, (.iload_n 1, 15, 1, 0)), (15, (.aload_n 0, 16, 0, 0)), (16, (.getfield 135, 19, 135, 0)), (19, (.iastore, 20, 0, 0)), (20, (.aload_n 0, 21, 0, 0)), (21, (.getfield 50, 24, 50, 0)), (24, (.iload_n 1, 25, 1, 0)), (25, (.iload_n 2, 26, 2, 0)), (26, (.iastore, 27, 0, 0)), (27, (.aload_n 0, 28, 0, 0)), (28, (.aload_n 0, 29, 0, 0)), (29, (.getfield 141, 32, 141, 0)), (32, (.ifCond .ne 10, 35, 42, 0)), (35, (.iload_n 2, 36, 2, 0)), (36, (.invokestatic 158, 39, 0, 0)), (39, (.ifCond .ne 7, 42, 46, 0)), (42, (.iconst 1, 43, 0, 1)), (43, (.goto 4, 46, 47, 0)), (46, (.iconst 0, 47, 0, 0)), (47, (.putfield 141, 50, 141, 0)), (50, (.aload_n 0, 51, 0, 0)), (51, (.dup, 52, 0, 0)), (52, (.getfield 135, 55, 135, 0)), (55, (.aload_n 0, 56, 0, 0)), (56, (.getfield 141, 59, 141, 0)), (59, (.ifCond .eq 7, 62, 66, 0)), (62, (.iconst 0, 63, 0, 0)), (63, (.goto 4, 66, 67, 0)), (66, (.iconst 1, 67, 0, 1)), (67, (.iadd, 68, 0, 0)), (68, (.putfield 135, 71, 135, 0)), (71, (.aload_n 0, 72, 0, 0)), (72, (.getfield 141, 75, 141, 0)), (75, (.ifCond .ne 11, 78, 86, 0)), (78, (.aload_n 0, 79, 0, 0)), (79, (.iload_n 2, 80, 2, 0)), (80, (.iconst 3, 81, 0, 3)), (81, (.iload_n 1, 82, 1, 0)), (82, (.imul, 83, 0, 0)), (83, (.invokevirtual 162, 86, 0, 0)), (86, (.aload_n 0, 87, 0, 0)), (87, (.aload_n 0, 88, 0, 0)), (88, (.getfield 141, 91, 141, 0)), (91, (.ifCond .ne 12, 94, 103, 0)), (94, (.aload_n 0, 95, 0, 0)), (95, (.invokevirtual 144, 98, 0, 0)), (98, (.bipush 59, 100, 0, 59)), (100, (.if_icmp .eq 7, 103, 107, 0)), (103, (.iconst 1, 104, 0, 1)), (104, (.goto 4, 107, 108, 0)), (107, (.iconst 0, 108, 0, 0)), (108, (.putfield 141, 111, 141, 0)), (111, (.aload_n 0, 112, 0, 0)), (112, (.dup, 113, 0, 0)), (113, (.getfield 135, 116, 135, 0)), (116, (.aload_n 0, 117, 0, 0)), (117, (.getfield 141, 120, 141, 0)), (120, (.ifCond .eq 7, 123, 127, 0)), (123, (.iconst 0, 124, 0, 0)), (124, (.goto 4, 127, 128, 0)), (127, (.iconst 1, 128, 0, 1)), (128, (.iadd, 129, 0, 0)), (129, (.putfield 135, 132, 135, 0)), (132, (.aload_n 0, 133, 0, 0)), (133, (.dup, 134, 0, 0)), (134, (.getfield 155, 137, 155, 0)), (137, (.iconst 1, 138, 0, 1)), (138, (.iadd, 139, 0, 0)), (139, (.putfield 155, 142, 155, 0)), (142, (.return_, 143, 0, 0))]
theorem pX6_readStatement_ok : ∀ pc q, lkB pX6_readStatement pc = some q → xdec cX6_readStatement pc = some q := lkB_all (by decide +kernel)
def pX6_guestComes : List (Nat × (Instr × Nat × Nat × Int32)) := [(0, (.iload_n 1, 1, 1, 0)), (1, (.bipush 8, 3, 0, 8)), (3, (.if_icmp .ge 16, 6, 19, 0)), (6, (.aload_n 0, 7, 0, 0)), (7, (.getfield 85, 10, 85, 0)), (10, (.bipush 7, 12, 0, 7)), (12, (.if_icmp .ge 7, 15, 19, 0)), (15, (.iconst 1, 16, 0, 1)), (16, (.goto 4, 19, 20, 0)), (19, (.iconst 0, 20, 0, 0)), (20, (.istore 4, 22, 4, 0)), (22, (.iload 4, 24, 4, 0)), (24, (.ifCond .eq 79, 27, 103, 0)), (27, (.aload_n 0, 28, 0, 0)), (28, (.getfield 13, 31, 13, 0)), (31, (.aload_n 0, 32, 0, 0)), (32, (.getfield 85, 35, 85, 0)), (35, (.iload_n 1, 36, 1, 0)), (36, (.iastore, 37, 0, 0)), (37, (.aload_n 0, 38, 0, 0)), (38, (.getfield 16, 41, 16, 0)), (41, (.aload_n 0, 42, 0, 0)), (42, (.getfield 85, 45, 85, 0)), (45, (.iload_n 2, 46, 2, 0)), (46, (.iastore, 47, 0, 0)), (47, (.aload_n 0, 48, 0, 0)), (48, (.getfield 19, 51, 19, 0)), (51, (.aload_n 0, 52, 0, 0)), (52, (.getfield 85, 55, 85, 0)), (55, (.iload_n 3, 56, 3, 0)), (56, (.iastore, 57, 0, 0)), (57, (.aload_n 0, 58, 0, 0)), (58, (.getfield 22, 61, 22, 0)), (61, (.aload_n 0, 62, 0, 0)), (62, (.getfield 85, 65, 85, 0)), (65, (.iconst 0, 66, 0, 0)), (66, (.iastore, 67, 0, 0)), (67, (.aload_n 0, 68, 0, 0)), (68, (.getfield 25, 71, 25, 0)), (71, (.aload_n 0, 72, 0, 0)), (72, (.getfield 85, 75, 85, 0)), (75, (.bipush 50, 77, 0, 50)), (77, (.iastore, 78, 0, 0)), (78, (.aload_n 0, 79, 0, 0)), (79, (.dup, 80, 0, 0)), (80, (.getfield 125, 83, 125, 0)), (83, (.iconst 1, 84, 0, 1)), (84, (.aload_n 0, 85, 0, 0)), (85, (.getfield 85, 88, 85, 0)), (88, (.ishl, 89, 0, 0)), (89, (.ior, 90, 0, 0)), (90, (.putfield 125, 93, 125, 0)), (93, (.aload_n 0, 94, 0, 0)), (94, (.dup, 95, 0, 0)), (95, (.getfield 85, 98, 85, 0)), (98, (.iconst 1, 99, 0, 1)), (99, (.iadd, 100, 0, 0)), (100, (.putfield 85, 103, 85, 0)), (103, (.iload 4, 105, 4, 0)), (105, (.ireturn, 106, 0, 0))]
theorem pX6_guestComes_ok : ∀ pc q, lkB pX6_guestComes pc = some q → xdec cX6_guestComes pc = some q := lkB_all (by decide +kernel)
def pX6_nightsCome : List (Nat × (Instr × Nat × Nat × Int32)) := [(0, (.iload_n 1, 1, 1, 0)), (1, (.i2l, 2, 0, 0)), (2, (.lconst 1, 3, 0, 1)), (3, (.ldc2_w 166, 6, 166, 0)), (6, (.invokestatic 81, 9, 0, 0)), (9, (.ifCond .eq 19, 12, 28, 0)), (12, (.aload_n 0, 13, 0, 0)), (13, (.getfield 92, 16, 92, 0)), (16, (.iload_n 1, 17, 1, 0)), (17, (.iadd, 18, 0, 0)), (18, (.sipush 999, 21, 0, 999)), (21, (.if_icmp .gt 7, 24, 28, 0)), (24, (.iconst 1, 25, 0, 1)), (25, (.goto 4, 28, 29, 0)), (28, (.iconst 0, 29, 0, 0)), (29, (.istore_n 2, 30, 2, 0)), (30, (.iload_n 2, 31, 2, 0)), (31, (.ifCond .eq 8, 34, 39, 0)), (34, (.aload_n 0, 35, 0, 0)), (35, (.iload_n 1, 36, 1, 0)), (36, (.invokevirtual 168, 39, 0, 0)), (39, (.iload_n 2, 40, 2, 0)), (40, (.ireturn, 41, 0, 0))]
theorem pX6_nightsCome_ok : ∀ pc q, lkB pX6_nightsCome pc = some q → xdec cX6_nightsCome pc = some q := lkB_all (by decide +kernel)
def pX6_ofGuest : List (Nat × (Instr × Nat × Nat × Int32)) := [(0, (.aload_n 0, 1, 0, 0)), (1, (.iload_n 2, 2, 2, 0)), (2, (.invokevirtual 171, 5, 0, 0)), (5, (.ifCond .eq 17, 8, 22, 0)), (8, (.iload_n 1, 9, 1, 0)), (9, (.bipush 104, 11, 0, 104)), (11, (.if_icmp .ne 7, 14, 18, 0)), (14, (.iload_n 3, 15, 3, 0)), (15, (.ifCond .le 7, 18, 22, 0)), (18, (.iconst 1, 19, 0, 1)), (19, (.goto 4, 22, 23, 0)), (22, (.iconst 0, 23, 0, 0)), (23, (.istore 4, 25, 4, 0)), (25, (.iload 4, 27, 4, 0)), (27, (.ifCond .eq 16, 30, 43, 0)), (30, (.iload_n 1, 31, 1, 0)), (31, (.bipush 119, 33, 0, 119)), (33, (.if_icmp .ne 10, 36, 43, 0)), (36, (.aload_n 0, 37, 0, 0)), (37, (.getfield 19, 40, 19, 0)), (40, (.iload_n 2, 41, 2, 0)), (41, (.iload_n 3, 42, 3, 0)), (42, (.iastore, 43, 0, 0)), (43, (.iload 4, 45, 4, 0)), (45, (.ifCond .eq 16, 48, 61, 0)), (48, (.iload_n 1, 49, 1, 0)), (49, (.bipush 101, 51, 0, 101)), (51, (.if_icmp .ne 10, 54, 61, 0)), (54, (.aload_n 0, 55, 0, 0)), (55, (.getfield 22, 58, 22, 0)), (58, (.iload_n 2, 59, 2, 0)), (59, (.iload_n 3, 60, 3, 0)), (60, (.iastore, 61, 0, 0)), (61, (.iload 4, 63, 4, 0)), (63, (.ifCond .eq 28, 66, 91, 0)), (66, (.iload_n 1, 67, 1, 0)), (67, (.bipush 104, 69, 0, 104)), (69, (.if_icmp .ne 22, 72, 91, 0)), (72, (.aload_n 0, 73, 0, 0)), (73, (.getfield 25, 76, 25, 0)), (76, (.iload_n 2, 77, 2, 0)), (77, (.iload_n 3, 78, 3, 0)), (78, (.iastore, 79, 0, 0)), (79, (.aload_n 0, 80, 0, 0)), (80, (.dup, 81, 0, 0)), (81, (.getfield 125, 84, 125, 0)), (84, (.iconst 1, 85, 0, 1)), (85, (.iload_n 2, 86, 2, 0)), (86, (.ishl, 87, 0, 0)), (87, (.ior, 88, 0, 0)), (88, (.putfield 125, 91, 125, 0)), (91, (.iload 4, 93, 4, 0)), (93, (.ireturn, 94, 0, 0))]
theorem pX6_ofGuest_ok : ∀ pc q, lkB pX6_ofGuest pc = some q → xdec cX6_ofGuest pc = some q := lkB_all (by decide +kernel)
def pX6_comesTold : List (Nat × (Instr × Nat × Nat × Int32)) := [(0, (.aload_n 0, 1, 0, 0)), (1, (.getfield 53, 4, 53, 0)), (4, (.iconst 3, 5, 0, 3)), (5, (.iload_n 1, 6, 1, 0)), (6, (.imul, 7, 0, 0)), (7, (.iaload, 8, 0, 0)), (8, (.istore_n 2, 9, 2, 0)), (9, (.aload_n 0, 10, 0, 0)), (10, (.getfield 53, 13, 53, 0)), (13, (.iconst 3, 14, 0, 3)), (14, (.iload_n 1, 15, 1, 0)), (15, (.imul, 16, 0, 0)), (16, (.iconst 1, 17, 0, 1)), (17, (.iadd, 18, 0, 0)), (18, (.iaload, 19, 0, 0)), (19, (.istore_n 3, 20, 3, 0)), (20, (.aload_n 0, 21, 0, 0)), (21, (.getfield 50, 24, 50, 0)), (24, (.iload_n 1, 25, 1, 0)), (25, (.iaload, 26, 0, 0)), (26, (.lookupswitch 95 #[(98, 68), (100, 89), (103, 42), (108, 59)], 68, 0, 0)), (68, (.aload_n 0, 69, 0, 0)), (69, (.iload_n 2, 70, 2, 0)), (70, (.iload_n 3, 71, 3, 0)), (71, (.aload_n 0, 72, 0, 0)), (72, (.getfield 53, 75, 53, 0)), (75, (.iconst 3, 76, 0, 3)), (76, (.iload_n 1, 77, 1, 0)), (77, (.imul, 78, 0, 0)), (78, (.iconst 2, 79, 0, 2)), (79, (.iadd, 80, 0, 0)), (80, (.iaload, 81, 0, 0)), (81, (.invokevirtual 174, 84, 0, 0)), (84, (.ireturn, 85, 0, 0)), (85, (.aload_n 0, 86, 0, 0)), (86, (.getfield 7, 89, 7, 0)), (89, (.iload_n 2, 90, 2, 0)), (90, (.iload_n 3, 91, 3, 0)), (91, (.iastore, 92, 0, 0)), (92, (.iconst 1, 93, 0, 1)), (93, (.ireturn, 94, 0, 0)), (94, (.aload_n 0, 95, 0, 0)), (95, (.getfield 7, 98, 7, 0)), (98, (.iload_n 2, 99, 2, 0)), (99, (.aload_n 0, 100, 0, 0)), (100, (.getfield 7, 103, 7, 0)), (103, (.iload_n 2, 104, 2, 0)), (104, (.iaload, 105, 0, 0)), (105, (.iload_n 3, 106, 3, 0)), (106, (.iadd, 107, 0, 0)), (107, (.bipush 99, 109, 0, 99)), (109, (.invokestatic 88, 112, 0, 0)), (112, (.iastore, 113, 0, 0)), (113, (.iconst 1, 114, 0, 1)), (114, (.ireturn, 115, 0, 0)), (115, (.aload_n 0, 116, 0, 0)), (116, (.iload_n 2, 117, 2, 0)), (117, (.invokevirtual 178, 120, 0, 0)), (120, (.ireturn, 121, 0, 0)), (121, (.aload_n 0, 122, 0, 0)), (122, (.aload_n 0, 123, 0, 0)), (123, (.getfield 50, 126, 50, 0)), (126, (.iload_n 1, 127, 1, 0)), (127, (.iaload, 128, 0, 0)), (128, (.iload_n 2, 129, 2, 0)), (129, (.iload_n 3, 130, 3, 0)), (130, (.invokevirtual 181, 133, 0, 0)), (133, (.ireturn, 134, 0, 0))]
theorem pX6_comesTold_ok : ∀ pc q, lkB pX6_comesTold pc = some q → xdec cX6_comesTold pc = some q := lkB_all (by decide +kernel)
def pX6_inn : List (Nat × (Instr × Nat × Nat × Int32)) := [(0, (.aload_n 0, 1, 0, 0)), (1, (.iconst 0, 2, 0, 0)), (2, (.putfield 75, 5, 75, 0)), (5, (.aload_n 0, 6, 0, 0)), (6, (.iload_n 1, 7, 1, 0)), (7, (.invokevirtual 184, 10, 0, 0)), (10, (.istore_n 2, 11, 2, 0)), (11, (.iload_n 2, 12, 2, 0)), (12, (.ifCond .ne 17, 15, 29, 0)), (15, (.aload_n 0, 16, 0, 0)), (16, (.getfield 37, 19, 37, 0)), (19, (.iload_n 1, 20, 1, 0)), (20, (.iaload, 21, 0, 0)), (21, (.ifCond .eq 8, 24, 29, 0)), (24, (.bipush (-12), 26, 0, (-12))), (26, (.goto 4, 29, 30, 0)), (29, (.iload_n 2, 30, 2, 0)), (30, (.istore_n 2, 31, 2, 0)), (31, (.iload_n 2, 32, 2, 0)), (32, (.ifCond .ge 5, 35, 37, 0)), (35, (.iload_n 2, 36, 2, 0)), (36, (.ireturn, 37, 0, 0)), (37, (.aload_n 0, 38, 0, 0)), (38, (.iload_n 1, 39, 1, 0)), (39, (.putfield 138, 42, 138, 0)), (42, (.aload_n 0, 43, 0, 0)), (43, (.iconst 0, 44, 0, 0)), (44, (.putfield 135, 47, 135, 0)), (47, (.aload_n 0, 48, 0, 0)), (48, (.iconst 0, 49, 0, 0)), (49, (.putfield 141, 52, 141, 0)), (52, (.aload_n 0, 53, 0, 0)), (53, (.iconst 0, 54, 0, 0)), (54, (.putfield 155, 57, 155, 0)), (57, (.aload_n 0, 58, 0, 0)), (58, (.getfield 141, 61, 141, 0)), (61, (.ifCond .ne 30, 64, 91, 0)), (64, (.aload_n 0, 65, 0, 0)), (65, (.getfield 155, 68, 155, 0)), (68, (.ifCond .eq 16, 71, 84, 0)), (71, (.aload_n 0, 72, 0, 0)), (72, (.getfield 135, 75, 135, 0)), (75, (.aload_n 0, 76, 0, 0)), (76, (.getfield 40, 79, 40, 0)), (79, (.iload_n 1, 80, 1, 0)), (80, (.iaload, 81, 0, 0)), (81, (.if_icmp .ge 10, 84, 91, 0)), (84, (.aload_n 0, 85, 0, 0)), (85, (.invokevirtual 187, 88, 0, 0)), (88, (.goto (-31), 91, 57, 0)), (91, (.aload_n 0, 92, 0, 0)), (92, (.getfield 141, 95, 141, 0)), (95, (.ifCond .eq 12, 98, 107, 0)), (98, (.sipush (-1000), 101, 0, (-1000))), (101, (.aload_n 0, 102, 0, 0)), (102, (.getfield 135, 105, 135, 0)), (105, (.isub, 106, 0, 0)), (106, (.ireturn, 107, 0, 0)), (107, (.aload_n 0, 108, 0, 0)), (108, (.invokevirtual 190, 111, 0, 0)), (111, (.iconst 0, 112, 0, 0)), (112, (.istore_n 3, 113, 3, 0)), (113, (.iload_n 3, 114, 3, 0)), (114, (.aload_n 0, 115, 0, 0)), (115, (.getfield 155, 118, 155, 0)), (118, (.if_icmp .ge 32, 121, 150, 0)), (121, (.aload_n 0, 122, 0, 0)), (122, (.iload_n 3, 123, 3, 0)), (123, (.invokevirtual 193, 126, 0, 0)), (126, (.ifCond .ne 18, 129, 144, 0)), (129, (.aload_n 0, 130, 0, 0)), (130, (.invokevirtual 196, 133, 0, 0)), (133, (.sipush (-2000), 136, 0, (-2000))), (136, (.aload_n 0, 137, 0, 0)), (137, (.getfield 47, 140, 47, 0)), (140, (.iload_n 3, 141, 3, 0)), (141, (.iaload, 142, 0, 0)), (142, (.isub, 143, 0, 0)), (143, (.ireturn, 144, 0, 0)), (144, (.iinc 3 1, 147, 3, 1)), (147, (.goto (-34), 150, 113, 0)), (150, (.aload_n 0, 151, 0, 0)), (151, (.getfield 155, 154, 155, 0)), (154, (.ireturn, 155, 0, 0))]
theorem pX6_inn_ok : ∀ pc q, lkB pX6_inn pc = some q → xdec cX6_inn pc = some q := lkB_all (by decide +kernel)
def pX6_carry : List (Nat × (Instr × Nat × Nat × Int32)) := [(0, (.aload_n 0, 1, 0, 0)), (1, (.getfield 199, 4, 199, 0)), (4, (.ifCond .eq 13, 7, 17, 0)), (7, (.aload_n 0, 8, 0, 0)), (8, (.getfield 202, 11, 202, 0)), (11, (.aload_n 0, 12, 0, 0)), (12, (.getfield 205, 15, 205, 0)), (15, (.iload_n 1, 16, 1, 0)), (16, (.iastore, 17, 0, 0)), (17, (.aload_n 0, 18, 0, 0)), (18, (.dup, 19, 0, 0)), (19, (.getfield 205, 22, 205, 0)), (22, (.iconst 1, 23, 0, 1)), (23, (.iadd, 24, 0, 0)), (24, (.putfield 205, 27, 205, 0)), (27, (.aload_n 0, 28, 0, 0)), (28, (.getfield 202, 31, 202, 0)), (31, (.aload_n 0, 32, 0, 0)), (32, (.getfield 205, 35, 205, 0)), (35, (.iconst 1, 36, 0, 1)), (36, (.isub, 37, 0, 0)), (37, (.iaload, 38, 0, 0)), (38, (.ireturn, 39, 0, 0))]
theorem pX6_carry_ok : ∀ pc q, lkB pX6_carry pc = some q → xdec cX6_carry pc = some q := lkB_all (by decide +kernel)
def pX6_carryAll : List (Nat × (Instr × Nat × Nat × Int32)) := [(0, (.aload_n 0, 1, 0, 0)), (1, (.aload_n 1, 2, 1, 0)), (2, (.putfield 202, 5, 202, 0)), (5, (.aload_n 0, 6, 0, 0)), (6, (.iload_n 2, 7, 2, 0)), (7, (.putfield 199, 10, 199, 0)), (10, (.aload_n 0, 11, 0, 0)), (11, (.iconst 0, 12, 0, 0)), (12, (.putfield 205, 15, 205, 0)), (15, (.aload_n 0, 16, 0, 0)), (16, (.aload_n 0, 17, 0, 0)), (17, (.aload_n 0, 18, 0, 0)), (18, (.getfield 85, 21, 85, 0)), (21, (.invokevirtual 208, 24, 0, 0)), (24, (.putfield 85, 27, 85, 0)), (27, (.aload_n 0, 28, 0, 0)), (28, (.aload_n 0, 29, 0, 0)), (29, (.aload_n 0, 30, 0, 0)), (30, (.getfield 125, 33, 125, 0)), (33, (.invokevirtual 208, 36, 0, 0)), (36, (.putfield 125, 39, 125, 0)), (39, (.aload_n 0, 40, 0, 0)), (40, (.aload_n 0, 41, 0, 0)), (41, (.aload_n 0, 42, 0, 0)), (42, (.getfield 116, 45, 116, 0)), (45, (.invokevirtual 208, 48, 0, 0)), (48, (.putfield 116, 51, 116, 0)), (51, (.aload_n 0, 52, 0, 0)), (52, (.aload_n 0, 53, 0, 0)), (53, (.aload_n 0, 54, 0, 0)), (54, (.getfield 122, 57, 122, 0)), (57, (.invokevirtual 208, 60, 0, 0)), (60, (.putfield 122, 63, 122, 0)), (63, (.aload_n 0, 64, 0, 0)), (64, (.aload_n 0, 65, 0, 0)), (65, (.aload_n 0, 66, 0, 0)), (66, (.getfield 92, 69, 92, 0)), (69, (.invokevirtual 208, 72, 0, 0)), (72, (.putfield 92, 75, 92, 0)), (75, (.iconst 0, 76, 0, 0)), (76, (.istore_n 3, 77, 3, 0)), (77, (.iload_n 3, 78, 3, 0)), (78, (.bipush 10, 80, 0, 10)), (80, (.if_icmp .ge 25, 83, 105, 0)), (83, (.aload_n 0, 84, 0, 0)), (84, (.getfield 7, 87, 7, 0)), (87, (.iload_n 3, 88, 3, 0)), (88, (.aload_n 0, 89, 0, 0)), (89, (.aload_n 0, 90, 0, 0)), (90, (.getfield 7, 93, 7, 0)), (93, (.iload_n 3, 94, 3, 0)), (94, (.iaload, 95, 0, 0)), (95, (.invokevirtual 208, 98, 0, 0)), (98, (.iastore, 99, 0, 0)), (99, (.iinc 3 1, 102, 3, 1)), (102, (.goto (-25), 105, 77, 0)), (105, (.iconst 0, 106, 0, 0)), (106, (.istore_n 3, 107, 3, 0)), (107, (.iload_n 3, 108, 3, 0)), (108, (.bipush 7, 110, 0, 7)), (110, (.if_icmp .ge 89, 113, 199, 0)), (113, (.aload_n 0, 114, 0, 0)), (114, (.getfield 13, 117, 13, 0)), (117, (.iload_n 3, 118, 3, 0)), (118, (.aload_n 0, 119, 0, 0)), (119, (.aload_n 0, 120, 0, 0)), (120, (.getfield 13, 123, 13, 0)), (123, (.iload_n 3, 124, 3, 0)), (124, (.iaload, 125, 0, 0)), (125, (.invokevirtual 208, 128, 0, 0)), (128, (.iastore, 129, 0, 0)), (129, (.aload_n 0, 130, 0, 0)), (130, (.getfield 16, 133, 16, 0)), (133, (.iload_n 3, 134, 3, 0)), (134, (.aload_n 0, 135, 0, 0)), (135, (.aload_n 0, 136, 0, 0)), (136, (.getfield 16, 139, 16, 0)), (139, (.iload_n 3, 140, 3, 0)), (140, (.iaload, 141, 0, 0)), (141, (.invokevirtual 208, 144, 0, 0)), (144, (.iastore, 145, 0, 0)), (145, (.aload_n 0, 146, 0, 0)), (146, (.getfield 19, 149, 19, 0)), (149, (.iload_n 3, 150, 3, 0)), (150, (.aload_n 0, 151, 0, 0)), (151, (.aload_n 0, 152, 0, 0)), (152, (.getfield 19, 155, 19, 0)), (155, (.iload_n 3, 156, 3, 0)), (156, (.iaload, 157, 0, 0)), (157, (.invokevirtual 208, 160, 0, 0)), (160, (.iastore, 161, 0, 0)), (161, (.aload_n 0, 162, 0, 0)), (162, (.getfield 22, 165, 22, 0)), (165, (.iload_n 3, 166, 3, 0)), (166, (.aload_n 0, 167, 0, 0)), (167, (.aload_n 0, 168, 0, 0)), (168, (.getfield 22, 171, 22, 0)), (171, (.iload_n 3, 172, 3, 0)), (172, (.iaload, 173, 0, 0)), (173, (.invokevirtual 208, 176, 0, 0)), (176, (.iastore, 177, 0, 0)), (177, (.aload_n 0, 178, 0, 0)), (178, (.getfield 25, 181, 25, 0)), (181, (.iload_n 3, 182, 3, 0)), (182, (.aload_n 0, 183, 0, 0)), (183, (.aload_n 0, 184, 0, 0)), (184, (.getfield 25, 187, 25, 0)), (187, (.iload_n 3, 188, 3, 0)), (188, (.iaload, 189, 0, 0)), (189, (.invokevirtual 208, 192, 0, 0)), (192, (.iastore, 193, 0, 0)), (193, (.iinc 3 1, 196, 3, 1)), (196, (.goto (-89), 199, 107, 0)), (199, (.return_, 200, 0, 0))]
theorem pX6_carryAll_ok : ∀ pc q, lkB pX6_carryAll pc = some q → xdec cX6_carryAll pc = some q := lkB_all (by decide +kernel)
def pX6_think : List (Nat × (Instr × Nat × Nat × Int32)) := [(0, (.aload_n 0, 1, 0, 0)), (1, (.aload_n 0, 2, 0, 0)), (2, (.getfield 56, 5, 56, 0)), (5, (.iconst 1, 6, 0, 1)), (6, (.invokevirtual 211, 9, 0, 0)), (9, (.return_, 10, 0, 0))]
theorem pX6_think_ok : ∀ pc q, lkB pX6_think pc = some q → xdec cX6_think pc = some q := lkB_all (by decide +kernel)
def pX6_again : List (Nat × (Instr × Nat × Nat × Int32)) := [(0, (.aload_n 0, 1, 0, 0)), (1, (.aload_n 0, 2, 0, 0)), (2, (.getfield 56, 5, 56, 0)), (5, (.iconst 0, 6, 0, 0)), (6, (.invokevirtual 211, 9, 0, 0)), (9, (.return_, 10, 0, 0))]
theorem pX6_again_ok : ∀ pc q, lkB pX6_again pc = some q → xdec cX6_again pc = some q := lkB_all (by decide +kernel)
def pX6_image : List (Nat × (Instr × Nat × Nat × Int32)) := [(0, (.aload_n 0, 1, 0, 0)), (1, (.iconst 0, 2, 0, 0)), (2, (.putfield 75, 5, 75, 0)), (5, (.aload_n 0, 6, 0, 0)), (6, (.iconst 1, 7, 0, 1)), (7, (.putfield 215, 10, 215, 0)), (10, (.aload_n 0, 11, 0, 0)), (11, (.aload_n 0, 12, 0, 0)), (12, (.getfield 59, 15, 59, 0)), (15, (.iconst 1, 16, 0, 1)), (16, (.invokevirtual 211, 19, 0, 0)), (19, (.aload_n 0, 20, 0, 0)), (20, (.getfield 92, 23, 92, 0)), (23, (.ireturn, 24, 0, 0))]
theorem pX6_image_ok : ∀ pc q, lkB pX6_image pc = some q → xdec cX6_image pc = some q := lkB_all (by decide +kernel)
def pX6_restore : List (Nat × (Instr × Nat × Nat × Int32)) := [(0, (.aload_n 0, 1, 0, 0)), (1, (.iconst 0, 2, 0, 0)), (2, (.putfield 75, 5, 75, 0)), (5, (.aload_n 0, 6, 0, 0)), (6, (.getfield 215, 9, 215, 0)), (9, (.ifCond .ne 6, 12, 15, 0)), (12, (.bipush (-3), 14, 0, (-3))), (14, (.ireturn, 15, 0, 0)), (15, (.aload_n 0, 16, 0, 0)), (16, (.aload_n 0, 17, 0, 0)), (17, (.getfield 59, 20, 59, 0)), (20, (.iconst 0, 21, 0, 0)), (21, (.invokevirtual 211, 24, 0, 0)), (24, (.aload_n 0, 25, 0, 0)), (25, (.getfield 92, 28, 92, 0)), (28, (.ireturn, 29, 0, 0))]
theorem pX6_restore_ok : ∀ pc q, lkB pX6_restore pc = some q → xdec cX6_restore pc = some q := lkB_all (by decide +kernel)
def pX6_guest : List (Nat × (Instr × Nat × Nat × Int32)) := [(0, (.aload_n 0, 1, 0, 0)), (1, (.iconst 0, 2, 0, 0)), (2, (.putfield 75, 5, 75, 0)), (5, (.aload_n 0, 6, 0, 0)), (6, (.iload_n 1, 7, 1, 0)), (7, (.invokevirtual 171, 10, 0, 0)), (10, (.ifCond .eq 15, 13, 25, 0)), (13, (.iload_n 2, 14, 2, 0)), (14, (.i2l, 15, 0, 0)), (15, (.lconst 0, 16, 0, 0)), (16, (.ldc2_w 218, 19, 218, 0)), (19, (.invokestatic 81, 22, 0, 0)), (22, (.ifCond .ne 5, 25, 27, 0)), (25, (.iconst (-1), 26, 0, (-1))), (26, (.ireturn, 27, 0, 0)), (27, (.iload_n 2, 28, 2, 0)), (28, (.tableswitch 102 0 6 #[44, 51, 58, 65, 72, 79, 96], 72, 0, 0)), (72, (.aload_n 0, 73, 0, 0)), (73, (.getfield 13, 76, 13, 0)), (76, (.iload_n 1, 77, 1, 0)), (77, (.iaload, 78, 0, 0)), (78, (.ireturn, 79, 0, 0)), (79, (.aload_n 0, 80, 0, 0)), (80, (.getfield 16, 83, 16, 0)), (83, (.iload_n 1, 84, 1, 0)), (84, (.iaload, 85, 0, 0)), (85, (.ireturn, 86, 0, 0)), (86, (.aload_n 0, 87, 0, 0)), (87, (.getfield 19, 90, 19, 0)), (90, (.iload_n 1, 91, 1, 0)), (91, (.iaload, 92, 0, 0)), (92, (.ireturn, 93, 0, 0)), (93, (.aload_n 0, 94, 0, 0)), (94, (.getfield 22, 97, 22, 0)), (97, (.iload_n 1, 98, 1, 0)), (98, (.iaload, 99, 0, 0)), (99, (.ireturn, 100, 0, 0)), (100, (.aload_n 0, 101, 0, 0)), (101, (.getfield 25, 104, 25, 0)), (104, (.iload_n 1, 105, 1, 0)), (105, (.iaload, 106, 0, 0)), (106, (.ireturn, 107, 0, 0)), (107, (.aload_n 0, 108, 0, 0)), (108, (.getfield 125, 111, 125, 0)), (111, (.iload_n 1, 112, 1, 0)), (112, (.invokestatic 105, 115, 0, 0)), (115, (.ifCond .eq 7, 118, 122, 0)), (118, (.iconst 1, 119, 0, 1)), (119, (.goto 4, 122, 123, 0)), (122, (.iconst 0, 123, 0, 0)), (123, (.ireturn, 124, 0, 0)), (124, (.aload_n 0, 125, 0, 0)), (125, (.iload_n 1, 126, 1, 0)), (126, (.invokevirtual 109, 129, 0, 0)), (129, (.ireturn, 130, 0, 0)), (130, (.aload_n 0, 131, 0, 0)), (131, (.iload_n 1, 132, 1, 0)), (132, (.aload_n 0, 133, 0, 0)), (133, (.getfield 19, 136, 19, 0)), (136, (.iload_n 1, 137, 1, 0)), (137, (.iaload, 138, 0, 0)), (138, (.invokevirtual 113, 141, 0, 0)), (141, (.bipush 10, 143, 0, 10)), (143, (.iadd, 144, 0, 0)), (144, (.ireturn, 145, 0, 0))]
theorem pX6_guest_ok : ∀ pc q, lkB pX6_guest pc = some q → xdec cX6_guest pc = some q := lkB_all (by decide +kernel)
def pX6_larder : List (Nat × (Instr × Nat × Nat × Int32)) := [(0, (.aload_n 0, 1, 0, 0)), (1, (.iconst 0, 2, 0, 0)), (2, (.putfield 75, 5, 75, 0)), (5, (.iload_n 1, 6, 1, 0)), (6, (.invokestatic 220, 9, 0, 0)), (9, (.ifCond .eq 12, 12, 21, 0)), (12, (.aload_n 0, 13, 0, 0)), (13, (.getfield 7, 16, 7, 0)), (16, (.iload_n 1, 17, 1, 0)), (17, (.iaload, 18, 0, 0)), (18, (.goto 4, 21, 22, 0)), (21, (.iconst (-1), 22, 0, (-1))), (22, (.ireturn, 23, 0, 0))]
theorem pX6_larder_ok : ∀ pc q, lkB pX6_larder pc = some q → xdec cX6_larder pc = some q := lkB_all (by decide +kernel)
def pX6_comes : List (Nat × (Instr × Nat × Nat × Int32)) := [(0, (.aload_n 0, 1, 0, 0)), (1, (.iconst 0, 2, 0, 0)), (2, (.putfield 75, 5, 75, 0)), (5, (.iload_n 1, 6, 1, 0)), (6, (.i2l, 7, 0, 0)), (7, (.lconst 0, 8, 0, 0)), (8, (.ldc2_w 218, 11, 218, 0)), (11, (.invokestatic 81, 14, 0, 0)), (14, (.ifCond .eq 10, 17, 24, 0)), (17, (.iload_n 2, 18, 2, 0)), (18, (.invokestatic 220, 21, 0, 0)), (21, (.ifCond .ne 5, 24, 26, 0)), (24, (.iconst (-1), 25, 0, (-1))), (25, (.ireturn, 26, 0, 0)), (26, (.aload_n 0, 27, 0, 0)), (27, (.iload_n 1, 28, 1, 0)), (28, (.invokevirtual 223, 31, 0, 0)), (31, (.ifCond .lt 12, 34, 43, 0)), (34, (.aload_n 0, 35, 0, 0)), (35, (.getfield 85, 38, 85, 0)), (38, (.bipush 7, 40, 0, 7)), (40, (.if_icmp .ne 22, 43, 62, 0)), (43, (.aload_n 0, 44, 0, 0)), (44, (.iload_n 1, 45, 1, 0)), (45, (.invokevirtual 223, 48, 0, 0)), (48, (.ifCond .ge 11, 51, 59, 0)), (51, (.aload_n 0, 52, 0, 0)), (52, (.iload_n 1, 53, 1, 0)), (53, (.invokevirtual 223, 56, 0, 0)), (56, (.goto 5, 59, 61, 0)), (59, (.bipush (-2), 61, 0, (-2))), (61, (.ireturn, 62, 0, 0)), (62, (.aload_n 0, 63, 0, 0)), (63, (.aload_n 0, 64, 0, 0)), (64, (.getfield 31, 67, 31, 0)), (67, (.iload_n 1, 68, 1, 0)), (68, (.iaload, 69, 0, 0)), (69, (.aload_n 0, 70, 0, 0)), (70, (.getfield 34, 73, 34, 0)), (73, (.iload_n 1, 74, 1, 0)), (74, (.iaload, 75, 0, 0)), (75, (.iload_n 2, 76, 2, 0)), (76, (.invokevirtual 174, 79, 0, 0)), (79, (.pop, 80, 0, 0)), (80, (.aload_n 0, 81, 0, 0)), (81, (.getfield 85, 84, 85, 0)), (84, (.iconst 1, 85, 0, 1)), (85, (.isub, 86, 0, 0)), (86, (.ireturn, 87, 0, 0))]
theorem pX6_comes_ok : ∀ pc q, lkB pX6_comes pc = some q → xdec cX6_comes pc = some q := lkB_all (by decide +kernel)
def pX6_wishes : List (Nat × (Instr × Nat × Nat × Int32)) := [(0, (.aload_n 0, 1, 0, 0)), (1, (.iconst 0, 2, 0, 0)), (2, (.putfield 75, 5, 75, 0)), (5, (.aload_n 0, 6, 0, 0)), (6, (.iload_n 1, 7, 1, 0)), (7, (.invokevirtual 171, 10, 0, 0)), (10, (.ifCond .eq 10, 13, 20, 0)), (13, (.iload_n 2, 14, 2, 0)), (14, (.invokestatic 220, 17, 0, 0)), (17, (.ifCond .ne 5, 20, 22, 0)), (20, (.iconst (-1), 21, 0, (-1))), (21, (.ireturn, 22, 0, 0)), (22, (.aload_n 0, 23, 0, 0)), (23, (.getfield 19, 26, 19, 0)), (26, (.iload_n 1, 27, 1, 0)), (27, (.iaload, 28, 0, 0)), (28, (.istore_n 3, 29, 3, 0)), (29, (.aload_n 0, 30, 0, 0)), (30, (.getfield 19, 33, 19, 0)), (33, (.iload_n 1, 34, 1, 0)), (34, (.iload_n 2, 35, 2, 0)), (35, (.iastore, 36, 0, 0)), (36, (.iload_n 3, 37, 3, 0)), (37, (.ireturn, 38, 0, 0))]
theorem pX6_wishes_ok : ∀ pc q, lkB pX6_wishes pc = some q → xdec cX6_wishes pc = some q := lkB_all (by decide +kernel)
def pX6_heals : List (Nat × (Instr × Nat × Nat × Int32)) := [(0, (.aload_n 0, 1, 0, 0)), (1, (.iconst 0, 2, 0, 0)), (2, (.putfield 75, 5, 75, 0)), (5, (.aload_n 0, 6, 0, 0)), (6, (.iload_n 1, 7, 1, 0)), (7, (.invokevirtual 171, 10, 0, 0)), (10, (.ifCond .eq 15, 13, 25, 0)), (13, (.iload_n 2, 14, 2, 0)), (14, (.i2l, 15, 0, 0)), (15, (.lconst 1, 16, 0, 1)), (16, (.ldc2_w 226, 19, 226, 0)), (19, (.invokestatic 81, 22, 0, 0)), (22, (.ifCond .ne 5, 25, 27, 0)), (25, (.iconst (-1), 26, 0, (-1))), (26, (.ireturn, 27, 0, 0)), (27, (.aload_n 0, 28, 0, 0)), (28, (.getfield 125, 31, 125, 0)), (31, (.iload_n 1, 32, 1, 0)), (32, (.invokestatic 105, 35, 0, 0)), (35, (.ifCond .ne 6, 38, 41, 0)), (38, (.bipush (-3), 40, 0, (-3))), (40, (.ireturn, 41, 0, 0)), (41, (.aload_n 0, 42, 0, 0)), (42, (.getfield 25, 45, 25, 0)), (45, (.iload_n 1, 46, 1, 0)), (46, (.iaload, 47, 0, 0)), (47, (.istore_n 3, 48, 3, 0)), (48, (.aload_n 0, 49, 0, 0)), (49, (.getfield 25, 52, 25, 0)), (52, (.iload_n 1, 53, 1, 0)), (53, (.iload_n 2, 54, 2, 0)), (54, (.iastore, 55, 0, 0)), (55, (.iload_n 3, 56, 3, 0)), (56, (.ireturn, 57, 0, 0))]
theorem pX6_heals_ok : ∀ pc q, lkB pX6_heals pc = some q → xdec cX6_heals pc = some q := lkB_all (by decide +kernel)
def pX6_fills : List (Nat × (Instr × Nat × Nat × Int32)) := [(0, (.aload_n 0, 1, 0, 0)), (1, (.iconst 0, 2, 0, 0)), (2, (.putfield 75, 5, 75, 0)), (5, (.iload_n 1, 6, 1, 0)), (6, (.invokestatic 220, 9, 0, 0)), (9, (.ifCond .eq 15, 12, 24, 0)), (12, (.iload_n 2, 13, 2, 0)), (13, (.i2l, 14, 0, 0)), (14, (.lconst 0, 15, 0, 0)), (15, (.ldc2_w 226, 18, 226, 0)), (18, (.invokestatic 81, 21, 0, 0)), (21, (.ifCond .ne 5, 24, 26, 0)), (24, (.iconst (-1), 25, 0, (-1))), (25, (.ireturn, 26, 0, 0)), (26, (.aload_n 0, 27, 0, 0)), (27, (.getfield 7, 30, 7, 0)), (30, (.iload_n 1, 31, 1, 0)), (31, (.iaload, 32, 0, 0)), (32, (.istore_n 3, 33, 3, 0)), (33, (.aload_n 0, 34, 0, 0)), (34, (.getfield 7, 37, 7, 0)), (37, (.iload_n 1, 38, 1, 0)), (38, (.iload_n 2, 39, 2, 0)), (39, (.iastore, 40, 0, 0)), (40, (.iload_n 3, 41, 3, 0)), (41, (.ireturn, 42, 0, 0))]
theorem pX6_fills_ok : ∀ pc q, lkB pX6_fills pc = some q → xdec cX6_fills pc = some q := lkB_all (by decide +kernel)
def pX6_nights : List (Nat × (Instr × Nat × Nat × Int32)) := [(0, (.aload_n 0, 1, 0, 0)), (1, (.iconst 0, 2, 0, 0)), (2, (.putfield 75, 5, 75, 0)), (5, (.iload_n 1, 6, 1, 0)), (6, (.i2l, 7, 0, 0)), (7, (.lconst 1, 8, 0, 1)), (8, (.ldc2_w 166, 11, 166, 0)), (11, (.invokestatic 81, 14, 0, 0)), (14, (.ifCond .ne 5, 17, 19, 0)), (17, (.iconst (-1), 18, 0, (-1))), (18, (.ireturn, 19, 0, 0)), (19, (.aload_n 0, 20, 0, 0)), (20, (.getfield 92, 23, 92, 0)), (23, (.iload_n 1, 24, 1, 0)), (24, (.iadd, 25, 0, 0)), (25, (.sipush 999, 28, 0, 999)), (28, (.if_icmp .le 6, 31, 34, 0)), (31, (.bipush (-3), 33, 0, (-3))), (33, (.ireturn, 34, 0, 0)), (34, (.aload_n 0, 35, 0, 0)), (35, (.iload_n 1, 36, 1, 0)), (36, (.invokevirtual 168, 39, 0, 0)), (39, (.aload_n 0, 40, 0, 0)), (40, (.getfield 125, 43, 125, 0)), (43, (.invokestatic 228, 46, 0, 0)), (46, (.ireturn, 47, 0, 0))]
theorem pX6_nights_ok : ∀ pc q, lkB pX6_nights pc = some q → xdec cX6_nights pc = some q := lkB_all (by decide +kernel)
def pX6_guestThen : List (Nat × (Instr × Nat × Nat × Int32)) := [(0, (.aload_n 0, 1, 0, 0)), (1, (.iconst 0, 2, 0, 0)), (2, (.putfield 75, 5, 75, 0)), (5, (.aload_n 0, 6, 0, 0)), (6, (.iload_n 1, 7, 1, 0)), (7, (.invokevirtual 171, 10, 0, 0)), (10, (.ifCond .eq 25, 13, 35, 0)), (13, (.iload_n 2, 14, 2, 0)), (14, (.i2l, 15, 0, 0)), (15, (.lconst 0, 16, 0, 0)), (16, (.ldc2_w 166, 19, 166, 0)), (19, (.invokestatic 81, 22, 0, 0)), (22, (.ifCond .eq 13, 25, 35, 0)), (25, (.iload_n 3, 26, 3, 0)), (26, (.i2l, 27, 0, 0)), (27, (.lconst 0, 28, 0, 0)), (28, (.lconst 1, 29, 0, 1)), (29, (.invokestatic 81, 32, 0, 0)), (32, (.ifCond .ne 5, 35, 37, 0)), (35, (.iconst (-1), 36, 0, (-1))), (36, (.ireturn, 37, 0, 0)), (37, (.aload_n 0, 38, 0, 0)), (38, (.invokevirtual 190, 41, 0, 0)), (41, (.aload_n 0, 42, 0, 0)), (42, (.iload_n 2, 43, 2, 0)), (43, (.invokevirtual 168, 46, 0, 0)), (46, (.iload_n 3, 47, 3, 0)), (47, (.ifCond .ne 12, 50, 59, 0)), (50, (.aload_n 0, 51, 0, 0)), (51, (.getfield 25, 54, 25, 0)), (54, (.iload_n 1, 55, 1, 0)), (55, (.iaload, 56, 0, 0)), (56, (.goto 9, 59, 65, 0)), (59, (.aload_n 0, 60, 0, 0)), (60, (.getfield 22, 63, 22, 0)), (63, (.iload_n 1, 64, 1, 0)), (64, (.iaload, 65, 0, 0)), (65, (.istore 4, 67, 4, 0)), (67, (.aload_n 0, 68, 0, 0)), (68, (.invokevirtual 196, 71, 0, 0)), (71, (.iload 4, 73, 4, 0)), (73, (.ireturn, 74, 0, 0))]
theorem pX6_guestThen_ok : ∀ pc q, lkB pX6_guestThen pc = some q → xdec cX6_guestThen pc = some q := lkB_all (by decide +kernel)
def pX6_larderThen : List (Nat × (Instr × Nat × Nat × Int32)) := [(0, (.aload_n 0, 1, 0, 0)), (1, (.iconst 0, 2, 0, 0)), (2, (.putfield 75, 5, 75, 0)), (5, (.iload_n 1, 6, 1, 0)), (6, (.invokestatic 220, 9, 0, 0)), (9, (.ifCond .eq 15, 12, 24, 0)), (12, (.iload_n 2, 13, 2, 0)), (13, (.i2l, 14, 0, 0)), (14, (.lconst 0, 15, 0, 0)), (15, (.ldc2_w 166, 18, 166, 0)), (18, (.invokestatic 81, 21, 0, 0)), (21, (.ifCond .ne 5, 24, 26, 0)), (24, (.iconst (-1), 25, 0, (-1))), (25, (.ireturn, 26, 0, 0)), (26, (.aload_n 0, 27, 0, 0)), (27, (.invokevirtual 190, 30, 0, 0)), (30, (.aload_n 0, 31, 0, 0)), (31, (.iload_n 2, 32, 2, 0)), (32, (.invokevirtual 168, 35, 0, 0)), (35, (.aload_n 0, 36, 0, 0)), (36, (.getfield 7, 39, 7, 0)), (39, (.iload_n 1, 40, 1, 0)), (40, (.iaload, 41, 0, 0)), (41, (.istore_n 3, 42, 3, 0)), (42, (.aload_n 0, 43, 0, 0)), (43, (.invokevirtual 196, 46, 0, 0)), (46, (.iload_n 3, 47, 3, 0)), (47, (.ireturn, 48, 0, 0))]
theorem pX6_larderThen_ok : ∀ pc q, lkB pX6_larderThen pc = some q → xdec cX6_larderThen pc = some q := lkB_all (by decide +kernel)
def pX6_then : List (Nat × (Instr × Nat × Nat × Int32)) := [(0, (.aload_n 0, 1, 0, 0)), (1, (.iconst 0, 2, 0, 0)), (2, (.putfield 75, 5, 75, 0)), (5, (.iload_n 1, 6, 1, 0)), (6, (.i2l, 7, 0, 0)), (7, (.lconst 0, 8, 0, 0)), (8, (.ldc2_w 166, 11, 166, 0)), (11, (.invokestatic 81, 14, 0, 0)), (14, (.ifCond .eq 15, 17, 29, 0)), (17, (.iload_n 2, 18, 2, 0)), (18, (.i2l, 19, 0, 0)), (19, (.lconst 0, 20, 0, 0)), (20, (.ldc2_w 231, 23, 231, 0)), (23, (.invokestatic 81, 26, 0, 0)), (26, (.ifCond .ne 5, 29, 31, 0)), (29, (.iconst (-1), 30, 0, (-1))), (30, (.ireturn, 31, 0, 0)), (31, (.aload_n 0, 32, 0, 0)), (32, (.invokevirtual 190, 35, 0, 0)), (35, (.aload_n 0, 36, 0, 0)), (36, (.iload_n 1, 37, 1, 0)), (37, (.invokevirtual 168, 40, 0, 0)), (40, (.iload_n 2, 41, 2, 0)), (41, (.ifCond .ne 10, 44, 51, 0)), (44, (.aload_n 0, 45, 0, 0)), (45, (.getfield 125, 48, 125, 0)), (48, (.goto 19, 51, 67, 0)), (51, (.iload_n 2, 52, 2, 0)), (52, (.iconst 1, 53, 0, 1)), (53, (.if_icmp .ne 10, 56, 63, 0)), (56, (.aload_n 0, 57, 0, 0)), (57, (.getfield 116, 60, 116, 0)), (60, (.goto 7, 63, 67, 0)), (63, (.aload_n 0, 64, 0, 0)), (64, (.getfield 122, 67, 122, 0)), (67, (.istore_n 3, 68, 3, 0)), (68, (.aload_n 0, 69, 0, 0)), (69, (.invokevirtual 196, 72, 0, 0)), (72, (.iload_n 3, 73, 3, 0)), (73, (.ireturn, 74, 0, 0))]
theorem pX6_then_ok : ∀ pc q, lkB pX6_then pc = some q → xdec cX6_then pc = some q := lkB_all (by decide +kernel)
def pX6_leavesIn : List (Nat × (Instr × Nat × Nat × Int32)) := [(0, (.bipush 61, 2, 0, 61)), (2, (.istore_n 2, 3, 2, 0)), (3, (.aload_n 0, 4, 0, 0)), (4, (.invokevirtual 190, 7, 0, 0)), (7, (.iconst 0, 8, 0, 0)), (8, (.istore_n 3, 9, 3, 0)), (9, (.iload_n 3, 10, 3, 0)), (10, (.bipush 60, 12, 0, 60)), (12, (.if_icmp .gt 37, 15, 49, 0)), (15, (.iload_n 2, 16, 2, 0)), (16, (.bipush 61, 18, 0, 61)), (18, (.if_icmp .ne 31, 21, 49, 0)), (21, (.aload_n 0, 22, 0, 0)), (22, (.getfield 125, 25, 125, 0)), (25, (.iload_n 1, 26, 1, 0)), (26, (.invokestatic 105, 29, 0, 0)), (29, (.ifCond .eq 8, 32, 37, 0)), (32, (.bipush 61, 34, 0, 61)), (34, (.goto 4, 37, 38, 0)), (37, (.iload_n 3, 38, 3, 0)), (38, (.istore_n 2, 39, 2, 0)), (39, (.aload_n 0, 40, 0, 0)), (40, (.invokevirtual 132, 43, 0, 0)), (43, (.iinc 3 1, 46, 3, 1)), (46, (.goto (-37), 49, 9, 0)), (49, (.aload_n 0, 50, 0, 0)), (50, (.invokevirtual 196, 53, 0, 0)), (53, (.iload_n 2, 54, 2, 0)), (54, (.ireturn, 55, 0, 0))]
theorem pX6_leavesIn_ok : ∀ pc q, lkB pX6_leavesIn pc = some q → xdec cX6_leavesIn pc = some q := lkB_all (by decide +kernel)
def pX6_leaves : List (Nat × (Instr × Nat × Nat × Int32)) := [(0, (.aload_n 0, 1, 0, 0)), (1, (.iconst 0, 2, 0, 0)), (2, (.putfield 75, 5, 75, 0)), (5, (.iload_n 1, 6, 1, 0)), (6, (.i2l, 7, 0, 0)), (7, (.ldc2_w 233, 10, 233, 0)), (10, (.aload_n 0, 11, 0, 0)), (11, (.getfield 85, 14, 85, 0)), (14, (.iconst 1, 15, 0, 1)), (15, (.isub, 16, 0, 0)), (16, (.i2l, 17, 0, 0)), (17, (.invokestatic 81, 20, 0, 0)), (20, (.ifCond .ne 5, 23, 25, 0)), (23, (.iconst (-1), 24, 0, (-1))), (24, (.ireturn, 25, 0, 0)), (25, (.iload_n 1, 26, 1, 0)), (26, (.ifCond .lt 22, 29, 48, 0)), (29, (.aload_n 0, 30, 0, 0)), (30, (.iload_n 1, 31, 1, 0)), (31, (.invokevirtual 235, 34, 0, 0)), (34, (.istore_n 2, 35, 2, 0)), (35, (.iload_n 2, 36, 2, 0)), (36, (.bipush 61, 38, 0, 61)), (38, (.if_icmp .ne 8, 41, 46, 0)), (41, (.bipush (-4), 43, 0, (-4))), (43, (.goto 4, 46, 47, 0)), (46, (.iload_n 2, 47, 2, 0)), (47, (.ireturn, 48, 0, 0)), (48, (.bipush (-4), 50, 0, (-4))), (50, (.istore_n 2, 51, 2, 0)), (51, (.bipush 61, 53, 0, 61)), (53, (.istore_n 3, 54, 3, 0)), (54, (.iconst 0, 55, 0, 0)), (55, (.istore 4, 57, 4, 0)), (57, (.iload 4, 59, 4, 0)), (59, (.aload_n 0, 60, 0, 0)), (60, (.getfield 85, 63, 85, 0)), (63, (.if_icmp .ge 60, 66, 123, 0)), (66, (.aload_n 0, 67, 0, 0)), (67, (.getfield 125, 70, 125, 0)), (70, (.iload 4, 72, 4, 0)), (72, (.invokestatic 105, 75, 0, 0)), (75, (.ifCond .eq 12, 78, 87, 0)), (78, (.aload_n 0, 79, 0, 0)), (79, (.iload 4, 81, 4, 0)), (81, (.invokevirtual 235, 84, 0, 0)), (84, (.goto 5, 87, 89, 0)), (87, (.bipush 61, 89, 0, 61)), (89, (.istore 5, 91, 5, 0)), (91, (.iload 5, 93, 5, 0)), (93, (.iload_n 3, 94, 3, 0)), (94, (.if_icmp .ge 8, 97, 102, 0)), (97, (.iload 4, 99, 4, 0)), (99, (.goto 4, 102, 103, 0)), (102, (.iload_n 2, 103, 2, 0)), (103, (.istore_n 2, 104, 2, 0)), (104, (.iload 5, 106, 5, 0)), (106, (.iload_n 3, 107, 3, 0)), (107, (.if_icmp .ge 8, 110, 115, 0)), (110, (.iload 5, 112, 5, 0)), (112, (.goto 4, 115, 116, 0)), (115, (.iload_n 3, 116, 3, 0)), (116, (.istore_n 3, 117, 3, 0)), (117, (.iinc 4 1, 120, 4, 1)), (120, (.goto (-63), 123, 57, 0)), (123, (.iload_n 2, 124, 2, 0)), (124, (.ireturn, 125, 0, 0))]
theorem pX6_leaves_ok : ∀ pc q, lkB pX6_leaves pc = some q → xdec cX6_leaves pc = some q := lkB_all (by decide +kernel)
def pX6_out : List (Nat × (Instr × Nat × Nat × Int32)) := [(0, (.aload_n 0, 1, 0, 0)), (1, (.iconst 0, 2, 0, 0)), (2, (.putfield 75, 5, 75, 0)), (5, (.iload_n 1, 6, 1, 0)), (6, (.invokestatic 220, 9, 0, 0)), (9, (.ifCond .ne 5, 12, 14, 0)), (12, (.iconst (-1), 13, 0, (-1))), (13, (.ireturn, 14, 0, 0)), (14, (.bipush (-4), 16, 0, (-4))), (16, (.istore_n 2, 17, 2, 0)), (17, (.aload_n 0, 18, 0, 0)), (18, (.invokevirtual 190, 21, 0, 0)), (21, (.iconst 0, 22, 0, 0)), (22, (.istore_n 3, 23, 3, 0)), (23, (.iload_n 3, 24, 3, 0)), (24, (.bipush 60, 26, 0, 60)), (26, (.if_icmp .gt 33, 29, 59, 0)), (29, (.iload_n 2, 30, 2, 0)), (30, (.ifCond .ge 29, 33, 59, 0)), (33, (.aload_n 0, 34, 0, 0)), (34, (.getfield 7, 37, 7, 0)), (37, (.iload_n 1, 38, 1, 0)), (38, (.iaload, 39, 0, 0)), (39, (.ifCond .ne 7, 42, 46, 0)), (42, (.iload_n 3, 43, 3, 0)), (43, (.goto 5, 46, 48, 0)), (46, (.bipush (-4), 48, 0, (-4))), (48, (.istore_n 2, 49, 2, 0)), (49, (.aload_n 0, 50, 0, 0)), (50, (.invokevirtual 132, 53, 0, 0)), (53, (.iinc 3 1, 56, 3, 1)), (56, (.goto (-33), 59, 23, 0)), (59, (.aload_n 0, 60, 0, 0)), (60, (.invokevirtual 196, 63, 0, 0)), (63, (.iload_n 2, 64, 2, 0)), (64, (.ireturn, 65, 0, 0))]
theorem pX6_out_ok : ∀ pc q, lkB pX6_out pc = some q → xdec cX6_out pc = some q := lkB_all (by decide +kernel)
def pX6_dreamsNext : List (Nat × (Instr × Nat × Nat × Int32)) := [(0, (.aload_n 0, 1, 0, 0)), (1, (.getfield 125, 4, 125, 0)), (4, (.iload_n 1, 5, 1, 0)), (5, (.invokestatic 105, 8, 0, 0)), (8, (.ifCond .eq 17, 11, 25, 0)), (11, (.aload_n 0, 12, 0, 0)), (12, (.iload_n 1, 13, 1, 0)), (13, (.aload_n 0, 14, 0, 0)), (14, (.getfield 92, 17, 92, 0)), (17, (.iconst 1, 18, 0, 1)), (18, (.iadd, 19, 0, 0)), (19, (.invokevirtual 95, 22, 0, 0)), (22, (.goto 5, 25, 27, 0)), (25, (.bipush (-4), 27, 0, (-4))), (27, (.ireturn, 28, 0, 0))]
theorem pX6_dreamsNext_ok : ∀ pc q, lkB pX6_dreamsNext pc = some q → xdec cX6_dreamsNext pc = some q := lkB_all (by decide +kernel)
def pX6_table : List (Nat × (Instr × Nat × Nat × Int32)) := [(0, (.aload_n 0, 1, 0, 0)), (1, (.iconst 0, 2, 0, 0)), (2, (.putfield 75, 5, 75, 0)), (5, (.aload_n 0, 6, 0, 0)), (6, (.iload_n 1, 7, 1, 0)), (7, (.invokevirtual 171, 10, 0, 0)), (10, (.ifCond .eq 13, 13, 23, 0)), (13, (.iload_n 2, 14, 2, 0)), (14, (.i2l, 15, 0, 0)), (15, (.lconst 0, 16, 0, 0)), (16, (.lconst 1, 17, 0, 1)), (17, (.invokestatic 81, 20, 0, 0)), (20, (.ifCond .ne 5, 23, 25, 0)), (23, (.iconst (-1), 24, 0, (-1))), (24, (.ireturn, 25, 0, 0)), (25, (.iload_n 2, 26, 2, 0)), (26, (.ifCond .ne 9, 29, 35, 0)), (29, (.aload_n 0, 30, 0, 0)), (30, (.iload_n 1, 31, 1, 0)), (31, (.invokevirtual 238, 34, 0, 0)), (34, (.ireturn, 35, 0, 0)), (35, (.aload_n 0, 36, 0, 0)), (36, (.invokevirtual 190, 39, 0, 0)), (39, (.aload_n 0, 40, 0, 0)), (40, (.invokevirtual 132, 43, 0, 0)), (43, (.aload_n 0, 44, 0, 0)), (44, (.getfield 119, 47, 119, 0)), (47, (.iload_n 1, 48, 1, 0)), (48, (.invokestatic 105, 51, 0, 0)), (51, (.ifCond .eq 7, 54, 58, 0)), (54, (.iconst 1, 55, 0, 1)), (55, (.goto 4, 58, 59, 0)), (58, (.iconst 0, 59, 0, 0)), (59, (.istore_n 3, 60, 3, 0)), (60, (.aload_n 0, 61, 0, 0)), (61, (.invokevirtual 196, 64, 0, 0)), (64, (.iload_n 3, 65, 3, 0)), (65, (.ireturn, 66, 0, 0))]
theorem pX6_table_ok : ∀ pc q, lkB pX6_table pc = some q → xdec cX6_table pc = some q := lkB_all (by decide +kernel)
def pX6_bestWish : List (Nat × (Instr × Nat × Nat × Int32)) := [(0, (.aload_n 0, 1, 0, 0)), (1, (.iconst 0, 2, 0, 0)), (2, (.putfield 75, 5, 75, 0)), (5, (.aload_n 0, 6, 0, 0)), (6, (.iload_n 1, 7, 1, 0)), (7, (.invokevirtual 171, 10, 0, 0)), (10, (.ifCond .eq 25, 13, 35, 0)), (13, (.iload_n 2, 14, 2, 0)), (14, (.i2l, 15, 0, 0)), (15, (.lconst 0, 16, 0, 0)), (16, (.ldc2_w 166, 19, 166, 0)), (19, (.invokestatic 81, 22, 0, 0)), (22, (.ifCond .eq 13, 25, 35, 0)), (25, (.iload_n 3, 26, 3, 0)), (26, (.i2l, 27, 0, 0)), (27, (.lconst 0, 28, 0, 0)), (28, (.lconst 1, 29, 0, 1)), (29, (.invokestatic 81, 32, 0, 0)), (32, (.ifCond .ne 5, 35, 37, 0)), (35, (.iconst (-1), 36, 0, (-1))), (36, (.ireturn, 37, 0, 0)), (37, (.iconst 0, 38, 0, 0)), (38, (.istore 4, 40, 4, 0)), (40, (.iconst (-1), 41, 0, (-1))), (41, (.istore 5, 43, 5, 0)), (43, (.aload_n 0, 44, 0, 0)), (44, (.invokevirtual 190, 47, 0, 0)), (47, (.iconst 0, 48, 0, 0)), (48, (.istore 6, 50, 6, 0)), (50, (.iload 6, 52, 6, 0)), (52, (.bipush 10, 54, 0, 10)), (54, (.if_icmp .ge 66, 57, 120, 0)), (57, (.aload_n 0, 58, 0, 0)), (58, (.getfield 19, 61, 19, 0)), (61, (.iload_n 1, 62, 1, 0)), (62, (.iload 6, 64, 6, 0)), (64, (.iastore, 65, 0, 0)), (65, (.aload_n 0, 66, 0, 0)), (66, (.iload_n 2, 67, 2, 0)), (67, (.invokevirtual 168, 70, 0, 0)), (70, (.aload_n 0, 71, 0, 0)), (71, (.getfield 25, 74, 25, 0)), (74, (.iload_n 1, 75, 1, 0)), (75, (.iaload, 76, 0, 0)), (76, (.istore 7, 78, 7, 0)), (78, (.aload_n 0, 79, 0, 0)), (79, (.invokevirtual 196, 82, 0, 0)), (82, (.iload 7, 84, 7, 0)), (84, (.iload 5, 86, 5, 0)), (86, (.if_icmp .le 8, 89, 94, 0)), (89, (.iload 6, 91, 6, 0)), (91, (.goto 5, 94, 96, 0)), (94, (.iload 4, 96, 4, 0)), (96, (.istore 4, 98, 4, 0)), (98, (.iload 7, 100, 7, 0)), (100, (.iload 5, 102, 5, 0)), (102, (.if_icmp .le 8, 105, 110, 0)), (105, (.iload 7, 107, 7, 0)), (107, (.goto 5, 110, 112, 0)), (110, (.iload 5, 112, 5, 0)), (112, (.istore 5, 114, 5, 0)), (114, (.iinc 6 1, 117, 6, 1)), (117, (.goto (-67), 120, 50, 0)), (120, (.iload_n 3, 121, 3, 0)), (121, (.ifCond .ne 8, 124, 129, 0)), (124, (.iload 4, 126, 4, 0)), (126, (.goto 5, 129, 131, 0)), (129, (.iload 5, 131, 5, 0)), (131, (.ireturn, 132, 0, 0))]
theorem pX6_bestWish_ok : ∀ pc q, lkB pX6_bestWish pc = some q → xdec cX6_bestWish pc = some q := lkB_all (by decide +kernel)
def pX6_lackingThen : List (Nat × (Instr × Nat × Nat × Int32)) := [(0, (.aload_n 0, 1, 0, 0)), (1, (.iload_n 1, 2, 1, 0)), (2, (.invokevirtual 168, 5, 0, 0)), (5, (.aload_n 0, 6, 0, 0)), (6, (.getfield 122, 9, 122, 0)), (9, (.istore_n 2, 10, 2, 0)), (10, (.aload_n 0, 11, 0, 0)), (11, (.invokevirtual 196, 14, 0, 0)), (14, (.iload_n 2, 15, 2, 0)), (15, (.ireturn, 16, 0, 0))]
theorem pX6_lackingThen_ok : ∀ pc q, lkB pX6_lackingThen pc = some q → xdec cX6_lackingThen pc = some q := lkB_all (by decide +kernel)
def pX6_buy : List (Nat × (Instr × Nat × Nat × Int32)) := [(0, (.aload_n 0, 1, 0, 0)), (1, (.iconst 0, 2, 0, 0)), (2, (.putfield 75, 5, 75, 0)), (5, (.iload_n 1, 6, 1, 0)), (6, (.i2l, 7, 0, 0)), (7, (.lconst 0, 8, 0, 0)), (8, (.ldc2_w 166, 11, 166, 0)), (11, (.invokestatic 81, 14, 0, 0)), (14, (.ifCond .ne 5, 17, 19, 0)), (17, (.iconst (-1), 18, 0, (-1))), (18, (.ireturn, 19, 0, 0)), (19, (.bipush (-4), 21, 0, (-4))), (21, (.istore_n 2, 22, 2, 0)), (22, (.aload_n 0, 23, 0, 0)), (23, (.invokevirtual 190, 26, 0, 0)), (26, (.aload_n 0, 27, 0, 0)), (27, (.iload_n 1, 28, 1, 0)), (28, (.invokevirtual 241, 31, 0, 0)), (31, (.istore_n 3, 32, 3, 0)), (32, (.iconst 0, 33, 0, 0)), (33, (.istore 4, 35, 4, 0)), (35, (.iload 4, 37, 4, 0)), (37, (.bipush 10, 39, 0, 10)), (39, (.if_icmp .ge 63, 42, 102, 0)), (42, (.aload_n 0, 43, 0, 0)), (43, (.getfield 7, 46, 7, 0)), (46, (.iload 4, 48, 4, 0)), (48, (.aload_n 0, 49, 0, 0)), (49, (.getfield 7, 52, 7, 0)), (52, (.iload 4, 54, 4, 0)), (54, (.iaload, 55, 0, 0)), (55, (.iconst 5, 56, 0, 5)), (56, (.iadd, 57, 0, 0)), (57, (.bipush 99, 59, 0, 99)), (59, (.invokestatic 88, 62, 0, 0)), (62, (.iastore, 63, 0, 0)), (63, (.aload_n 0, 64, 0, 0)), (64, (.iload_n 1, 65, 1, 0)), (65, (.invokevirtual 241, 68, 0, 0)), (68, (.istore 5, 70, 5, 0)), (70, (.iload 5, 72, 5, 0)), (72, (.iload_n 3, 73, 3, 0)), (73, (.if_icmp .ge 8, 76, 81, 0)), (76, (.iload 4, 78, 4, 0)), (78, (.goto 4, 81, 82, 0)), (81, (.iload_n 2, 82, 2, 0)), (82, (.istore_n 2, 83, 2, 0)), (83, (.iload 5, 85, 5, 0)), (85, (.iload_n 3, 86, 3, 0)), (86, (.if_icmp .ge 8, 89, 94, 0)), (89, (.iload 5, 91, 5, 0)), (91, (.goto 4, 94, 95, 0)), (94, (.iload_n 3, 95, 3, 0)), (95, (.istore_n 3, 96, 3, 0)), (96, (.iinc 4 1, 99, 4, 1)), (99, (.goto (-64), 102, 35, 0)), (102, (.iload_n 2, 103, 2, 0)), (103, (.ireturn, 104, 0, 0))]
theorem pX6_buy_ok : ∀ pc q, lkB pX6_buy pc = some q → xdec cX6_buy pc = some q := lkB_all (by decide +kernel)
def pX6_least : List (Nat × (Instr × Nat × Nat × Int32)) := [(0, (.aload_n 0, 1, 0, 0)), (1, (.iconst 0, 2, 0, 0)), (2, (.putfield 75, 5, 75, 0)), (5, (.iload_n 1, 6, 1, 0)), (6, (.invokestatic 220, 9, 0, 0)), (9, (.ifCond .eq 15, 12, 24, 0)), (12, (.iload_n 2, 13, 2, 0)), (13, (.i2l, 14, 0, 0)), (14, (.lconst 1, 15, 0, 1)), (15, (.ldc2_w 244, 18, 244, 0)), (18, (.invokestatic 81, 21, 0, 0)), (21, (.ifCond .ne 5, 24, 26, 0)), (24, (.iconst (-1), 25, 0, (-1))), (25, (.ireturn, 26, 0, 0)), (26, (.bipush (-4), 28, 0, (-4))), (28, (.istore_n 3, 29, 3, 0)), (29, (.aload_n 0, 30, 0, 0)), (30, (.getfield 122, 33, 122, 0)), (33, (.istore 4, 35, 4, 0)), (35, (.aload_n 0, 36, 0, 0)), (36, (.invokevirtual 190, 39, 0, 0)), (39, (.iconst 0, 40, 0, 0)), (40, (.istore 5, 42, 5, 0)), (42, (.iload 5, 44, 5, 0)), (44, (.bipush 100, 46, 0, 100)), (46, (.if_icmp .ge 39, 49, 85, 0)), (49, (.iload_n 3, 50, 3, 0)), (50, (.ifCond .ge 35, 53, 85, 0)), (53, (.aload_n 0, 54, 0, 0)), (54, (.getfield 7, 57, 7, 0)), (57, (.iload_n 1, 58, 1, 0)), (58, (.iload 5, 60, 5, 0)), (60, (.iastore, 61, 0, 0)), (61, (.aload_n 0, 62, 0, 0)), (62, (.iload_n 2, 63, 2, 0)), (63, (.invokevirtual 241, 66, 0, 0)), (66, (.iload 4, 68, 4, 0)), (68, (.if_icmp .ne 8, 71, 76, 0)), (71, (.iload 5, 73, 5, 0)), (73, (.goto 5, 76, 78, 0)), (76, (.bipush (-4), 78, 0, (-4))), (78, (.istore_n 3, 79, 3, 0)), (79, (.iinc 5 1, 82, 5, 1)), (82, (.goto (-40), 85, 42, 0)), (85, (.iload_n 3, 86, 3, 0)), (86, (.ireturn, 87, 0, 0))]
theorem pX6_least_ok : ∀ pc q, lkB pX6_least pc = some q → xdec cX6_least pc = some q := lkB_all (by decide +kernel)
def pX6_healthBut : List (Nat × (Instr × Nat × Nat × Int32)) := [(0, (.aload_n 0, 1, 0, 0)), (1, (.getfield 125, 4, 125, 0)), (4, (.istore_n 3, 5, 3, 0)), (5, (.aload_n 0, 6, 0, 0)), (6, (.iload_n 2, 7, 2, 0)), (7, (.invokevirtual 168, 10, 0, 0)), (10, (.iconst 0, 11, 0, 0)), (11, (.istore 4, 13, 4, 0)), (13, (.iconst 0, 14, 0, 0)), (14, (.istore 5, 16, 5, 0)), (16, (.iload 5, 18, 5, 0)), (18, (.aload_n 0, 19, 0, 0)), (19, (.getfield 85, 22, 85, 0)), (22, (.if_icmp .ge 45, 25, 67, 0)), (25, (.iload 4, 27, 4, 0)), (27, (.iload 5, 29, 5, 0)), (29, (.iload_n 1, 30, 1, 0)), (30, (.if_icmp .eq 27, 33, 57, 0)), (33, (.iload_n 3, 34, 3, 0)), (34, (.aload_n 0, 35, 0, 0)), (35, (.getfield 125, 38, 125, 0)), (38, (.iand, 39, 0, 0)), (39, (.iload 5, 41, 5, 0)), (41, (.invokestatic 105, 44, 0, 0)), (44, (.ifCond .eq 13, 47, 57, 0)), (47, (.aload_n 0, 48, 0, 0)), (48, (.getfield 25, 51, 25, 0)), (51, (.iload 5, 53, 5, 0)), (53, (.iaload, 54, 0, 0)), (54, (.goto 4, 57, 58, 0)), (57, (.iconst 0, 58, 0, 0)), (58, (.iadd, 59, 0, 0)), (59, (.istore 4, 61, 4, 0)), (61, (.iinc 5 1, 64, 5, 1)), (64, (.goto (-48), 67, 16, 0)), (67, (.aload_n 0, 68, 0, 0)), (68, (.invokevirtual 196, 71, 0, 0)), (71, (.iload 4, 73, 4, 0)), (73, (.ireturn, 74, 0, 0))]
theorem pX6_healthBut_ok : ∀ pc q, lkB pX6_healthBut pc = some q → xdec cX6_healthBut pc = some q := lkB_all (by decide +kernel)
def pX6_send : List (Nat × (Instr × Nat × Nat × Int32)) := [(0, (.aload_n 0, 1, 0, 0)), (1, (.iconst 0, 2, 0, 0)), (2, (.putfield 75, 5, 75, 0)), (5, (.iload_n 1, 6, 1, 0)), (6, (.i2l, 7, 0, 0)), (7, (.lconst 0, 8, 0, 0)), (8, (.ldc2_w 166, 11, 166, 0)), (11, (.invokestatic 81, 14, 0, 0)), (14, (.ifCond .ne 5, 17, 19, 0)), (17, (.iconst (-1), 18, 0, (-1))), (18, (.ireturn, 19, 0, 0)), (19, (.bipush (-4), 21, 0, (-4))), (21, (.istore_n 2, 22, 2, 0)), (22, (.iconst (-1), 23, 0, (-1))), (23, (.istore_n 3, 24, 3, 0)), (24, (.aload_n 0, 25, 0, 0)), (25, (.invokevirtual 190, 28, 0, 0)), (28, (.iconst 0, 29, 0, 0)), (29, (.istore 4, 31, 4, 0)), (31, (.iload 4, 33, 4, 0)), (33, (.aload_n 0, 34, 0, 0)), (34, (.getfield 85, 37, 85, 0)), (37, (.if_icmp .ge 94, 40, 131, 0)), (40, (.aload_n 0, 41, 0, 0)), (41, (.getfield 125, 44, 125, 0)), (44, (.iload 4, 46, 4, 0)), (46, (.invokestatic 105, 49, 0, 0)), (49, (.ifCond .eq 76, 52, 125, 0)), (52, (.aload_n 0, 53, 0, 0)), (53, (.iload 4, 55, 4, 0)), (55, (.iload_n 1, 56, 1, 0)), (56, (.invokevirtual 246, 59, 0, 0)), (59, (.istore 5, 61, 5, 0)), (61, (.aload_n 0, 62, 0, 0)), (62, (.dup, 63, 0, 0)), (63, (.getfield 125, 66, 125, 0)), (66, (.iconst 1, 67, 0, 1)), (67, (.iload 4, 69, 4, 0)), (69, (.ishl, 70, 0, 0)), (70, (.iconst (-1), 71, 0, (-1))), (71, (.ixor, 72, 0, 0)), (72, (.iand, 73, 0, 0)), (73, (.putfield 125, 76, 125, 0)), (76, (.aload_n 0, 77, 0, 0)), (77, (.iload 4, 79, 4, 0)), (79, (.iload_n 1, 80, 1, 0)), (80, (.invokevirtual 246, 83, 0, 0)), (83, (.istore 6, 85, 6, 0)), (85, (.iload 6, 87, 6, 0)), (87, (.iload 5, 89, 5, 0)), (89, (.if_icmp .le 14, 92, 103, 0)), (92, (.iload 6, 94, 6, 0)), (94, (.iload_n 3, 95, 3, 0)), (95, (.if_icmp .le 8, 98, 103, 0)), (98, (.iload 4, 100, 4, 0)), (100, (.goto 4, 103, 104, 0)), (103, (.iload_n 2, 104, 2, 0)), (104, (.istore_n 2, 105, 2, 0)), (105, (.iload 6, 107, 6, 0)), (107, (.iload 5, 109, 5, 0)), (109, (.if_icmp .le 14, 112, 123, 0)), (112, (.iload 6, 114, 6, 0)), (114, (.iload_n 3, 115, 3, 0)), (115, (.if_icmp .le 8, 118, 123, 0)), (118, (.iload 6, 120, 6, 0)), (120, (.goto 4, 123, 124, 0)), (123, (.iload_n 3, 124, 3, 0)), (124, (.istore_n 3, 125, 3, 0)), (125, (.iinc 4 1, 128, 4, 1)), (128, (.goto (-97), 131, 31, 0)), (131, (.iload_n 2, 132, 2, 0)), (132, (.ireturn, 133, 0, 0))]
theorem pX6_send_ok : ∀ pc q, lkB pX6_send pc = some q → xdec cX6_send pc = some q := lkB_all (by decide +kernel)
def pX6_isUnlike : List (Nat × (Instr × Nat × Nat × Int32)) := [(0, (.aload_n 0, 1, 0, 0)), (1, (.getfield 62, 4, 62, 0)), (4, (.iload_n 1, 5, 1, 0)), (5, (.iaload, 6, 0, 0)), (6, (.ifCond .lt 18, 9, 24, 0)), (9, (.aload_n 0, 10, 0, 0)), (10, (.getfield 62, 13, 62, 0)), (13, (.iload_n 1, 14, 1, 0)), (14, (.iaload, 15, 0, 0)), (15, (.aload_n 0, 16, 0, 0)), (16, (.getfield 62, 19, 62, 0)), (19, (.iload_n 2, 20, 2, 0)), (20, (.iaload, 21, 0, 0)), (21, (.if_icmp .eq 7, 24, 28, 0)), (24, (.iconst 1, 25, 0, 1)), (25, (.goto 4, 28, 29, 0)), (28, (.iconst 0, 29, 0, 0)), (29, (.ireturn, 30, 0, 0))]
theorem pX6_isUnlike_ok : ∀ pc q, lkB pX6_isUnlike pc = some q → xdec cX6_isUnlike pc = some q := lkB_all (by decide +kernel)
def pX6_laySeats : List (Nat × (Instr × Nat × Nat × Int32)) := [(0, (.iconst 0, 1, 0, 0)), (1, (.istore_n 1, 2, 1, 0)), (2, (.iload_n 1, 3, 1, 0)), (3, (.aload_n 0, 4, 0, 0)), (4, (.getfield 85, 7, 85, 0)), (7, (.if_icmp .ge 20, 10, 27, 0)), (10, (.aload_n 0, 11, 0, 0)), (11, (.getfield 62, 14, 62, 0)), (14, (.iload_n 1, 15, 1, 0)), (15, (.aload_n 0, 16, 0, 0)), (16, (.iload_n 1, 17, 1, 0)), (17, (.invokevirtual 238, 20, 0, 0)), (20, (.iastore, 21, 0, 0)), (21, (.iinc 1 1, 24, 1, 1)), (24, (.goto (-22), 27, 2, 0)), (27, (.sipush 1023, 30, 0, 1023)), (30, (.istore_n 1, 31, 1, 0)), (31, (.iload_n 1, 32, 1, 0)), (32, (.ifCond .lt 136, 35, 168, 0)), (35, (.iload_n 1, 36, 1, 0)), (36, (.bipush 8, 38, 0, 8)), (38, (.idiv, 39, 0, 0)), (39, (.istore_n 2, 40, 2, 0)), (40, (.iload_n 1, 41, 1, 0)), (41, (.bipush 8, 43, 0, 8)), (43, (.irem, 44, 0, 0)), (44, (.istore_n 3, 45, 3, 0)), (45, (.iload_n 2, 46, 2, 0)), (46, (.aload_n 0, 47, 0, 0)), (47, (.getfield 125, 50, 125, 0)), (50, (.if_icmp .ne 7, 53, 57, 0)), (53, (.iconst 1, 54, 0, 1)), (54, (.goto 4, 57, 58, 0)), (57, (.iconst 0, 58, 0, 0)), (58, (.istore 4, 60, 4, 0)), (60, (.iconst 0, 61, 0, 0)), (61, (.istore 5, 63, 5, 0)), (63, (.iload 5, 65, 5, 0)), (65, (.aload_n 0, 66, 0, 0)), (66, (.getfield 85, 69, 85, 0)), (69, (.if_icmp .ge 85, 72, 154, 0)), (72, (.iload 4, 74, 4, 0)), (74, (.ifCond .ne 80, 77, 154, 0)), (77, (.iload_n 3, 78, 3, 0)), (78, (.bipush 7, 80, 0, 7)), (80, (.if_icmp .ge 74, 83, 154, 0)), (83, (.aload_n 0, 84, 0, 0)), (84, (.getfield 125, 87, 125, 0)), (87, (.iload_n 2, 88, 2, 0)), (88, (.iconst (-1), 89, 0, (-1))), (89, (.ixor, 90, 0, 0)), (90, (.iand, 91, 0, 0)), (91, (.iload 5, 93, 5, 0)), (93, (.invokestatic 105, 96, 0, 0)), (96, (.ifCond .eq 17, 99, 113, 0)), (99, (.aload_n 0, 100, 0, 0)), (100, (.iload_n 3, 101, 3, 0)), (101, (.iload 5, 103, 5, 0)), (103, (.invokevirtual 249, 106, 0, 0)), (106, (.ifCond .eq 7, 109, 113, 0)), (109, (.iconst 1, 110, 0, 1)), (110, (.goto 4, 113, 114, 0)), (113, (.iconst 0, 114, 0, 0)), (114, (.istore 6, 116, 6, 0)), (116, (.iload 6, 118, 6, 0)), (118, (.ifCond .eq 27, 121, 145, 0)), (121, (.aload_n 0, 122, 0, 0)), (122, (.getfield 65, 125, 65, 0)), (125, (.bipush 8, 127, 0, 8)), (127, (.iload_n 2, 128, 2, 0)), (128, (.iconst 1, 129, 0, 1)), (129, (.iload 5, 131, 5, 0)), (131, (.ishl, 132, 0, 0)), (132, (.ior, 133, 0, 0)), (133, (.imul, 134, 0, 0)), (134, (.iload 5, 136, 5, 0)), (136, (.iadd, 137, 0, 0)), (137, (.baload, 138, 0, 0)), (138, (.ifCond .eq 7, 141, 145, 0)), (141, (.iconst 1, 142, 0, 1)), (142, (.goto 4, 145, 146, 0)), (145, (.iconst 0, 146, 0, 0)), (146, (.istore 4, 148, 4, 0)), (148, (.iinc 5 1, 151, 5, 1)), (151, (.goto (-88), 154, 63, 0)), (154, (.aload_n 0, 155, 0, 0)), (155, (.getfield 65, 158, 65, 0)), (158, (.iload_n 1, 159, 1, 0)), (159, (.iload 4, 161, 4, 0)), (161, (.bastore, 162, 0, 0)), (162, (.iinc 1 (-1), 165, 1, (-1))), (165, (.goto (-134), 168, 31, 0)), (168, (.return_, 169, 0, 0))]
theorem pX6_laySeats_ok : ∀ pc q, lkB pX6_laySeats pc = some q → xdec cX6_laySeats pc = some q := lkB_all (by decide +kernel)
def pX6_seats : List (Nat × (Instr × Nat × Nat × Int32)) := [(0, (.aload_n 0, 1, 0, 0)), (1, (.iconst 0, 2, 0, 0)), (2, (.putfield 75, 5, 75, 0)), (5, (.iload_n 1, 6, 1, 0)), (6, (.ifCond .ge 5, 9, 11, 0)), (9, (.iconst (-1), 10, 0, (-1))), (10, (.ireturn, 11, 0, 0)), (11, (.aload_n 0, 12, 0, 0)), (12, (.invokevirtual 252, 15, 0, 0)), (15, (.iconst 0, 16, 0, 0)), (16, (.istore_n 2, 17, 2, 0)), (17, (.bipush 7, 19, 0, 7)), (19, (.istore_n 3, 20, 3, 0)), (20, (.iconst 0, 21, 0, 0)), (21, (.istore 4, 23, 4, 0)), (23, (.iload 4, 25, 4, 0)), (25, (.iload_n 1, 26, 1, 0)), (26, (.if_icmp .gt 130, 29, 156, 0)), (29, (.iload 4, 31, 4, 0)), (31, (.bipush 7, 33, 0, 7)), (33, (.if_icmp .ge 123, 36, 156, 0)), (36, (.bipush (-4), 38, 0, (-4))), (38, (.istore 5, 40, 5, 0)), (40, (.aload_n 0, 41, 0, 0)), (41, (.getfield 85, 44, 85, 0)), (44, (.iconst 1, 45, 0, 1)), (45, (.isub, 46, 0, 0)), (46, (.istore 6, 48, 6, 0)), (48, (.iload 6, 50, 6, 0)), (50, (.ifCond .lt 82, 53, 132, 0)), (53, (.aload_n 0, 54, 0, 0)), (54, (.getfield 125, 57, 125, 0)), (57, (.iload_n 2, 58, 2, 0)), (58, (.iconst (-1), 59, 0, (-1))), (59, (.ixor, 60, 0, 0)), (60, (.iand, 61, 0, 0)), (61, (.iload 6, 63, 6, 0)), (63, (.invokestatic 105, 66, 0, 0)), (66, (.ifCond .eq 23, 69, 89, 0)), (69, (.iload_n 3, 70, 3, 0)), (70, (.bipush 7, 72, 0, 7)), (72, (.if_icmp .eq 13, 75, 85, 0)), (75, (.aload_n 0, 76, 0, 0)), (76, (.iload_n 3, 77, 3, 0)), (77, (.iload 6, 79, 6, 0)), (79, (.invokevirtual 249, 82, 0, 0)), (82, (.ifCond .eq 7, 85, 89, 0)), (85, (.iconst 1, 86, 0, 1)), (86, (.goto 4, 89, 90, 0)), (89, (.iconst 0, 90, 0, 0)), (90, (.istore 7, 92, 7, 0)), (92, (.iload 7, 94, 7, 0)), (94, (.ifCond .eq 28, 97, 122, 0)), (97, (.aload_n 0, 98, 0, 0)), (98, (.getfield 65, 101, 65, 0)), (101, (.bipush 8, 103, 0, 8)), (103, (.iload_n 2, 104, 2, 0)), (104, (.iconst 1, 105, 0, 1)), (105, (.iload 6, 107, 6, 0)), (107, (.ishl, 108, 0, 0)), (108, (.ior, 109, 0, 0)), (109, (.imul, 110, 0, 0)), (110, (.iload 6, 112, 6, 0)), (112, (.iadd, 113, 0, 0)), (113, (.baload, 114, 0, 0)), (114, (.ifCond .eq 8, 117, 122, 0)), (117, (.iload 6, 119, 6, 0)), (119, (.goto 5, 122, 124, 0)), (122, (.iload 5, 124, 5, 0)), (124, (.istore 5, 126, 5, 0)), (126, (.iinc 6 (-1), 129, 6, (-1))), (129, (.goto (-81), 132, 48, 0)), (132, (.iload 5, 134, 5, 0)), (134, (.ifCond .ge 6, 137, 140, 0)), (137, (.bipush (-4), 139, 0, (-4))), (139, (.ireturn, 140, 0, 0)), (140, (.iload_n 2, 141, 2, 0)), (141, (.iconst 1, 142, 0, 1)), (142, (.iload 5, 144, 5, 0)), (144, (.ishl, 145, 0, 0)), (145, (.ior, 146, 0, 0)), (146, (.istore_n 2, 147, 2, 0)), (147, (.iload 5, 149, 5, 0)), (149, (.istore_n 3, 150, 3, 0)), (150, (.iinc 4 1, 153, 4, 1)), (153, (.goto (-130), 156, 23, 0)), (156, (.iload_n 1, 157, 1, 0)), (157, (.bipush 7, 159, 0, 7)), (159, (.if_icmp .ge 7, 162, 166, 0)), (162, (.iload_n 3, 163, 3, 0)), (163, (.goto 5, 166, 168, 0)), (166, (.bipush (-4), 168, 0, (-4))), (168, (.ireturn, 169, 0, 0))]
theorem pX6_seats_ok : ∀ pc q, lkB pX6_seats pc = some q → xdec cX6_seats pc = some q := lkB_all (by decide +kernel)
def pX6_sameTwos : List (Nat × (Instr × Nat × Nat × Int32)) := [(0, (.iconst 0, 1, 0, 0)), (1, (.istore_n 1, 2, 1, 0)), (2, (.iconst 0, 3, 0, 0)), (3, (.istore_n 2, 4, 2, 0)), (4, (.iload_n 2, 5, 2, 0)), (5, (.aload_n 0, 6, 0, 0)), (6, (.getfield 85, 9, 85, 0)), (9, (.if_icmp .ge 56, 12, 65, 0)), (12, (.iload_n 2, 13, 2, 0)), (13, (.iconst 1, 14, 0, 1)), (14, (.iadd, 15, 0, 0)), (15, (.istore_n 3, 16, 3, 0)), (16, (.iload_n 3, 17, 3, 0)), (17, (.aload_n 0, 18, 0, 0)), (18, (.getfield 85, 21, 85, 0)), (21, (.if_icmp .ge 38, 24, 59, 0)), (24, (.iload_n 1, 25, 1, 0)), (25, (.aload_n 0, 26, 0, 0)), (26, (.iload_n 2, 27, 2, 0)), (27, (.invokevirtual 238, 30, 0, 0)), (30, (.ifCond .lt 20, 33, 50, 0)), (33, (.aload_n 0, 34, 0, 0)), (34, (.iload_n 2, 35, 2, 0)), (35, (.invokevirtual 238, 38, 0, 0)), (38, (.aload_n 0, 39, 0, 0)), (39, (.iload_n 3, 40, 3, 0)), (40, (.invokevirtual 238, 43, 0, 0)), (43, (.if_icmp .ne 7, 46, 50, 0)), (46, (.iconst 1, 47, 0, 1)), (47, (.goto 4, 50, 51, 0)), (50, (.iconst 0, 51, 0, 0)), (51, (.iadd, 52, 0, 0)), (52, (.istore_n 1, 53, 1, 0)), (53, (.iinc 3 1, 56, 3, 1)), (56, (.goto (-40), 59, 16, 0)), (59, (.iinc 2 1, 62, 2, 1)), (62, (.goto (-58), 65, 4, 0)), (65, (.iload_n 1, 66, 1, 0)), (66, (.ireturn, 67, 0, 0))]
theorem pX6_sameTwos_ok : ∀ pc q, lkB pX6_sameTwos pc = some q → xdec cX6_sameTwos pc = some q := lkB_all (by decide +kernel)
def pX6_wellest : List (Nat × (Instr × Nat × Nat × Int32)) := [(0, (.bipush (-4), 2, 0, (-4))), (2, (.istore_n 1, 3, 1, 0)), (3, (.iconst 0, 4, 0, 0)), (4, (.istore_n 2, 5, 2, 0)), (5, (.iload_n 2, 6, 2, 0)), (6, (.aload_n 0, 7, 0, 0)), (7, (.getfield 85, 10, 85, 0)), (10, (.if_icmp .ge 45, 13, 55, 0)), (13, (.aload_n 0, 14, 0, 0)), (14, (.getfield 125, 17, 125, 0)), (17, (.iload_n 2, 18, 2, 0)), (18, (.invokestatic 105, 21, 0, 0)), (21, (.ifCond .eq 26, 24, 47, 0)), (24, (.iload_n 1, 25, 1, 0)), (25, (.ifCond .lt 18, 28, 43, 0)), (28, (.aload_n 0, 29, 0, 0)), (29, (.getfield 25, 32, 25, 0)), (32, (.iload_n 2, 33, 2, 0)), (33, (.iaload, 34, 0, 0)), (34, (.aload_n 0, 35, 0, 0)), (35, (.getfield 25, 38, 25, 0)), (38, (.iload_n 1, 39, 1, 0)), (39, (.iaload, 40, 0, 0)), (40, (.if_icmp .le 7, 43, 47, 0)), (43, (.iload_n 2, 44, 2, 0)), (44, (.goto 4, 47, 48, 0)), (47, (.iload_n 1, 48, 1, 0)), (48, (.istore_n 1, 49, 1, 0)), (49, (.iinc 2 1, 52, 2, 1)), (52, (.goto (-47), 55, 5, 0)), (55, (.iload_n 1, 56, 1, 0)), (56, (.ireturn, 57, 0, 0))]
theorem pX6_wellest_ok : ∀ pc q, lkB pX6_wellest pc = some q → xdec cX6_wellest pc = some q := lkB_all (by decide +kernel)
def pX6_fullestPlate : List (Nat × (Instr × Nat × Nat × Int32)) := [(0, (.iconst 0, 1, 0, 0)), (1, (.istore_n 1, 2, 1, 0)), (2, (.iconst 1, 3, 0, 1)), (3, (.istore_n 2, 4, 2, 0)), (4, (.iload_n 2, 5, 2, 0)), (5, (.bipush 10, 7, 0, 10)), (7, (.if_icmp .ge 30, 10, 37, 0)), (10, (.aload_n 0, 11, 0, 0)), (11, (.getfield 7, 14, 7, 0)), (14, (.iload_n 2, 15, 2, 0)), (15, (.iaload, 16, 0, 0)), (16, (.aload_n 0, 17, 0, 0)), (17, (.getfield 7, 20, 7, 0)), (20, (.iload_n 1, 21, 1, 0)), (21, (.iaload, 22, 0, 0)), (22, (.if_icmp .le 7, 25, 29, 0)), (25, (.iload_n 2, 26, 2, 0)), (26, (.goto 4, 29, 30, 0)), (29, (.iload_n 1, 30, 1, 0)), (30, (.istore_n 1, 31, 1, 0)), (31, (.iinc 2 1, 34, 2, 1)), (34, (.goto (-30), 37, 4, 0)), (37, (.iload_n 1, 38, 1, 0)), (38, (.ireturn, 39, 0, 0))]
theorem pX6_fullestPlate_ok : ∀ pc q, lkB pX6_fullestPlate pc = some q → xdec cX6_fullestPlate pc = some q := lkB_all (by decide +kernel)
def pX6_emptyPlates : List (Nat × (Instr × Nat × Nat × Int32)) := [(0, (.iconst 0, 1, 0, 0)), (1, (.istore_n 1, 2, 1, 0)), (2, (.iconst 0, 3, 0, 0)), (3, (.istore_n 2, 4, 2, 0)), (4, (.iload_n 2, 5, 2, 0)), (5, (.bipush 10, 7, 0, 10)), (7, (.if_icmp .ge 28, 10, 35, 0)), (10, (.iload_n 1, 11, 1, 0)), (11, (.aload_n 0, 12, 0, 0)), (12, (.getfield 7, 15, 7, 0)), (15, (.iload_n 2, 16, 2, 0)), (16, (.iaload, 17, 0, 0)), (17, (.ifCond .ne 9, 20, 26, 0)), (20, (.iconst 1, 21, 0, 1)), (21, (.iload_n 2, 22, 2, 0)), (22, (.ishl, 23, 0, 0)), (23, (.goto 4, 26, 27, 0)), (26, (.iconst 0, 27, 0, 0)), (27, (.ior, 28, 0, 0)), (28, (.istore_n 1, 29, 1, 0)), (29, (.iinc 2 1, 32, 2, 1)), (32, (.goto (-28), 35, 4, 0)), (35, (.iload_n 1, 36, 1, 0)), (36, (.ireturn, 37, 0, 0))]
theorem pX6_emptyPlates_ok : ∀ pc q, lkB pX6_emptyPlates pc = some q → xdec cX6_emptyPlates pc = some q := lkB_all (by decide +kernel)
def pX6_platesOf : List (Nat × (Instr × Nat × Nat × Int32)) := [(0, (.iconst 0, 1, 0, 0)), (1, (.istore_n 2, 2, 2, 0)), (2, (.iconst 0, 3, 0, 0)), (3, (.istore_n 3, 4, 3, 0)), (4, (.iload_n 3, 5, 3, 0)), (5, (.aload_n 0, 6, 0, 0)), (6, (.getfield 85, 9, 85, 0)), (9, (.if_icmp .ge 48, 12, 57, 0)), (12, (.iload_n 2, 13, 2, 0)), (13, (.aload_n 0, 14, 0, 0)), (14, (.getfield 125, 17, 125, 0)), (17, (.iload_n 3, 18, 3, 0)), (18, (.invokestatic 105, 21, 0, 0)), (21, (.ifCond .eq 27, 24, 48, 0)), (24, (.iconst 1, 25, 0, 1)), (25, (.iload_n 1, 26, 1, 0)), (26, (.ifCond .eq 12, 29, 38, 0)), (29, (.aload_n 0, 30, 0, 0)), (30, (.getfield 19, 33, 19, 0)), (33, (.iload_n 3, 34, 3, 0)), (34, (.iaload, 35, 0, 0)), (35, (.goto 9, 38, 44, 0)), (38, (.aload_n 0, 39, 0, 0)), (39, (.getfield 22, 42, 22, 0)), (42, (.iload_n 3, 43, 3, 0)), (43, (.iaload, 44, 0, 0)), (44, (.ishl, 45, 0, 0)), (45, (.goto 4, 48, 49, 0)), (48, (.iconst 0, 49, 0, 0)), (49, (.ior, 50, 0, 0)), (50, (.istore_n 2, 51, 2, 0)), (51, (.iinc 3 1, 54, 3, 1)), (54, (.goto (-50), 57, 4, 0)), (57, (.iload_n 2, 58, 2, 0)), (58, (.ireturn, 59, 0, 0))]
theorem pX6_platesOf_ok : ∀ pc q, lkB pX6_platesOf pc = some q → xdec cX6_platesOf pc = some q := lkB_all (by decide +kernel)
def pX6_same : List (Nat × (Instr × Nat × Nat × Int32)) := [(0, (.aload_n 0, 1, 0, 0)), (1, (.iconst 0, 2, 0, 0)), (2, (.putfield 75, 5, 75, 0)), (5, (.iload_n 1, 6, 1, 0)), (6, (.tableswitch 79 0 6 #[42, 47, 52, 57, 62, 67, 73], 48, 0, 0)), (48, (.aload_n 0, 49, 0, 0)), (49, (.invokevirtual 255, 52, 0, 0)), (52, (.ireturn, 53, 0, 0)), (53, (.aload_n 0, 54, 0, 0)), (54, (.invokevirtual 258, 57, 0, 0)), (57, (.ireturn, 58, 0, 0)), (58, (.aload_n 0, 59, 0, 0)), (59, (.invokevirtual 261, 62, 0, 0)), (62, (.ireturn, 63, 0, 0)), (63, (.aload_n 0, 64, 0, 0)), (64, (.invokevirtual 264, 67, 0, 0)), (67, (.ireturn, 68, 0, 0)), (68, (.aload_n 0, 69, 0, 0)), (69, (.invokevirtual 267, 72, 0, 0)), (72, (.ireturn, 73, 0, 0)), (73, (.aload_n 0, 74, 0, 0)), (74, (.iconst 1, 75, 0, 1)), (75, (.invokevirtual 270, 78, 0, 0)), (78, (.ireturn, 79, 0, 0)), (79, (.aload_n 0, 80, 0, 0)), (80, (.iconst 0, 81, 0, 0)), (81, (.invokevirtual 270, 84, 0, 0)), (84, (.ireturn, 85, 0, 0)), (85, (.iconst (-1), 86, 0, (-1))), (86, (.ireturn, 87, 0, 0))]
theorem pX6_same_ok : ∀ pc q, lkB pX6_same pc = some q → xdec cX6_same pc = some q := lkB_all (by decide +kernel)
def pX6_leastOf : List (Nat × (Instr × Nat × Nat × Int32)) := [(0, (.iload_n 0, 1, 0, 0)), (1, (.ifCond .ne 9, 4, 10, 0)), (4, (.ldc2_w 274, 7, 274, 0)), (7, (.goto 17, 10, 24, 0)), (10, (.iload_n 0, 11, 0, 0)), (11, (.iconst 1, 12, 0, 1)), (12, (.if_icmp .ne 9, 15, 21, 0)), (15, (.ldc2_w 276, 18, 276, 0)), (18, (.goto 6, 21, 24, 0)), (21, (.ldc2_w 278, 24, 278, 0)), (24, (.lreturn, 25, 0, 0))]
theorem pX6_leastOf_ok : ∀ pc q, lkB pX6_leastOf pc = some q → xdec cX6_leastOf pc = some q := lkB_all (by decide +kernel)
def pX6_isSkipped : List (Nat × (Instr × Nat × Nat × Int32)) := [(0, (.aload_n 0, 1, 0, 0)), (1, (.getfield 43, 4, 43, 0)), (4, (.bipush 100, 6, 0, 100)), (6, (.iload_n 1, 7, 1, 0)), (7, (.imul, 8, 0, 0)), (8, (.iload_n 2, 9, 2, 0)), (9, (.iadd, 10, 0, 0)), (10, (.laload, 11, 0, 0)), (11, (.aload_n 0, 12, 0, 0)), (12, (.getfield 37, 15, 37, 0)), (15, (.iload_n 1, 16, 1, 0)), (16, (.iaload, 17, 0, 0)), (17, (.invokestatic 280, 20, 0, 0)), (20, (.lcmp, 21, 0, 0)), (21, (.ifCond .ne 7, 24, 28, 0)), (24, (.iconst 1, 25, 0, 1)), (25, (.goto 4, 28, 29, 0)), (28, (.iconst 0, 29, 0, 0)), (29, (.ireturn, 30, 0, 0))]
theorem pX6_isSkipped_ok : ∀ pc q, lkB pX6_isSkipped pc = some q → xdec cX6_isSkipped pc = some q := lkB_all (by decide +kernel)
def pX6_isHealthRow : List (Nat × (Instr × Nat × Nat × Int32)) := [(0, (.iconst 1, 1, 0, 1)), (1, (.istore_n 3, 2, 3, 0)), (2, (.iconst 0, 3, 0, 0)), (3, (.istore 4, 5, 4, 0)), (5, (.iload 4, 7, 4, 0)), (7, (.aload_n 0, 8, 0, 0)), (8, (.getfield 40, 11, 40, 0)), (11, (.iload_n 1, 12, 1, 0)), (12, (.iaload, 13, 0, 0)), (13, (.if_icmp .ge 56, 16, 69, 0)), (16, (.iload_n 3, 17, 3, 0)), (17, (.ifCond .eq 52, 20, 69, 0)), (20, (.aload_n 0, 21, 0, 0)), (21, (.iload_n 1, 22, 1, 0)), (22, (.iload 4, 24, 4, 0)), (24, (.invokevirtual 284, 27, 0, 0)), (27, (.ifCond .ne 26, 30, 53, 0)), (30, (.aload_n 0, 31, 0, 0)), (31, (.getfield 43, 34, 43, 0)), (34, (.bipush 100, 36, 0, 100)), (36, (.iload_n 1, 37, 1, 0)), (37, (.imul, 38, 0, 0)), (38, (.iload 4, 40, 4, 0)), (40, (.iadd, 41, 0, 0)), (41, (.laload, 42, 0, 0)), (42, (.aload_n 0, 43, 0, 0)), (43, (.getfield 25, 46, 25, 0)), (46, (.iload_n 2, 47, 2, 0)), (47, (.iaload, 48, 0, 0)), (48, (.i2l, 49, 0, 0)), (49, (.lcmp, 50, 0, 0)), (50, (.ifCond .ne 7, 53, 57, 0)), (53, (.iconst 1, 54, 0, 1)), (54, (.goto 4, 57, 58, 0)), (57, (.iconst 0, 58, 0, 0)), (58, (.istore_n 3, 59, 3, 0)), (59, (.aload_n 0, 60, 0, 0)), (60, (.invokevirtual 132, 63, 0, 0)), (63, (.iinc 4 1, 66, 4, 1)), (66, (.goto (-61), 69, 5, 0)), (69, (.aload_n 0, 70, 0, 0)), (70, (.invokevirtual 196, 73, 0, 0)), (73, (.iload_n 3, 74, 3, 0)), (74, (.ireturn, 75, 0, 0))]
theorem pX6_isHealthRow_ok : ∀ pc q, lkB pX6_isHealthRow pc = some q → xdec cX6_isHealthRow pc = some q := lkB_all (by decide +kernel)
def pX6_isPlateRow : List (Nat × (Instr × Nat × Nat × Int32)) := [(0, (.iconst 1, 1, 0, 1)), (1, (.istore_n 3, 2, 3, 0)), (2, (.iconst 0, 3, 0, 0)), (3, (.istore 4, 5, 4, 0)), (5, (.iload 4, 7, 4, 0)), (7, (.aload_n 0, 8, 0, 0)), (8, (.getfield 40, 11, 40, 0)), (11, (.iload_n 1, 12, 1, 0)), (12, (.iaload, 13, 0, 0)), (13, (.if_icmp .ge 56, 16, 69, 0)), (16, (.iload_n 3, 17, 3, 0)), (17, (.ifCond .eq 52, 20, 69, 0)), (20, (.aload_n 0, 21, 0, 0)), (21, (.invokevirtual 132, 24, 0, 0)), (24, (.aload_n 0, 25, 0, 0)), (25, (.iload_n 1, 26, 1, 0)), (26, (.iload 4, 28, 4, 0)), (28, (.invokevirtual 284, 31, 0, 0)), (31, (.ifCond .ne 26, 34, 57, 0)), (34, (.aload_n 0, 35, 0, 0)), (35, (.getfield 43, 38, 43, 0)), (38, (.bipush 100, 40, 0, 100)), (40, (.iload_n 1, 41, 1, 0)), (41, (.imul, 42, 0, 0)), (42, (.iload 4, 44, 4, 0)), (44, (.iadd, 45, 0, 0)), (45, (.laload, 46, 0, 0)), (46, (.aload_n 0, 47, 0, 0)), (47, (.getfield 22, 50, 22, 0)), (50, (.iload_n 2, 51, 2, 0)), (51, (.iaload, 52, 0, 0)), (52, (.i2l, 53, 0, 0)), (53, (.lcmp, 54, 0, 0)), (54, (.ifCond .ne 7, 57, 61, 0)), (57, (.iconst 1, 58, 0, 1)), (58, (.goto 4, 61, 62, 0)), (61, (.iconst 0, 62, 0, 0)), (62, (.istore_n 3, 63, 3, 0)), (63, (.iinc 4 1, 66, 4, 1)), (66, (.goto (-61), 69, 5, 0)), (69, (.aload_n 0, 70, 0, 0)), (70, (.invokevirtual 196, 73, 0, 0)), (73, (.iload_n 3, 74, 3, 0)), (74, (.ireturn, 75, 0, 0))]
theorem pX6_isPlateRow_ok : ∀ pc q, lkB pX6_isPlateRow pc = some q → xdec cX6_isPlateRow pc = some q := lkB_all (by decide +kernel)
def pX6_whatIs : List (Nat × (Instr × Nat × Nat × Int32)) := [(0, (.aload_n 0, 1, 0, 0)), (1, (.iconst 0, 2, 0, 0)), (2, (.putfield 75, 5, 75, 0)), (5, (.aload_n 0, 6, 0, 0)), (6, (.iload_n 2, 7, 2, 0)), (7, (.invokevirtual 171, 10, 0, 0)), (10, (.ifCond .eq 21, 13, 31, 0)), (13, (.iload_n 3, 14, 3, 0)), (14, (.i2l, 15, 0, 0)), (15, (.lconst 0, 16, 0, 0)), (16, (.lconst 1, 17, 0, 1)), (17, (.invokestatic 81, 20, 0, 0)), (20, (.ifCond .eq 11, 23, 31, 0)), (23, (.aload_n 0, 24, 0, 0)), (24, (.iload_n 1, 25, 1, 0)), (25, (.invokevirtual 184, 28, 0, 0)), (28, (.goto 4, 31, 32, 0)), (31, (.iconst (-1), 32, 0, (-1))), (32, (.istore 4, 34, 4, 0)), (34, (.iload 4, 36, 4, 0)), (36, (.ifCond .ge 6, 39, 42, 0)), (39, (.iload 4, 41, 4, 0)), (41, (.ireturn, 42, 0, 0)), (42, (.iconst 0, 43, 0, 0)), (43, (.istore 5, 45, 5, 0)), (45, (.aload_n 0, 46, 0, 0)), (46, (.invokevirtual 190, 49, 0, 0)), (49, (.iconst 0, 50, 0, 0)), (50, (.istore 6, 52, 6, 0)), (52, (.iload 6, 54, 6, 0)), (54, (.iload_n 3, 55, 3, 0)), (55, (.ifCond .ne 8, 58, 63, 0)), (58, (.bipush 8, 60, 0, 8)), (60, (.goto 5, 63, 65, 0)), (63, (.bipush 10, 65, 0, 10)), (65, (.if_icmp .ge 74, 68, 139, 0)), (68, (.aload_n 0, 69, 0, 0)), (69, (.getfield 13, 72, 13, 0)), (72, (.iload_n 2, 73, 2, 0)), (73, (.iload_n 3, 74, 3, 0)), (74, (.ifCond .ne 8, 77, 82, 0)), (77, (.iload 6, 79, 6, 0)), (79, (.goto 9, 82, 88, 0)), (82, (.aload_n 0, 83, 0, 0)), (83, (.getfield 13, 86, 13, 0)), (86, (.iload_n 2, 87, 2, 0)), (87, (.iaload, 88, 0, 0)), (88, (.iastore, 89, 0, 0)), (89, (.aload_n 0, 90, 0, 0)), (90, (.getfield 16, 93, 16, 0)), (93, (.iload_n 2, 94, 2, 0)), (94, (.iload_n 3, 95, 3, 0)), (95, (.iconst 1, 96, 0, 1)), (96, (.if_icmp .ne 8, 99, 104, 0)), (99, (.iload 6, 101, 6, 0)), (101, (.goto 9, 104, 110, 0)), (104, (.aload_n 0, 105, 0, 0)), (105, (.getfield 16, 108, 16, 0)), (108, (.iload_n 2, 109, 2, 0)), (109, (.iaload, 110, 0, 0)), (110, (.iastore, 111, 0, 0)), (111, (.iload 5, 113, 5, 0)), (113, (.aload_n 0, 114, 0, 0)), (114, (.iload_n 1, 115, 1, 0)), (115, (.iload_n 2, 116, 2, 0)), (116, (.invokevirtual 287, 119, 0, 0)), (119, (.ifCond .eq 10, 122, 129, 0)), (122, (.iconst 1, 123, 0, 1)), (123, (.iload 6, 125, 6, 0)), (125, (.ishl, 126, 0, 0)), (126, (.goto 4, 129, 130, 0)), (129, (.iconst 0, 130, 0, 0)), (130, (.ior, 131, 0, 0)), (131, (.istore 5, 133, 5, 0)), (133, (.iinc 6 1, 136, 6, 1)), (136, (.goto (-84), 139, 52, 0)), (139, (.iload 5, 141, 5, 0)), (141, (.ireturn, 142, 0, 0))]
theorem pX6_whatIs_ok : ∀ pc q, lkB pX6_whatIs pc = some q → xdec cX6_whatIs pc = some q := lkB_all (by decide +kernel)
def pX6_whatWish : List (Nat × (Instr × Nat × Nat × Int32)) := [(0, (.aload_n 0, 1, 0, 0)), (1, (.iconst 0, 2, 0, 0)), (2, (.putfield 75, 5, 75, 0)), (5, (.aload_n 0, 6, 0, 0)), (6, (.iload_n 2, 7, 2, 0)), (7, (.invokevirtual 171, 10, 0, 0)), (10, (.ifCond .eq 11, 13, 21, 0)), (13, (.aload_n 0, 14, 0, 0)), (14, (.iload_n 1, 15, 1, 0)), (15, (.invokevirtual 184, 18, 0, 0)), (18, (.goto 4, 21, 22, 0)), (21, (.iconst (-1), 22, 0, (-1))), (22, (.istore_n 3, 23, 3, 0)), (23, (.iload_n 3, 24, 3, 0)), (24, (.ifCond .ge 5, 27, 29, 0)), (27, (.iload_n 3, 28, 3, 0)), (28, (.ireturn, 29, 0, 0)), (29, (.iconst 0, 30, 0, 0)), (30, (.istore 4, 32, 4, 0)), (32, (.aload_n 0, 33, 0, 0)), (33, (.invokevirtual 190, 36, 0, 0)), (36, (.iconst 0, 37, 0, 0)), (37, (.istore 5, 39, 5, 0)), (39, (.iload 5, 41, 5, 0)), (41, (.bipush 10, 43, 0, 10)), (43, (.if_icmp .ge 39, 46, 82, 0)), (46, (.aload_n 0, 47, 0, 0)), (47, (.getfield 19, 50, 19, 0)), (50, (.iload_n 2, 51, 2, 0)), (51, (.iload 5, 53, 5, 0)), (53, (.iastore, 54, 0, 0)), (54, (.iload 4, 56, 4, 0)), (56, (.aload_n 0, 57, 0, 0)), (57, (.iload_n 1, 58, 1, 0)), (58, (.iload_n 2, 59, 2, 0)), (59, (.invokevirtual 290, 62, 0, 0)), (62, (.ifCond .eq 10, 65, 72, 0)), (65, (.iconst 1, 66, 0, 1)), (66, (.iload 5, 68, 5, 0)), (68, (.ishl, 69, 0, 0)), (69, (.goto 4, 72, 73, 0)), (72, (.iconst 0, 73, 0, 0)), (73, (.ior, 74, 0, 0)), (74, (.istore 4, 76, 4, 0)), (76, (.iinc 5 1, 79, 5, 1)), (79, (.goto (-40), 82, 39, 0)), (82, (.iload 4, 84, 4, 0)), (84, (.ireturn, 85, 0, 0))]
theorem pX6_whatWish_ok : ∀ pc q, lkB pX6_whatWish pc = some q → xdec cX6_whatWish pc = some q := lkB_all (by decide +kernel)
def pX6_two : List (Nat × (Instr × Nat × Nat × Int32)) := [(0, (.aload_n 0, 1, 0, 0)), (1, (.iconst 0, 2, 0, 0)), (2, (.putfield 75, 5, 75, 0)), (5, (.aload_n 0, 6, 0, 0)), (6, (.iload_n 1, 7, 1, 0)), (7, (.invokevirtual 171, 10, 0, 0)), (10, (.ifCond .eq 28, 13, 38, 0)), (13, (.aload_n 0, 14, 0, 0)), (14, (.iload_n 2, 15, 2, 0)), (15, (.invokevirtual 171, 18, 0, 0)), (18, (.ifCond .eq 20, 21, 38, 0)), (21, (.iload_n 1, 22, 1, 0)), (22, (.iload_n 2, 23, 2, 0)), (23, (.if_icmp .eq 15, 26, 38, 0)), (26, (.iload_n 3, 27, 3, 0)), (27, (.i2l, 28, 0, 0)), (28, (.lconst 1, 29, 0, 1)), (29, (.ldc2_w 293, 32, 293, 0)), (32, (.invokestatic 81, 35, 0, 0)), (35, (.ifCond .ne 5, 38, 40, 0)), (38, (.iconst (-1), 39, 0, (-1))), (39, (.ireturn, 40, 0, 0)), (40, (.aload_n 0, 41, 0, 0)), (41, (.getfield 125, 44, 125, 0)), (44, (.iload_n 1, 45, 1, 0)), (45, (.invokestatic 105, 48, 0, 0)), (48, (.ifCond .eq 14, 51, 62, 0)), (51, (.aload_n 0, 52, 0, 0)), (52, (.getfield 125, 55, 125, 0)), (55, (.iload_n 2, 56, 2, 0)), (56, (.invokestatic 105, 59, 0, 0)), (59, (.ifCond .ne 6, 62, 65, 0)), (62, (.bipush (-3), 64, 0, (-3))), (64, (.ireturn, 65, 0, 0)), (65, (.aload_n 0, 66, 0, 0)), (66, (.invokevirtual 190, 69, 0, 0)), (69, (.iconst 0, 70, 0, 0)), (70, (.istore 4, 72, 4, 0)), (72, (.iload 4, 74, 4, 0)), (74, (.iconst 4, 75, 0, 4)), (75, (.if_icmp .ge 89, 78, 164, 0)), (78, (.aload_n 0, 79, 0, 0)), (79, (.iconst 1, 80, 0, 1)), (80, (.iload 4, 82, 4, 0)), (82, (.iconst 2, 83, 0, 2)), (83, (.idiv, 84, 0, 0)), (84, (.isub, 85, 0, 0)), (85, (.iload_n 1, 86, 1, 0)), (86, (.ishl, 87, 0, 0)), (87, (.iconst 1, 88, 0, 1)), (88, (.iload 4, 90, 4, 0)), (90, (.iconst 2, 91, 0, 2)), (91, (.irem, 92, 0, 0)), (92, (.isub, 93, 0, 0)), (93, (.iload_n 2, 94, 2, 0)), (94, (.ishl, 95, 0, 0)), (95, (.ior, 96, 0, 0)), (96, (.putfield 102, 99, 102, 0)), (99, (.aload_n 0, 100, 0, 0)), (100, (.iload_n 3, 101, 3, 0)), (101, (.invokevirtual 168, 104, 0, 0)), (104, (.aload_n 0, 105, 0, 0)), (105, (.getfield 69, 108, 69, 0)), (108, (.iconst 2, 109, 0, 2)), (109, (.iload 4, 111, 4, 0)), (111, (.imul, 112, 0, 0)), (112, (.aload_n 0, 113, 0, 0)), (113, (.getfield 25, 116, 25, 0)), (116, (.iload_n 1, 117, 1, 0)), (117, (.iaload, 118, 0, 0)), (118, (.iconst 2, 119, 0, 2)), (119, (.iconst 1, 120, 0, 1)), (120, (.iload 4, 122, 4, 0)), (122, (.iconst 2, 123, 0, 2)), (123, (.idiv, 124, 0, 0)), (124, (.isub, 125, 0, 0)), (125, (.imul, 126, 0, 0)), (126, (.isub, 127, 0, 0)), (127, (.iastore, 128, 0, 0)), (128, (.aload_n 0, 129, 0, 0)), (129, (.getfield 69, 132, 69, 0)), (132, (.iconst 2, 133, 0, 2)), (133, (.iload 4, 135, 4, 0)), (135, (.imul, 136, 0, 0)), (136, (.iconst 1, 137, 0, 1)), (137, (.iadd, 138, 0, 0)), (138, (.aload_n 0, 139, 0, 0)), (139, (.getfield 25, 142, 25, 0)), (142, (.iload_n 2, 143, 2, 0)), (143, (.iaload, 144, 0, 0)), (144, (.iconst 2, 145, 0, 2)), (145, (.iconst 1, 146, 0, 1)), (146, (.iload 4, 148, 4, 0)), (148, (.iconst 2, 149, 0, 2)), (149, (.irem, 150, 0, 0)), (150, (.isub, 151, 0, 0)), (151, (.imul, 152, 0, 0)), (152, (.isub, 153, 0, 0)), (153, (.iastore, 154, 0, 0)), (154, (.aload_n 0, 155, 0, 0)), (155, (.invokevirtual 196, 158, 0, 0)), (158, (.iinc 4 1, 161, 4, 1)), (161, (.goto (-89), 164, 72, 0)), (164, (.iconst 0, 165, 0, 0)), (165, (.istore 4, 167, 4, 0)), (167, (.iload 4, 169, 4, 0)), (169, (.iconst 4, 170, 0, 4)), (170, (.if_icmp .ge 98, 173, 268, 0)), (173, (.iconst 2, 174, 0, 2)), (174, (.iconst 1, 175, 0, 1)), (175, (.iload 4, 177, 4, 0)), (177, (.iconst 2, 178, 0, 2)), (178, (.idiv, 179, 0, 0)), (179, (.isub, 180, 0, 0)), (180, (.imul, 181, 0, 0)), (181, (.iload 4, 183, 4, 0)), (183, (.iconst 2, 184, 0, 2)), (184, (.irem, 185, 0, 0)), (185, (.iadd, 186, 0, 0)), (186, (.istore 5, 188, 5, 0)), (188, (.iconst 2, 189, 0, 2)), (189, (.iload 4, 191, 4, 0)), (191, (.iconst 2, 192, 0, 2)), (192, (.idiv, 193, 0, 0)), (193, (.imul, 194, 0, 0)), (194, (.iconst 1, 195, 0, 1)), (195, (.iadd, 196, 0, 0)), (196, (.iload 4, 198, 4, 0)), (198, (.iconst 2, 199, 0, 2)), (199, (.irem, 200, 0, 0)), (200, (.isub, 201, 0, 0)), (201, (.istore 6, 203, 6, 0)), (203, (.aload_n 0, 204, 0, 0)), (204, (.getfield 69, 207, 69, 0)), (207, (.iconst 2, 208, 0, 2)), (208, (.iload 4, 210, 4, 0)), (210, (.imul, 211, 0, 0)), (211, (.iaload, 212, 0, 0)), (212, (.aload_n 0, 213, 0, 0)), (213, (.getfield 69, 216, 69, 0)), (216, (.iconst 2, 217, 0, 2)), (217, (.iload 5, 219, 5, 0)), (219, (.imul, 220, 0, 0)), (220, (.iaload, 221, 0, 0)), (221, (.if_icmp .lt 41, 224, 262, 0)), (224, (.aload_n 0, 225, 0, 0)), (225, (.getfield 69, 228, 69, 0)), (228, (.iconst 2, 229, 0, 2)), (229, (.iload 4, 231, 4, 0)), (231, (.imul, 232, 0, 0)), (232, (.iconst 1, 233, 0, 1)), (233, (.iadd, 234, 0, 0)), (234, (.iaload, 235, 0, 0)), (235, (.aload_n 0, 236, 0, 0)), (236, (.getfield 69, 239, 69, 0)), (239, (.iconst 2, 240, 0, 2)), (240, (.iload 6, 242, 6, 0)), (242, (.imul, 243, 0, 0)), (243, (.iconst 1, 244, 0, 1)), (244, (.iadd, 245, 0, 0)), (245, (.iaload, 246, 0, 0)), (246, (.if_icmp .lt 16, 249, 262, 0)), (249, (.bipush 10, 251, 0, 10)), (251, (.iload 4, 253, 4, 0)), (253, (.iconst 2, 254, 0, 2)), (254, (.idiv, 255, 0, 0)), (255, (.imul, 256, 0, 0)), (256, (.iload 4, 258, 4, 0)), (258, (.iconst 2, 259, 0, 2)), (259, (.irem, 260, 0, 0)), (260, (.iadd, 261, 0, 0)), (261, (.ireturn, 262, 0, 0)), (262, (.iinc 4 1, 265, 4, 1)), (265, (.goto (-98), 268, 167, 0)), (268, (.bipush (-4), 270, 0, (-4))), (270, (.ireturn, 271, 0, 0))]
theorem pX6_two_ok : ∀ pc q, lkB pX6_two pc = some q → xdec cX6_two pc = some q := lkB_all (by decide +kernel)
def pX6_divisor : List (Nat × (Instr × Nat × Nat × Int32)) := [(0, (.lload_n 0, 1, 0, 0)), (1, (.lstore 4, 3, 4, 0)), (3, (.lload_n 2, 4, 2, 0)), (4, (.lstore 6, 6, 6, 0)), (6, (.lload 6, 8, 6, 0)), (8, (.lconst 0, 9, 0, 0)), (9, (.lcmp, 10, 0, 0)), (10, (.ifCond .eq 21, 13, 31, 0)), (13, (.lload 4, 15, 4, 0)), (15, (.lload 6, 17, 6, 0)), (17, (.lrem, 18, 0, 0)), (18, (.lstore 8, 20, 8, 0)), (20, (.lload 6, 22, 6, 0)), (22, (.lstore 4, 24, 4, 0)), (24, (.lload 8, 26, 8, 0)), (26, (.lstore 6, 28, 6, 0)), (28, (.goto (-22), 31, 6, 0)), (31, (.lload 4, 33, 4, 0)), (33, (.lreturn, 34, 0, 0))]
theorem pX6_divisor_ok : ∀ pc q, lkB pX6_divisor pc = some q → xdec cX6_divisor pc = some q := lkB_all (by decide +kernel)
def pX6_partOf : List (Nat × (Instr × Nat × Nat × Int32)) := [(0, (.lload_n 0, 1, 0, 0)), (1, (.lconst 0, 2, 0, 0)), (2, (.lcmp, 3, 0, 0)), (3, (.ifCond .ne 7, 6, 10, 0)), (6, (.iload 4, 8, 4, 0)), (8, (.i2l, 9, 0, 0)), (9, (.lreturn, 10, 0, 0)), (10, (.lload_n 0, 11, 0, 0)), (11, (.lload_n 2, 12, 2, 0)), (12, (.invokestatic 295, 15, 0, 0)), (15, (.lstore 5, 17, 5, 0)), (17, (.iload 4, 19, 4, 0)), (19, (.ifCond .ne 10, 22, 29, 0)), (22, (.lload_n 0, 23, 0, 0)), (23, (.lload 5, 25, 5, 0)), (25, (.ldiv, 26, 0, 0)), (26, (.goto 7, 29, 33, 0)), (29, (.lload_n 2, 30, 2, 0)), (30, (.lload 5, 32, 5, 0)), (32, (.ldiv, 33, 0, 0)), (33, (.lreturn, 34, 0, 0))]
theorem pX6_partOf_ok : ∀ pc q, lkB pX6_partOf pc = some q → xdec cX6_partOf pc = some q := lkB_all (by decide +kernel)
def pX6_mares : List (Nat × (Instr × Nat × Nat × Int32)) := [(0, (.aload_n 0, 1, 0, 0)), (1, (.iconst 0, 2, 0, 0)), (2, (.putfield 75, 5, 75, 0)), (5, (.aload_n 0, 6, 0, 0)), (6, (.iload_n 1, 7, 1, 0)), (7, (.invokevirtual 171, 10, 0, 0)), (10, (.ifCond .eq 53, 13, 63, 0)), (13, (.iload_n 2, 14, 2, 0)), (14, (.i2l, 15, 0, 0)), (15, (.lconst 0, 16, 0, 0)), (16, (.ldc2_w 218, 19, 218, 0)), (19, (.invokestatic 81, 22, 0, 0)), (22, (.ifCond .eq 41, 25, 63, 0)), (25, (.iload_n 3, 26, 3, 0)), (26, (.i2l, 27, 0, 0)), (27, (.ldc2_w 231, 30, 231, 0)), (30, (.ldc2_w 244, 33, 244, 0)), (33, (.invokestatic 81, 36, 0, 0)), (36, (.ifCond .eq 27, 39, 63, 0)), (39, (.iload 4, 41, 4, 0)), (41, (.i2l, 42, 0, 0)), (42, (.lconst 0, 43, 0, 0)), (43, (.ldc2_w 226, 46, 226, 0)), (46, (.invokestatic 81, 49, 0, 0)), (49, (.ifCond .eq 14, 52, 63, 0)), (52, (.iload 5, 54, 5, 0)), (54, (.i2l, 55, 0, 0)), (55, (.lconst 0, 56, 0, 0)), (56, (.lconst 1, 57, 0, 1)), (57, (.invokestatic 81, 60, 0, 0)), (60, (.ifCond .ne 7, 63, 67, 0)), (63, (.ldc2_w 299, 66, 299, 0)), (66, (.lreturn, 67, 0, 0)), (67, (.lconst 0, 68, 0, 0)), (68, (.lstore 6, 70, 6, 0)), (70, (.lconst 1, 71, 0, 1)), (71, (.lstore 8, 73, 8, 0)), (73, (.iconst 0, 74, 0, 0)), (74, (.istore 10, 76, 10, 0)), (76, (.iload 10, 78, 10, 0)), (78, (.iload_n 2, 79, 2, 0)), (79, (.if_icmp .ge 16, 82, 95, 0)), (82, (.lload 8, 84, 8, 0)), (84, (.iload_n 3, 85, 3, 0)), (85, (.i2l, 86, 0, 0)), (86, (.lmul, 87, 0, 0)), (87, (.lstore 8, 89, 8, 0)), (89, (.iinc 10 1, 92, 10, 1)), (92, (.goto (-16), 95, 76, 0)), (95, (.aload_n 0, 96, 0, 0)), (96, (.invokevirtual 190, 99, 0, 0)), (99, (.iconst 0, 100, 0, 0)), (100, (.istore 10, 102, 10, 0)), (102, (.iload 10, 104, 10, 0)), (104, (.iconst 1, 105, 0, 1)), (105, (.iload_n 2, 106, 2, 0)), (106, (.ishl, 107, 0, 0)), (107, (.if_icmp .ge 91, 110, 198, 0)), (110, (.lconst 1, 111, 0, 1)), (111, (.lstore 11, 113, 11, 0)), (113, (.iconst 0, 114, 0, 0)), (114, (.istore 13, 116, 13, 0)), (116, (.iload 13, 118, 13, 0)), (118, (.iload_n 2, 119, 2, 0)), (119, (.if_icmp .ge 47, 122, 166, 0)), (122, (.lload 11, 124, 11, 0)), (124, (.iload 10, 126, 10, 0)), (126, (.iload 13, 128, 13, 0)), (128, (.invokestatic 105, 131, 0, 0)), (131, (.ifCond .eq 7, 134, 138, 0)), (134, (.lconst 1, 135, 0, 1)), (135, (.goto 7, 138, 142, 0)), (138, (.iload_n 3, 139, 3, 0)), (139, (.iconst 1, 140, 0, 1)), (140, (.isub, 141, 0, 0)), (141, (.i2l, 142, 0, 0)), (142, (.lmul, 143, 0, 0)), (143, (.lstore 11, 145, 11, 0)), (145, (.aload_n 0, 146, 0, 0)), (146, (.iload 10, 148, 10, 0)), (148, (.iload 13, 150, 13, 0)), (150, (.invokestatic 105, 153, 0, 0)), (153, (.putfield 98, 156, 98, 0)), (156, (.aload_n 0, 157, 0, 0)), (157, (.invokevirtual 132, 160, 0, 0)), (160, (.iinc 13 1, 163, 13, 1)), (163, (.goto (-47), 166, 116, 0)), (166, (.lload 6, 168, 6, 0)), (168, (.aload_n 0, 169, 0, 0)), (169, (.getfield 25, 172, 25, 0)), (172, (.iload_n 1, 173, 1, 0)), (173, (.iaload, 174, 0, 0)), (174, (.iload 4, 176, 4, 0)), (176, (.if_icmp .lt 8, 179, 184, 0)), (179, (.lload 11, 181, 11, 0)), (181, (.goto 4, 184, 185, 0)), (184, (.lconst 0, 185, 0, 0)), (185, (.ladd, 186, 0, 0)), (186, (.lstore 6, 188, 6, 0)), (188, (.aload_n 0, 189, 0, 0)), (189, (.invokevirtual 196, 192, 0, 0)), (192, (.iinc 10 1, 195, 10, 1)), (195, (.goto (-93), 198, 102, 0)), (198, (.lload 6, 200, 6, 0)), (200, (.lload 8, 202, 8, 0)), (202, (.iload 5, 204, 5, 0)), (204, (.invokestatic 301, 207, 0, 0)), (207, (.lreturn, 208, 0, 0))]
theorem pX6_mares_ok : ∀ pc q, lkB pX6_mares pc = some q → xdec cX6_mares pc = some q := lkB_all (by decide +kernel)
def pX6_mean : List (Nat × (Instr × Nat × Nat × Int32)) := [(0, (.aload_n 0, 1, 0, 0)), (1, (.iconst 0, 2, 0, 0)), (2, (.putfield 75, 5, 75, 0)), (5, (.iload_n 1, 6, 1, 0)), (6, (.i2l, 7, 0, 0)), (7, (.lconst 0, 8, 0, 0)), (8, (.lconst 1, 9, 0, 1)), (9, (.invokestatic 81, 12, 0, 0)), (12, (.ifCond .ne 7, 15, 19, 0)), (15, (.ldc2_w 299, 18, 299, 0)), (18, (.lreturn, 19, 0, 0)), (19, (.lconst 0, 20, 0, 0)), (20, (.lstore_n 2, 21, 2, 0)), (21, (.iconst 0, 22, 0, 0)), (22, (.istore 4, 24, 4, 0)), (24, (.iload 4, 26, 4, 0)), (26, (.aload_n 0, 27, 0, 0)), (27, (.getfield 85, 30, 85, 0)), (30, (.if_icmp .ge 36, 33, 66, 0)), (33, (.lload_n 2, 34, 2, 0)), (34, (.aload_n 0, 35, 0, 0)), (35, (.getfield 125, 38, 125, 0)), (38, (.iload 4, 40, 4, 0)), (40, (.invokestatic 105, 43, 0, 0)), (43, (.ifCond .eq 14, 46, 57, 0)), (46, (.aload_n 0, 47, 0, 0)), (47, (.getfield 25, 50, 25, 0)), (50, (.iload 4, 52, 4, 0)), (52, (.iaload, 53, 0, 0)), (53, (.i2l, 54, 0, 0)), (54, (.goto 4, 57, 58, 0)), (57, (.lconst 0, 58, 0, 0)), (58, (.ladd, 59, 0, 0)), (59, (.lstore_n 2, 60, 2, 0)), (60, (.iinc 4 1, 63, 4, 1)), (63, (.goto (-39), 66, 24, 0)), (66, (.lload_n 2, 67, 2, 0)), (67, (.aload_n 0, 68, 0, 0)), (68, (.getfield 125, 71, 125, 0)), (71, (.invokestatic 228, 74, 0, 0)), (74, (.i2l, 75, 0, 0)), (75, (.iload_n 1, 76, 1, 0)), (76, (.invokestatic 301, 79, 0, 0)), (79, (.lreturn, 80, 0, 0))]
theorem pX6_mean_ok : ∀ pc q, lkB pX6_mean pc = some q → xdec cX6_mean pc = some q := lkB_all (by decide +kernel)
def pX6_forged : List (Nat × (Instr × Nat × Nat × Int32)) := [(0, (.aload_n 0, 1, 0, 0)), (1, (.iconst 0, 2, 0, 0)), (2, (.putfield 75, 5, 75, 0)), (5, (.aload_n 0, 6, 0, 0)), (6, (.iload_n 1, 7, 1, 0)), (7, (.invokevirtual 184, 10, 0, 0)), (10, (.istore_n 2, 11, 2, 0)), (11, (.iload_n 2, 12, 2, 0)), (12, (.ifCond .ge 5, 15, 17, 0)), (15, (.iload_n 2, 16, 2, 0)), (16, (.ireturn, 17, 0, 0)), (17, (.iconst 0, 18, 0, 0)), (18, (.istore_n 3, 19, 3, 0)), (19, (.iload_n 3, 20, 3, 0)), (20, (.aload_n 0, 21, 0, 0)), (21, (.getfield 40, 24, 40, 0)), (24, (.iload_n 1, 25, 1, 0)), (25, (.iaload, 26, 0, 0)), (26, (.if_icmp .ge 39, 29, 65, 0)), (29, (.iload_n 3, 30, 3, 0)), (30, (.bipush 10, 32, 0, 10)), (32, (.if_icmp .ge 25, 35, 57, 0)), (35, (.aload_n 0, 36, 0, 0)), (36, (.getfield 43, 39, 43, 0)), (39, (.bipush 100, 41, 0, 100)), (41, (.iload_n 1, 42, 1, 0)), (42, (.imul, 43, 0, 0)), (43, (.iload_n 3, 44, 3, 0)), (44, (.iadd, 45, 0, 0)), (45, (.laload, 46, 0, 0)), (46, (.aload_n 0, 47, 0, 0)), (47, (.getfield 7, 50, 7, 0)), (50, (.iload_n 3, 51, 3, 0)), (51, (.iaload, 52, 0, 0)), (52, (.i2l, 53, 0, 0)), (53, (.lcmp, 54, 0, 0)), (54, (.ifCond .eq 5, 57, 59, 0)), (57, (.iload_n 3, 58, 3, 0)), (58, (.ireturn, 59, 0, 0)), (59, (.iinc 3 1, 62, 3, 1)), (62, (.goto (-43), 65, 19, 0)), (65, (.bipush (-4), 67, 0, (-4))), (67, (.ireturn, 68, 0, 0))]
theorem pX6_forged_ok : ∀ pc q, lkB pX6_forged pc = some q → xdec cX6_forged pc = some q := lkB_all (by decide +kernel)
def pX6_judge : List (Nat × (Instr × Nat × Nat × Int32)) := [(0, (.aload_n 0, 1, 0, 0)), (1, (.iconst 0, 2, 0, 0)), (2, (.putfield 75, 5, 75, 0)), (5, (.aload_n 0, 6, 0, 0)), (6, (.iload_n 1, 7, 1, 0)), (7, (.invokevirtual 184, 10, 0, 0)), (10, (.istore_n 2, 11, 2, 0)), (11, (.iload_n 2, 12, 2, 0)), (12, (.ifCond .ge 5, 15, 17, 0)), (15, (.iload_n 2, 16, 2, 0)), (16, (.ireturn, 17, 0, 0)), (17, (.bipush (-4), 19, 0, (-4))), (19, (.istore_n 3, 20, 3, 0)), (20, (.aload_n 0, 21, 0, 0)), (21, (.invokevirtual 190, 24, 0, 0)), (24, (.iconst 0, 25, 0, 0)), (25, (.istore 4, 27, 4, 0)), (27, (.iload 4, 29, 4, 0)), (29, (.aload_n 0, 30, 0, 0)), (30, (.getfield 40, 33, 40, 0)), (33, (.iload_n 1, 34, 1, 0)), (34, (.iaload, 35, 0, 0)), (35, (.if_icmp .ge 56, 38, 91, 0)), (38, (.iload_n 3, 39, 3, 0)), (39, (.ifCond .ge 52, 42, 91, 0)), (42, (.aload_n 0, 43, 0, 0)), (43, (.iload_n 1, 44, 1, 0)), (44, (.iload 4, 46, 4, 0)), (46, (.invokevirtual 284, 49, 0, 0)), (49, (.ifCond .ne 29, 52, 78, 0)), (52, (.aload_n 0, 53, 0, 0)), (53, (.getfield 43, 56, 43, 0)), (56, (.bipush 100, 58, 0, 100)), (58, (.iload_n 1, 59, 1, 0)), (59, (.imul, 60, 0, 0)), (60, (.iload 4, 62, 4, 0)), (62, (.iadd, 63, 0, 0)), (63, (.laload, 64, 0, 0)), (64, (.aload_n 0, 65, 0, 0)), (65, (.invokevirtual 264, 68, 0, 0)), (68, (.i2l, 69, 0, 0)), (69, (.lcmp, 70, 0, 0)), (70, (.ifCond .eq 8, 73, 78, 0)), (73, (.iload 4, 75, 4, 0)), (75, (.goto 5, 78, 80, 0)), (78, (.bipush (-4), 80, 0, (-4))), (80, (.istore_n 3, 81, 3, 0)), (81, (.aload_n 0, 82, 0, 0)), (82, (.invokevirtual 132, 85, 0, 0)), (85, (.iinc 4 1, 88, 4, 1)), (88, (.goto (-61), 91, 27, 0)), (91, (.aload_n 0, 92, 0, 0)), (92, (.invokevirtual 196, 95, 0, 0)), (95, (.iload_n 3, 96, 3, 0)), (96, (.ireturn, 97, 0, 0))]
theorem pX6_judge_ok : ∀ pc q, lkB pX6_judge pc = some q → xdec cX6_judge pc = some q := lkB_all (by decide +kernel)
def pX6_drawBelow : List (Nat × (Instr × Nat × Nat × Int32)) := [(0, (.aload_n 0, 1, 0, 0)), (1, (.aload_n 0, 2, 0, 0)), (2, (.getfield 305, 5, 305, 0)), (5, (.ldc_w 308, 8, 308, 0)), (8, (.imul, 9, 0, 0)), (9, (.sipush 12345, 12, 0, 12345)), (12, (.iadd, 13, 0, 0)), (13, (.putfield 305, 16, 305, 0)), (16, (.aload_n 0, 17, 0, 0)), (17, (.getfield 305, 20, 305, 0)), (20, (.ldc_w 309, 23, 309, 0)), (23, (.iand, 24, 0, 0)), (24, (.ldc_w 310, 27, 310, 0)), (27, (.idiv, 28, 0, 0)), (28, (.iload_n 1, 29, 1, 0)), (29, (.irem, 30, 0, 0)), (30, (.ireturn, 31, 0, 0))]
theorem pX6_drawBelow_ok : ∀ pc q, lkB pX6_drawBelow pc = some q → xdec cX6_drawBelow pc = some q := lkB_all (by decide +kernel)
def pX6_years : List (Nat × (Instr × Nat × Nat × Int32)) := [(0, (.aload_n 0, 1, 0, 0)), (1, (.iconst 0, 2, 0, 0)), (2, (.putfield 75, 5, 75, 0)), (5, (.iload_n 1, 6, 1, 0)), (6, (.i2l, 7, 0, 0)), (7, (.lconst 1, 8, 0, 1)), (8, (.ldc2_w 244, 11, 244, 0)), (11, (.invokestatic 81, 14, 0, 0)), (14, (.ifCond .eq 13, 17, 27, 0)), (17, (.iload_n 3, 18, 3, 0)), (18, (.i2l, 19, 0, 0)), (19, (.lconst 0, 20, 0, 0)), (20, (.lconst 1, 21, 0, 1)), (21, (.invokestatic 81, 24, 0, 0)), (24, (.ifCond .ne 5, 27, 29, 0)), (27, (.iconst (-1), 28, 0, (-1))), (28, (.ireturn, 29, 0, 0)), (29, (.aload_n 0, 30, 0, 0)), (30, (.iload_n 2, 31, 2, 0)), (31, (.putfield 305, 34, 305, 0)), (34, (.iconst 0, 35, 0, 0)), (35, (.istore 4, 37, 4, 0)), (37, (.aload_n 0, 38, 0, 0)), (38, (.getfield 116, 41, 116, 0)), (41, (.istore 5, 43, 5, 0)), (43, (.aload_n 0, 44, 0, 0)), (44, (.invokevirtual 190, 47, 0, 0)), (47, (.iconst 0, 48, 0, 0)), (48, (.istore 6, 50, 6, 0)), (50, (.iload 6, 52, 6, 0)), (52, (.iload_n 1, 53, 1, 0)), (53, (.if_icmp .ge 105, 56, 158, 0)), (56, (.iconst 0, 57, 0, 0)), (57, (.istore 7, 59, 7, 0)), (59, (.iload 7, 61, 7, 0)), (61, (.aload_n 0, 62, 0, 0)), (62, (.getfield 85, 65, 85, 0)), (65, (.if_icmp .ge 22, 68, 87, 0)), (68, (.aload_n 0, 69, 0, 0)), (69, (.getfield 19, 72, 19, 0)), (72, (.iload 7, 74, 7, 0)), (74, (.aload_n 0, 75, 0, 0)), (75, (.bipush 10, 77, 0, 10)), (77, (.invokevirtual 311, 80, 0, 0)), (80, (.iastore, 81, 0, 0)), (81, (.iinc 7 1, 84, 7, 1)), (84, (.goto (-25), 87, 59, 0)), (87, (.iconst 0, 88, 0, 0)), (88, (.istore 7, 90, 7, 0)), (90, (.iload 7, 92, 7, 0)), (92, (.bipush 10, 94, 0, 10)), (94, (.if_icmp .ge 22, 97, 116, 0)), (97, (.aload_n 0, 98, 0, 0)), (98, (.getfield 7, 101, 7, 0)), (101, (.iload 7, 103, 7, 0)), (103, (.aload_n 0, 104, 0, 0)), (104, (.bipush 6, 106, 0, 6)), (106, (.invokevirtual 311, 109, 0, 0)), (109, (.iastore, 110, 0, 0)), (110, (.iinc 7 1, 113, 7, 1)), (113, (.goto (-23), 116, 90, 0)), (116, (.aload_n 0, 117, 0, 0)), (117, (.bipush 12, 119, 0, 12)), (119, (.invokevirtual 168, 122, 0, 0)), (122, (.iload 4, 124, 4, 0)), (124, (.iload_n 3, 125, 3, 0)), (125, (.ifCond .ne 13, 128, 138, 0)), (128, (.aload_n 0, 129, 0, 0)), (129, (.getfield 116, 132, 116, 0)), (132, (.iload 5, 134, 5, 0)), (134, (.isub, 135, 0, 0)), (135, (.goto 10, 138, 145, 0)), (138, (.aload_n 0, 139, 0, 0)), (139, (.getfield 125, 142, 125, 0)), (142, (.invokestatic 228, 145, 0, 0)), (145, (.iadd, 146, 0, 0)), (146, (.istore 4, 148, 4, 0)), (148, (.aload_n 0, 149, 0, 0)), (149, (.invokevirtual 196, 152, 0, 0)), (152, (.iinc 6 1, 155, 6, 1)), (155, (.goto (-105), 158, 50, 0)), (158, (.iload 4, 160, 4, 0)), (160, (.ireturn, 161, 0, 0))]
theorem pX6_years_ok : ∀ pc q, lkB pX6_years pc = some q → xdec cX6_years pc = some q := lkB_all (by decide +kernel)
def pX6_count : List (Nat × (Instr × Nat × Nat × Int32)) := [(0, (.aload_n 0, 1, 0, 0)), (1, (.iconst 0, 2, 0, 0)), (2, (.putfield 75, 5, 75, 0)), (5, (.iload_n 1, 6, 1, 0)), (6, (.tableswitch 68 0 5 #[38, 43, 48, 53, 58, 63], 44, 0, 0)), (44, (.aload_n 0, 45, 0, 0)), (45, (.getfield 85, 48, 85, 0)), (48, (.ireturn, 49, 0, 0)), (49, (.aload_n 0, 50, 0, 0)), (50, (.getfield 92, 53, 92, 0)), (53, (.ireturn, 54, 0, 0)), (54, (.aload_n 0, 55, 0, 0)), (55, (.getfield 116, 58, 116, 0)), (58, (.ireturn, 59, 0, 0)), (59, (.aload_n 0, 60, 0, 0)), (60, (.getfield 122, 63, 122, 0)), (63, (.ireturn, 64, 0, 0)), (64, (.aload_n 0, 65, 0, 0)), (65, (.getfield 125, 68, 125, 0)), (68, (.ireturn, 69, 0, 0)), (69, (.aload_n 0, 70, 0, 0)), (70, (.invokevirtual 264, 73, 0, 0)), (73, (.ireturn, 74, 0, 0)), (74, (.iconst (-1), 75, 0, (-1))), (75, (.ireturn, 76, 0, 0))]
theorem pX6_count_ok : ∀ pc q, lkB pX6_count pc = some q → xdec cX6_count pc = some q := lkB_all (by decide +kernel)
def pX6_wrongKept : List (Nat × (Instr × Nat × Nat × Int32)) := [(0, (.iload_n 1, 1, 1, 0)), (1, (.i2l, 2, 0, 0)), (2, (.lconst 0, 3, 0, 0)), (3, (.ldc2_w 218, 6, 218, 0)), (6, (.invokestatic 81, 9, 0, 0)), (9, (.ifCond .ne 7, 12, 16, 0)), (12, (.iconst (-1), 13, 0, (-1))), (13, (.goto 33, 16, 46, 0)), (16, (.aload_n 0, 17, 0, 0)), (17, (.getfield 28, 20, 28, 0)), (20, (.iload_n 1, 21, 1, 0)), (21, (.iaload, 22, 0, 0)), (22, (.ifCond .ne 8, 25, 30, 0)), (25, (.bipush (-11), 27, 0, (-11))), (27, (.goto 19, 30, 46, 0)), (30, (.aload_n 0, 31, 0, 0)), (31, (.getfield 28, 34, 28, 0)), (34, (.iload_n 1, 35, 1, 0)), (35, (.iaload, 36, 0, 0)), (36, (.iconst 2, 37, 0, 2)), (37, (.if_icmp .ne 8, 40, 45, 0)), (40, (.bipush (-12), 42, 0, (-12))), (42, (.goto 4, 45, 46, 0)), (45, (.iconst 0, 46, 0, 0)), (46, (.ireturn, 47, 0, 0))]
theorem pX6_wrongKept_ok : ∀ pc q, lkB pX6_wrongKept pc = some q → xdec cX6_wrongKept pc = some q := lkB_all (by decide +kernel)
def pX6_keep : List (Nat × (Instr × Nat × Nat × Int32)) := [(0, (.aload_n 0, 1, 0, 0)), (1, (.iconst 0, 2, 0, 0)), (2, (.putfield 75, 5, 75, 0)), (5, (.iload_n 1, 6, 1, 0)), (6, (.i2l, 7, 0, 0)), (7, (.lconst 0, 8, 0, 0)), (8, (.ldc2_w 218, 11, 218, 0)), (11, (.invokestatic 81, 14, 0, 0)), (14, (.ifCond .eq 43, 17, 57, 0)), (17, (.iload_n 2, 18, 2, 0)), (18, (.i2l, 19, 0, 0)), (19, (.lconst 0, 20, 0, 0)), (20, (.lconst 1, 21, 0, 1)), (21, (.invokestatic 81, 24, 0, 0)), (24, (.ifCond .eq 33, 27, 57, 0)), (27, (.iload_n 2, 28, 2, 0)), (28, (.iconst 1, 29, 0, 1)), (29, (.if_icmp .ne 30, 32, 59, 0)), (32, (.iload_n 3, 33, 3, 0)), (33, (.i2l, 34, 0, 0)), (34, (.lconst 0, 35, 0, 0)), (35, (.ldc2_w 218, 38, 218, 0)), (38, (.invokestatic 81, 41, 0, 0)), (41, (.ifCond .eq 16, 44, 57, 0)), (44, (.iload 4, 46, 4, 0)), (46, (.i2l, 47, 0, 0)), (47, (.lconst 0, 48, 0, 0)), (48, (.ldc2_w 79, 51, 79, 0)), (51, (.invokestatic 81, 54, 0, 0)), (54, (.ifCond .ne 5, 57, 59, 0)), (57, (.iconst (-1), 58, 0, (-1))), (58, (.ireturn, 59, 0, 0)), (59, (.aload_n 0, 60, 0, 0)), (60, (.getfield 28, 63, 28, 0)), (63, (.iload_n 1, 64, 1, 0)), (64, (.iload_n 2, 65, 2, 0)), (65, (.iastore, 66, 0, 0)), (66, (.aload_n 0, 67, 0, 0)), (67, (.getfield 31, 70, 31, 0)), (70, (.iload_n 1, 71, 1, 0)), (71, (.iload_n 2, 72, 2, 0)), (72, (.iconst 1, 73, 0, 1)), (73, (.if_icmp .ne 7, 76, 80, 0)), (76, (.iload_n 3, 77, 3, 0)), (77, (.goto 4, 80, 81, 0)), (80, (.iconst 0, 81, 0, 0)), (81, (.iastore, 82, 0, 0)), (82, (.aload_n 0, 83, 0, 0)), (83, (.getfield 34, 86, 34, 0)), (86, (.iload_n 1, 87, 1, 0)), (87, (.iload_n 2, 88, 2, 0)), (88, (.iconst 1, 89, 0, 1)), (89, (.if_icmp .ne 8, 92, 97, 0)), (92, (.iload 4, 94, 4, 0)), (94, (.goto 4, 97, 98, 0)), (97, (.iconst 0, 98, 0, 0)), (98, (.iastore, 99, 0, 0)), (99, (.iconst 0, 100, 0, 0)), (100, (.ireturn, 101, 0, 0))]
theorem pX6_keep_ok : ∀ pc q, lkB pX6_keep pc = some q → xdec cX6_keep pc = some q := lkB_all (by decide +kernel)
def pX6_wrongRow : List (Nat × (Instr × Nat × Nat × Int32)) := [(0, (.iload_n 1, 1, 1, 0)), (1, (.i2l, 2, 0, 0)), (2, (.lconst 0, 3, 0, 0)), (3, (.ldc2_w 218, 6, 218, 0)), (6, (.invokestatic 81, 9, 0, 0)), (9, (.ifCond .ne 7, 12, 16, 0)), (12, (.iconst (-1), 13, 0, (-1))), (13, (.goto 33, 16, 46, 0)), (16, (.aload_n 0, 17, 0, 0)), (17, (.getfield 28, 20, 28, 0)), (20, (.iload_n 1, 21, 1, 0)), (21, (.iaload, 22, 0, 0)), (22, (.ifCond .ne 8, 25, 30, 0)), (25, (.bipush (-11), 27, 0, (-11))), (27, (.goto 19, 30, 46, 0)), (30, (.aload_n 0, 31, 0, 0)), (31, (.getfield 28, 34, 28, 0)), (34, (.iload_n 1, 35, 1, 0)), (35, (.iaload, 36, 0, 0)), (36, (.iconst 2, 37, 0, 2)), (37, (.if_icmp .eq 8, 40, 45, 0)), (40, (.bipush (-12), 42, 0, (-12))), (42, (.goto 4, 45, 46, 0)), (45, (.iconst 0, 46, 0, 0)), (46, (.ireturn, 47, 0, 0))]
theorem pX6_wrongRow_ok : ∀ pc q, lkB pX6_wrongRow pc = some q → xdec cX6_wrongRow pc = some q := lkB_all (by decide +kernel)
def pX6_narrowed : List (Nat × (Instr × Nat × Nat × Int32)) := [(0, (.iload_n 1, 1, 1, 0)), (1, (.ifCond .ne 9, 4, 10, 0)), (4, (.iload_n 0, 5, 0, 0)), (5, (.i2b, 6, 0, 0)), (6, (.i2l, 7, 0, 0)), (7, (.goto 16, 10, 23, 0)), (10, (.iload_n 1, 11, 1, 0)), (11, (.iconst 1, 12, 0, 1)), (12, (.if_icmp .ne 9, 15, 21, 0)), (15, (.iload_n 0, 16, 0, 0)), (16, (.i2s, 17, 0, 0)), (17, (.i2l, 18, 0, 0)), (18, (.goto 5, 21, 23, 0)), (21, (.iload_n 0, 22, 0, 0)), (22, (.i2l, 23, 0, 0)), (23, (.lreturn, 24, 0, 0))]
theorem pX6_narrowed_ok : ∀ pc q, lkB pX6_narrowed pc = some q → xdec cX6_narrowed pc = some q := lkB_all (by decide +kernel)
def pX6_row : List (Nat × (Instr × Nat × Nat × Int32)) := [(0, (.aload_n 0, 1, 0, 0)), (1, (.iconst 0, 2, 0, 0)), (2, (.putfield 75, 5, 75, 0)), (5, (.iload_n 1, 6, 1, 0)), (6, (.i2l, 7, 0, 0)), (7, (.lconst 0, 8, 0, 0)), (8, (.ldc2_w 218, 11, 218, 0)), (11, (.invokestatic 81, 14, 0, 0)), (14, (.ifCond .eq 21, 17, 35, 0)), (17, (.iload_n 2, 18, 2, 0)), (18, (.i2l, 19, 0, 0)), (19, (.lconst 0, 20, 0, 0)), (20, (.ldc2_w 231, 23, 231, 0)), (23, (.invokestatic 81, 26, 0, 0)), (26, (.ifCond .eq 9, 29, 35, 0)), (29, (.iload_n 3, 30, 3, 0)), (30, (.bipush 100, 32, 0, 100)), (32, (.if_icmp .le 5, 35, 37, 0)), (35, (.iconst (-1), 36, 0, (-1))), (36, (.ireturn, 37, 0, 0)), (37, (.iload_n 3, 38, 3, 0)), (38, (.ifCond .ge 6, 41, 44, 0)), (41, (.bipush (-14), 43, 0, (-14))), (43, (.ireturn, 44, 0, 0)), (44, (.aload_n 0, 45, 0, 0)), (45, (.getfield 28, 48, 28, 0)), (48, (.iload_n 1, 49, 1, 0)), (49, (.iconst 2, 50, 0, 2)), (50, (.iastore, 51, 0, 0)), (51, (.aload_n 0, 52, 0, 0)), (52, (.getfield 37, 55, 37, 0)), (55, (.iload_n 1, 56, 1, 0)), (56, (.iload_n 2, 57, 2, 0)), (57, (.iastore, 58, 0, 0)), (58, (.aload_n 0, 59, 0, 0)), (59, (.getfield 40, 62, 40, 0)), (62, (.iload_n 1, 63, 1, 0)), (63, (.iload_n 3, 64, 3, 0)), (64, (.iastore, 65, 0, 0)), (65, (.iconst 0, 66, 0, 0)), (66, (.istore 4, 68, 4, 0)), (68, (.iload 4, 70, 4, 0)), (70, (.bipush 100, 72, 0, 100)), (72, (.if_icmp .ge 22, 75, 94, 0)), (75, (.aload_n 0, 76, 0, 0)), (76, (.getfield 43, 79, 43, 0)), (79, (.bipush 100, 81, 0, 100)), (81, (.iload_n 1, 82, 1, 0)), (82, (.imul, 83, 0, 0)), (83, (.iload 4, 85, 4, 0)), (85, (.iadd, 86, 0, 0)), (86, (.lconst 0, 87, 0, 0)), (87, (.lastore, 88, 0, 0)), (88, (.iinc 4 1, 91, 4, 1)), (91, (.goto (-23), 94, 68, 0)), (94, (.iconst 0, 95, 0, 0)), (95, (.ireturn, 96, 0, 0))]
theorem pX6_row_ok : ∀ pc q, lkB pX6_row pc = some q → xdec cX6_row pc = some q := lkB_all (by decide +kernel)
def pX6_put : List (Nat × (Instr × Nat × Nat × Int32)) := [(0, (.aload_n 0, 1, 0, 0)), (1, (.iconst 0, 2, 0, 0)), (2, (.putfield 75, 5, 75, 0)), (5, (.aload_n 0, 6, 0, 0)), (6, (.iload_n 1, 7, 1, 0)), (7, (.invokevirtual 184, 10, 0, 0)), (10, (.istore 4, 12, 4, 0)), (12, (.iload 4, 14, 4, 0)), (14, (.ifCond .ge 6, 17, 20, 0)), (17, (.iload 4, 19, 4, 0)), (19, (.ireturn, 20, 0, 0)), (20, (.iload_n 2, 21, 2, 0)), (21, (.i2l, 22, 0, 0)), (22, (.lconst 0, 23, 0, 0)), (23, (.aload_n 0, 24, 0, 0)), (24, (.getfield 40, 27, 40, 0)), (27, (.iload_n 1, 28, 1, 0)), (28, (.iaload, 29, 0, 0)), (29, (.iconst 1, 30, 0, 1)), (30, (.isub, 31, 0, 0)), (31, (.i2l, 32, 0, 0)), (32, (.invokestatic 81, 35, 0, 0)), (35, (.ifCond .ne 6, 38, 41, 0)), (38, (.bipush (-13), 40, 0, (-13))), (40, (.ireturn, 41, 0, 0)), (41, (.aload_n 0, 42, 0, 0)), (42, (.getfield 43, 45, 43, 0)), (45, (.bipush 100, 47, 0, 100)), (47, (.iload_n 1, 48, 1, 0)), (48, (.imul, 49, 0, 0)), (49, (.iload_n 2, 50, 2, 0)), (50, (.iadd, 51, 0, 0)), (51, (.iload_n 3, 52, 3, 0)), (52, (.aload_n 0, 53, 0, 0)), (53, (.getfield 37, 56, 37, 0)), (56, (.iload_n 1, 57, 1, 0)), (57, (.iaload, 58, 0, 0)), (58, (.invokestatic 314, 61, 0, 0)), (61, (.lastore, 62, 0, 0)), (62, (.iconst 0, 63, 0, 0)), (63, (.ireturn, 64, 0, 0))]
theorem pX6_put_ok : ∀ pc q, lkB pX6_put pc = some q → xdec cX6_put pc = some q := lkB_all (by decide +kernel)
def pX6_element : List (Nat × (Instr × Nat × Nat × Int32)) := [(0, (.aload_n 0, 1, 0, 0)), (1, (.iload_n 1, 2, 1, 0)), (2, (.invokevirtual 184, 5, 0, 0)), (5, (.istore_n 3, 6, 3, 0)), (6, (.aload_n 0, 7, 0, 0)), (7, (.iload_n 3, 8, 3, 0)), (8, (.iconst (-1), 9, 0, (-1))), (9, (.if_icmp .ne 7, 12, 16, 0)), (12, (.iconst 1, 13, 0, 1)), (13, (.goto 30, 16, 43, 0)), (16, (.iload_n 3, 17, 3, 0)), (17, (.ifCond .lt 21, 20, 38, 0)), (20, (.iload_n 2, 21, 2, 0)), (21, (.i2l, 22, 0, 0)), (22, (.lconst 0, 23, 0, 0)), (23, (.aload_n 0, 24, 0, 0)), (24, (.getfield 40, 27, 40, 0)), (27, (.iload_n 1, 28, 1, 0)), (28, (.iaload, 29, 0, 0)), (29, (.iconst 1, 30, 0, 1)), (30, (.isub, 31, 0, 0)), (31, (.i2l, 32, 0, 0)), (32, (.invokestatic 81, 35, 0, 0)), (35, (.ifCond .ne 7, 38, 42, 0)), (38, (.iconst 2, 39, 0, 2)), (39, (.goto 4, 42, 43, 0)), (42, (.iconst 0, 43, 0, 0)), (43, (.putfield 75, 46, 75, 0)), (46, (.aload_n 0, 47, 0, 0)), (47, (.getfield 75, 50, 75, 0)), (50, (.ifCond .le 7, 53, 57, 0)), (53, (.lconst 0, 54, 0, 0)), (54, (.goto 14, 57, 68, 0)), (57, (.aload_n 0, 58, 0, 0)), (58, (.getfield 43, 61, 43, 0)), (61, (.bipush 100, 63, 0, 100)), (63, (.iload_n 1, 64, 1, 0)), (64, (.imul, 65, 0, 0)), (65, (.iload_n 2, 66, 2, 0)), (66, (.iadd, 67, 0, 0)), (67, (.laload, 68, 0, 0)), (68, (.lreturn, 69, 0, 0))]
theorem pX6_element_ok : ∀ pc q, lkB pX6_element pc = some q → xdec cX6_element pc = some q := lkB_all (by decide +kernel)
def pX6_copy : List (Nat × (Instr × Nat × Nat × Int32)) := [(0, (.aload_n 0, 1, 0, 0)), (1, (.iconst 0, 2, 0, 0)), (2, (.putfield 75, 5, 75, 0)), (5, (.iload_n 1, 6, 1, 0)), (6, (.i2l, 7, 0, 0)), (7, (.lconst 0, 8, 0, 0)), (8, (.ldc2_w 218, 11, 218, 0)), (11, (.invokestatic 81, 14, 0, 0)), (14, (.ifCond .eq 15, 17, 29, 0)), (17, (.iload_n 3, 18, 3, 0)), (18, (.i2l, 19, 0, 0)), (19, (.lconst 0, 20, 0, 0)), (20, (.ldc2_w 218, 23, 218, 0)), (23, (.invokestatic 81, 26, 0, 0)), (26, (.ifCond .ne 5, 29, 31, 0)), (29, (.iconst (-1), 30, 0, (-1))), (30, (.ireturn, 31, 0, 0)), (31, (.aload_n 0, 32, 0, 0)), (32, (.getfield 28, 35, 28, 0)), (35, (.iload_n 1, 36, 1, 0)), (36, (.iaload, 37, 0, 0)), (37, (.ifCond .eq 12, 40, 49, 0)), (40, (.aload_n 0, 41, 0, 0)), (41, (.getfield 28, 44, 28, 0)), (44, (.iload_n 3, 45, 3, 0)), (45, (.iaload, 46, 0, 0)), (46, (.ifCond .ne 6, 49, 52, 0)), (49, (.bipush (-11), 51, 0, (-11))), (51, (.ireturn, 52, 0, 0)), (52, (.aload_n 0, 53, 0, 0)), (53, (.getfield 28, 56, 28, 0)), (56, (.iload_n 1, 57, 1, 0)), (57, (.iaload, 58, 0, 0)), (58, (.iconst 2, 59, 0, 2)), (59, (.if_icmp .ne 28, 62, 87, 0)), (62, (.aload_n 0, 63, 0, 0)), (63, (.getfield 28, 66, 28, 0)), (66, (.iload_n 3, 67, 3, 0)), (67, (.iaload, 68, 0, 0)), (68, (.iconst 2, 69, 0, 2)), (69, (.if_icmp .ne 18, 72, 87, 0)), (72, (.aload_n 0, 73, 0, 0)), (73, (.getfield 37, 76, 37, 0)), (76, (.iload_n 1, 77, 1, 0)), (77, (.iaload, 78, 0, 0)), (78, (.aload_n 0, 79, 0, 0)), (79, (.getfield 37, 82, 37, 0)), (82, (.iload_n 3, 83, 3, 0)), (83, (.iaload, 84, 0, 0)), (84, (.if_icmp .eq 6, 87, 90, 0)), (87, (.bipush (-12), 89, 0, (-12))), (89, (.ireturn, 90, 0, 0)), (90, (.iload 5, 92, 5, 0)), (92, (.ifCond .lt 39, 95, 131, 0)), (95, (.iload_n 2, 96, 2, 0)), (96, (.ifCond .lt 35, 99, 131, 0)), (99, (.iload 4, 101, 4, 0)), (101, (.ifCond .lt 30, 104, 131, 0)), (104, (.iload_n 2, 105, 2, 0)), (105, (.aload_n 0, 106, 0, 0)), (106, (.getfield 40, 109, 40, 0)), (109, (.iload_n 1, 110, 1, 0)), (110, (.iaload, 111, 0, 0)), (111, (.iload 5, 113, 5, 0)), (113, (.isub, 114, 0, 0)), (114, (.if_icmp .gt 17, 117, 131, 0)), (117, (.iload 4, 119, 4, 0)), (119, (.aload_n 0, 120, 0, 0)), (120, (.getfield 40, 123, 40, 0)), (123, (.iload_n 3, 124, 3, 0)), (124, (.iaload, 125, 0, 0)), (125, (.iload 5, 127, 5, 0)), (127, (.isub, 128, 0, 0)), (128, (.if_icmp .le 6, 131, 134, 0)), (131, (.bipush (-13), 133, 0, (-13))), (133, (.ireturn, 134, 0, 0)), (134, (.iconst 0, 135, 0, 0)), (135, (.istore 6, 137, 6, 0)), (137, (.iload 6, 139, 6, 0)), (139, (.iload 5, 141, 5, 0)), (141, (.if_icmp .ge 30, 144, 171, 0)), (144, (.aload_n 0, 145, 0, 0)), (145, (.getfield 72, 148, 72, 0)), (148, (.iload 6, 150, 6, 0)), (150, (.aload_n 0, 151, 0, 0)), (151, (.getfield 43, 154, 43, 0)), (154, (.bipush 100, 156, 0, 100)), (156, (.iload_n 1, 157, 1, 0)), (157, (.imul, 158, 0, 0)), (158, (.iload_n 2, 159, 2, 0)), (159, (.iadd, 160, 0, 0)), (160, (.iload 6, 162, 6, 0)), (162, (.iadd, 163, 0, 0)), (163, (.laload, 164, 0, 0)), (164, (.lastore, 165, 0, 0)), (165, (.iinc 6 1, 168, 6, 1)), (168, (.goto (-31), 171, 137, 0)), (171, (.iconst 0, 172, 0, 0)), (172, (.istore 6, 174, 6, 0)), (174, (.iload 6, 176, 6, 0)), (176, (.iload 5, 178, 5, 0)), (178, (.if_icmp .ge 31, 181, 209, 0)), (181, (.aload_n 0, 182, 0, 0)), (182, (.getfield 43, 185, 43, 0)), (185, (.bipush 100, 187, 0, 100)), (187, (.iload_n 3, 188, 3, 0)), (188, (.imul, 189, 0, 0)), (189, (.iload 4, 191, 4, 0)), (191, (.iadd, 192, 0, 0)), (192, (.iload 6, 194, 6, 0)), (194, (.iadd, 195, 0, 0)), (195, (.aload_n 0, 196, 0, 0)), (196, (.getfield 72, 199, 72, 0)), (199, (.iload 6, 201, 6, 0)), (201, (.laload, 202, 0, 0)), (202, (.lastore, 203, 0, 0)), (203, (.iinc 6 1, 206, 6, 1)), (206, (.goto (-32), 209, 174, 0)), (209, (.iload 5, 211, 5, 0)), (211, (.ireturn, 212, 0, 0))]
theorem pX6_copy_ok : ∀ pc q, lkB pX6_copy pc = some q → xdec cX6_copy pc = some q := lkB_all (by decide +kernel)
def pX6_costOf : List (Nat × (Instr × Nat × Nat × Int32)) := [(0, (.iload_n 0, 1, 0, 0)), (1, (.tableswitch 74 0 7 #[47, 49, 51, 55, 74, 58, 74, 64], 48, 0, 0)), (48, (.iconst 3, 49, 0, 3)), (49, (.ireturn, 50, 0, 0)), (50, (.iconst 1, 51, 0, 1)), (51, (.ireturn, 52, 0, 0)), (52, (.iconst 3, 53, 0, 3)), (53, (.iload_n 1, 54, 1, 0)), (54, (.iadd, 55, 0, 0)), (55, (.ireturn, 56, 0, 0)), (56, (.bipush 6, 58, 0, 6)), (58, (.ireturn, 59, 0, 0)), (59, (.iconst 3, 60, 0, 3)), (60, (.iload_n 1, 61, 1, 0)), (61, (.iadd, 62, 0, 0)), (62, (.iconst 2, 63, 0, 2)), (63, (.idiv, 64, 0, 0)), (64, (.ireturn, 65, 0, 0)), (65, (.bipush 6, 67, 0, 6)), (67, (.iload_n 1, 68, 1, 0)), (68, (.isub, 69, 0, 0)), (69, (.bipush 6, 71, 0, 6)), (71, (.invokestatic 88, 74, 0, 0)), (74, (.ireturn, 75, 0, 0)), (75, (.iconst 0, 76, 0, 0)), (76, (.ireturn, 77, 0, 0))]
theorem pX6_costOf_ok : ∀ pc q, lkB pX6_costOf pc = some q → xdec cX6_costOf pc = some q := lkB_all (by decide +kernel)
def pX6_cost : List (Nat × (Instr × Nat × Nat × Int32)) := [(0, (.aload_n 0, 1, 0, 0)), (1, (.iconst 0, 2, 0, 0)), (2, (.putfield 75, 5, 75, 0)), (5, (.aload_n 0, 6, 0, 0)), (6, (.iload_n 1, 7, 1, 0)), (7, (.invokevirtual 223, 10, 0, 0)), (10, (.ifCond .ge 11, 13, 21, 0)), (13, (.aload_n 0, 14, 0, 0)), (14, (.iload_n 1, 15, 1, 0)), (15, (.invokevirtual 223, 18, 0, 0)), (18, (.goto 18, 21, 36, 0)), (21, (.aload_n 0, 22, 0, 0)), (22, (.getfield 31, 25, 31, 0)), (25, (.iload_n 1, 26, 1, 0)), (26, (.iaload, 27, 0, 0)), (27, (.aload_n 0, 28, 0, 0)), (28, (.getfield 34, 31, 34, 0)), (31, (.iload_n 1, 32, 1, 0)), (32, (.iaload, 33, 0, 0)), (33, (.invokestatic 318, 36, 0, 0)), (36, (.ireturn, 37, 0, 0))]
theorem pX6_cost_ok : ∀ pc q, lkB pX6_cost pc = some q → xdec cX6_cost pc = some q := lkB_all (by decide +kernel)
def pX6_toss : List (Nat × (Instr × Nat × Nat × Int32)) := [(0, (.aload_n 0, 1, 0, 0)), (1, (.iconst 0, 2, 0, 0)), (2, (.putfield 75, 5, 75, 0)), (5, (.aload_n 0, 6, 0, 0)), (6, (.iload_n 1, 7, 1, 0)), (7, (.invokevirtual 223, 10, 0, 0)), (10, (.ifCond .ge 9, 13, 19, 0)), (13, (.aload_n 0, 14, 0, 0)), (14, (.iload_n 1, 15, 1, 0)), (15, (.invokevirtual 223, 18, 0, 0)), (18, (.ireturn, 19, 0, 0)), (19, (.aload_n 0, 20, 0, 0)), (20, (.getfield 31, 23, 31, 0)), (23, (.iload_n 1, 24, 1, 0)), (24, (.iaload, 25, 0, 0)), (25, (.istore_n 2, 26, 2, 0)), (26, (.aload_n 0, 27, 0, 0)), (27, (.getfield 34, 30, 34, 0)), (30, (.iload_n 1, 31, 1, 0)), (31, (.iaload, 32, 0, 0)), (32, (.istore_n 3, 33, 3, 0)), (33, (.iload_n 2, 34, 2, 0)), (34, (.iconst 1, 35, 0, 1)), (35, (.if_icmp .eq 18, 38, 53, 0)), (38, (.iload_n 2, 39, 2, 0)), (39, (.iconst 4, 40, 0, 4)), (40, (.if_icmp .eq 13, 43, 53, 0)), (43, (.iload_n 2, 44, 2, 0)), (44, (.bipush 6, 46, 0, 6)), (46, (.if_icmp .eq 7, 49, 53, 0)), (49, (.iload_n 3, 50, 3, 0)), (50, (.ifCond .ne 6, 53, 56, 0)), (53, (.bipush (-15), 55, 0, (-15))), (55, (.ireturn, 56, 0, 0)), (56, (.iload_n 2, 57, 2, 0)), (57, (.iconst 2, 58, 0, 2)), (58, (.if_icmp .eq 8, 61, 66, 0)), (61, (.iload_n 2, 62, 2, 0)), (62, (.iconst 5, 63, 0, 5)), (63, (.if_icmp .ne 10, 66, 73, 0)), (66, (.bipush 100, 68, 0, 100)), (68, (.iload_n 3, 69, 3, 0)), (69, (.iadd, 70, 0, 0)), (70, (.goto 22, 73, 92, 0)), (73, (.iload_n 2, 74, 2, 0)), (74, (.bipush 7, 76, 0, 7)), (76, (.if_icmp .ne 15, 79, 91, 0)), (79, (.sipush 200, 82, 0, 200)), (82, (.iload_n 2, 83, 2, 0)), (83, (.iload_n 3, 84, 3, 0)), (84, (.invokestatic 318, 87, 0, 0)), (87, (.iadd, 88, 0, 0)), (88, (.goto 4, 91, 92, 0)), (91, (.iload_n 3, 92, 3, 0)), (92, (.ireturn, 93, 0, 0))]
theorem pX6_toss_ok : ∀ pc q, lkB pX6_toss pc = some q → xdec cX6_toss pc = some q := lkB_all (by decide +kernel)
end
section
/-! what the classes and the tables are -/
abbrev Ft : Type := Nat → Option (Nat × Nat × Nat)
abbrev vwCl : List vw_C := [(RX0, TX0, 13), (RX2, TX2, 2), (RX3, TX3, 6), (RX5, TX5, 7), (RX6, TX6, 39)]
def tysL (cA : Nat → ClassId) : List (ClassId × FieldType) := [(cA 0, .int), (cA 1, .long), (cA 2, .boolean), (cA 3, .object RX3)]
def uW : List Cond := lw_tbl.filter goodWord
theorem uW_of {w : Cond} (h : w ∈ lw_tbl) (hg : goodWord w = true) : w ∈ uW := List.mem_filter.mpr ⟨h, hg⟩
theorem uW_good : GoodIn uW uW := fun w h => ⟨h, good_of_word (List.mem_filter.mp h).2⟩
/-- the fields that a class's code names -/
def fdo (own : String) (fld : Ft) : Prop := ∀ idx ci k ty, fld idx = some (ci, k, ty) → ∃ (C : String) (T : u_T) (N : Nat) (t0 : Nat → FieldType), vwCl[ci]? = some (C, T, N) ∧ k < N ∧ (∀ w ∈ u_ws C T N, w ∈ uW) ∧ (T k).1 = C ∧ Cond.fieldLink own idx C (T k).2.1 (T k).2.2.1 ∈ uW ∧
  (∀ k, k < N → parseFieldDescriptor (T k).2.2.1 = some (t0 k)) ∧ (∀ a, a < N → ∀ b, b < N → a ≠ b → (T a).2.1 ≠ (T b).2.1) ∧
  (ty = 0 → (T k).2.2.2 = false ∧ t0 k = .int) ∧ (ty = 1 → (T k).2.2.2 = false ∧ t0 k = .boolean) ∧ (ty = 2 → (T k).2.2.2 = false ∧ ∃ t, t0 k = .array t)
def cdo (own : String) (cst : Nat → Option Int32) (cstL : Nat → Option Int64) : Prop := (∀ i v, cst i = some v → Cond.constant own i v ∈ uW) ∧ ∀ i v, cstL i = some v → Cond.constantLong own i v ∈ uW
end
section
theorem uT {w : Cond} (i : Nat) (h : tables_1[i]? = some w) (hg : goodWord w = true) : w ∈ uW := uW_of (List.mem_append_right _ (List.mem_of_getElem? h)) hg
theorem uP {w : Cond} (i : Nat) (h : (k2_sels lw_privs)[i]? = some w) (hg : goodWord w = true) : w ∈ uW := uW_of (List.mem_append_left _ (List.mem_of_getElem? h)) hg
def KS (y : MethodName) (cc : ByteArray) (nL : Nat) (rt : Option FieldType) (na : Nat) : Prop := Cond.code y cc nL rt ∈ uW ∧ Cond.static y ∈ uW ∧ Cond.initialized y.cls ∈ uW ∧ (y.cls ≠ "java/lang/invoke/MethodHandle" ∧ y.cls ≠ "java/lang/invoke/VarHandle" ∧ (parseMethodDescriptor y.desc).map (fun d => d.parameters.length) = some na) ∧ nL ≤ 81 ∧ plainName y.cls = true
def KV (y : MethodName) (cc : ByteArray) (nL : Nat) (rt : Option FieldType) (na ci : Nat) : Prop := Cond.code y cc nL rt ∈ uW ∧ Cond.instanceMethod y ∈ uW ∧ Cond.selects y.cls y y ∈ uW ∧ Cond.initialized y.cls ∈ uW ∧ (y.cls ≠ "java/lang/invoke/MethodHandle" ∧ y.cls ≠ "java/lang/invoke/VarHandle" ∧ (parseMethodDescriptor y.desc).map (fun d => d.parameters.length) = some na) ∧ (∃ T N, vwCl[ci]? = some (y.cls, T, N)) ∧ nL ≤ 81 ∧ plainName y.cls = true
theorem lkF_e {α : Type} {P : Nat → α → Prop} {L : List (Nat × α)} {i : Nat} {v : α} (h : ∀ q ∈ L, P q.1 q.2) (h2 : lkB L i = some v) : P i v := lkB_e h h2

theorem kX5_bestWish : KV yX5_bestWish cX5_bestWish 8 (some .int) 3 3 := ⟨uT 381 (by decide +kernel) rfl, uT 379 (by decide +kernel) rfl, uT 380 (by decide +kernel) rfl, uT 1 (by decide +kernel) rfl, ⟨by decide +kernel, by decide +kernel, by decide +kernel⟩, ⟨_, _, rfl⟩, by decide, by decide +kernel⟩
theorem kX5_buy : KV yX5_buy cX5_buy 6 (some .int) 1 3 := ⟨uT 385 (by decide +kernel) rfl, uT 383 (by decide +kernel) rfl, uT 384 (by decide +kernel) rfl, uT 1 (by decide +kernel) rfl, ⟨by decide +kernel, by decide +kernel, by decide +kernel⟩, ⟨_, _, rfl⟩, by decide, by decide +kernel⟩
theorem kX5_choose : KV yX5_choose cX5_choose 9 none 4 3 := ⟨uT 488 (by decide +kernel) rfl, uT 487 (by decide +kernel) rfl, uP 13 (by decide +kernel) rfl, uT 1 (by decide +kernel) rfl, ⟨by decide +kernel, by decide +kernel, by decide +kernel⟩, ⟨_, _, rfl⟩, by decide, by decide +kernel⟩
theorem kX5_comes : KV yX5_comes cX5_comes 4 (some .int) 2 3 := ⟨uT 311 (by decide +kernel) rfl, uT 309 (by decide +kernel) rfl, uT 310 (by decide +kernel) rfl, uT 1 (by decide +kernel) rfl, ⟨by decide +kernel, by decide +kernel, by decide +kernel⟩, ⟨_, _, rfl⟩, by decide, by decide +kernel⟩
theorem kX5_copy : KV yX5_copy cX5_copy 8 (some .int) 5 3 := ⟨uT 574 (by decide +kernel) rfl, uT 572 (by decide +kernel) rfl, uT 573 (by decide +kernel) rfl, uT 1 (by decide +kernel) rfl, ⟨by decide +kernel, by decide +kernel, by decide +kernel⟩, ⟨_, _, rfl⟩, by decide, by decide +kernel⟩
theorem kX5_cost : KV yX5_cost cX5_cost 3 (some .int) 1 3 := ⟨uT 583 (by decide +kernel) rfl, uT 581 (by decide +kernel) rfl, uT 582 (by decide +kernel) rfl, uT 1 (by decide +kernel) rfl, ⟨by decide +kernel, by decide +kernel, by decide +kernel⟩, ⟨_, _, rfl⟩, by decide, by decide +kernel⟩
theorem kX5_count : KV yX5_count cX5_count 2 (some .int) 1 3 := ⟨uT 537 (by decide +kernel) rfl, uT 535 (by decide +kernel) rfl, uT 536 (by decide +kernel) rfl, uT 1 (by decide +kernel) rfl, ⟨by decide +kernel, by decide +kernel, by decide +kernel⟩, ⟨_, _, rfl⟩, by decide, by decide +kernel⟩
theorem kX5_drawInto : KS yX5_drawInto cX5_drawInto 6 (some .int) 4 := ⟨uT 522 (by decide +kernel) rfl, uT 521 (by decide +kernel) rfl, uT 1 (by decide +kernel) rfl, ⟨by decide +kernel, by decide +kernel, by decide +kernel⟩, by decide, by decide +kernel⟩
theorem kX5_element : KV yX5_element cX5_element 4 (some .long) 2 3 := ⟨uT 705 (by decide +kernel) rfl, uT 703 (by decide +kernel) rfl, uT 704 (by decide +kernel) rfl, uT 1 (by decide +kernel) rfl, ⟨by decide +kernel, by decide +kernel, by decide +kernel⟩, ⟨_, _, rfl⟩, by decide, by decide +kernel⟩
theorem kX5_fills : KV yX5_fills cX5_fills 4 (some .int) 2 3 := ⟨uT 328 (by decide +kernel) rfl, uT 326 (by decide +kernel) rfl, uT 327 (by decide +kernel) rfl, uT 1 (by decide +kernel) rfl, ⟨by decide +kernel, by decide +kernel, by decide +kernel⟩, ⟨_, _, rfl⟩, by decide, by decide +kernel⟩
theorem kX5_firstToLeave : KV yX5_firstToLeave cX5_firstToLeave 4 (some .int) 0 3 := ⟨uT 362 (by decide +kernel) rfl, uT 361 (by decide +kernel) rfl, uP 7 (by decide +kernel) rfl, uT 1 (by decide +kernel) rfl, ⟨by decide +kernel, by decide +kernel, by decide +kernel⟩, ⟨_, _, rfl⟩, by decide, by decide +kernel⟩
theorem kX5_forged : KV yX5_forged cX5_forged 5 (some .int) 1 3 := ⟨uT 511 (by decide +kernel) rfl, uT 509 (by decide +kernel) rfl, uT 510 (by decide +kernel) rfl, uT 1 (by decide +kernel) rfl, ⟨by decide +kernel, by decide +kernel, by decide +kernel⟩, ⟨_, _, rfl⟩, by decide, by decide +kernel⟩
theorem kX5_guest : KV yX5_guest cX5_guest 3 (some .int) 2 3 := ⟨uT 296 (by decide +kernel) rfl, uT 294 (by decide +kernel) rfl, uT 295 (by decide +kernel) rfl, uT 1 (by decide +kernel) rfl, ⟨by decide +kernel, by decide +kernel, by decide +kernel⟩, ⟨_, _, rfl⟩, by decide, by decide +kernel⟩
theorem kX5_guestThen : KV yX5_guestThen cX5_guestThen 5 (some .int) 3 3 := ⟨uT 343 (by decide +kernel) rfl, uT 341 (by decide +kernel) rfl, uT 342 (by decide +kernel) rfl, uT 1 (by decide +kernel) rfl, ⟨by decide +kernel, by decide +kernel, by decide +kernel⟩, ⟨_, _, rfl⟩, by decide, by decide +kernel⟩
theorem kX5_heals : KV yX5_heals cX5_heals 4 (some .int) 2 3 := ⟨uT 324 (by decide +kernel) rfl, uT 322 (by decide +kernel) rfl, uT 323 (by decide +kernel) rfl, uT 1 (by decide +kernel) rfl, ⟨by decide +kernel, by decide +kernel, by decide +kernel⟩, ⟨_, _, rfl⟩, by decide, by decide +kernel⟩
theorem kX5_healthThen : KV yX5_healthThen cX5_healthThen 5 (some .int) 3 3 := ⟨uT 406 (by decide +kernel) rfl, uT 405 (by decide +kernel) rfl, uP 9 (by decide +kernel) rfl, uT 1 (by decide +kernel) rfl, ⟨by decide +kernel, by decide +kernel, by decide +kernel⟩, ⟨_, _, rfl⟩, by decide, by decide +kernel⟩
theorem kX5_healthsAreSo : KS yX5_healthsAreSo cX5_healthsAreSo 4 (some .boolean) 3 := ⟨uT 464 (by decide +kernel) rfl, uT 463 (by decide +kernel) rfl, uT 1 (by decide +kernel) rfl, ⟨by decide +kernel, by decide +kernel, by decide +kernel⟩, by decide, by decide +kernel⟩
theorem kX5_image : KV yX5_image cX5_image 1 (some .int) 0 3 := ⟨uT 529 (by decide +kernel) rfl, uT 527 (by decide +kernel) rfl, uT 528 (by decide +kernel) rfl, uT 1 (by decide +kernel) rfl, ⟨by decide +kernel, by decide +kernel, by decide +kernel⟩, ⟨_, _, rfl⟩, by decide, by decide +kernel⟩
theorem kX5_inMind : KV yX5_inMind cX5_inMind 1 (some (.object "ServesWhatOneDreamt$Inn")) 0 3 := ⟨uT 191 (by decide +kernel) rfl, uT 190 (by decide +kernel) rfl, uP 2 (by decide +kernel) rfl, uT 1 (by decide +kernel) rfl, ⟨by decide +kernel, by decide +kernel, by decide +kernel⟩, ⟨_, _, rfl⟩, by decide, by decide +kernel⟩
theorem kX5_inn : KV yX5_inn cX5_inn 8 (some .int) 1 3 := ⟨uT 164 (by decide +kernel) rfl, uT 162 (by decide +kernel) rfl, uT 163 (by decide +kernel) rfl, uT 1 (by decide +kernel) rfl, ⟨by decide +kernel, by decide +kernel, by decide +kernel⟩, ⟨_, _, rfl⟩, by decide, by decide +kernel⟩
theorem kX5_isDigit : KS yX5_isDigit cX5_isDigit 1 (some .boolean) 1 := ⟨uT 187 (by decide +kernel) rfl, uT 186 (by decide +kernel) rfl, uT 1 (by decide +kernel) rfl, ⟨by decide +kernel, by decide +kernel, by decide +kernel⟩, by decide, by decide +kernel⟩
theorem kX5_isPlate : KS yX5_isPlate cX5_isPlate 1 (some .boolean) 1 := ⟨uT 307 (by decide +kernel) rfl, uT 306 (by decide +kernel) rfl, uT 1 (by decide +kernel) rfl, ⟨by decide +kernel, by decide +kernel, by decide +kernel⟩, by decide, by decide +kernel⟩
theorem kX5_isShelf : KS yX5_isShelf cX5_isShelf 1 (some .boolean) 1 := ⟨uT 175 (by decide +kernel) rfl, uT 174 (by decide +kernel) rfl, uT 1 (by decide +kernel) rfl, ⟨by decide +kernel, by decide +kernel, by decide +kernel⟩, by decide, by decide +kernel⟩
theorem kX5_isWhile : KS yX5_isWhile cX5_isWhile 1 (some .boolean) 1 := ⟨uT 346 (by decide +kernel) rfl, uT 345 (by decide +kernel) rfl, uT 1 (by decide +kernel) rfl, ⟨by decide +kernel, by decide +kernel, by decide +kernel⟩, by decide, by decide +kernel⟩
theorem kX5_judge : KV yX5_judge cX5_judge 6 (some .int) 1 3 := ⟨uT 515 (by decide +kernel) rfl, uT 513 (by decide +kernel) rfl, uT 514 (by decide +kernel) rfl, uT 1 (by decide +kernel) rfl, ⟨by decide +kernel, by decide +kernel, by decide +kernel⟩, ⟨_, _, rfl⟩, by decide, by decide +kernel⟩
theorem kX5_keep : KV yX5_keep cX5_keep 5 (some .int) 4 3 := ⟨uT 541 (by decide +kernel) rfl, uT 539 (by decide +kernel) rfl, uT 540 (by decide +kernel) rfl, uT 1 (by decide +kernel) rfl, ⟨by decide +kernel, by decide +kernel, by decide +kernel⟩, ⟨_, _, rfl⟩, by decide, by decide +kernel⟩
theorem kX5_kindRefusal : KV yX5_kindRefusal cX5_kindRefusal 2 (some .int) 1 3 := ⟨uT 315 (by decide +kernel) rfl, uT 314 (by decide +kernel) rfl, uP 6 (by decide +kernel) rfl, uT 1 (by decide +kernel) rfl, ⟨by decide +kernel, by decide +kernel, by decide +kernel⟩, ⟨_, _, rfl⟩, by decide, by decide +kernel⟩
theorem kX5_larder : KV yX5_larder cX5_larder 2 (some .int) 1 3 := ⟨uT 304 (by decide +kernel) rfl, uT 302 (by decide +kernel) rfl, uT 303 (by decide +kernel) rfl, uT 1 (by decide +kernel) rfl, ⟨by decide +kernel, by decide +kernel, by decide +kernel⟩, ⟨_, _, rfl⟩, by decide, by decide +kernel⟩
theorem kX5_larderThen : KV yX5_larderThen cX5_larderThen 4 (some .int) 2 3 := ⟨uT 350 (by decide +kernel) rfl, uT 348 (by decide +kernel) rfl, uT 349 (by decide +kernel) rfl, uT 1 (by decide +kernel) rfl, ⟨by decide +kernel, by decide +kernel, by decide +kernel⟩, ⟨_, _, rfl⟩, by decide, by decide +kernel⟩
theorem kX5_lastPlatesAreSo : KS yX5_lastPlatesAreSo cX5_lastPlatesAreSo 4 (some .boolean) 3 := ⟨uT 480 (by decide +kernel) rfl, uT 479 (by decide +kernel) rfl, uT 1 (by decide +kernel) rfl, ⟨by decide +kernel, by decide +kernel, by decide +kernel⟩, by decide, by decide +kernel⟩
theorem kX5_least : KV yX5_least cX5_least 7 (some .int) 2 3 := ⟨uT 390 (by decide +kernel) rfl, uT 388 (by decide +kernel) rfl, uT 389 (by decide +kernel) rfl, uT 1 (by decide +kernel) rfl, ⟨by decide +kernel, by decide +kernel, by decide +kernel⟩, ⟨_, _, rfl⟩, by decide, by decide +kernel⟩
theorem kX5_leastOf : KS yX5_leastOf cX5_leastOf 2 (some .int) 1 := ⟨uT 365 (by decide +kernel) rfl, uT 364 (by decide +kernel) rfl, uT 1 (by decide +kernel) rfl, ⟨by decide +kernel, by decide +kernel, by decide +kernel⟩, by decide, by decide +kernel⟩
theorem kX5_leaves : KV yX5_leaves cX5_leaves 4 (some .int) 1 3 := ⟨uT 358 (by decide +kernel) rfl, uT 356 (by decide +kernel) rfl, uT 357 (by decide +kernel) rfl, uT 1 (by decide +kernel) rfl, ⟨by decide +kernel, by decide +kernel, by decide +kernel⟩, ⟨_, _, rfl⟩, by decide, by decide +kernel⟩
theorem kX5_mares : KV yX5_mares cX5_mares 16 (some .long) 5 3 := ⟨uT 493 (by decide +kernel) rfl, uT 491 (by decide +kernel) rfl, uT 492 (by decide +kernel) rfl, uT 1 (by decide +kernel) rfl, ⟨by decide +kernel, by decide +kernel, by decide +kernel⟩, ⟨_, _, rfl⟩, by decide, by decide +kernel⟩
theorem kX5_mean : KV yX5_mean cX5_mean 2 (some .long) 1 3 := ⟨uT 507 (by decide +kernel) rfl, uT 505 (by decide +kernel) rfl, uT 506 (by decide +kernel) rfl, uT 1 (by decide +kernel) rfl, ⟨by decide +kernel, by decide +kernel, by decide +kernel⟩, ⟨_, _, rfl⟩, by decide, by decide +kernel⟩
theorem kX5_nights : KV yX5_nights cX5_nights 2 (some .int) 1 3 := ⟨uT 332 (by decide +kernel) rfl, uT 330 (by decide +kernel) rfl, uT 331 (by decide +kernel) rfl, uT 1 (by decide +kernel) rfl, ⟨by decide +kernel, by decide +kernel, by decide +kernel⟩, ⟨_, _, rfl⟩, by decide, by decide +kernel⟩
theorem kX5_out : KV yX5_out cX5_out 4 (some .int) 1 3 := ⟨uT 369 (by decide +kernel) rfl, uT 367 (by decide +kernel) rfl, uT 368 (by decide +kernel) rfl, uT 1 (by decide +kernel) rfl, ⟨by decide +kernel, by decide +kernel, by decide +kernel⟩, ⟨_, _, rfl⟩, by decide, by decide +kernel⟩
theorem kX5_partOf : KS yX5_partOf cX5_partOf 7 (some .long) 3 := ⟨uT 500 (by decide +kernel) rfl, uT 499 (by decide +kernel) rfl, uT 1 (by decide +kernel) rfl, ⟨by decide +kernel, by decide +kernel, by decide +kernel⟩, by decide, by decide +kernel⟩
theorem kX5_put : KV yX5_put cX5_put 6 (some .int) 3 3 := ⟨uT 566 (by decide +kernel) rfl, uT 564 (by decide +kernel) rfl, uT 565 (by decide +kernel) rfl, uT 1 (by decide +kernel) rfl, ⟨by decide +kernel, by decide +kernel, by decide +kernel⟩, ⟨_, _, rfl⟩, by decide, by decide +kernel⟩
theorem kX5_refusalUnless : KV yX5_refusalUnless cX5_refusalUnless 3 (some .int) 2 3 := ⟨uT 172 (by decide +kernel) rfl, uT 171 (by decide +kernel) rfl, uP 1 (by decide +kernel) rfl, uT 1 (by decide +kernel) rfl, ⟨by decide +kernel, by decide +kernel, by decide +kernel⟩, ⟨_, _, rfl⟩, by decide, by decide +kernel⟩
theorem kX5_refusedLong : KS yX5_refusedLong cX5_refusedLong 1 (some .long) 1 := ⟨uT 496 (by decide +kernel) rfl, uT 495 (by decide +kernel) rfl, uT 1 (by decide +kernel) rfl, ⟨by decide +kernel, by decide +kernel, by decide +kernel⟩, by decide, by decide +kernel⟩
theorem kX5_restore : KV yX5_restore cX5_restore 1 (some .int) 0 3 := ⟨uT 533 (by decide +kernel) rfl, uT 531 (by decide +kernel) rfl, uT 532 (by decide +kernel) rfl, uT 1 (by decide +kernel) rfl, ⟨by decide +kernel, by decide +kernel, by decide +kernel⟩, ⟨_, _, rfl⟩, by decide, by decide +kernel⟩
theorem kX5_row : KV yX5_row cX5_row 4 (some .int) 3 3 := ⟨uT 555 (by decide +kernel) rfl, uT 553 (by decide +kernel) rfl, uT 554 (by decide +kernel) rfl, uT 1 (by decide +kernel) rfl, ⟨by decide +kernel, by decide +kernel, by decide +kernel⟩, ⟨_, _, rfl⟩, by decide, by decide +kernel⟩
theorem kX5_rowRefusal : KV yX5_rowRefusal cX5_rowRefusal 2 (some .int) 1 3 := ⟨uT 168 (by decide +kernel) rfl, uT 167 (by decide +kernel) rfl, uP 0 (by decide +kernel) rfl, uT 1 (by decide +kernel) rfl, ⟨by decide +kernel, by decide +kernel, by decide +kernel⟩, ⟨_, _, rfl⟩, by decide, by decide +kernel⟩
theorem kX5_same : KV yX5_same cX5_same 2 (some .int) 1 3 := ⟨uT 432 (by decide +kernel) rfl, uT 430 (by decide +kernel) rfl, uT 431 (by decide +kernel) rfl, uT 1 (by decide +kernel) rfl, ⟨by decide +kernel, by decide +kernel, by decide +kernel⟩, ⟨_, _, rfl⟩, by decide, by decide +kernel⟩
theorem kX5_seats : KV yX5_seats cX5_seats 2 (some .int) 1 3 := ⟨uT 414 (by decide +kernel) rfl, uT 412 (by decide +kernel) rfl, uT 413 (by decide +kernel) rfl, uT 1 (by decide +kernel) rfl, ⟨by decide +kernel, by decide +kernel, by decide +kernel⟩, ⟨_, _, rfl⟩, by decide, by decide +kernel⟩
theorem kX5_send : KV yX5_send cX5_send 7 (some .int) 1 3 := ⟨uT 402 (by decide +kernel) rfl, uT 400 (by decide +kernel) rfl, uT 401 (by decide +kernel) rfl, uT 1 (by decide +kernel) rfl, ⟨by decide +kernel, by decide +kernel, by decide +kernel⟩, ⟨_, _, rfl⟩, by decide, by decide +kernel⟩
theorem kX5_sharedDivisor : KS yX5_sharedDivisor cX5_sharedDivisor 11 (some .long) 2 := ⟨uT 503 (by decide +kernel) rfl, uT 502 (by decide +kernel) rfl, uT 1 (by decide +kernel) rfl, ⟨by decide +kernel, by decide +kernel, by decide +kernel⟩, by decide, by decide +kernel⟩
theorem kX5_suffices : KV yX5_suffices cX5_suffices 5 (some .boolean) 3 3 := ⟨uT 394 (by decide +kernel) rfl, uT 393 (by decide +kernel) rfl, uP 8 (by decide +kernel) rfl, uT 1 (by decide +kernel) rfl, ⟨by decide +kernel, by decide +kernel, by decide +kernel⟩, ⟨_, _, rfl⟩, by decide, by decide +kernel⟩
theorem kX5_table : KV yX5_table cX5_table 4 (some .int) 2 3 := ⟨uT 373 (by decide +kernel) rfl, uT 371 (by decide +kernel) rfl, uT 372 (by decide +kernel) rfl, uT 1 (by decide +kernel) rfl, ⟨by decide +kernel, by decide +kernel, by decide +kernel⟩, ⟨_, _, rfl⟩, by decide, by decide +kernel⟩
theorem kX5_then : KV yX5_then cX5_then 4 (some .int) 2 3 := ⟨uT 354 (by decide +kernel) rfl, uT 352 (by decide +kernel) rfl, uT 353 (by decide +kernel) rfl, uT 1 (by decide +kernel) rfl, ⟨by decide +kernel, by decide +kernel, by decide +kernel⟩, ⟨_, _, rfl⟩, by decide, by decide +kernel⟩
theorem kX5_two : KV yX5_two cX5_two 7 (some .int) 3 3 := ⟨uT 484 (by decide +kernel) rfl, uT 482 (by decide +kernel) rfl, uT 483 (by decide +kernel) rfl, uT 1 (by decide +kernel) rfl, ⟨by decide +kernel, by decide +kernel, by decide +kernel⟩, ⟨_, _, rfl⟩, by decide, by decide +kernel⟩
theorem kX5_whatIs : KV yX5_whatIs cX5_whatIs 10 (some .int) 3 3 := ⟨uT 461 (by decide +kernel) rfl, uT 459 (by decide +kernel) rfl, uT 460 (by decide +kernel) rfl, uT 1 (by decide +kernel) rfl, ⟨by decide +kernel, by decide +kernel, by decide +kernel⟩, ⟨_, _, rfl⟩, by decide, by decide +kernel⟩
theorem kX5_whatWish : KV yX5_whatWish cX5_whatWish 7 (some .int) 2 3 := ⟨uT 477 (by decide +kernel) rfl, uT 475 (by decide +kernel) rfl, uT 476 (by decide +kernel) rfl, uT 1 (by decide +kernel) rfl, ⟨by decide +kernel, by decide +kernel, by decide +kernel⟩, ⟨_, _, rfl⟩, by decide, by decide +kernel⟩
theorem kX5_wishes : KV yX5_wishes cX5_wishes 4 (some .int) 2 3 := ⟨uT 320 (by decide +kernel) rfl, uT 318 (by decide +kernel) rfl, uT 319 (by decide +kernel) rfl, uT 1 (by decide +kernel) rfl, ⟨by decide +kernel, by decide +kernel, by decide +kernel⟩, ⟨_, _, rfl⟩, by decide, by decide +kernel⟩
theorem kX5_within : KS yX5_within cX5_within 3 (some .boolean) 3 := ⟨uT 178 (by decide +kernel) rfl, uT 177 (by decide +kernel) rfl, uT 1 (by decide +kernel) rfl, ⟨by decide +kernel, by decide +kernel, by decide +kernel⟩, by decide, by decide +kernel⟩
theorem kX5_years : KV yX5_years cX5_years 8 (some .int) 3 3 := ⟨uT 519 (by decide +kernel) rfl, uT 517 (by decide +kernel) rfl, uT 518 (by decide +kernel) rfl, uT 1 (by decide +kernel) rfl, ⟨by decide +kernel, by decide +kernel, by decide +kernel⟩, ⟨_, _, rfl⟩, by decide, by decide +kernel⟩
theorem kX0_admit : KV yX0_admit cX0_admit 5 (some .int) 3 0 := ⟨uT 220 (by decide +kernel) rfl, uT 218 (by decide +kernel) rfl, uT 219 (by decide +kernel) rfl, uT 2 (by decide +kernel) rfl, ⟨by decide +kernel, by decide +kernel, by decide +kernel⟩, ⟨_, _, rfl⟩, by decide, by decide +kernel⟩
theorem kX0_become : KV yX0_become cX0_become 2 none 1 0 := ⟨uT 195 (by decide +kernel) rfl, uT 193 (by decide +kernel) rfl, uT 194 (by decide +kernel) rfl, uT 2 (by decide +kernel) rfl, ⟨by decide +kernel, by decide +kernel, by decide +kernel⟩, ⟨_, _, rfl⟩, by decide, by decide +kernel⟩
theorem kX0_breakfast : KV yX0_breakfast cX0_breakfast 4 none 2 0 := ⟨uT 278 (by decide +kernel) rfl, uT 277 (by decide +kernel) rfl, uP 4 (by decide +kernel) rfl, uT 2 (by decide +kernel) rfl, ⟨by decide +kernel, by decide +kernel, by decide +kernel⟩, ⟨_, _, rfl⟩, by decide, by decide +kernel⟩
theorem kX0_changeHealth : KV yX0_changeHealth cX0_changeHealth 3 none 2 0 := ⟨uT 285 (by decide +kernel) rfl, uT 284 (by decide +kernel) rfl, uP 5 (by decide +kernel) rfl, uT 2 (by decide +kernel) rfl, ⟨by decide +kernel, by decide +kernel, by decide +kernel⟩, ⟨_, _, rfl⟩, by decide, by decide +kernel⟩
theorem kX0_dream : KV yX0_dream cX0_dream 3 (some .int) 2 0 := ⟨uT 268 (by decide +kernel) rfl, uT 267 (by decide +kernel) rfl, uP 3 (by decide +kernel) rfl, uT 2 (by decide +kernel) rfl, ⟨by decide +kernel, by decide +kernel, by decide +kernel⟩, ⟨_, _, rfl⟩, by decide, by decide +kernel⟩
theorem kX0_emptyPlates : KV yX0_emptyPlates cX0_emptyPlates 3 (some .int) 0 0 := ⟨uT 453 (by decide +kernel) rfl, uT 451 (by decide +kernel) rfl, uT 452 (by decide +kernel) rfl, uT 2 (by decide +kernel) rfl, ⟨by decide +kernel, by decide +kernel, by decide +kernel⟩, ⟨_, _, rfl⟩, by decide, by decide +kernel⟩
theorem kX0_fullest : KV yX0_fullest cX0_fullest 3 (some .int) 0 0 := ⟨uT 445 (by decide +kernel) rfl, uT 443 (by decide +kernel) rfl, uT 444 (by decide +kernel) rfl, uT 2 (by decide +kernel) rfl, ⟨by decide +kernel, by decide +kernel, by decide +kernel⟩, ⟨_, _, rfl⟩, by decide, by decide +kernel⟩
theorem kX0_healthOf : KV yX0_healthOf cX0_healthOf 4 (some .int) 1 0 := ⟨uT 410 (by decide +kernel) rfl, uT 408 (by decide +kernel) rfl, uT 409 (by decide +kernel) rfl, uT 2 (by decide +kernel) rfl, ⟨by decide +kernel, by decide +kernel, by decide +kernel⟩, ⟨_, _, rfl⟩, by decide, by decide +kernel⟩
theorem kX0_isThere : KV yX0_isThere cX0_isThere 2 (some .boolean) 1 0 := ⟨uT 264 (by decide +kernel) rfl, uT 262 (by decide +kernel) rfl, uT 263 (by decide +kernel) rfl, uT 2 (by decide +kernel) rfl, ⟨by decide +kernel, by decide +kernel, by decide +kernel⟩, ⟨_, _, rfl⟩, by decide, by decide +kernel⟩
theorem kX0_knows : KV yX0_knows cX0_knows 2 (some .boolean) 1 0 := ⟨uT 230 (by decide +kernel) rfl, uT 228 (by decide +kernel) rfl, uT 229 (by decide +kernel) rfl, uT 2 (by decide +kernel) rfl, ⟨by decide +kernel, by decide +kernel, by decide +kernel⟩, ⟨_, _, rfl⟩, by decide, by decide +kernel⟩
theorem kX0_nextDream : KV yX0_nextDream cX0_nextDream 2 (some .int) 1 0 := ⟨uT 377 (by decide +kernel) rfl, uT 375 (by decide +kernel) rfl, uT 376 (by decide +kernel) rfl, uT 2 (by decide +kernel) rfl, ⟨by decide +kernel, by decide +kernel, by decide +kernel⟩, ⟨_, _, rfl⟩, by decide, by decide +kernel⟩
theorem kX0_pass : KV yX0_pass cX0_pass 3 none 1 0 := ⟨uT 255 (by decide +kernel) rfl, uT 253 (by decide +kernel) rfl, uT 254 (by decide +kernel) rfl, uT 2 (by decide +kernel) rfl, ⟨by decide +kernel, by decide +kernel, by decide +kernel⟩, ⟨_, _, rfl⟩, by decide, by decide +kernel⟩
theorem kX0_passNight : KV yX0_passNight cX0_passNight 5 none 2 0 := ⟨uT 259 (by decide +kernel) rfl, uT 257 (by decide +kernel) rfl, uT 258 (by decide +kernel) rfl, uT 2 (by decide +kernel) rfl, ⟨by decide +kernel, by decide +kernel, by decide +kernel⟩, ⟨_, _, rfl⟩, by decide, by decide +kernel⟩
theorem kX0_passUnlacking : KV yX0_passUnlacking cX0_passUnlacking 3 (some .boolean) 1 0 := ⟨uT 398 (by decide +kernel) rfl, uT 396 (by decide +kernel) rfl, uT 397 (by decide +kernel) rfl, uT 2 (by decide +kernel) rfl, ⟨by decide +kernel, by decide +kernel, by decide +kernel⟩, ⟨_, _, rfl⟩, by decide, by decide +kernel⟩
theorem kX0_platesInAll : KV yX0_platesInAll cX0_platesInAll 3 (some .int) 0 0 := ⟨uT 449 (by decide +kernel) rfl, uT 447 (by decide +kernel) rfl, uT 448 (by decide +kernel) rfl, uT 2 (by decide +kernel) rfl, ⟨by decide +kernel, by decide +kernel, by decide +kernel⟩, ⟨_, _, rfl⟩, by decide, by decide +kernel⟩
theorem kX0_platesOf : KV yX0_platesOf cX0_platesOf 4 (some .int) 1 0 := ⟨uT 457 (by decide +kernel) rfl, uT 455 (by decide +kernel) rfl, uT 456 (by decide +kernel) rfl, uT 2 (by decide +kernel) rfl, ⟨by decide +kernel, by decide +kernel, by decide +kernel⟩, ⟨_, _, rfl⟩, by decide, by decide +kernel⟩
theorem kX0_stock : KV yX0_stock cX0_stock 3 none 2 0 := ⟨uT 245 (by decide +kernel) rfl, uT 243 (by decide +kernel) rfl, uT 244 (by decide +kernel) rfl, uT 2 (by decide +kernel) rfl, ⟨by decide +kernel, by decide +kernel, by decide +kernel⟩, ⟨_, _, rfl⟩, by decide, by decide +kernel⟩
theorem kX0_twosOfOneDream : KV yX0_twosOfOneDream cX0_twosOfOneDream 5 (some .int) 0 0 := ⟨uT 436 (by decide +kernel) rfl, uT 434 (by decide +kernel) rfl, uT 435 (by decide +kernel) rfl, uT 2 (by decide +kernel) rfl, ⟨by decide +kernel, by decide +kernel, by decide +kernel⟩, ⟨_, _, rfl⟩, by decide, by decide +kernel⟩
theorem kX0_wellest : KV yX0_wellest cX0_wellest 4 (some .int) 0 0 := ⟨uT 441 (by decide +kernel) rfl, uT 439 (by decide +kernel) rfl, uT 440 (by decide +kernel) rfl, uT 2 (by decide +kernel) rfl, ⟨by decide +kernel, by decide +kernel, by decide +kernel⟩, ⟨_, _, rfl⟩, by decide, by decide +kernel⟩
theorem kX1_cooksDream : KS yX1_cooksDream cX1_cooksDream 4 (some .int) 3 := ⟨uT 274 (by decide +kernel) rfl, uT 273 (by decide +kernel) rfl, uT 8 (by decide +kernel) rfl, ⟨by decide +kernel, by decide +kernel, by decide +kernel⟩, by decide, by decide +kernel⟩
theorem kX1_dream : KS yX1_dream cX1_dream 5 (some .int) 5 := ⟨uT 271 (by decide +kernel) rfl, uT 270 (by decide +kernel) rfl, uT 8 (by decide +kernel) rfl, ⟨by decide +kernel, by decide +kernel, by decide +kernel⟩, by decide, by decide +kernel⟩
theorem kX1_eats : KS yX1_eats cX1_eats 1 (some .int) 1 := ⟨uT 281 (by decide +kernel) rfl, uT 280 (by decide +kernel) rfl, uT 8 (by decide +kernel) rfl, ⟨by decide +kernel, by decide +kernel, by decide +kernel⟩, by decide, by decide +kernel⟩
theorem kX1_fail : KS yX1_fail cX1_fail 2 none 2 := ⟨uT 596 (by decide +kernel) rfl, uT 595 (by decide +kernel) rfl, uT 8 (by decide +kernel) rfl, ⟨by decide +kernel, by decide +kernel, by decide +kernel⟩, by decide, by decide +kernel⟩
theorem kX1_gain : KS yX1_gain cX1_gain 4 (some .int) 4 := ⟨uT 291 (by decide +kernel) rfl, uT 290 (by decide +kernel) rfl, uT 8 (by decide +kernel) rfl, ⟨by decide +kernel, by decide +kernel, by decide +kernel⟩, by decide, by decide +kernel⟩
theorem kX1_isKind : KS yX1_isKind cX1_isKind 1 (some .boolean) 1 := ⟨uT 215 (by decide +kernel) rfl, uT 214 (by decide +kernel) rfl, uT 8 (by decide +kernel) rfl, ⟨by decide +kernel, by decide +kernel, by decide +kernel⟩, by decide, by decide +kernel⟩
theorem kX1_price : KS yX1_price cX1_price 2 (some .int) 2 := ⟨uT 586 (by decide +kernel) rfl, uT 585 (by decide +kernel) rfl, uT 8 (by decide +kernel) rfl, ⟨by decide +kernel, by decide +kernel, by decide +kernel⟩, by decide, by decide +kernel⟩
theorem kX2_fits : KV yX2_fits cX2_fits 3 (some .boolean) 2 1 := ⟨uT 428 (by decide +kernel) rfl, uT 427 (by decide +kernel) rfl, uP 11 (by decide +kernel) rfl, uT 4 (by decide +kernel) rfl, ⟨by decide +kernel, by decide +kernel, by decide +kernel⟩, ⟨_, _, rfl⟩, by decide, by decide +kernel⟩
theorem kX2_seat : KV yX2_seat cX2_seat 4 (some .int) 2 1 := ⟨uT 418 (by decide +kernel) rfl, uT 416 (by decide +kernel) rfl, uT 417 (by decide +kernel) rfl, uT 4 (by decide +kernel) rfl, ⟨by decide +kernel, by decide +kernel, by decide +kernel⟩, ⟨_, _, rfl⟩, by decide, by decide +kernel⟩
theorem kX2_seatRest : KV yX2_seatRest cX2_seatRest 4 (some .boolean) 2 1 := ⟨uT 424 (by decide +kernel) rfl, uT 423 (by decide +kernel) rfl, uP 10 (by decide +kernel) rfl, uT 4 (by decide +kernel) rfl, ⟨by decide +kernel, by decide +kernel, by decide +kernel⟩, ⟨_, _, rfl⟩, by decide, by decide +kernel⟩
theorem kX3_hasCell : KV yX3_hasCell cX3_hasCell 2 (some .boolean) 1 2 := ⟨uT 211 (by decide +kernel) rfl, uT 209 (by decide +kernel) rfl, uT 210 (by decide +kernel) rfl, uT 3 (by decide +kernel) rfl, ⟨by decide +kernel, by decide +kernel, by decide +kernel⟩, ⟨_, _, rfl⟩, by decide, by decide +kernel⟩
theorem kX3_hasCells : KV yX3_hasCells cX3_hasCells 3 (some .boolean) 2 2 := ⟨uT 578 (by decide +kernel) rfl, uT 576 (by decide +kernel) rfl, uT 577 (by decide +kernel) rfl, uT 3 (by decide +kernel) rfl, ⟨by decide +kernel, by decide +kernel, by decide +kernel⟩, ⟨_, _, rfl⟩, by decide, by decide +kernel⟩
theorem kX3_holdKind : KV yX3_holdKind cX3_holdKind 3 none 2 2 := ⟨uT 551 (by decide +kernel) rfl, uT 549 (by decide +kernel) rfl, uT 550 (by decide +kernel) rfl, uT 3 (by decide +kernel) rfl, ⟨by decide +kernel, by decide +kernel, by decide +kernel⟩, ⟨_, _, rfl⟩, by decide, by decide +kernel⟩
theorem kX3_holdNothing : KV yX3_holdNothing cX3_holdNothing 1 none 0 2 := ⟨uT 545 (by decide +kernel) rfl, uT 543 (by decide +kernel) rfl, uT 544 (by decide +kernel) rfl, uT 3 (by decide +kernel) rfl, ⟨by decide +kernel, by decide +kernel, by decide +kernel⟩, ⟨_, _, rfl⟩, by decide, by decide +kernel⟩
theorem kX3_holdRow : KV yX3_holdRow cX3_holdRow 4 none 2 2 := ⟨uT 562 (by decide +kernel) rfl, uT 560 (by decide +kernel) rfl, uT 561 (by decide +kernel) rfl, uT 3 (by decide +kernel) rfl, ⟨by decide +kernel, by decide +kernel, by decide +kernel⟩, ⟨_, _, rfl⟩, by decide, by decide +kernel⟩
theorem kX3_isSo : KV yX3_isSo cX3_isSo 3 (some .boolean) 2 2 := ⟨uT 468 (by decide +kernel) rfl, uT 466 (by decide +kernel) rfl, uT 467 (by decide +kernel) rfl, uT 3 (by decide +kernel) rfl, ⟨by decide +kernel, by decide +kernel, by decide +kernel⟩, ⟨_, _, rfl⟩, by decide, by decide +kernel⟩
theorem kX3_isSort : KS yX3_isSort cX3_isSort 1 (some .boolean) 1 := ⟨uT 558 (by decide +kernel) rfl, uT 557 (by decide +kernel) rfl, uT 3 (by decide +kernel) rfl, ⟨by decide +kernel, by decide +kernel, by decide +kernel⟩, by decide, by decide +kernel⟩
theorem kX3_leastNumber : KV yX3_leastNumber cX3_leastNumber 1 (some .int) 0 2 := ⟨uT 472 (by decide +kernel) rfl, uT 471 (by decide +kernel) rfl, uP 12 (by decide +kernel) rfl, uT 3 (by decide +kernel) rfl, ⟨by decide +kernel, by decide +kernel, by decide +kernel⟩, ⟨_, _, rfl⟩, by decide, by decide +kernel⟩
theorem kX3_lowestBits : KS yX3_lowestBits cX3_lowestBits 2 (some .int) 2 := ⟨uT 570 (by decide +kernel) rfl, uT 569 (by decide +kernel) rfl, uT 3 (by decide +kernel) rfl, ⟨by decide +kernel, by decide +kernel, by decide +kernel⟩, by decide, by decide +kernel⟩
theorem kX4_addStock : KS yX4_addStock cX4_addStock 3 (some .boolean) 3 := ⟨uT 241 (by decide +kernel) rfl, uT 240 (by decide +kernel) rfl, uT 6 (by decide +kernel) rfl, ⟨by decide +kernel, by decide +kernel, by decide +kernel⟩, by decide, by decide +kernel⟩
theorem kX4_digitAt : KS yX4_digitAt cX4_digitAt 2 (some .int) 2 := ⟨uT 207 (by decide +kernel) rfl, uT 206 (by decide +kernel) rfl, uT 6 (by decide +kernel) rfl, ⟨by decide +kernel, by decide +kernel, by decide +kernel⟩, by decide, by decide +kernel⟩
theorem kX4_digitsBehind : KS yX4_digitsBehind cX4_digitsBehind 1 (some .int) 1 := ⟨uT 184 (by decide +kernel) rfl, uT 183 (by decide +kernel) rfl, uT 6 (by decide +kernel) rfl, ⟨by decide +kernel, by decide +kernel, by decide +kernel⟩, by decide, by decide +kernel⟩
theorem kX4_isLetter : KS yX4_isLetter cX4_isLetter 1 (some .boolean) 1 := ⟨uT 201 (by decide +kernel) rfl, uT 200 (by decide +kernel) rfl, uT 6 (by decide +kernel) rfl, ⟨by decide +kernel, by decide +kernel, by decide +kernel⟩, by decide, by decide +kernel⟩
theorem kX4_passNights : KS yX4_passNights cX4_passNights 2 (some .boolean) 2 := ⟨uT 251 (by decide +kernel) rfl, uT 250 (by decide +kernel) rfl, uT 6 (by decide +kernel) rfl, ⟨by decide +kernel, by decide +kernel, by decide +kernel⟩, by decide, by decide +kernel⟩
theorem kX4_placeOfBadByte : KS yX4_placeOfBadByte cX4_placeOfBadByte 4 (some .int) 1 := ⟨uT 181 (by decide +kernel) rfl, uT 180 (by decide +kernel) rfl, uT 6 (by decide +kernel) rfl, ⟨by decide +kernel, by decide +kernel, by decide +kernel⟩, by decide, by decide +kernel⟩
theorem kX4_setHealth : KS yX4_setHealth cX4_setHealth 3 (some .boolean) 3 := ⟨uT 234 (by decide +kernel) rfl, uT 233 (by decide +kernel) rfl, uT 6 (by decide +kernel) rfl, ⟨by decide +kernel, by decide +kernel, by decide +kernel⟩, by decide, by decide +kernel⟩
theorem kX4_setLast : KS yX4_setLast cX4_setLast 3 (some .boolean) 3 := ⟨uT 238 (by decide +kernel) rfl, uT 237 (by decide +kernel) rfl, uT 6 (by decide +kernel) rfl, ⟨by decide +kernel, by decide +kernel, by decide +kernel⟩, by decide, by decide +kernel⟩
theorem kX4_setStock : KS yX4_setStock cX4_setStock 3 (some .boolean) 3 := ⟨uT 223 (by decide +kernel) rfl, uT 222 (by decide +kernel) rfl, uT 6 (by decide +kernel) rfl, ⟨by decide +kernel, by decide +kernel, by decide +kernel⟩, by decide, by decide +kernel⟩
theorem kX4_setWish : KS yX4_setWish cX4_setWish 3 (some .boolean) 3 := ⟨uT 226 (by decide +kernel) rfl, uT 225 (by decide +kernel) rfl, uT 6 (by decide +kernel) rfl, ⟨by decide +kernel, by decide +kernel, by decide +kernel⟩, by decide, by decide +kernel⟩
theorem kX4_tell : KS yX4_tell cX4_tell 6 (some .boolean) 3 := ⟨uT 204 (by decide +kernel) rfl, uT 203 (by decide +kernel) rfl, uT 6 (by decide +kernel) rfl, ⟨by decide +kernel, by decide +kernel, by decide +kernel⟩, by decide, by decide +kernel⟩
theorem kX6_again : KV yX6_again cX6_again 1 none 0 4 := ⟨uT 940 (by decide +kernel) rfl, uT 939 (by decide +kernel) rfl, uP 34 (by decide +kernel) rfl, uT 5 (by decide +kernel) rfl, ⟨by decide +kernel, by decide +kernel, by decide +kernel⟩, ⟨_, _, rfl⟩, by decide, by decide +kernel⟩
theorem kX6_allPlates : KV yX6_allPlates cX6_allPlates 3 (some .int) 0 4 := ⟨uT 1079 (by decide +kernel) rfl, uT 1078 (by decide +kernel) rfl, uP 45 (by decide +kernel) rfl, uT 5 (by decide +kernel) rfl, ⟨by decide +kernel, by decide +kernel, by decide +kernel⟩, ⟨_, _, rfl⟩, by decide, by decide +kernel⟩
theorem kX6_bestWish : KV yX6_bestWish cX6_bestWish 8 (some .int) 3 4 := ⟨uT 1026 (by decide +kernel) rfl, uT 1024 (by decide +kernel) rfl, uT 1025 (by decide +kernel) rfl, uT 5 (by decide +kernel) rfl, ⟨by decide +kernel, by decide +kernel, by decide +kernel⟩, ⟨_, _, rfl⟩, by decide, by decide +kernel⟩
theorem kX6_breakfast : KV yX6_breakfast cX6_breakfast 3 none 1 4 := ⟨uT 916 (by decide +kernel) rfl, uT 915 (by decide +kernel) rfl, uP 28 (by decide +kernel) rfl, uT 5 (by decide +kernel) rfl, ⟨by decide +kernel, by decide +kernel, by decide +kernel⟩, ⟨_, _, rfl⟩, by decide, by decide +kernel⟩
theorem kX6_buy : KV yX6_buy cX6_buy 6 (some .int) 1 4 := ⟨uT 1030 (by decide +kernel) rfl, uT 1028 (by decide +kernel) rfl, uT 1029 (by decide +kernel) rfl, uT 5 (by decide +kernel) rfl, ⟨by decide +kernel, by decide +kernel, by decide +kernel⟩, ⟨_, _, rfl⟩, by decide, by decide +kernel⟩
theorem kX6_carry : KV yX6_carry cX6_carry 2 (some .int) 1 4 := ⟨uT 885 (by decide +kernel) rfl, uT 884 (by decide +kernel) rfl, uP 22 (by decide +kernel) rfl, uT 5 (by decide +kernel) rfl, ⟨by decide +kernel, by decide +kernel, by decide +kernel⟩, ⟨_, _, rfl⟩, by decide, by decide +kernel⟩
theorem kX6_carryAll : KV yX6_carryAll cX6_carryAll 4 none 2 4 := ⟨uT 881 (by decide +kernel) rfl, uT 880 (by decide +kernel) rfl, uP 21 (by decide +kernel) rfl, uT 5 (by decide +kernel) rfl, ⟨by decide +kernel, by decide +kernel, by decide +kernel⟩, ⟨_, _, rfl⟩, by decide, by decide +kernel⟩
theorem kX6_comes : KV yX6_comes cX6_comes 3 (some .int) 2 4 := ⟨uT 964 (by decide +kernel) rfl, uT 962 (by decide +kernel) rfl, uT 963 (by decide +kernel) rfl, uT 5 (by decide +kernel) rfl, ⟨by decide +kernel, by decide +kernel, by decide +kernel⟩, ⟨_, _, rfl⟩, by decide, by decide +kernel⟩
theorem kX6_comesTold : KV yX6_comesTold cX6_comesTold 4 (some .boolean) 1 4 := ⟨uT 889 (by decide +kernel) rfl, uT 888 (by decide +kernel) rfl, uP 23 (by decide +kernel) rfl, uT 5 (by decide +kernel) rfl, ⟨by decide +kernel, by decide +kernel, by decide +kernel⟩, ⟨_, _, rfl⟩, by decide, by decide +kernel⟩
theorem kX6_copy : KV yX6_copy cX6_copy 7 (some .int) 5 4 := ⟨uT 1179 (by decide +kernel) rfl, uT 1177 (by decide +kernel) rfl, uT 1178 (by decide +kernel) rfl, uT 5 (by decide +kernel) rfl, ⟨by decide +kernel, by decide +kernel, by decide +kernel⟩, ⟨_, _, rfl⟩, by decide, by decide +kernel⟩
theorem kX6_cost : KV yX6_cost cX6_cost 2 (some .int) 1 4 := ⟨uT 1183 (by decide +kernel) rfl, uT 1181 (by decide +kernel) rfl, uT 1182 (by decide +kernel) rfl, uT 5 (by decide +kernel) rfl, ⟨by decide +kernel, by decide +kernel, by decide +kernel⟩, ⟨_, _, rfl⟩, by decide, by decide +kernel⟩
theorem kX6_costOf : KS yX6_costOf cX6_costOf 2 (some .int) 2 := ⟨uT 1186 (by decide +kernel) rfl, uT 1185 (by decide +kernel) rfl, uT 5 (by decide +kernel) rfl, ⟨by decide +kernel, by decide +kernel, by decide +kernel⟩, by decide, by decide +kernel⟩
theorem kX6_count : KV yX6_count cX6_count 2 (some .int) 1 4 := ⟨uT 1156 (by decide +kernel) rfl, uT 1154 (by decide +kernel) rfl, uT 1155 (by decide +kernel) rfl, uT 5 (by decide +kernel) rfl, ⟨by decide +kernel, by decide +kernel, by decide +kernel⟩, ⟨_, _, rfl⟩, by decide, by decide +kernel⟩
theorem kX6_divisor : KS yX6_divisor cX6_divisor 10 (some .long) 2 := ⟨uT 1129 (by decide +kernel) rfl, uT 1128 (by decide +kernel) rfl, uT 5 (by decide +kernel) rfl, ⟨by decide +kernel, by decide +kernel, by decide +kernel⟩, by decide, by decide +kernel⟩
theorem kX6_drawBelow : KV yX6_drawBelow cX6_drawBelow 2 (some .int) 1 4 := ⟨uT 1149 (by decide +kernel) rfl, uT 1148 (by decide +kernel) rfl, uP 51 (by decide +kernel) rfl, uT 5 (by decide +kernel) rfl, ⟨by decide +kernel, by decide +kernel, by decide +kernel⟩, ⟨_, _, rfl⟩, by decide, by decide +kernel⟩
theorem kX6_dreamsNext : KV yX6_dreamsNext cX6_dreamsNext 2 (some .int) 1 4 := ⟨uT 1022 (by decide +kernel) rfl, uT 1021 (by decide +kernel) rfl, uP 37 (by decide +kernel) rfl, uT 5 (by decide +kernel) rfl, ⟨by decide +kernel, by decide +kernel, by decide +kernel⟩, ⟨_, _, rfl⟩, by decide, by decide +kernel⟩
theorem kX6_dreamsOf : KV yX6_dreamsOf cX6_dreamsOf 5 (some .int) 2 4 := ⟨uT 920 (by decide +kernel) rfl, uT 919 (by decide +kernel) rfl, uP 29 (by decide +kernel) rfl, uT 5 (by decide +kernel) rfl, ⟨by decide +kernel, by decide +kernel, by decide +kernel⟩, ⟨_, _, rfl⟩, by decide, by decide +kernel⟩
theorem kX6_eatsOf : KV yX6_eatsOf cX6_eatsOf 2 (some .int) 1 4 := ⟨uT 924 (by decide +kernel) rfl, uT 923 (by decide +kernel) rfl, uP 30 (by decide +kernel) rfl, uT 5 (by decide +kernel) rfl, ⟨by decide +kernel, by decide +kernel, by decide +kernel⟩, ⟨_, _, rfl⟩, by decide, by decide +kernel⟩
theorem kX6_element : KV yX6_element cX6_element 4 (some .long) 2 4 := ⟨uT 1175 (by decide +kernel) rfl, uT 1173 (by decide +kernel) rfl, uT 1174 (by decide +kernel) rfl, uT 5 (by decide +kernel) rfl, ⟨by decide +kernel, by decide +kernel, by decide +kernel⟩, ⟨_, _, rfl⟩, by decide, by decide +kernel⟩
theorem kX6_emptyPlates : KV yX6_emptyPlates cX6_emptyPlates 3 (some .int) 0 4 := ⟨uT 1083 (by decide +kernel) rfl, uT 1082 (by decide +kernel) rfl, uP 46 (by decide +kernel) rfl, uT 5 (by decide +kernel) rfl, ⟨by decide +kernel, by decide +kernel, by decide +kernel⟩, ⟨_, _, rfl⟩, by decide, by decide +kernel⟩
theorem kX6_fills : KV yX6_fills cX6_fills 4 (some .int) 2 4 := ⟨uT 981 (by decide +kernel) rfl, uT 979 (by decide +kernel) rfl, uT 980 (by decide +kernel) rfl, uT 5 (by decide +kernel) rfl, ⟨by decide +kernel, by decide +kernel, by decide +kernel⟩, ⟨_, _, rfl⟩, by decide, by decide +kernel⟩
theorem kX6_forged : KV yX6_forged cX6_forged 4 (some .int) 1 4 := ⟨uT 1137 (by decide +kernel) rfl, uT 1135 (by decide +kernel) rfl, uT 1136 (by decide +kernel) rfl, uT 5 (by decide +kernel) rfl, ⟨by decide +kernel, by decide +kernel, by decide +kernel⟩, ⟨_, _, rfl⟩, by decide, by decide +kernel⟩
theorem kX6_fullestPlate : KV yX6_fullestPlate cX6_fullestPlate 3 (some .int) 0 4 := ⟨uT 1075 (by decide +kernel) rfl, uT 1074 (by decide +kernel) rfl, uP 44 (by decide +kernel) rfl, uT 5 (by decide +kernel) rfl, ⟨by decide +kernel, by decide +kernel, by decide +kernel⟩, ⟨_, _, rfl⟩, by decide, by decide +kernel⟩
theorem kX6_gainsOf : KV yX6_gainsOf cX6_gainsOf 3 (some .int) 2 4 := ⟨uT 928 (by decide +kernel) rfl, uT 927 (by decide +kernel) rfl, uP 31 (by decide +kernel) rfl, uT 5 (by decide +kernel) rfl, ⟨by decide +kernel, by decide +kernel, by decide +kernel⟩, ⟨_, _, rfl⟩, by decide, by decide +kernel⟩
theorem kX6_goNights : KV yX6_goNights cX6_goNights 3 none 1 4 := ⟨uT 905 (by decide +kernel) rfl, uT 904 (by decide +kernel) rfl, uP 26 (by decide +kernel) rfl, uT 5 (by decide +kernel) rfl, ⟨by decide +kernel, by decide +kernel, by decide +kernel⟩, ⟨_, _, rfl⟩, by decide, by decide +kernel⟩
theorem kX6_guest : KV yX6_guest cX6_guest 3 (some .int) 2 4 := ⟨uT 952 (by decide +kernel) rfl, uT 950 (by decide +kernel) rfl, uT 951 (by decide +kernel) rfl, uT 5 (by decide +kernel) rfl, ⟨by decide +kernel, by decide +kernel, by decide +kernel⟩, ⟨_, _, rfl⟩, by decide, by decide +kernel⟩
theorem kX6_guestComes : KV yX6_guestComes cX6_guestComes 5 (some .boolean) 3 4 := ⟨uT 893 (by decide +kernel) rfl, uT 892 (by decide +kernel) rfl, uP 24 (by decide +kernel) rfl, uT 5 (by decide +kernel) rfl, ⟨by decide +kernel, by decide +kernel, by decide +kernel⟩, ⟨_, _, rfl⟩, by decide, by decide +kernel⟩
theorem kX6_guestThen : KV yX6_guestThen cX6_guestThen 5 (some .int) 3 4 := ⟨uT 992 (by decide +kernel) rfl, uT 990 (by decide +kernel) rfl, uT 991 (by decide +kernel) rfl, uT 5 (by decide +kernel) rfl, ⟨by decide +kernel, by decide +kernel, by decide +kernel⟩, ⟨_, _, rfl⟩, by decide, by decide +kernel⟩
theorem kX6_hasBit : KS yX6_hasBit cX6_hasBit 2 (some .boolean) 2 := ⟨uT 912 (by decide +kernel) rfl, uT 911 (by decide +kernel) rfl, uT 5 (by decide +kernel) rfl, ⟨by decide +kernel, by decide +kernel, by decide +kernel⟩, by decide, by decide +kernel⟩
theorem kX6_heals : KV yX6_heals cX6_heals 4 (some .int) 2 4 := ⟨uT 976 (by decide +kernel) rfl, uT 974 (by decide +kernel) rfl, uT 975 (by decide +kernel) rfl, uT 5 (by decide +kernel) rfl, ⟨by decide +kernel, by decide +kernel, by decide +kernel⟩, ⟨_, _, rfl⟩, by decide, by decide +kernel⟩
theorem kX6_healthBut : KV yX6_healthBut cX6_healthBut 6 (some .int) 2 4 := ⟨uT 1047 (by decide +kernel) rfl, uT 1046 (by decide +kernel) rfl, uP 39 (by decide +kernel) rfl, uT 5 (by decide +kernel) rfl, ⟨by decide +kernel, by decide +kernel, by decide +kernel⟩, ⟨_, _, rfl⟩, by decide, by decide +kernel⟩
theorem kX6_held : KS yX6_held cX6_held 2 (some .int) 2 := ⟨uT 896 (by decide +kernel) rfl, uT 895 (by decide +kernel) rfl, uT 5 (by decide +kernel) rfl, ⟨by decide +kernel, by decide +kernel, by decide +kernel⟩, by decide, by decide +kernel⟩
theorem kX6_here : KV yX6_here cX6_here 1 (some .int) 0 4 := ⟨uT 860 (by decide +kernel) rfl, uT 859 (by decide +kernel) rfl, uP 17 (by decide +kernel) rfl, uT 5 (by decide +kernel) rfl, ⟨by decide +kernel, by decide +kernel, by decide +kernel⟩, ⟨_, _, rfl⟩, by decide, by decide +kernel⟩
theorem kX6_image : KV yX6_image cX6_image 1 (some .int) 0 4 := ⟨uT 944 (by decide +kernel) rfl, uT 942 (by decide +kernel) rfl, uT 943 (by decide +kernel) rfl, uT 5 (by decide +kernel) rfl, ⟨by decide +kernel, by decide +kernel, by decide +kernel⟩, ⟨_, _, rfl⟩, by decide, by decide +kernel⟩
theorem kX6_in : KS yX6_in cX6_in 6 (some .boolean) 3 := ⟨uT 852 (by decide +kernel) rfl, uT 851 (by decide +kernel) rfl, uT 5 (by decide +kernel) rfl, ⟨by decide +kernel, by decide +kernel, by decide +kernel⟩, by decide, by decide +kernel⟩
theorem kX6_inn : KV yX6_inn cX6_inn 4 (some .int) 1 4 := ⟨uT 844 (by decide +kernel) rfl, uT 842 (by decide +kernel) rfl, uT 843 (by decide +kernel) rfl, uT 5 (by decide +kernel) rfl, ⟨by decide +kernel, by decide +kernel, by decide +kernel⟩, ⟨_, _, rfl⟩, by decide, by decide +kernel⟩
theorem kX6_isHealthRow : KV yX6_isHealthRow cX6_isHealthRow 5 (some .boolean) 2 4 := ⟨uT 1095 (by decide +kernel) rfl, uT 1094 (by decide +kernel) rfl, uP 48 (by decide +kernel) rfl, uT 5 (by decide +kernel) rfl, ⟨by decide +kernel, by decide +kernel, by decide +kernel⟩, ⟨_, _, rfl⟩, by decide, by decide +kernel⟩
theorem kX6_isLetter : KS yX6_isLetter cX6_isLetter 1 (some .boolean) 1 := ⟨uT 863 (by decide +kernel) rfl, uT 862 (by decide +kernel) rfl, uT 5 (by decide +kernel) rfl, ⟨by decide +kernel, by decide +kernel, by decide +kernel⟩, by decide, by decide +kernel⟩
theorem kX6_isOne : KV yX6_isOne cX6_isOne 2 (some .boolean) 1 4 := ⟨uT 936 (by decide +kernel) rfl, uT 935 (by decide +kernel) rfl, uP 33 (by decide +kernel) rfl, uT 5 (by decide +kernel) rfl, ⟨by decide +kernel, by decide +kernel, by decide +kernel⟩, ⟨_, _, rfl⟩, by decide, by decide +kernel⟩
theorem kX6_isPlate : KS yX6_isPlate cX6_isPlate 1 (some .boolean) 1 := ⟨uT 959 (by decide +kernel) rfl, uT 958 (by decide +kernel) rfl, uT 5 (by decide +kernel) rfl, ⟨by decide +kernel, by decide +kernel, by decide +kernel⟩, by decide, by decide +kernel⟩
theorem kX6_isPlateRow : KV yX6_isPlateRow cX6_isPlateRow 5 (some .boolean) 2 4 := ⟨uT 1113 (by decide +kernel) rfl, uT 1112 (by decide +kernel) rfl, uP 50 (by decide +kernel) rfl, uT 5 (by decide +kernel) rfl, ⟨by decide +kernel, by decide +kernel, by decide +kernel⟩, ⟨_, _, rfl⟩, by decide, by decide +kernel⟩
theorem kX6_isSkipped : KV yX6_isSkipped cX6_isSkipped 3 (some .boolean) 2 4 := ⟨uT 1099 (by decide +kernel) rfl, uT 1098 (by decide +kernel) rfl, uP 49 (by decide +kernel) rfl, uT 5 (by decide +kernel) rfl, ⟨by decide +kernel, by decide +kernel, by decide +kernel⟩, ⟨_, _, rfl⟩, by decide, by decide +kernel⟩
theorem kX6_isUnlike : KV yX6_isUnlike cX6_isUnlike 3 (some .boolean) 2 4 := ⟨uT 1059 (by decide +kernel) rfl, uT 1058 (by decide +kernel) rfl, uP 41 (by decide +kernel) rfl, uT 5 (by decide +kernel) rfl, ⟨by decide +kernel, by decide +kernel, by decide +kernel⟩, ⟨_, _, rfl⟩, by decide, by decide +kernel⟩
theorem kX6_judge : KV yX6_judge cX6_judge 5 (some .int) 1 4 := ⟨uT 1141 (by decide +kernel) rfl, uT 1139 (by decide +kernel) rfl, uT 1140 (by decide +kernel) rfl, uT 5 (by decide +kernel) rfl, ⟨by decide +kernel, by decide +kernel, by decide +kernel⟩, ⟨_, _, rfl⟩, by decide, by decide +kernel⟩
theorem kX6_keep : KV yX6_keep cX6_keep 5 (some .int) 4 4 := ⟨uT 1160 (by decide +kernel) rfl, uT 1158 (by decide +kernel) rfl, uT 1159 (by decide +kernel) rfl, uT 5 (by decide +kernel) rfl, ⟨by decide +kernel, by decide +kernel, by decide +kernel⟩, ⟨_, _, rfl⟩, by decide, by decide +kernel⟩
theorem kX6_lackingThen : KV yX6_lackingThen cX6_lackingThen 3 (some .int) 1 4 := ⟨uT 1034 (by decide +kernel) rfl, uT 1033 (by decide +kernel) rfl, uP 38 (by decide +kernel) rfl, uT 5 (by decide +kernel) rfl, ⟨by decide +kernel, by decide +kernel, by decide +kernel⟩, ⟨_, _, rfl⟩, by decide, by decide +kernel⟩
theorem kX6_larder : KV yX6_larder cX6_larder 2 (some .int) 1 4 := ⟨uT 956 (by decide +kernel) rfl, uT 954 (by decide +kernel) rfl, uT 955 (by decide +kernel) rfl, uT 5 (by decide +kernel) rfl, ⟨by decide +kernel, by decide +kernel, by decide +kernel⟩, ⟨_, _, rfl⟩, by decide, by decide +kernel⟩
theorem kX6_larderThen : KV yX6_larderThen cX6_larderThen 4 (some .int) 2 4 := ⟨uT 996 (by decide +kernel) rfl, uT 994 (by decide +kernel) rfl, uT 995 (by decide +kernel) rfl, uT 5 (by decide +kernel) rfl, ⟨by decide +kernel, by decide +kernel, by decide +kernel⟩, ⟨_, _, rfl⟩, by decide, by decide +kernel⟩
theorem kX6_laySeats : KV yX6_laySeats cX6_laySeats 7 none 0 4 := ⟨uT 1055 (by decide +kernel) rfl, uT 1054 (by decide +kernel) rfl, uP 40 (by decide +kernel) rfl, uT 5 (by decide +kernel) rfl, ⟨by decide +kernel, by decide +kernel, by decide +kernel⟩, ⟨_, _, rfl⟩, by decide, by decide +kernel⟩
theorem kX6_least : KV yX6_least cX6_least 6 (some .int) 2 4 := ⟨uT 1038 (by decide +kernel) rfl, uT 1036 (by decide +kernel) rfl, uT 1037 (by decide +kernel) rfl, uT 5 (by decide +kernel) rfl, ⟨by decide +kernel, by decide +kernel, by decide +kernel⟩, ⟨_, _, rfl⟩, by decide, by decide +kernel⟩
theorem kX6_leastOf : KS yX6_leastOf cX6_leastOf 1 (some .long) 1 := ⟨uT 1102 (by decide +kernel) rfl, uT 1101 (by decide +kernel) rfl, uT 5 (by decide +kernel) rfl, ⟨by decide +kernel, by decide +kernel, by decide +kernel⟩, by decide, by decide +kernel⟩
theorem kX6_leaves : KV yX6_leaves cX6_leaves 6 (some .int) 1 4 := ⟨uT 1005 (by decide +kernel) rfl, uT 1003 (by decide +kernel) rfl, uT 1004 (by decide +kernel) rfl, uT 5 (by decide +kernel) rfl, ⟨by decide +kernel, by decide +kernel, by decide +kernel⟩, ⟨_, _, rfl⟩, by decide, by decide +kernel⟩
theorem kX6_leavesIn : KV yX6_leavesIn cX6_leavesIn 4 (some .int) 1 4 := ⟨uT 1010 (by decide +kernel) rfl, uT 1009 (by decide +kernel) rfl, uP 36 (by decide +kernel) rfl, uT 5 (by decide +kernel) rfl, ⟨by decide +kernel, by decide +kernel, by decide +kernel⟩, ⟨_, _, rfl⟩, by decide, by decide +kernel⟩
theorem kX6_mares : KV yX6_mares cX6_mares 14 (some .long) 5 4 := ⟨uT 1122 (by decide +kernel) rfl, uT 1120 (by decide +kernel) rfl, uT 1121 (by decide +kernel) rfl, uT 5 (by decide +kernel) rfl, ⟨by decide +kernel, by decide +kernel, by decide +kernel⟩, ⟨_, _, rfl⟩, by decide, by decide +kernel⟩
theorem kX6_mean : KV yX6_mean cX6_mean 5 (some .long) 1 4 := ⟨uT 1133 (by decide +kernel) rfl, uT 1131 (by decide +kernel) rfl, uT 1132 (by decide +kernel) rfl, uT 5 (by decide +kernel) rfl, ⟨by decide +kernel, by decide +kernel, by decide +kernel⟩, ⟨_, _, rfl⟩, by decide, by decide +kernel⟩
theorem kX6_narrowed : KS yX6_narrowed cX6_narrowed 2 (some .long) 2 := ⟨uT 1171 (by decide +kernel) rfl, uT 1170 (by decide +kernel) rfl, uT 5 (by decide +kernel) rfl, ⟨by decide +kernel, by decide +kernel, by decide +kernel⟩, by decide, by decide +kernel⟩
theorem kX6_nightOn : KV yX6_nightOn cX6_nightOn 2 none 0 4 := ⟨uT 909 (by decide +kernel) rfl, uT 908 (by decide +kernel) rfl, uP 27 (by decide +kernel) rfl, uT 5 (by decide +kernel) rfl, ⟨by decide +kernel, by decide +kernel, by decide +kernel⟩, ⟨_, _, rfl⟩, by decide, by decide +kernel⟩
theorem kX6_nights : KV yX6_nights cX6_nights 2 (some .int) 1 4 := ⟨uT 985 (by decide +kernel) rfl, uT 983 (by decide +kernel) rfl, uT 984 (by decide +kernel) rfl, uT 5 (by decide +kernel) rfl, ⟨by decide +kernel, by decide +kernel, by decide +kernel⟩, ⟨_, _, rfl⟩, by decide, by decide +kernel⟩
theorem kX6_nightsCome : KV yX6_nightsCome cX6_nightsCome 3 (some .boolean) 1 4 := ⟨uT 900 (by decide +kernel) rfl, uT 899 (by decide +kernel) rfl, uP 25 (by decide +kernel) rfl, uT 5 (by decide +kernel) rfl, ⟨by decide +kernel, by decide +kernel, by decide +kernel⟩, ⟨_, _, rfl⟩, by decide, by decide +kernel⟩
theorem kX6_ofGuest : KV yX6_ofGuest cX6_ofGuest 5 (some .boolean) 3 4 := ⟨uT 932 (by decide +kernel) rfl, uT 931 (by decide +kernel) rfl, uP 32 (by decide +kernel) rfl, uT 5 (by decide +kernel) rfl, ⟨by decide +kernel, by decide +kernel, by decide +kernel⟩, ⟨_, _, rfl⟩, by decide, by decide +kernel⟩
theorem kX6_onesOf : KS yX6_onesOf cX6_onesOf 3 (some .int) 1 := ⟨uT 988 (by decide +kernel) rfl, uT 987 (by decide +kernel) rfl, uT 5 (by decide +kernel) rfl, ⟨by decide +kernel, by decide +kernel, by decide +kernel⟩, by decide, by decide +kernel⟩
theorem kX6_out : KV yX6_out cX6_out 4 (some .int) 1 4 := ⟨uT 1014 (by decide +kernel) rfl, uT 1012 (by decide +kernel) rfl, uT 1013 (by decide +kernel) rfl, uT 5 (by decide +kernel) rfl, ⟨by decide +kernel, by decide +kernel, by decide +kernel⟩, ⟨_, _, rfl⟩, by decide, by decide +kernel⟩
theorem kX6_partOf : KS yX6_partOf cX6_partOf 7 (some .long) 3 := ⟨uT 1126 (by decide +kernel) rfl, uT 1125 (by decide +kernel) rfl, uT 5 (by decide +kernel) rfl, ⟨by decide +kernel, by decide +kernel, by decide +kernel⟩, by decide, by decide +kernel⟩
theorem kX6_platesOf : KV yX6_platesOf cX6_platesOf 4 (some .int) 1 4 := ⟨uT 1087 (by decide +kernel) rfl, uT 1086 (by decide +kernel) rfl, uP 47 (by decide +kernel) rfl, uT 5 (by decide +kernel) rfl, ⟨by decide +kernel, by decide +kernel, by decide +kernel⟩, ⟨_, _, rfl⟩, by decide, by decide +kernel⟩
theorem kX6_put : KV yX6_put cX6_put 5 (some .int) 3 4 := ⟨uT 1168 (by decide +kernel) rfl, uT 1166 (by decide +kernel) rfl, uT 1167 (by decide +kernel) rfl, uT 5 (by decide +kernel) rfl, ⟨by decide +kernel, by decide +kernel, by decide +kernel⟩, ⟨_, _, rfl⟩, by decide, by decide +kernel⟩
theorem kX6_readDigits : KV yX6_readDigits cX6_readDigits 4 (some .int) 1 4 := ⟨uT 871 (by decide +kernel) rfl, uT 870 (by decide +kernel) rfl, uP 19 (by decide +kernel) rfl, uT 5 (by decide +kernel) rfl, ⟨by decide +kernel, by decide +kernel, by decide +kernel⟩, ⟨_, _, rfl⟩, by decide, by decide +kernel⟩
theorem kX6_readNumbers : KV yX6_readNumbers cX6_readNumbers 3 none 2 4 := ⟨uT 867 (by decide +kernel) rfl, uT 866 (by decide +kernel) rfl, uP 18 (by decide +kernel) rfl, uT 5 (by decide +kernel) rfl, ⟨by decide +kernel, by decide +kernel, by decide +kernel⟩, ⟨_, _, rfl⟩, by decide, by decide +kernel⟩
theorem kX6_readStatement : KV yX6_readStatement cX6_readStatement 3 none 0 4 := ⟨uT 856 (by decide +kernel) rfl, uT 855 (by decide +kernel) rfl, uP 16 (by decide +kernel) rfl, uT 5 (by decide +kernel) rfl, ⟨by decide +kernel, by decide +kernel, by decide +kernel⟩, ⟨_, _, rfl⟩, by decide, by decide +kernel⟩
theorem kX6_restore : KV yX6_restore cX6_restore 1 (some .int) 0 4 := ⟨uT 948 (by decide +kernel) rfl, uT 946 (by decide +kernel) rfl, uT 947 (by decide +kernel) rfl, uT 5 (by decide +kernel) rfl, ⟨by decide +kernel, by decide +kernel, by decide +kernel⟩, ⟨_, _, rfl⟩, by decide, by decide +kernel⟩
theorem kX6_row : KV yX6_row cX6_row 5 (some .int) 3 4 := ⟨uT 1164 (by decide +kernel) rfl, uT 1162 (by decide +kernel) rfl, uT 1163 (by decide +kernel) rfl, uT 5 (by decide +kernel) rfl, ⟨by decide +kernel, by decide +kernel, by decide +kernel⟩, ⟨_, _, rfl⟩, by decide, by decide +kernel⟩
theorem kX6_same : KV yX6_same cX6_same 2 (some .int) 1 4 := ⟨uT 1063 (by decide +kernel) rfl, uT 1061 (by decide +kernel) rfl, uT 1062 (by decide +kernel) rfl, uT 5 (by decide +kernel) rfl, ⟨by decide +kernel, by decide +kernel, by decide +kernel⟩, ⟨_, _, rfl⟩, by decide, by decide +kernel⟩
theorem kX6_sameTwos : KV yX6_sameTwos cX6_sameTwos 4 (some .int) 0 4 := ⟨uT 1067 (by decide +kernel) rfl, uT 1066 (by decide +kernel) rfl, uP 42 (by decide +kernel) rfl, uT 5 (by decide +kernel) rfl, ⟨by decide +kernel, by decide +kernel, by decide +kernel⟩, ⟨_, _, rfl⟩, by decide, by decide +kernel⟩
theorem kX6_seats : KV yX6_seats cX6_seats 8 (some .int) 1 4 := ⟨uT 1051 (by decide +kernel) rfl, uT 1049 (by decide +kernel) rfl, uT 1050 (by decide +kernel) rfl, uT 5 (by decide +kernel) rfl, ⟨by decide +kernel, by decide +kernel, by decide +kernel⟩, ⟨_, _, rfl⟩, by decide, by decide +kernel⟩
theorem kX6_send : KV yX6_send cX6_send 7 (some .int) 1 4 := ⟨uT 1043 (by decide +kernel) rfl, uT 1041 (by decide +kernel) rfl, uT 1042 (by decide +kernel) rfl, uT 5 (by decide +kernel) rfl, ⟨by decide +kernel, by decide +kernel, by decide +kernel⟩, ⟨_, _, rfl⟩, by decide, by decide +kernel⟩
theorem kX6_table : KV yX6_table cX6_table 4 (some .int) 2 4 := ⟨uT 1018 (by decide +kernel) rfl, uT 1016 (by decide +kernel) rfl, uT 1017 (by decide +kernel) rfl, uT 5 (by decide +kernel) rfl, ⟨by decide +kernel, by decide +kernel, by decide +kernel⟩, ⟨_, _, rfl⟩, by decide, by decide +kernel⟩
theorem kX6_then : KV yX6_then cX6_then 4 (some .int) 2 4 := ⟨uT 1000 (by decide +kernel) rfl, uT 998 (by decide +kernel) rfl, uT 999 (by decide +kernel) rfl, uT 5 (by decide +kernel) rfl, ⟨by decide +kernel, by decide +kernel, by decide +kernel⟩, ⟨_, _, rfl⟩, by decide, by decide +kernel⟩
theorem kX6_think : KV yX6_think cX6_think 1 none 0 4 := ⟨uT 877 (by decide +kernel) rfl, uT 876 (by decide +kernel) rfl, uP 20 (by decide +kernel) rfl, uT 5 (by decide +kernel) rfl, ⟨by decide +kernel, by decide +kernel, by decide +kernel⟩, ⟨_, _, rfl⟩, by decide, by decide +kernel⟩
theorem kX6_thrown : KV yX6_thrown cX6_thrown 1 (some .int) 0 4 := ⟨uT 840 (by decide +kernel) rfl, uT 838 (by decide +kernel) rfl, uT 839 (by decide +kernel) rfl, uT 5 (by decide +kernel) rfl, ⟨by decide +kernel, by decide +kernel, by decide +kernel⟩, ⟨_, _, rfl⟩, by decide, by decide +kernel⟩
theorem kX6_toss : KV yX6_toss cX6_toss 4 (some .int) 1 4 := ⟨uT 1190 (by decide +kernel) rfl, uT 1188 (by decide +kernel) rfl, uT 1189 (by decide +kernel) rfl, uT 5 (by decide +kernel) rfl, ⟨by decide +kernel, by decide +kernel, by decide +kernel⟩, ⟨_, _, rfl⟩, by decide, by decide +kernel⟩
theorem kX6_two : KV yX6_two cX6_two 7 (some .int) 3 4 := ⟨uT 1117 (by decide +kernel) rfl, uT 1115 (by decide +kernel) rfl, uT 1116 (by decide +kernel) rfl, uT 5 (by decide +kernel) rfl, ⟨by decide +kernel, by decide +kernel, by decide +kernel⟩, ⟨_, _, rfl⟩, by decide, by decide +kernel⟩
theorem kX6_wellest : KV yX6_wellest cX6_wellest 3 (some .int) 0 4 := ⟨uT 1071 (by decide +kernel) rfl, uT 1070 (by decide +kernel) rfl, uP 43 (by decide +kernel) rfl, uT 5 (by decide +kernel) rfl, ⟨by decide +kernel, by decide +kernel, by decide +kernel⟩, ⟨_, _, rfl⟩, by decide, by decide +kernel⟩
theorem kX6_whatIs : KV yX6_whatIs cX6_whatIs 7 (some .int) 3 4 := ⟨uT 1091 (by decide +kernel) rfl, uT 1089 (by decide +kernel) rfl, uT 1090 (by decide +kernel) rfl, uT 5 (by decide +kernel) rfl, ⟨by decide +kernel, by decide +kernel, by decide +kernel⟩, ⟨_, _, rfl⟩, by decide, by decide +kernel⟩
theorem kX6_whatWish : KV yX6_whatWish cX6_whatWish 6 (some .int) 2 4 := ⟨uT 1109 (by decide +kernel) rfl, uT 1107 (by decide +kernel) rfl, uT 1108 (by decide +kernel) rfl, uT 5 (by decide +kernel) rfl, ⟨by decide +kernel, by decide +kernel, by decide +kernel⟩, ⟨_, _, rfl⟩, by decide, by decide +kernel⟩
theorem kX6_wishes : KV yX6_wishes cX6_wishes 4 (some .int) 2 4 := ⟨uT 972 (by decide +kernel) rfl, uT 970 (by decide +kernel) rfl, uT 971 (by decide +kernel) rfl, uT 5 (by decide +kernel) rfl, ⟨by decide +kernel, by decide +kernel, by decide +kernel⟩, ⟨_, _, rfl⟩, by decide, by decide +kernel⟩
theorem kX6_wrongKept : KV yX6_wrongKept cX6_wrongKept 2 (some .int) 1 4 := ⟨uT 968 (by decide +kernel) rfl, uT 967 (by decide +kernel) rfl, uP 35 (by decide +kernel) rfl, uT 5 (by decide +kernel) rfl, ⟨by decide +kernel, by decide +kernel, by decide +kernel⟩, ⟨_, _, rfl⟩, by decide, by decide +kernel⟩
theorem kX6_wrongRow : KV yX6_wrongRow cX6_wrongRow 2 (some .int) 1 4 := ⟨uT 848 (by decide +kernel) rfl, uT 847 (by decide +kernel) rfl, uP 15 (by decide +kernel) rfl, uT 5 (by decide +kernel) rfl, ⟨by decide +kernel, by decide +kernel, by decide +kernel⟩, ⟨_, _, rfl⟩, by decide, by decide +kernel⟩
theorem kX6_years : KV yX6_years cX6_years 8 (some .int) 3 4 := ⟨uT 1145 (by decide +kernel) rfl, uT 1143 (by decide +kernel) rfl, uT 1144 (by decide +kernel) rfl, uT 5 (by decide +kernel) rfl, ⟨by decide +kernel, by decide +kernel, by decide +kernel⟩, ⟨_, _, rfl⟩, by decide, by decide +kernel⟩
theorem kJ6_bitCount_0f7a4 : KS yJ6_bitCount_0f7a4 cJ6_bitCount_0f7a4 1 (some .int) 1 := ⟨uT 336 (by decide +kernel) rfl, uT 335 (by decide +kernel) rfl, uT 10 (by decide +kernel) rfl, ⟨by decide +kernel, by decide +kernel, by decide +kernel⟩, by decide, by decide +kernel⟩
theorem lRX5_9 : Cond.methodLink RX5 9 yX0_init ∈ uW := uT 27 (by decide +kernel) rfl
theorem lRX5_44 : Cond.methodLink RX5 44 yX5_rowRefusal ∈ uW := uT 165 (by decide +kernel) rfl
theorem lRX5_52 : Cond.methodLink RX5 52 yX4_placeOfBadByte ∈ uW := uT 179 (by decide +kernel) rfl
theorem lRX5_58 : Cond.methodLink RX5 58 yX5_inMind ∈ uW := uT 188 (by decide +kernel) rfl
theorem lRX5_68 : Cond.methodLink RX5 68 yX4_isLetter ∈ uW := uT 199 (by decide +kernel) rfl
theorem lRX5_72 : Cond.methodLink RX5 72 yX4_tell ∈ uW := uT 202 (by decide +kernel) rfl
theorem lRX5_76 : Cond.methodLink RX5 76 yX0_become ∈ uW := uT 192 (by decide +kernel) rfl
theorem lRX5_80 : Cond.methodLink RX5 80 yX0_knows ∈ uW := uT 297 (by decide +kernel) rfl
theorem lRX5_98 : Cond.methodLink RX5 98 yX0_isThere ∈ uW := uT 298 (by decide +kernel) rfl
theorem lRX5_101 : Cond.methodLink RX5 101 yX1_eats ∈ uW := uT 299 (by decide +kernel) rfl
theorem lRX5_106 : Cond.methodLink RX5 106 yX1_gain ∈ uW := uT 300 (by decide +kernel) rfl
theorem lRX5_110 : Cond.methodLink RX5 110 yX5_isPlate ∈ uW := uT 305 (by decide +kernel) rfl
theorem lRX5_116 : Cond.methodLink RX5 116 yX5_kindRefusal ∈ uW := uT 312 (by decide +kernel) rfl
theorem lRX5_125 : Cond.methodLink RX5 125 yX0_admit ∈ uW := uT 316 (by decide +kernel) rfl
theorem lRX5_129 : Cond.methodLink RX5 129 yX5_within ∈ uW := uT 176 (by decide +kernel) rfl
theorem lRX5_136 : Cond.methodLink RX5 136 yX0_pass ∈ uW := uT 333 (by decide +kernel) rfl
theorem lRX5_143 : Cond.methodLink RX5 143 yJ6_bitCount_0f7a4 ∈ uW := uT 334 (by decide +kernel) rfl
theorem lRX5_148 : Cond.methodLink RX5 148 yX5_isWhile ∈ uW := uT 344 (by decide +kernel) rfl
theorem lRX5_157 : Cond.methodLink RX5 157 yX5_firstToLeave ∈ uW := uT 359 (by decide +kernel) rfl
theorem lRX5_161 : Cond.methodLink RX5 161 yX5_leastOf ∈ uW := uT 363 (by decide +kernel) rfl
theorem lRX5_164 : Cond.methodLink RX5 164 yX0_nextDream ∈ uW := uT 374 (by decide +kernel) rfl
theorem lRX5_170 : Cond.methodLink RX5 170 yX0_stock ∈ uW := uT 386 (by decide +kernel) rfl
theorem lRX5_174 : Cond.methodLink RX5 174 yX5_suffices ∈ uW := uT 391 (by decide +kernel) rfl
theorem lRX5_177 : Cond.methodLink RX5 177 yX0_passUnlacking ∈ uW := uT 395 (by decide +kernel) rfl
theorem lRX5_183 : Cond.methodLink RX5 183 yX5_healthThen ∈ uW := uT 403 (by decide +kernel) rfl
theorem lRX5_186 : Cond.methodLink RX5 186 yX0_healthOf ∈ uW := uT 407 (by decide +kernel) rfl
theorem lRX5_189 : Cond.methodLink RX5 189 yX2_seat ∈ uW := uT 415 (by decide +kernel) rfl
theorem lRX5_193 : Cond.methodLink RX5 193 yX0_twosOfOneDream ∈ uW := uT 433 (by decide +kernel) rfl
theorem lRX5_196 : Cond.methodLink RX5 196 yX0_wellest ∈ uW := uT 438 (by decide +kernel) rfl
theorem lRX5_199 : Cond.methodLink RX5 199 yX0_fullest ∈ uW := uT 442 (by decide +kernel) rfl
theorem lRX5_202 : Cond.methodLink RX5 202 yX0_platesInAll ∈ uW := uT 446 (by decide +kernel) rfl
theorem lRX5_205 : Cond.methodLink RX5 205 yX0_emptyPlates ∈ uW := uT 450 (by decide +kernel) rfl
theorem lRX5_208 : Cond.methodLink RX5 208 yX0_platesOf ∈ uW := uT 454 (by decide +kernel) rfl
theorem lRX5_212 : Cond.methodLink RX5 212 yX5_healthsAreSo ∈ uW := uT 462 (by decide +kernel) rfl
theorem lRX5_216 : Cond.methodLink RX5 216 yX3_isSo ∈ uW := uT 465 (by decide +kernel) rfl
theorem lRX5_220 : Cond.methodLink RX5 220 yX5_lastPlatesAreSo ∈ uW := uT 478 (by decide +kernel) rfl
theorem lRX5_223 : Cond.methodLink RX5 223 yX5_choose ∈ uW := uT 485 (by decide +kernel) rfl
theorem lRX5_227 : Cond.methodLink RX5 227 yX0_passNight ∈ uW := uT 489 (by decide +kernel) rfl
theorem lRX5_231 : Cond.methodLink RX5 231 yX5_refusedLong ∈ uW := uT 494 (by decide +kernel) rfl
theorem lRX5_235 : Cond.methodLink RX5 235 yX5_partOf ∈ uW := uT 498 (by decide +kernel) rfl
theorem lRX5_239 : Cond.methodLink RX5 239 yX5_drawInto ∈ uW := uT 520 (by decide +kernel) rfl
theorem lRX5_246 : Cond.methodLink RX5 246 yX5_isShelf ∈ uW := uT 173 (by decide +kernel) rfl
theorem lRX5_249 : Cond.methodLink RX5 249 yX3_holdNothing ∈ uW := uT 542 (by decide +kernel) rfl
theorem lRX5_252 : Cond.methodLink RX5 252 yX1_isKind ∈ uW := uT 546 (by decide +kernel) rfl
theorem lRX5_255 : Cond.methodLink RX5 255 yX5_isDigit ∈ uW := uT 547 (by decide +kernel) rfl
theorem lRX5_258 : Cond.methodLink RX5 258 yX3_holdKind ∈ uW := uT 548 (by decide +kernel) rfl
theorem lRX5_261 : Cond.methodLink RX5 261 yX3_isSort ∈ uW := uT 556 (by decide +kernel) rfl
theorem lRX5_264 : Cond.methodLink RX5 264 yX3_holdRow ∈ uW := uT 559 (by decide +kernel) rfl
theorem lRX5_267 : Cond.methodLink RX5 267 yX3_hasCell ∈ uW := uT 567 (by decide +kernel) rfl
theorem lRX5_270 : Cond.methodLink RX5 270 yX3_lowestBits ∈ uW := uT 568 (by decide +kernel) rfl
theorem lRX5_291 : Cond.methodLink RX5 291 yX3_hasCells ∈ uW := uT 575 (by decide +kernel) rfl
theorem lRX5_300 : Cond.methodLink RX5 300 yX1_price ∈ uW := uT 584 (by decide +kernel) rfl
theorem lRX5_303 : Cond.methodLink RX5 303 yX1_fail ∈ uW := uT 594 (by decide +kernel) rfl
theorem lRX5_308 : Cond.methodLink RX5 308 yX5_refusalUnless ∈ uW := uT 169 (by decide +kernel) rfl
theorem lRX5_313 : Cond.methodLink RX5 313 yX5_sharedDivisor ∈ uW := uT 501 (by decide +kernel) rfl
theorem lRX0_62 : Cond.methodLink RX0 62 yJ9_min_7cf53 ∈ uW := uT 246 (by decide +kernel) rfl
theorem lRX0_68 : Cond.methodLink RX0 68 yX0_passNight ∈ uW := uT 256 (by decide +kernel) rfl
theorem lRX0_72 : Cond.methodLink RX0 72 yX0_stock ∈ uW := uT 260 (by decide +kernel) rfl
theorem lRX0_76 : Cond.methodLink RX0 76 yX0_isThere ∈ uW := uT 261 (by decide +kernel) rfl
theorem lRX0_80 : Cond.methodLink RX0 80 yX0_dream ∈ uW := uT 265 (by decide +kernel) rfl
theorem lRX0_83 : Cond.methodLink RX0 83 yX0_breakfast ∈ uW := uT 275 (by decide +kernel) rfl
theorem lRX0_86 : Cond.methodLink RX0 86 yX1_dream ∈ uW := uT 269 (by decide +kernel) rfl
theorem lRX0_91 : Cond.methodLink RX0 91 yX1_eats ∈ uW := uT 279 (by decide +kernel) rfl
theorem lRX0_95 : Cond.methodLink RX0 95 yX0_changeHealth ∈ uW := uT 282 (by decide +kernel) rfl
theorem lRX0_98 : Cond.methodLink RX0 98 yX1_gain ∈ uW := uT 289 (by decide +kernel) rfl
theorem lRX0_102 : Cond.methodLink RX0 102 yJ9_max_7cf53 ∈ uW := uT 286 (by decide +kernel) rfl
theorem lRX0_105 : Cond.methodLink RX0 105 yX0_nextDream ∈ uW := uT 437 (by decide +kernel) rfl
theorem lRX1_15 : Cond.methodLink RX1 15 yX1_cooksDream ∈ uW := uT 272 (by decide +kernel) rfl
theorem lRX1_19 : Cond.methodLink RX1 19 yJ9_max_7cf53 ∈ uW := uT 292 (by decide +kernel) rfl
theorem lRX2_24 : Cond.methodLink RX2 24 yJ6_bitCount_0f7a4 ∈ uW := uT 419 (by decide +kernel) rfl
theorem lRX2_33 : Cond.methodLink RX2 33 yX0_nextDream ∈ uW := uT 420 (by decide +kernel) rfl
theorem lRX2_36 : Cond.methodLink RX2 36 yX2_seatRest ∈ uW := uT 421 (by decide +kernel) rfl
theorem lRX2_40 : Cond.methodLink RX2 40 yX2_fits ∈ uW := uT 425 (by decide +kernel) rfl
theorem lRX3_35 : Cond.methodLink RX3 35 yX3_leastNumber ∈ uW := uT 469 (by decide +kernel) rfl
theorem lRX4_21 : Cond.methodLink RX4 21 yX4_digitsBehind ∈ uW := uT 182 (by decide +kernel) rfl
theorem lRX4_29 : Cond.methodLink RX4 29 yX3_hasCell ∈ uW := uT 208 (by decide +kernel) rfl
theorem lRX4_32 : Cond.methodLink RX4 32 yX4_digitAt ∈ uW := uT 205 (by decide +kernel) rfl
theorem lRX4_36 : Cond.methodLink RX4 36 yX1_isKind ∈ uW := uT 213 (by decide +kernel) rfl
theorem lRX4_41 : Cond.methodLink RX4 41 yX0_admit ∈ uW := uT 217 (by decide +kernel) rfl
theorem lRX4_47 : Cond.methodLink RX4 47 yX4_setStock ∈ uW := uT 221 (by decide +kernel) rfl
theorem lRX4_51 : Cond.methodLink RX4 51 yX4_setWish ∈ uW := uT 224 (by decide +kernel) rfl
theorem lRX4_54 : Cond.methodLink RX4 54 yX4_setHealth ∈ uW := uT 232 (by decide +kernel) rfl
theorem lRX4_57 : Cond.methodLink RX4 57 yX4_setLast ∈ uW := uT 236 (by decide +kernel) rfl
theorem lRX4_60 : Cond.methodLink RX4 60 yX4_addStock ∈ uW := uT 239 (by decide +kernel) rfl
theorem lRX4_63 : Cond.methodLink RX4 63 yX4_passNights ∈ uW := uT 249 (by decide +kernel) rfl
theorem lRX4_70 : Cond.methodLink RX4 70 yX0_stock ∈ uW := uT 242 (by decide +kernel) rfl
theorem lRX4_74 : Cond.methodLink RX4 74 yX0_knows ∈ uW := uT 227 (by decide +kernel) rfl
theorem lRX4_96 : Cond.methodLink RX4 96 yX0_pass ∈ uW := uT 252 (by decide +kernel) rfl
theorem lRL_7 : Cond.methodLink RL 7 yX5_element ∈ uW := uT 702 (by decide +kernel) rfl
theorem lRL_17 : Cond.methodLink RL 17 yX5_init ∈ uW := uT 19 (by decide +kernel) rfl
theorem lRL_20 : Cond.methodLink RL 20 yX6_init ∈ uW := uT 713 (by decide +kernel) rfl
theorem lRL_21 : Cond.methodLink RL 21 yX5_inn ∈ uW := uT 161 (by decide +kernel) rfl
theorem lRL_25 : Cond.methodLink RL 25 yX6_inn ∈ uW := uT 841 (by decide +kernel) rfl
theorem lRL_26 : Cond.methodLink RL 26 yX5_guest ∈ uW := uT 293 (by decide +kernel) rfl
theorem lRL_30 : Cond.methodLink RL 30 yX6_guest ∈ uW := uT 949 (by decide +kernel) rfl
theorem lRL_31 : Cond.methodLink RL 31 yX5_larder ∈ uW := uT 301 (by decide +kernel) rfl
theorem lRL_34 : Cond.methodLink RL 34 yX6_larder ∈ uW := uT 953 (by decide +kernel) rfl
theorem lRL_35 : Cond.methodLink RL 35 yX5_comes ∈ uW := uT 308 (by decide +kernel) rfl
theorem lRL_38 : Cond.methodLink RL 38 yX6_comes ∈ uW := uT 961 (by decide +kernel) rfl
theorem lRL_39 : Cond.methodLink RL 39 yX5_wishes ∈ uW := uT 317 (by decide +kernel) rfl
theorem lRL_42 : Cond.methodLink RL 42 yX6_wishes ∈ uW := uT 969 (by decide +kernel) rfl
theorem lRL_43 : Cond.methodLink RL 43 yX5_heals ∈ uW := uT 321 (by decide +kernel) rfl
theorem lRL_46 : Cond.methodLink RL 46 yX6_heals ∈ uW := uT 973 (by decide +kernel) rfl
theorem lRL_47 : Cond.methodLink RL 47 yX5_fills ∈ uW := uT 325 (by decide +kernel) rfl
theorem lRL_50 : Cond.methodLink RL 50 yX6_fills ∈ uW := uT 978 (by decide +kernel) rfl
theorem lRL_51 : Cond.methodLink RL 51 yX5_nights ∈ uW := uT 329 (by decide +kernel) rfl
theorem lRL_54 : Cond.methodLink RL 54 yX6_nights ∈ uW := uT 982 (by decide +kernel) rfl
theorem lRL_55 : Cond.methodLink RL 55 yX5_guestThen ∈ uW := uT 340 (by decide +kernel) rfl
theorem lRL_59 : Cond.methodLink RL 59 yX6_guestThen ∈ uW := uT 989 (by decide +kernel) rfl
theorem lRL_60 : Cond.methodLink RL 60 yX5_larderThen ∈ uW := uT 347 (by decide +kernel) rfl
theorem lRL_63 : Cond.methodLink RL 63 yX6_larderThen ∈ uW := uT 993 (by decide +kernel) rfl
theorem lRL_64 : Cond.methodLink RL 64 yX5_then ∈ uW := uT 351 (by decide +kernel) rfl
theorem lRL_67 : Cond.methodLink RL 67 yX6_then ∈ uW := uT 997 (by decide +kernel) rfl
theorem lRL_68 : Cond.methodLink RL 68 yX5_leaves ∈ uW := uT 355 (by decide +kernel) rfl
theorem lRL_71 : Cond.methodLink RL 71 yX6_leaves ∈ uW := uT 1002 (by decide +kernel) rfl
theorem lRL_72 : Cond.methodLink RL 72 yX5_out ∈ uW := uT 366 (by decide +kernel) rfl
theorem lRL_75 : Cond.methodLink RL 75 yX6_out ∈ uW := uT 1011 (by decide +kernel) rfl
theorem lRL_76 : Cond.methodLink RL 76 yX5_table ∈ uW := uT 370 (by decide +kernel) rfl
theorem lRL_79 : Cond.methodLink RL 79 yX6_table ∈ uW := uT 1015 (by decide +kernel) rfl
theorem lRL_80 : Cond.methodLink RL 80 yX5_bestWish ∈ uW := uT 378 (by decide +kernel) rfl
theorem lRL_83 : Cond.methodLink RL 83 yX6_bestWish ∈ uW := uT 1023 (by decide +kernel) rfl
theorem lRL_84 : Cond.methodLink RL 84 yX5_buy ∈ uW := uT 382 (by decide +kernel) rfl
theorem lRL_87 : Cond.methodLink RL 87 yX6_buy ∈ uW := uT 1027 (by decide +kernel) rfl
theorem lRL_88 : Cond.methodLink RL 88 yX5_least ∈ uW := uT 387 (by decide +kernel) rfl
theorem lRL_91 : Cond.methodLink RL 91 yX6_least ∈ uW := uT 1035 (by decide +kernel) rfl
theorem lRL_92 : Cond.methodLink RL 92 yX5_send ∈ uW := uT 399 (by decide +kernel) rfl
theorem lRL_95 : Cond.methodLink RL 95 yX6_send ∈ uW := uT 1040 (by decide +kernel) rfl
theorem lRL_96 : Cond.methodLink RL 96 yX5_seats ∈ uW := uT 411 (by decide +kernel) rfl
theorem lRL_99 : Cond.methodLink RL 99 yX6_seats ∈ uW := uT 1048 (by decide +kernel) rfl
theorem lRL_100 : Cond.methodLink RL 100 yX5_same ∈ uW := uT 429 (by decide +kernel) rfl
theorem lRL_103 : Cond.methodLink RL 103 yX6_same ∈ uW := uT 1060 (by decide +kernel) rfl
theorem lRL_104 : Cond.methodLink RL 104 yX5_whatIs ∈ uW := uT 458 (by decide +kernel) rfl
theorem lRL_107 : Cond.methodLink RL 107 yX6_whatIs ∈ uW := uT 1088 (by decide +kernel) rfl
theorem lRL_108 : Cond.methodLink RL 108 yX5_whatWish ∈ uW := uT 474 (by decide +kernel) rfl
theorem lRL_111 : Cond.methodLink RL 111 yX6_whatWish ∈ uW := uT 1106 (by decide +kernel) rfl
theorem lRL_112 : Cond.methodLink RL 112 yX5_two ∈ uW := uT 481 (by decide +kernel) rfl
theorem lRL_115 : Cond.methodLink RL 115 yX6_two ∈ uW := uT 1114 (by decide +kernel) rfl
theorem lRL_116 : Cond.methodLink RL 116 yX5_mares ∈ uW := uT 490 (by decide +kernel) rfl
theorem lRL_120 : Cond.methodLink RL 120 yX6_mares ∈ uW := uT 1119 (by decide +kernel) rfl
theorem lRL_121 : Cond.methodLink RL 121 yX5_mean ∈ uW := uT 504 (by decide +kernel) rfl
theorem lRL_125 : Cond.methodLink RL 125 yX6_mean ∈ uW := uT 1130 (by decide +kernel) rfl
theorem lRL_126 : Cond.methodLink RL 126 yX5_forged ∈ uW := uT 508 (by decide +kernel) rfl
theorem lRL_129 : Cond.methodLink RL 129 yX6_forged ∈ uW := uT 1134 (by decide +kernel) rfl
theorem lRL_130 : Cond.methodLink RL 130 yX5_judge ∈ uW := uT 512 (by decide +kernel) rfl
theorem lRL_133 : Cond.methodLink RL 133 yX6_judge ∈ uW := uT 1138 (by decide +kernel) rfl
theorem lRL_134 : Cond.methodLink RL 134 yX5_years ∈ uW := uT 516 (by decide +kernel) rfl
theorem lRL_137 : Cond.methodLink RL 137 yX6_years ∈ uW := uT 1142 (by decide +kernel) rfl
theorem lRL_138 : Cond.methodLink RL 138 yX5_image ∈ uW := uT 526 (by decide +kernel) rfl
theorem lRL_142 : Cond.methodLink RL 142 yX6_image ∈ uW := uT 941 (by decide +kernel) rfl
theorem lRL_143 : Cond.methodLink RL 143 yX5_restore ∈ uW := uT 530 (by decide +kernel) rfl
theorem lRL_146 : Cond.methodLink RL 146 yX6_restore ∈ uW := uT 945 (by decide +kernel) rfl
theorem lRL_147 : Cond.methodLink RL 147 yX5_count ∈ uW := uT 534 (by decide +kernel) rfl
theorem lRL_150 : Cond.methodLink RL 150 yX6_count ∈ uW := uT 1153 (by decide +kernel) rfl
theorem lRL_151 : Cond.methodLink RL 151 yX5_keep ∈ uW := uT 538 (by decide +kernel) rfl
theorem lRL_155 : Cond.methodLink RL 155 yX6_keep ∈ uW := uT 1157 (by decide +kernel) rfl
theorem lRL_156 : Cond.methodLink RL 156 yX5_row ∈ uW := uT 552 (by decide +kernel) rfl
theorem lRL_159 : Cond.methodLink RL 159 yX6_row ∈ uW := uT 1161 (by decide +kernel) rfl
theorem lRL_160 : Cond.methodLink RL 160 yX5_put ∈ uW := uT 563 (by decide +kernel) rfl
theorem lRL_163 : Cond.methodLink RL 163 yX6_put ∈ uW := uT 1165 (by decide +kernel) rfl
theorem lRL_164 : Cond.methodLink RL 164 yL_element ∈ uW := uT 697 (by decide +kernel) rfl
theorem lRL_169 : Cond.methodLink RL 169 yX6_element ∈ uW := uT 1172 (by decide +kernel) rfl
theorem lRL_170 : Cond.methodLink RL 170 yX6_thrown ∈ uW := uT 837 (by decide +kernel) rfl
theorem lRL_173 : Cond.methodLink RL 173 yX5_copy ∈ uW := uT 571 (by decide +kernel) rfl
theorem lRL_177 : Cond.methodLink RL 177 yX6_copy ∈ uW := uT 1176 (by decide +kernel) rfl
theorem lRL_178 : Cond.methodLink RL 178 yX5_cost ∈ uW := uT 580 (by decide +kernel) rfl
theorem lRL_181 : Cond.methodLink RL 181 yX6_cost ∈ uW := uT 1180 (by decide +kernel) rfl
theorem lRL_182 : Cond.methodLink RL 182 yX5_toss ∈ uW := uT 587 (by decide +kernel) rfl
theorem lRL_185 : Cond.methodLink RL 185 yX6_toss ∈ uW := uT 1187 (by decide +kernel) rfl
theorem lRX6_81 : Cond.methodLink RX6 81 yX6_in ∈ uW := uT 850 (by decide +kernel) rfl
theorem lRX6_88 : Cond.methodLink RX6 88 yX6_held ∈ uW := uT 894 (by decide +kernel) rfl
theorem lRX6_95 : Cond.methodLink RX6 95 yX6_dreamsOf ∈ uW := uT 917 (by decide +kernel) rfl
theorem lRX6_105 : Cond.methodLink RX6 105 yX6_hasBit ∈ uW := uT 910 (by decide +kernel) rfl
theorem lRX6_109 : Cond.methodLink RX6 109 yX6_eatsOf ∈ uW := uT 921 (by decide +kernel) rfl
theorem lRX6_113 : Cond.methodLink RX6 113 yX6_gainsOf ∈ uW := uT 925 (by decide +kernel) rfl
theorem lRX6_128 : Cond.methodLink RX6 128 yX6_breakfast ∈ uW := uT 913 (by decide +kernel) rfl
theorem lRX6_132 : Cond.methodLink RX6 132 yX6_nightOn ∈ uW := uT 906 (by decide +kernel) rfl
theorem lRX6_144 : Cond.methodLink RX6 144 yX6_here ∈ uW := uT 857 (by decide +kernel) rfl
theorem lRX6_152 : Cond.methodLink RX6 152 yX6_readDigits ∈ uW := uT 868 (by decide +kernel) rfl
theorem lRX6_158 : Cond.methodLink RX6 158 yX6_isLetter ∈ uW := uT 861 (by decide +kernel) rfl
theorem lRX6_162 : Cond.methodLink RX6 162 yX6_readNumbers ∈ uW := uT 864 (by decide +kernel) rfl
theorem lRX6_168 : Cond.methodLink RX6 168 yX6_goNights ∈ uW := uT 902 (by decide +kernel) rfl
theorem lRX6_171 : Cond.methodLink RX6 171 yX6_isOne ∈ uW := uT 933 (by decide +kernel) rfl
theorem lRX6_174 : Cond.methodLink RX6 174 yX6_guestComes ∈ uW := uT 890 (by decide +kernel) rfl
theorem lRX6_178 : Cond.methodLink RX6 178 yX6_nightsCome ∈ uW := uT 897 (by decide +kernel) rfl
theorem lRX6_181 : Cond.methodLink RX6 181 yX6_ofGuest ∈ uW := uT 929 (by decide +kernel) rfl
theorem lRX6_184 : Cond.methodLink RX6 184 yX6_wrongRow ∈ uW := uT 845 (by decide +kernel) rfl
theorem lRX6_187 : Cond.methodLink RX6 187 yX6_readStatement ∈ uW := uT 853 (by decide +kernel) rfl
theorem lRX6_190 : Cond.methodLink RX6 190 yX6_think ∈ uW := uT 874 (by decide +kernel) rfl
theorem lRX6_193 : Cond.methodLink RX6 193 yX6_comesTold ∈ uW := uT 886 (by decide +kernel) rfl
theorem lRX6_196 : Cond.methodLink RX6 196 yX6_again ∈ uW := uT 937 (by decide +kernel) rfl
theorem lRX6_208 : Cond.methodLink RX6 208 yX6_carry ∈ uW := uT 882 (by decide +kernel) rfl
theorem lRX6_211 : Cond.methodLink RX6 211 yX6_carryAll ∈ uW := uT 878 (by decide +kernel) rfl
theorem lRX6_220 : Cond.methodLink RX6 220 yX6_isPlate ∈ uW := uT 957 (by decide +kernel) rfl
theorem lRX6_223 : Cond.methodLink RX6 223 yX6_wrongKept ∈ uW := uT 965 (by decide +kernel) rfl
theorem lRX6_228 : Cond.methodLink RX6 228 yX6_onesOf ∈ uW := uT 986 (by decide +kernel) rfl
theorem lRX6_235 : Cond.methodLink RX6 235 yX6_leavesIn ∈ uW := uT 1007 (by decide +kernel) rfl
theorem lRX6_238 : Cond.methodLink RX6 238 yX6_dreamsNext ∈ uW := uT 1019 (by decide +kernel) rfl
theorem lRX6_241 : Cond.methodLink RX6 241 yX6_lackingThen ∈ uW := uT 1031 (by decide +kernel) rfl
theorem lRX6_246 : Cond.methodLink RX6 246 yX6_healthBut ∈ uW := uT 1044 (by decide +kernel) rfl
theorem lRX6_249 : Cond.methodLink RX6 249 yX6_isUnlike ∈ uW := uT 1056 (by decide +kernel) rfl
theorem lRX6_252 : Cond.methodLink RX6 252 yX6_laySeats ∈ uW := uT 1052 (by decide +kernel) rfl
theorem lRX6_255 : Cond.methodLink RX6 255 yX6_sameTwos ∈ uW := uT 1064 (by decide +kernel) rfl
theorem lRX6_258 : Cond.methodLink RX6 258 yX6_wellest ∈ uW := uT 1068 (by decide +kernel) rfl
theorem lRX6_261 : Cond.methodLink RX6 261 yX6_fullestPlate ∈ uW := uT 1072 (by decide +kernel) rfl
theorem lRX6_264 : Cond.methodLink RX6 264 yX6_allPlates ∈ uW := uT 1076 (by decide +kernel) rfl
theorem lRX6_267 : Cond.methodLink RX6 267 yX6_emptyPlates ∈ uW := uT 1080 (by decide +kernel) rfl
theorem lRX6_270 : Cond.methodLink RX6 270 yX6_platesOf ∈ uW := uT 1084 (by decide +kernel) rfl
theorem lRX6_280 : Cond.methodLink RX6 280 yX6_leastOf ∈ uW := uT 1100 (by decide +kernel) rfl
theorem lRX6_284 : Cond.methodLink RX6 284 yX6_isSkipped ∈ uW := uT 1096 (by decide +kernel) rfl
theorem lRX6_287 : Cond.methodLink RX6 287 yX6_isHealthRow ∈ uW := uT 1092 (by decide +kernel) rfl
theorem lRX6_290 : Cond.methodLink RX6 290 yX6_isPlateRow ∈ uW := uT 1110 (by decide +kernel) rfl
theorem lRX6_295 : Cond.methodLink RX6 295 yX6_divisor ∈ uW := uT 1127 (by decide +kernel) rfl
theorem lRX6_301 : Cond.methodLink RX6 301 yX6_partOf ∈ uW := uT 1124 (by decide +kernel) rfl
theorem lRX6_311 : Cond.methodLink RX6 311 yX6_drawBelow ∈ uW := uT 1146 (by decide +kernel) rfl
theorem lRX6_314 : Cond.methodLink RX6 314 yX6_narrowed ∈ uW := uT 1169 (by decide +kernel) rfl
theorem lRX6_318 : Cond.methodLink RX6 318 yX6_costOf ∈ uW := uT 1184 (by decide +kernel) rfl
end
section
theorem all_tbl {l : List Cond} (h : l.all (fun w => decide (w ∈ tables_1) && goodWord w) = true) : ∀ w ∈ l, w ∈ uW := by
  intro w hw
  have h1 := List.all_eq_true.mp h w hw
  simp only [Bool.and_eq_true, decide_eq_true_eq] at h1
  exact uW_of (List.mem_append_right _ h1.1) h1.2
theorem inX0 : ∀ w ∈ u_ws RX0 TX0 13, w ∈ uW := all_tbl (by decide +kernel)
theorem inX2 : ∀ w ∈ u_ws RX2 TX2 2, w ∈ uW := all_tbl (by decide +kernel)
theorem inX3 : ∀ w ∈ u_ws RX3 TX3 6, w ∈ uW := all_tbl (by decide +kernel)
theorem inX5 : ∀ w ∈ u_ws RX5 TX5 7, w ∈ uW := all_tbl (by decide +kernel)
theorem inX6 : ∀ w ∈ u_ws RX6 TX6 39, w ∈ uW := all_tbl (by decide +kernel)
def flX0 : List (Nat × (Nat × Nat × Nat)) := [(9, (0, 0, 9)), (15, (0, 1, 9)), (18, (0, 2, 9)), (21, (0, 3, 9)), (24, (0, 4, 9)), (27, (0, 5, 9)), (36, (0, 6, 0)), (40, (0, 7, 0)), (43, (0, 8, 0)), (46, (0, 9, 0)), (49, (0, 10, 0)), (52, (0, 11, 0)), (55, (0, 12, 0))]
def fPX0 (own : String) (idx : Nat) (v : Nat × Nat × Nat) : Prop := ∃ (C : String) (T : u_T) (N : Nat) (t0 : Nat → FieldType), vwCl[v.1]? = some (C, T, N) ∧ v.2.1 < N ∧ (∀ w ∈ u_ws C T N, w ∈ uW) ∧ (T v.2.1).1 = C ∧ Cond.fieldLink own idx C (T v.2.1).2.1 (T v.2.1).2.2.1 ∈ uW ∧ (∀ k, k < N → parseFieldDescriptor (T k).2.2.1 = some (t0 k)) ∧ (∀ a, a < N → ∀ b, b < N → a ≠ b → (T a).2.1 ≠ (T b).2.1) ∧ (v.2.2 = 0 → (T v.2.1).2.2.2 = false ∧ t0 v.2.1 = .int) ∧ (v.2.2 = 1 → (T v.2.1).2.2.2 = false ∧ t0 v.2.1 = .boolean) ∧ (v.2.2 = 2 → (T v.2.1).2.2.2 = false ∧ ∃ t, t0 v.2.1 = .array t)
theorem fqX0_9 : fPX0 RX0 9 (0, 0, 9) := ⟨RX0, TX0, 13, tyX0, rfl, by decide, inX0, rfl, uT 31 (by decide +kernel) rfl, tyX0_ok, nmX0, (fun q => by cases q), (fun q => by cases q), (fun q => by cases q)⟩
theorem fqX0_15 : fPX0 RX0 15 (0, 1, 9) := ⟨RX0, TX0, 13, tyX0, rfl, by decide, inX0, rfl, uT 33 (by decide +kernel) rfl, tyX0_ok, nmX0, (fun q => by cases q), (fun q => by cases q), (fun q => by cases q)⟩
theorem fqX0_18 : fPX0 RX0 18 (0, 2, 9) := ⟨RX0, TX0, 13, tyX0, rfl, by decide, inX0, rfl, uT 35 (by decide +kernel) rfl, tyX0_ok, nmX0, (fun q => by cases q), (fun q => by cases q), (fun q => by cases q)⟩
theorem fqX0_21 : fPX0 RX0 21 (0, 3, 9) := ⟨RX0, TX0, 13, tyX0, rfl, by decide, inX0, rfl, uT 38 (by decide +kernel) rfl, tyX0_ok, nmX0, (fun q => by cases q), (fun q => by cases q), (fun q => by cases q)⟩
theorem fqX0_24 : fPX0 RX0 24 (0, 4, 9) := ⟨RX0, TX0, 13, tyX0, rfl, by decide, inX0, rfl, uT 41 (by decide +kernel) rfl, tyX0_ok, nmX0, (fun q => by cases q), (fun q => by cases q), (fun q => by cases q)⟩
theorem fqX0_27 : fPX0 RX0 27 (0, 5, 9) := ⟨RX0, TX0, 13, tyX0, rfl, by decide, inX0, rfl, uT 44 (by decide +kernel) rfl, tyX0_ok, nmX0, (fun q => by cases q), (fun q => by cases q), (fun q => by cases q)⟩
theorem fqX0_36 : fPX0 RX0 36 (0, 6, 0) := ⟨RX0, TX0, 13, tyX0, rfl, by decide, inX0, rfl, uT 48 (by decide +kernel) rfl, tyX0_ok, nmX0, fun _ => ⟨rfl, rfl⟩, (fun q => by cases q), (fun q => by cases q)⟩
theorem fqX0_40 : fPX0 RX0 40 (0, 7, 0) := ⟨RX0, TX0, 13, tyX0, rfl, by decide, inX0, rfl, uT 51 (by decide +kernel) rfl, tyX0_ok, nmX0, fun _ => ⟨rfl, rfl⟩, (fun q => by cases q), (fun q => by cases q)⟩
theorem fqX0_43 : fPX0 RX0 43 (0, 8, 0) := ⟨RX0, TX0, 13, tyX0, rfl, by decide, inX0, rfl, uT 54 (by decide +kernel) rfl, tyX0_ok, nmX0, fun _ => ⟨rfl, rfl⟩, (fun q => by cases q), (fun q => by cases q)⟩
theorem fqX0_46 : fPX0 RX0 46 (0, 9, 0) := ⟨RX0, TX0, 13, tyX0, rfl, by decide, inX0, rfl, uT 57 (by decide +kernel) rfl, tyX0_ok, nmX0, fun _ => ⟨rfl, rfl⟩, (fun q => by cases q), (fun q => by cases q)⟩
theorem fqX0_49 : fPX0 RX0 49 (0, 10, 0) := ⟨RX0, TX0, 13, tyX0, rfl, by decide, inX0, rfl, uT 59 (by decide +kernel) rfl, tyX0_ok, nmX0, fun _ => ⟨rfl, rfl⟩, (fun q => by cases q), (fun q => by cases q)⟩
theorem fqX0_52 : fPX0 RX0 52 (0, 11, 0) := ⟨RX0, TX0, 13, tyX0, rfl, by decide, inX0, rfl, uT 61 (by decide +kernel) rfl, tyX0_ok, nmX0, fun _ => ⟨rfl, rfl⟩, (fun q => by cases q), (fun q => by cases q)⟩
theorem fqX0_55 : fPX0 RX0 55 (0, 12, 0) := ⟨RX0, TX0, 13, tyX0, rfl, by decide, inX0, rfl, uT 63 (by decide +kernel) rfl, tyX0_ok, nmX0, fun _ => ⟨rfl, rfl⟩, (fun q => by cases q), (fun q => by cases q)⟩
theorem flX0_all : ∀ q ∈ flX0, fPX0 RX0 q.1 q.2 := List.forall_mem_cons.mpr ⟨fqX0_9, List.forall_mem_cons.mpr ⟨fqX0_15, List.forall_mem_cons.mpr ⟨fqX0_18, List.forall_mem_cons.mpr ⟨fqX0_21, List.forall_mem_cons.mpr ⟨fqX0_24, List.forall_mem_cons.mpr ⟨fqX0_27, List.forall_mem_cons.mpr ⟨fqX0_36, List.forall_mem_cons.mpr ⟨fqX0_40, List.forall_mem_cons.mpr ⟨fqX0_43, List.forall_mem_cons.mpr ⟨fqX0_46, List.forall_mem_cons.mpr ⟨fqX0_49, List.forall_mem_cons.mpr ⟨fqX0_52, List.forall_mem_cons.mpr ⟨fqX0_55, fun _ h => absurd h List.not_mem_nil⟩⟩⟩⟩⟩⟩⟩⟩⟩⟩⟩⟩⟩
theorem fdX0 : fdo RX0 (lkB flX0) := fun idx ci k ty h => lkF_e (P := fPX0 RX0) flX0_all h
def flX5 : List (Nat × (Nat × Nat × Nat)) := [(10, (3, 0, 9)), (16, (3, 1, 9)), (19, (3, 2, 9)), (22, (3, 3, 1)), (28, (3, 4, 9)), (36, (3, 5, 9)), (40, (3, 6, 9)), (48, (2, 3, 0)), (62, (2, 4, 0)), (65, (2, 5, 9)), (83, (0, 0, 9)), (86, (0, 1, 9)), (89, (0, 2, 9)), (92, (0, 3, 9)), (95, (0, 4, 9)), (113, (0, 5, 9)), (119, (2, 1, 0)), (122, (2, 2, 0)), (133, (0, 8, 0)), (140, (0, 7, 0)), (151, (0, 9, 0)), (154, (0, 10, 0)), (167, (0, 11, 0)), (180, (0, 6, 0)), (281, (2, 0, 0))]
def fPX5 (own : String) (idx : Nat) (v : Nat × Nat × Nat) : Prop := ∃ (C : String) (T : u_T) (N : Nat) (t0 : Nat → FieldType), vwCl[v.1]? = some (C, T, N) ∧ v.2.1 < N ∧ (∀ w ∈ u_ws C T N, w ∈ uW) ∧ (T v.2.1).1 = C ∧ Cond.fieldLink own idx C (T v.2.1).2.1 (T v.2.1).2.2.1 ∈ uW ∧ (∀ k, k < N → parseFieldDescriptor (T k).2.2.1 = some (t0 k)) ∧ (∀ a, a < N → ∀ b, b < N → a ≠ b → (T a).2.1 ≠ (T b).2.1) ∧ (v.2.2 = 0 → (T v.2.1).2.2.2 = false ∧ t0 v.2.1 = .int) ∧ (v.2.2 = 1 → (T v.2.1).2.2.2 = false ∧ t0 v.2.1 = .boolean) ∧ (v.2.2 = 2 → (T v.2.1).2.2.2 = false ∧ ∃ t, t0 v.2.1 = .array t)
theorem fqX5_10 : fPX5 RX5 10 (3, 0, 9) := ⟨RX5, TX5, 7, tyX5, rfl, by decide, inX5, rfl, uT 139 (by decide +kernel) rfl, tyX5_ok, nmX5, (fun q => by cases q), (fun q => by cases q), (fun q => by cases q)⟩
theorem fqX5_16 : fPX5 RX5 16 (3, 1, 9) := ⟨RX5, TX5, 7, tyX5, rfl, by decide, inX5, rfl, uT 140 (by decide +kernel) rfl, tyX5_ok, nmX5, (fun q => by cases q), (fun q => by cases q), (fun q => by cases q)⟩
theorem fqX5_19 : fPX5 RX5 19 (3, 2, 9) := ⟨RX5, TX5, 7, tyX5, rfl, by decide, inX5, rfl, uT 141 (by decide +kernel) rfl, tyX5_ok, nmX5, (fun q => by cases q), (fun q => by cases q), (fun q => by cases q)⟩
theorem fqX5_22 : fPX5 RX5 22 (3, 3, 1) := ⟨RX5, TX5, 7, tyX5, rfl, by decide, inX5, rfl, uT 142 (by decide +kernel) rfl, tyX5_ok, nmX5, (fun q => by cases q), fun _ => ⟨rfl, rfl⟩, (fun q => by cases q)⟩
theorem fqX5_28 : fPX5 RX5 28 (3, 4, 9) := ⟨RX5, TX5, 7, tyX5, rfl, by decide, inX5, rfl, uT 143 (by decide +kernel) rfl, tyX5_ok, nmX5, (fun q => by cases q), (fun q => by cases q), (fun q => by cases q)⟩
theorem fqX5_36 : fPX5 RX5 36 (3, 5, 9) := ⟨RX5, TX5, 7, tyX5, rfl, by decide, inX5, rfl, uT 144 (by decide +kernel) rfl, tyX5_ok, nmX5, (fun q => by cases q), (fun q => by cases q), (fun q => by cases q)⟩
theorem fqX5_40 : fPX5 RX5 40 (3, 6, 9) := ⟨RX5, TX5, 7, tyX5, rfl, by decide, inX5, rfl, uT 145 (by decide +kernel) rfl, tyX5_ok, nmX5, (fun q => by cases q), (fun q => by cases q), (fun q => by cases q)⟩
theorem fqX5_48 : fPX5 RX5 48 (2, 3, 0) := ⟨RX3, TX3, 6, tyX3, rfl, by decide, inX3, rfl, uT 105 (by decide +kernel) rfl, tyX3_ok, nmX3, fun _ => ⟨rfl, rfl⟩, (fun q => by cases q), (fun q => by cases q)⟩
theorem fqX5_62 : fPX5 RX5 62 (2, 4, 0) := ⟨RX3, TX3, 6, tyX3, rfl, by decide, inX3, rfl, uT 107 (by decide +kernel) rfl, tyX3_ok, nmX3, fun _ => ⟨rfl, rfl⟩, (fun q => by cases q), (fun q => by cases q)⟩
theorem fqX5_65 : fPX5 RX5 65 (2, 5, 9) := ⟨RX3, TX3, 6, tyX3, rfl, by decide, inX3, rfl, uT 111 (by decide +kernel) rfl, tyX3_ok, nmX3, (fun q => by cases q), (fun q => by cases q), (fun q => by cases q)⟩
theorem fqX5_83 : fPX5 RX5 83 (0, 0, 9) := ⟨RX0, TX0, 13, tyX0, rfl, by decide, inX0, rfl, uT 32 (by decide +kernel) rfl, tyX0_ok, nmX0, (fun q => by cases q), (fun q => by cases q), (fun q => by cases q)⟩
theorem fqX5_86 : fPX5 RX5 86 (0, 1, 9) := ⟨RX0, TX0, 13, tyX0, rfl, by decide, inX0, rfl, uT 34 (by decide +kernel) rfl, tyX0_ok, nmX0, (fun q => by cases q), (fun q => by cases q), (fun q => by cases q)⟩
theorem fqX5_89 : fPX5 RX5 89 (0, 2, 9) := ⟨RX0, TX0, 13, tyX0, rfl, by decide, inX0, rfl, uT 36 (by decide +kernel) rfl, tyX0_ok, nmX0, (fun q => by cases q), (fun q => by cases q), (fun q => by cases q)⟩
theorem fqX5_92 : fPX5 RX5 92 (0, 3, 9) := ⟨RX0, TX0, 13, tyX0, rfl, by decide, inX0, rfl, uT 39 (by decide +kernel) rfl, tyX0_ok, nmX0, (fun q => by cases q), (fun q => by cases q), (fun q => by cases q)⟩
theorem fqX5_95 : fPX5 RX5 95 (0, 4, 9) := ⟨RX0, TX0, 13, tyX0, rfl, by decide, inX0, rfl, uT 42 (by decide +kernel) rfl, tyX0_ok, nmX0, (fun q => by cases q), (fun q => by cases q), (fun q => by cases q)⟩
theorem fqX5_113 : fPX5 RX5 113 (0, 5, 9) := ⟨RX0, TX0, 13, tyX0, rfl, by decide, inX0, rfl, uT 45 (by decide +kernel) rfl, tyX0_ok, nmX0, (fun q => by cases q), (fun q => by cases q), (fun q => by cases q)⟩
theorem fqX5_119 : fPX5 RX5 119 (2, 1, 0) := ⟨RX3, TX3, 6, tyX3, rfl, by decide, inX3, rfl, uT 102 (by decide +kernel) rfl, tyX3_ok, nmX3, fun _ => ⟨rfl, rfl⟩, (fun q => by cases q), (fun q => by cases q)⟩
theorem fqX5_122 : fPX5 RX5 122 (2, 2, 0) := ⟨RX3, TX3, 6, tyX3, rfl, by decide, inX3, rfl, uT 104 (by decide +kernel) rfl, tyX3_ok, nmX3, fun _ => ⟨rfl, rfl⟩, (fun q => by cases q), (fun q => by cases q)⟩
theorem fqX5_133 : fPX5 RX5 133 (0, 8, 0) := ⟨RX0, TX0, 13, tyX0, rfl, by decide, inX0, rfl, uT 55 (by decide +kernel) rfl, tyX0_ok, nmX0, fun _ => ⟨rfl, rfl⟩, (fun q => by cases q), (fun q => by cases q)⟩
theorem fqX5_140 : fPX5 RX5 140 (0, 7, 0) := ⟨RX0, TX0, 13, tyX0, rfl, by decide, inX0, rfl, uT 52 (by decide +kernel) rfl, tyX0_ok, nmX0, fun _ => ⟨rfl, rfl⟩, (fun q => by cases q), (fun q => by cases q)⟩
theorem fqX5_151 : fPX5 RX5 151 (0, 9, 0) := ⟨RX0, TX0, 13, tyX0, rfl, by decide, inX0, rfl, uT 58 (by decide +kernel) rfl, tyX0_ok, nmX0, fun _ => ⟨rfl, rfl⟩, (fun q => by cases q), (fun q => by cases q)⟩
theorem fqX5_154 : fPX5 RX5 154 (0, 10, 0) := ⟨RX0, TX0, 13, tyX0, rfl, by decide, inX0, rfl, uT 60 (by decide +kernel) rfl, tyX0_ok, nmX0, fun _ => ⟨rfl, rfl⟩, (fun q => by cases q), (fun q => by cases q)⟩
theorem fqX5_167 : fPX5 RX5 167 (0, 11, 0) := ⟨RX0, TX0, 13, tyX0, rfl, by decide, inX0, rfl, uT 62 (by decide +kernel) rfl, tyX0_ok, nmX0, fun _ => ⟨rfl, rfl⟩, (fun q => by cases q), (fun q => by cases q)⟩
theorem fqX5_180 : fPX5 RX5 180 (0, 6, 0) := ⟨RX0, TX0, 13, tyX0, rfl, by decide, inX0, rfl, uT 49 (by decide +kernel) rfl, tyX0_ok, nmX0, fun _ => ⟨rfl, rfl⟩, (fun q => by cases q), (fun q => by cases q)⟩
theorem fqX5_281 : fPX5 RX5 281 (2, 0, 0) := ⟨RX3, TX3, 6, tyX3, rfl, by decide, inX3, rfl, uT 100 (by decide +kernel) rfl, tyX3_ok, nmX3, fun _ => ⟨rfl, rfl⟩, (fun q => by cases q), (fun q => by cases q)⟩
theorem flX5_all : ∀ q ∈ flX5, fPX5 RX5 q.1 q.2 := List.forall_mem_cons.mpr ⟨fqX5_10, List.forall_mem_cons.mpr ⟨fqX5_16, List.forall_mem_cons.mpr ⟨fqX5_19, List.forall_mem_cons.mpr ⟨fqX5_22, List.forall_mem_cons.mpr ⟨fqX5_28, List.forall_mem_cons.mpr ⟨fqX5_36, List.forall_mem_cons.mpr ⟨fqX5_40, List.forall_mem_cons.mpr ⟨fqX5_48, List.forall_mem_cons.mpr ⟨fqX5_62, List.forall_mem_cons.mpr ⟨fqX5_65, List.forall_mem_cons.mpr ⟨fqX5_83, List.forall_mem_cons.mpr ⟨fqX5_86, List.forall_mem_cons.mpr ⟨fqX5_89, List.forall_mem_cons.mpr ⟨fqX5_92, List.forall_mem_cons.mpr ⟨fqX5_95, List.forall_mem_cons.mpr ⟨fqX5_113, List.forall_mem_cons.mpr ⟨fqX5_119, List.forall_mem_cons.mpr ⟨fqX5_122, List.forall_mem_cons.mpr ⟨fqX5_133, List.forall_mem_cons.mpr ⟨fqX5_140, List.forall_mem_cons.mpr ⟨fqX5_151, List.forall_mem_cons.mpr ⟨fqX5_154, List.forall_mem_cons.mpr ⟨fqX5_167, List.forall_mem_cons.mpr ⟨fqX5_180, List.forall_mem_cons.mpr ⟨fqX5_281, fun _ h => absurd h List.not_mem_nil⟩⟩⟩⟩⟩⟩⟩⟩⟩⟩⟩⟩⟩⟩⟩⟩⟩⟩⟩⟩⟩⟩⟩⟩⟩
theorem fdX5 : fdo RX5 (lkB flX5) := fun idx ci k ty h => lkF_e (P := fPX5 RX5) flX5_all h
def flX4 : List (Nat × (Nat × Nat × Nat)) := [(11, (2, 4, 0)), (17, (2, 5, 9)), (67, (0, 5, 9)), (77, (0, 2, 9)), (80, (0, 3, 9)), (87, (0, 4, 9)), (90, (0, 7, 0)), (93, (0, 8, 0))]
def fPX4 (own : String) (idx : Nat) (v : Nat × Nat × Nat) : Prop := ∃ (C : String) (T : u_T) (N : Nat) (t0 : Nat → FieldType), vwCl[v.1]? = some (C, T, N) ∧ v.2.1 < N ∧ (∀ w ∈ u_ws C T N, w ∈ uW) ∧ (T v.2.1).1 = C ∧ Cond.fieldLink own idx C (T v.2.1).2.1 (T v.2.1).2.2.1 ∈ uW ∧ (∀ k, k < N → parseFieldDescriptor (T k).2.2.1 = some (t0 k)) ∧ (∀ a, a < N → ∀ b, b < N → a ≠ b → (T a).2.1 ≠ (T b).2.1) ∧ (v.2.2 = 0 → (T v.2.1).2.2.2 = false ∧ t0 v.2.1 = .int) ∧ (v.2.2 = 1 → (T v.2.1).2.2.2 = false ∧ t0 v.2.1 = .boolean) ∧ (v.2.2 = 2 → (T v.2.1).2.2.2 = false ∧ ∃ t, t0 v.2.1 = .array t)
theorem fqX4_11 : fPX4 RX4 11 (2, 4, 0) := ⟨RX3, TX3, 6, tyX3, rfl, by decide, inX3, rfl, uT 108 (by decide +kernel) rfl, tyX3_ok, nmX3, fun _ => ⟨rfl, rfl⟩, (fun q => by cases q), (fun q => by cases q)⟩
theorem fqX4_17 : fPX4 RX4 17 (2, 5, 9) := ⟨RX3, TX3, 6, tyX3, rfl, by decide, inX3, rfl, uT 112 (by decide +kernel) rfl, tyX3_ok, nmX3, (fun q => by cases q), (fun q => by cases q), (fun q => by cases q)⟩
theorem fqX4_67 : fPX4 RX4 67 (0, 5, 9) := ⟨RX0, TX0, 13, tyX0, rfl, by decide, inX0, rfl, uT 46 (by decide +kernel) rfl, tyX0_ok, nmX0, (fun q => by cases q), (fun q => by cases q), (fun q => by cases q)⟩
theorem fqX4_77 : fPX4 RX4 77 (0, 2, 9) := ⟨RX0, TX0, 13, tyX0, rfl, by decide, inX0, rfl, uT 37 (by decide +kernel) rfl, tyX0_ok, nmX0, (fun q => by cases q), (fun q => by cases q), (fun q => by cases q)⟩
theorem fqX4_80 : fPX4 RX4 80 (0, 3, 9) := ⟨RX0, TX0, 13, tyX0, rfl, by decide, inX0, rfl, uT 40 (by decide +kernel) rfl, tyX0_ok, nmX0, (fun q => by cases q), (fun q => by cases q), (fun q => by cases q)⟩
theorem fqX4_87 : fPX4 RX4 87 (0, 4, 9) := ⟨RX0, TX0, 13, tyX0, rfl, by decide, inX0, rfl, uT 43 (by decide +kernel) rfl, tyX0_ok, nmX0, (fun q => by cases q), (fun q => by cases q), (fun q => by cases q)⟩
theorem fqX4_90 : fPX4 RX4 90 (0, 7, 0) := ⟨RX0, TX0, 13, tyX0, rfl, by decide, inX0, rfl, uT 53 (by decide +kernel) rfl, tyX0_ok, nmX0, fun _ => ⟨rfl, rfl⟩, (fun q => by cases q), (fun q => by cases q)⟩
theorem fqX4_93 : fPX4 RX4 93 (0, 8, 0) := ⟨RX0, TX0, 13, tyX0, rfl, by decide, inX0, rfl, uT 56 (by decide +kernel) rfl, tyX0_ok, nmX0, fun _ => ⟨rfl, rfl⟩, (fun q => by cases q), (fun q => by cases q)⟩
theorem flX4_all : ∀ q ∈ flX4, fPX4 RX4 q.1 q.2 := List.forall_mem_cons.mpr ⟨fqX4_11, List.forall_mem_cons.mpr ⟨fqX4_17, List.forall_mem_cons.mpr ⟨fqX4_67, List.forall_mem_cons.mpr ⟨fqX4_77, List.forall_mem_cons.mpr ⟨fqX4_80, List.forall_mem_cons.mpr ⟨fqX4_87, List.forall_mem_cons.mpr ⟨fqX4_90, List.forall_mem_cons.mpr ⟨fqX4_93, fun _ h => absurd h List.not_mem_nil⟩⟩⟩⟩⟩⟩⟩⟩
theorem fdX4 : fdo RX4 (lkB flX4) := fun idx ci k ty h => lkF_e (P := fPX4 RX4) flX4_all h
def flX2 : List (Nat × (Nat × Nat × Nat)) := [(9, (1, 0, 9)), (15, (1, 1, 9)), (18, (0, 7, 0)), (30, (0, 6, 0))]
def fPX2 (own : String) (idx : Nat) (v : Nat × Nat × Nat) : Prop := ∃ (C : String) (T : u_T) (N : Nat) (t0 : Nat → FieldType), vwCl[v.1]? = some (C, T, N) ∧ v.2.1 < N ∧ (∀ w ∈ u_ws C T N, w ∈ uW) ∧ (T v.2.1).1 = C ∧ Cond.fieldLink own idx C (T v.2.1).2.1 (T v.2.1).2.2.1 ∈ uW ∧ (∀ k, k < N → parseFieldDescriptor (T k).2.2.1 = some (t0 k)) ∧ (∀ a, a < N → ∀ b, b < N → a ≠ b → (T a).2.1 ≠ (T b).2.1) ∧ (v.2.2 = 0 → (T v.2.1).2.2.2 = false ∧ t0 v.2.1 = .int) ∧ (v.2.2 = 1 → (T v.2.1).2.2.2 = false ∧ t0 v.2.1 = .boolean) ∧ (v.2.2 = 2 → (T v.2.1).2.2.2 = false ∧ ∃ t, t0 v.2.1 = .array t)
theorem fqX2_9 : fPX2 RX2 9 (1, 0, 9) := ⟨RX2, TX2, 2, tyX2, rfl, by decide, inX2, rfl, uT 132 (by decide +kernel) rfl, tyX2_ok, nmX2, (fun q => by cases q), (fun q => by cases q), (fun q => by cases q)⟩
theorem fqX2_15 : fPX2 RX2 15 (1, 1, 9) := ⟨RX2, TX2, 2, tyX2, rfl, by decide, inX2, rfl, uT 133 (by decide +kernel) rfl, tyX2_ok, nmX2, (fun q => by cases q), (fun q => by cases q), (fun q => by cases q)⟩
theorem fqX2_18 : fPX2 RX2 18 (0, 7, 0) := ⟨RX0, TX0, 13, tyX0, rfl, by decide, inX0, rfl, uT 50 (by decide +kernel) rfl, tyX0_ok, nmX0, fun _ => ⟨rfl, rfl⟩, (fun q => by cases q), (fun q => by cases q)⟩
theorem fqX2_30 : fPX2 RX2 30 (0, 6, 0) := ⟨RX0, TX0, 13, tyX0, rfl, by decide, inX0, rfl, uT 47 (by decide +kernel) rfl, tyX0_ok, nmX0, fun _ => ⟨rfl, rfl⟩, (fun q => by cases q), (fun q => by cases q)⟩
theorem flX2_all : ∀ q ∈ flX2, fPX2 RX2 q.1 q.2 := List.forall_mem_cons.mpr ⟨fqX2_9, List.forall_mem_cons.mpr ⟨fqX2_15, List.forall_mem_cons.mpr ⟨fqX2_18, List.forall_mem_cons.mpr ⟨fqX2_30, fun _ h => absurd h List.not_mem_nil⟩⟩⟩⟩
theorem fdX2 : fdo RX2 (lkB flX2) := fun idx ci k ty h => lkF_e (P := fPX2 RX2) flX2_all h
def flX3 : List (Nat × (Nat × Nat × Nat)) := [(11, (2, 0, 0)), (15, (2, 5, 9)), (23, (2, 1, 0)), (26, (2, 2, 0)), (29, (2, 3, 0)), (32, (2, 4, 0))]
def fPX3 (own : String) (idx : Nat) (v : Nat × Nat × Nat) : Prop := ∃ (C : String) (T : u_T) (N : Nat) (t0 : Nat → FieldType), vwCl[v.1]? = some (C, T, N) ∧ v.2.1 < N ∧ (∀ w ∈ u_ws C T N, w ∈ uW) ∧ (T v.2.1).1 = C ∧ Cond.fieldLink own idx C (T v.2.1).2.1 (T v.2.1).2.2.1 ∈ uW ∧ (∀ k, k < N → parseFieldDescriptor (T k).2.2.1 = some (t0 k)) ∧ (∀ a, a < N → ∀ b, b < N → a ≠ b → (T a).2.1 ≠ (T b).2.1) ∧ (v.2.2 = 0 → (T v.2.1).2.2.2 = false ∧ t0 v.2.1 = .int) ∧ (v.2.2 = 1 → (T v.2.1).2.2.2 = false ∧ t0 v.2.1 = .boolean) ∧ (v.2.2 = 2 → (T v.2.1).2.2.2 = false ∧ ∃ t, t0 v.2.1 = .array t)
theorem fqX3_11 : fPX3 RX3 11 (2, 0, 0) := ⟨RX3, TX3, 6, tyX3, rfl, by decide, inX3, rfl, uT 99 (by decide +kernel) rfl, tyX3_ok, nmX3, fun _ => ⟨rfl, rfl⟩, (fun q => by cases q), (fun q => by cases q)⟩
theorem fqX3_15 : fPX3 RX3 15 (2, 5, 9) := ⟨RX3, TX3, 6, tyX3, rfl, by decide, inX3, rfl, uT 110 (by decide +kernel) rfl, tyX3_ok, nmX3, (fun q => by cases q), (fun q => by cases q), (fun q => by cases q)⟩
theorem fqX3_23 : fPX3 RX3 23 (2, 1, 0) := ⟨RX3, TX3, 6, tyX3, rfl, by decide, inX3, rfl, uT 101 (by decide +kernel) rfl, tyX3_ok, nmX3, fun _ => ⟨rfl, rfl⟩, (fun q => by cases q), (fun q => by cases q)⟩
theorem fqX3_26 : fPX3 RX3 26 (2, 2, 0) := ⟨RX3, TX3, 6, tyX3, rfl, by decide, inX3, rfl, uT 103 (by decide +kernel) rfl, tyX3_ok, nmX3, fun _ => ⟨rfl, rfl⟩, (fun q => by cases q), (fun q => by cases q)⟩
theorem fqX3_29 : fPX3 RX3 29 (2, 3, 0) := ⟨RX3, TX3, 6, tyX3, rfl, by decide, inX3, rfl, uT 106 (by decide +kernel) rfl, tyX3_ok, nmX3, fun _ => ⟨rfl, rfl⟩, (fun q => by cases q), (fun q => by cases q)⟩
theorem fqX3_32 : fPX3 RX3 32 (2, 4, 0) := ⟨RX3, TX3, 6, tyX3, rfl, by decide, inX3, rfl, uT 109 (by decide +kernel) rfl, tyX3_ok, nmX3, fun _ => ⟨rfl, rfl⟩, (fun q => by cases q), (fun q => by cases q)⟩
theorem flX3_all : ∀ q ∈ flX3, fPX3 RX3 q.1 q.2 := List.forall_mem_cons.mpr ⟨fqX3_11, List.forall_mem_cons.mpr ⟨fqX3_15, List.forall_mem_cons.mpr ⟨fqX3_23, List.forall_mem_cons.mpr ⟨fqX3_26, List.forall_mem_cons.mpr ⟨fqX3_29, List.forall_mem_cons.mpr ⟨fqX3_32, fun _ h => absurd h List.not_mem_nil⟩⟩⟩⟩⟩⟩
theorem fdX3 : fdo RX3 (lkB flX3) := fun idx ci k ty h => lkF_e (P := fPX3 RX3) flX3_all h
def flX6 : List (Nat × (Nat × Nat × Nat)) := [(7, (4, 0, 9)), (13, (4, 2, 9)), (16, (4, 3, 9)), (19, (4, 4, 9)), (22, (4, 5, 9)), (25, (4, 6, 9)), (28, (4, 13, 9)), (31, (4, 14, 9)), (34, (4, 15, 9)), (37, (4, 16, 9)), (40, (4, 17, 9)), (43, (4, 18, 9)), (47, (4, 25, 9)), (50, (4, 26, 9)), (53, (4, 27, 9)), (56, (4, 28, 9)), (59, (4, 29, 9)), (62, (4, 34, 9)), (65, (4, 35, 9)), (69, (4, 36, 9)), (72, (4, 38, 9)), (75, (4, 19, 0)), (85, (4, 1, 0)), (92, (4, 10, 0)), (98, (4, 12, 1)), (102, (4, 11, 0)), (116, (4, 8, 0)), (119, (4, 20, 0)), (122, (4, 9, 0)), (125, (4, 7, 0)), (135, (4, 22, 0)), (138, (4, 21, 0)), (141, (4, 23, 1)), (155, (4, 24, 0)), (199, (4, 32, 1)), (202, (4, 33, 2)), (205, (4, 31, 0)), (215, (4, 30, 1)), (305, (4, 37, 0))]
def fPX6 (own : String) (idx : Nat) (v : Nat × Nat × Nat) : Prop := ∃ (C : String) (T : u_T) (N : Nat) (t0 : Nat → FieldType), vwCl[v.1]? = some (C, T, N) ∧ v.2.1 < N ∧ (∀ w ∈ u_ws C T N, w ∈ uW) ∧ (T v.2.1).1 = C ∧ Cond.fieldLink own idx C (T v.2.1).2.1 (T v.2.1).2.2.1 ∈ uW ∧ (∀ k, k < N → parseFieldDescriptor (T k).2.2.1 = some (t0 k)) ∧ (∀ a, a < N → ∀ b, b < N → a ≠ b → (T a).2.1 ≠ (T b).2.1) ∧ (v.2.2 = 0 → (T v.2.1).2.2.2 = false ∧ t0 v.2.1 = .int) ∧ (v.2.2 = 1 → (T v.2.1).2.2.2 = false ∧ t0 v.2.1 = .boolean) ∧ (v.2.2 = 2 → (T v.2.1).2.2.2 = false ∧ ∃ t, t0 v.2.1 = .array t)
theorem fqX6_7 : fPX6 RX6 7 (4, 0, 9) := ⟨RX6, TX6, 39, tyX6, rfl, by decide, inX6, rfl, uT 717 (by decide +kernel) rfl, tyX6_ok, nmX6, (fun q => by cases q), (fun q => by cases q), (fun q => by cases q)⟩
theorem fqX6_13 : fPX6 RX6 13 (4, 2, 9) := ⟨RX6, TX6, 39, tyX6, rfl, by decide, inX6, rfl, uT 719 (by decide +kernel) rfl, tyX6_ok, nmX6, (fun q => by cases q), (fun q => by cases q), (fun q => by cases q)⟩
theorem fqX6_16 : fPX6 RX6 16 (4, 3, 9) := ⟨RX6, TX6, 39, tyX6, rfl, by decide, inX6, rfl, uT 720 (by decide +kernel) rfl, tyX6_ok, nmX6, (fun q => by cases q), (fun q => by cases q), (fun q => by cases q)⟩
theorem fqX6_19 : fPX6 RX6 19 (4, 4, 9) := ⟨RX6, TX6, 39, tyX6, rfl, by decide, inX6, rfl, uT 721 (by decide +kernel) rfl, tyX6_ok, nmX6, (fun q => by cases q), (fun q => by cases q), (fun q => by cases q)⟩
theorem fqX6_22 : fPX6 RX6 22 (4, 5, 9) := ⟨RX6, TX6, 39, tyX6, rfl, by decide, inX6, rfl, uT 722 (by decide +kernel) rfl, tyX6_ok, nmX6, (fun q => by cases q), (fun q => by cases q), (fun q => by cases q)⟩
theorem fqX6_25 : fPX6 RX6 25 (4, 6, 9) := ⟨RX6, TX6, 39, tyX6, rfl, by decide, inX6, rfl, uT 723 (by decide +kernel) rfl, tyX6_ok, nmX6, (fun q => by cases q), (fun q => by cases q), (fun q => by cases q)⟩
theorem fqX6_28 : fPX6 RX6 28 (4, 13, 9) := ⟨RX6, TX6, 39, tyX6, rfl, by decide, inX6, rfl, uT 730 (by decide +kernel) rfl, tyX6_ok, nmX6, (fun q => by cases q), (fun q => by cases q), (fun q => by cases q)⟩
theorem fqX6_31 : fPX6 RX6 31 (4, 14, 9) := ⟨RX6, TX6, 39, tyX6, rfl, by decide, inX6, rfl, uT 731 (by decide +kernel) rfl, tyX6_ok, nmX6, (fun q => by cases q), (fun q => by cases q), (fun q => by cases q)⟩
theorem fqX6_34 : fPX6 RX6 34 (4, 15, 9) := ⟨RX6, TX6, 39, tyX6, rfl, by decide, inX6, rfl, uT 732 (by decide +kernel) rfl, tyX6_ok, nmX6, (fun q => by cases q), (fun q => by cases q), (fun q => by cases q)⟩
theorem fqX6_37 : fPX6 RX6 37 (4, 16, 9) := ⟨RX6, TX6, 39, tyX6, rfl, by decide, inX6, rfl, uT 733 (by decide +kernel) rfl, tyX6_ok, nmX6, (fun q => by cases q), (fun q => by cases q), (fun q => by cases q)⟩
theorem fqX6_40 : fPX6 RX6 40 (4, 17, 9) := ⟨RX6, TX6, 39, tyX6, rfl, by decide, inX6, rfl, uT 734 (by decide +kernel) rfl, tyX6_ok, nmX6, (fun q => by cases q), (fun q => by cases q), (fun q => by cases q)⟩
theorem fqX6_43 : fPX6 RX6 43 (4, 18, 9) := ⟨RX6, TX6, 39, tyX6, rfl, by decide, inX6, rfl, uT 735 (by decide +kernel) rfl, tyX6_ok, nmX6, (fun q => by cases q), (fun q => by cases q), (fun q => by cases q)⟩
theorem fqX6_47 : fPX6 RX6 47 (4, 25, 9) := ⟨RX6, TX6, 39, tyX6, rfl, by decide, inX6, rfl, uT 742 (by decide +kernel) rfl, tyX6_ok, nmX6, (fun q => by cases q), (fun q => by cases q), (fun q => by cases q)⟩
theorem fqX6_50 : fPX6 RX6 50 (4, 26, 9) := ⟨RX6, TX6, 39, tyX6, rfl, by decide, inX6, rfl, uT 743 (by decide +kernel) rfl, tyX6_ok, nmX6, (fun q => by cases q), (fun q => by cases q), (fun q => by cases q)⟩
theorem fqX6_53 : fPX6 RX6 53 (4, 27, 9) := ⟨RX6, TX6, 39, tyX6, rfl, by decide, inX6, rfl, uT 744 (by decide +kernel) rfl, tyX6_ok, nmX6, (fun q => by cases q), (fun q => by cases q), (fun q => by cases q)⟩
theorem fqX6_56 : fPX6 RX6 56 (4, 28, 9) := ⟨RX6, TX6, 39, tyX6, rfl, by decide, inX6, rfl, uT 745 (by decide +kernel) rfl, tyX6_ok, nmX6, (fun q => by cases q), (fun q => by cases q), (fun q => by cases q)⟩
theorem fqX6_59 : fPX6 RX6 59 (4, 29, 9) := ⟨RX6, TX6, 39, tyX6, rfl, by decide, inX6, rfl, uT 746 (by decide +kernel) rfl, tyX6_ok, nmX6, (fun q => by cases q), (fun q => by cases q), (fun q => by cases q)⟩
theorem fqX6_62 : fPX6 RX6 62 (4, 34, 9) := ⟨RX6, TX6, 39, tyX6, rfl, by decide, inX6, rfl, uT 751 (by decide +kernel) rfl, tyX6_ok, nmX6, (fun q => by cases q), (fun q => by cases q), (fun q => by cases q)⟩
theorem fqX6_65 : fPX6 RX6 65 (4, 35, 9) := ⟨RX6, TX6, 39, tyX6, rfl, by decide, inX6, rfl, uT 752 (by decide +kernel) rfl, tyX6_ok, nmX6, (fun q => by cases q), (fun q => by cases q), (fun q => by cases q)⟩
theorem fqX6_69 : fPX6 RX6 69 (4, 36, 9) := ⟨RX6, TX6, 39, tyX6, rfl, by decide, inX6, rfl, uT 753 (by decide +kernel) rfl, tyX6_ok, nmX6, (fun q => by cases q), (fun q => by cases q), (fun q => by cases q)⟩
theorem fqX6_72 : fPX6 RX6 72 (4, 38, 9) := ⟨RX6, TX6, 39, tyX6, rfl, by decide, inX6, rfl, uT 755 (by decide +kernel) rfl, tyX6_ok, nmX6, (fun q => by cases q), (fun q => by cases q), (fun q => by cases q)⟩
theorem fqX6_75 : fPX6 RX6 75 (4, 19, 0) := ⟨RX6, TX6, 39, tyX6, rfl, by decide, inX6, rfl, uT 736 (by decide +kernel) rfl, tyX6_ok, nmX6, fun _ => ⟨rfl, rfl⟩, (fun q => by cases q), (fun q => by cases q)⟩
theorem fqX6_85 : fPX6 RX6 85 (4, 1, 0) := ⟨RX6, TX6, 39, tyX6, rfl, by decide, inX6, rfl, uT 718 (by decide +kernel) rfl, tyX6_ok, nmX6, fun _ => ⟨rfl, rfl⟩, (fun q => by cases q), (fun q => by cases q)⟩
theorem fqX6_92 : fPX6 RX6 92 (4, 10, 0) := ⟨RX6, TX6, 39, tyX6, rfl, by decide, inX6, rfl, uT 727 (by decide +kernel) rfl, tyX6_ok, nmX6, fun _ => ⟨rfl, rfl⟩, (fun q => by cases q), (fun q => by cases q)⟩
theorem fqX6_98 : fPX6 RX6 98 (4, 12, 1) := ⟨RX6, TX6, 39, tyX6, rfl, by decide, inX6, rfl, uT 729 (by decide +kernel) rfl, tyX6_ok, nmX6, (fun q => by cases q), fun _ => ⟨rfl, rfl⟩, (fun q => by cases q)⟩
theorem fqX6_102 : fPX6 RX6 102 (4, 11, 0) := ⟨RX6, TX6, 39, tyX6, rfl, by decide, inX6, rfl, uT 728 (by decide +kernel) rfl, tyX6_ok, nmX6, fun _ => ⟨rfl, rfl⟩, (fun q => by cases q), (fun q => by cases q)⟩
theorem fqX6_116 : fPX6 RX6 116 (4, 8, 0) := ⟨RX6, TX6, 39, tyX6, rfl, by decide, inX6, rfl, uT 725 (by decide +kernel) rfl, tyX6_ok, nmX6, fun _ => ⟨rfl, rfl⟩, (fun q => by cases q), (fun q => by cases q)⟩
theorem fqX6_119 : fPX6 RX6 119 (4, 20, 0) := ⟨RX6, TX6, 39, tyX6, rfl, by decide, inX6, rfl, uT 737 (by decide +kernel) rfl, tyX6_ok, nmX6, fun _ => ⟨rfl, rfl⟩, (fun q => by cases q), (fun q => by cases q)⟩
theorem fqX6_122 : fPX6 RX6 122 (4, 9, 0) := ⟨RX6, TX6, 39, tyX6, rfl, by decide, inX6, rfl, uT 726 (by decide +kernel) rfl, tyX6_ok, nmX6, fun _ => ⟨rfl, rfl⟩, (fun q => by cases q), (fun q => by cases q)⟩
theorem fqX6_125 : fPX6 RX6 125 (4, 7, 0) := ⟨RX6, TX6, 39, tyX6, rfl, by decide, inX6, rfl, uT 724 (by decide +kernel) rfl, tyX6_ok, nmX6, fun _ => ⟨rfl, rfl⟩, (fun q => by cases q), (fun q => by cases q)⟩
theorem fqX6_135 : fPX6 RX6 135 (4, 22, 0) := ⟨RX6, TX6, 39, tyX6, rfl, by decide, inX6, rfl, uT 739 (by decide +kernel) rfl, tyX6_ok, nmX6, fun _ => ⟨rfl, rfl⟩, (fun q => by cases q), (fun q => by cases q)⟩
theorem fqX6_138 : fPX6 RX6 138 (4, 21, 0) := ⟨RX6, TX6, 39, tyX6, rfl, by decide, inX6, rfl, uT 738 (by decide +kernel) rfl, tyX6_ok, nmX6, fun _ => ⟨rfl, rfl⟩, (fun q => by cases q), (fun q => by cases q)⟩
theorem fqX6_141 : fPX6 RX6 141 (4, 23, 1) := ⟨RX6, TX6, 39, tyX6, rfl, by decide, inX6, rfl, uT 740 (by decide +kernel) rfl, tyX6_ok, nmX6, (fun q => by cases q), fun _ => ⟨rfl, rfl⟩, (fun q => by cases q)⟩
theorem fqX6_155 : fPX6 RX6 155 (4, 24, 0) := ⟨RX6, TX6, 39, tyX6, rfl, by decide, inX6, rfl, uT 741 (by decide +kernel) rfl, tyX6_ok, nmX6, fun _ => ⟨rfl, rfl⟩, (fun q => by cases q), (fun q => by cases q)⟩
theorem fqX6_199 : fPX6 RX6 199 (4, 32, 1) := ⟨RX6, TX6, 39, tyX6, rfl, by decide, inX6, rfl, uT 749 (by decide +kernel) rfl, tyX6_ok, nmX6, (fun q => by cases q), fun _ => ⟨rfl, rfl⟩, (fun q => by cases q)⟩
theorem fqX6_202 : fPX6 RX6 202 (4, 33, 2) := ⟨RX6, TX6, 39, tyX6, rfl, by decide, inX6, rfl, uT 750 (by decide +kernel) rfl, tyX6_ok, nmX6, (fun q => by cases q), (fun q => by cases q), fun _ => ⟨rfl, _, rfl⟩⟩
theorem fqX6_205 : fPX6 RX6 205 (4, 31, 0) := ⟨RX6, TX6, 39, tyX6, rfl, by decide, inX6, rfl, uT 748 (by decide +kernel) rfl, tyX6_ok, nmX6, fun _ => ⟨rfl, rfl⟩, (fun q => by cases q), (fun q => by cases q)⟩
theorem fqX6_215 : fPX6 RX6 215 (4, 30, 1) := ⟨RX6, TX6, 39, tyX6, rfl, by decide, inX6, rfl, uT 747 (by decide +kernel) rfl, tyX6_ok, nmX6, (fun q => by cases q), fun _ => ⟨rfl, rfl⟩, (fun q => by cases q)⟩
theorem fqX6_305 : fPX6 RX6 305 (4, 37, 0) := ⟨RX6, TX6, 39, tyX6, rfl, by decide, inX6, rfl, uT 754 (by decide +kernel) rfl, tyX6_ok, nmX6, fun _ => ⟨rfl, rfl⟩, (fun q => by cases q), (fun q => by cases q)⟩
theorem flX6_all : ∀ q ∈ flX6, fPX6 RX6 q.1 q.2 := List.forall_mem_cons.mpr ⟨fqX6_7, List.forall_mem_cons.mpr ⟨fqX6_13, List.forall_mem_cons.mpr ⟨fqX6_16, List.forall_mem_cons.mpr ⟨fqX6_19, List.forall_mem_cons.mpr ⟨fqX6_22, List.forall_mem_cons.mpr ⟨fqX6_25, List.forall_mem_cons.mpr ⟨fqX6_28, List.forall_mem_cons.mpr ⟨fqX6_31, List.forall_mem_cons.mpr ⟨fqX6_34, List.forall_mem_cons.mpr ⟨fqX6_37, List.forall_mem_cons.mpr ⟨fqX6_40, List.forall_mem_cons.mpr ⟨fqX6_43, List.forall_mem_cons.mpr ⟨fqX6_47, List.forall_mem_cons.mpr ⟨fqX6_50, List.forall_mem_cons.mpr ⟨fqX6_53, List.forall_mem_cons.mpr ⟨fqX6_56, List.forall_mem_cons.mpr ⟨fqX6_59, List.forall_mem_cons.mpr ⟨fqX6_62, List.forall_mem_cons.mpr ⟨fqX6_65, List.forall_mem_cons.mpr ⟨fqX6_69, List.forall_mem_cons.mpr ⟨fqX6_72, List.forall_mem_cons.mpr ⟨fqX6_75, List.forall_mem_cons.mpr ⟨fqX6_85, List.forall_mem_cons.mpr ⟨fqX6_92, List.forall_mem_cons.mpr ⟨fqX6_98, List.forall_mem_cons.mpr ⟨fqX6_102, List.forall_mem_cons.mpr ⟨fqX6_116, List.forall_mem_cons.mpr ⟨fqX6_119, List.forall_mem_cons.mpr ⟨fqX6_122, List.forall_mem_cons.mpr ⟨fqX6_125, List.forall_mem_cons.mpr ⟨fqX6_135, List.forall_mem_cons.mpr ⟨fqX6_138, List.forall_mem_cons.mpr ⟨fqX6_141, List.forall_mem_cons.mpr ⟨fqX6_155, List.forall_mem_cons.mpr ⟨fqX6_199, List.forall_mem_cons.mpr ⟨fqX6_202, List.forall_mem_cons.mpr ⟨fqX6_205, List.forall_mem_cons.mpr ⟨fqX6_215, List.forall_mem_cons.mpr ⟨fqX6_305, fun _ h => absurd h List.not_mem_nil⟩⟩⟩⟩⟩⟩⟩⟩⟩⟩⟩⟩⟩⟩⟩⟩⟩⟩⟩⟩⟩⟩⟩⟩⟩⟩⟩⟩⟩⟩⟩⟩⟩⟩⟩⟩⟩⟩⟩
theorem fdX6 : fdo RX6 (lkB flX6) := fun idx ci k ty h => lkF_e (P := fPX6 RX6) flX6_all h
def flX1 : List (Nat × (Nat × Nat × Nat)) := []
theorem fdX1 : fdo RX1 (lkB flX1) := fun idx ci k ty h => by cases h
def flJ6 : List (Nat × (Nat × Nat × Nat)) := []
theorem fdJ6 : fdo RJ6 (lkB flJ6) := fun idx ci k ty h => by cases h
def csX0 : List (Nat × Int32) := []
def clX0 : List (Nat × Int64) := []
theorem csX0_all : ∀ q ∈ csX0, Cond.constant RX0 q.1 q.2 ∈ uW := fun _ h => absurd h List.not_mem_nil
theorem clX0_all : ∀ q ∈ clX0, Cond.constantLong RX0 q.1 q.2 ∈ uW := fun _ h => absurd h List.not_mem_nil
theorem cdX0 : cdo RX0 (lkB csX0) (lkB clX0) := ⟨fun i v h => lkF_e (P := fun i v => Cond.constant RX0 i v ∈ uW) csX0_all h, fun i v h => lkF_e (P := fun i v => Cond.constantLong RX0 i v ∈ uW) clX0_all h⟩
def csX1 : List (Nat × Int32) := []
def clX1 : List (Nat × Int64) := []
theorem csX1_all : ∀ q ∈ csX1, Cond.constant RX1 q.1 q.2 ∈ uW := fun _ h => absurd h List.not_mem_nil
theorem clX1_all : ∀ q ∈ clX1, Cond.constantLong RX1 q.1 q.2 ∈ uW := fun _ h => absurd h List.not_mem_nil
theorem cdX1 : cdo RX1 (lkB csX1) (lkB clX1) := ⟨fun i v h => lkF_e (P := fun i v => Cond.constant RX1 i v ∈ uW) csX1_all h, fun i v h => lkF_e (P := fun i v => Cond.constantLong RX1 i v ∈ uW) clX1_all h⟩
def csX2 : List (Nat × Int32) := []
def clX2 : List (Nat × Int64) := []
theorem csX2_all : ∀ q ∈ csX2, Cond.constant RX2 q.1 q.2 ∈ uW := fun _ h => absurd h List.not_mem_nil
theorem clX2_all : ∀ q ∈ clX2, Cond.constantLong RX2 q.1 q.2 ∈ uW := fun _ h => absurd h List.not_mem_nil
theorem cdX2 : cdo RX2 (lkB csX2) (lkB clX2) := ⟨fun i v h => lkF_e (P := fun i v => Cond.constant RX2 i v ∈ uW) csX2_all h, fun i v h => lkF_e (P := fun i v => Cond.constantLong RX2 i v ∈ uW) clX2_all h⟩
def csX3 : List (Nat × Int32) := [(39, -2147483648)]
def clX3 : List (Nat × Int64) := []
theorem csX3_all : ∀ q ∈ csX3, Cond.constant RX3 q.1 q.2 ∈ uW := List.forall_mem_cons.mpr ⟨uT 473 (by decide +kernel) rfl, fun _ h => absurd h List.not_mem_nil⟩
theorem clX3_all : ∀ q ∈ clX3, Cond.constantLong RX3 q.1 q.2 ∈ uW := fun _ h => absurd h List.not_mem_nil
theorem cdX3 : cdo RX3 (lkB csX3) (lkB clX3) := ⟨fun i v h => lkF_e (P := fun i v => Cond.constant RX3 i v ∈ uW) csX3_all h, fun i v h => lkF_e (P := fun i v => Cond.constantLong RX3 i v ∈ uW) clX3_all h⟩
def csX4 : List (Nat × Int32) := []
def clX4 : List (Nat × Int64) := []
theorem csX4_all : ∀ q ∈ csX4, Cond.constant RX4 q.1 q.2 ∈ uW := fun _ h => absurd h List.not_mem_nil
theorem clX4_all : ∀ q ∈ clX4, Cond.constantLong RX4 q.1 q.2 ∈ uW := fun _ h => absurd h List.not_mem_nil
theorem cdX4 : cdo RX4 (lkB csX4) (lkB clX4) := ⟨fun i v h => lkF_e (P := fun i v => Cond.constant RX4 i v ∈ uW) csX4_all h, fun i v h => lkF_e (P := fun i v => Cond.constantLong RX4 i v ∈ uW) clX4_all h⟩
def csX5 : List (Nat × Int32) := [(243, 1103515245), (244, 2147483647), (245, 65536)]
def clX5 : List (Nat × Int64) := [(311, 1000000000)]
theorem csX5_all : ∀ q ∈ csX5, Cond.constant RX5 q.1 q.2 ∈ uW := List.forall_mem_cons.mpr ⟨uT 523 (by decide +kernel) rfl, List.forall_mem_cons.mpr ⟨uT 524 (by decide +kernel) rfl, List.forall_mem_cons.mpr ⟨uT 525 (by decide +kernel) rfl, fun _ h => absurd h List.not_mem_nil⟩⟩⟩
theorem clX5_all : ∀ q ∈ clX5, Cond.constantLong RX5 q.1 q.2 ∈ uW := List.forall_mem_cons.mpr ⟨uT 497 (by decide +kernel) rfl, fun _ h => absurd h List.not_mem_nil⟩
theorem cdX5 : cdo RX5 (lkB csX5) (lkB clX5) := ⟨fun i v h => lkF_e (P := fun i v => Cond.constant RX5 i v ∈ uW) csX5_all h, fun i v h => lkF_e (P := fun i v => Cond.constantLong RX5 i v ∈ uW) clX5_all h⟩
def csX6 : List (Nat × Int32) := [(308, 1103515245), (309, 2147483647), (310, 65536)]
def clX6 : List (Nat × Int64) := [(79, 9), (148, 48), (150, 57), (166, 60), (218, 7), (226, 99), (231, 2), (233, -1), (244, 20), (274, -128), (276, -32768), (278, -2147483648), (293, 30), (299, 1000000001)]
theorem csX6_all : ∀ q ∈ csX6, Cond.constant RX6 q.1 q.2 ∈ uW := List.forall_mem_cons.mpr ⟨uT 1150 (by decide +kernel) rfl, List.forall_mem_cons.mpr ⟨uT 1151 (by decide +kernel) rfl, List.forall_mem_cons.mpr ⟨uT 1152 (by decide +kernel) rfl, fun _ h => absurd h List.not_mem_nil⟩⟩⟩
theorem clX6_all : ∀ q ∈ clX6, Cond.constantLong RX6 q.1 q.2 ∈ uW := List.forall_mem_cons.mpr ⟨uT 960 (by decide +kernel) rfl, List.forall_mem_cons.mpr ⟨uT 872 (by decide +kernel) rfl, List.forall_mem_cons.mpr ⟨uT 873 (by decide +kernel) rfl, List.forall_mem_cons.mpr ⟨uT 901 (by decide +kernel) rfl, List.forall_mem_cons.mpr ⟨uT 849 (by decide +kernel) rfl, List.forall_mem_cons.mpr ⟨uT 977 (by decide +kernel) rfl, List.forall_mem_cons.mpr ⟨uT 1001 (by decide +kernel) rfl, List.forall_mem_cons.mpr ⟨uT 1006 (by decide +kernel) rfl, List.forall_mem_cons.mpr ⟨uT 1039 (by decide +kernel) rfl, List.forall_mem_cons.mpr ⟨uT 1103 (by decide +kernel) rfl, List.forall_mem_cons.mpr ⟨uT 1104 (by decide +kernel) rfl, List.forall_mem_cons.mpr ⟨uT 1105 (by decide +kernel) rfl, List.forall_mem_cons.mpr ⟨uT 1118 (by decide +kernel) rfl, List.forall_mem_cons.mpr ⟨uT 1123 (by decide +kernel) rfl, fun _ h => absurd h List.not_mem_nil⟩⟩⟩⟩⟩⟩⟩⟩⟩⟩⟩⟩⟩⟩
theorem cdX6 : cdo RX6 (lkB csX6) (lkB clX6) := ⟨fun i v h => lkF_e (P := fun i v => Cond.constant RX6 i v ∈ uW) csX6_all h, fun i v h => lkF_e (P := fun i v => Cond.constantLong RX6 i v ∈ uW) clX6_all h⟩
def csJ6 : List (Nat × Int32) := [(265, 1431655765), (266, 858993459), (267, 252645135)]
def clJ6 : List (Nat × Int64) := []
theorem csJ6_all : ∀ q ∈ csJ6, Cond.constant RJ6 q.1 q.2 ∈ uW := List.forall_mem_cons.mpr ⟨uT 337 (by decide +kernel) rfl, List.forall_mem_cons.mpr ⟨uT 338 (by decide +kernel) rfl, List.forall_mem_cons.mpr ⟨uT 339 (by decide +kernel) rfl, fun _ h => absurd h List.not_mem_nil⟩⟩⟩
theorem clJ6_all : ∀ q ∈ clJ6, Cond.constantLong RJ6 q.1 q.2 ∈ uW := fun _ h => absurd h List.not_mem_nil
theorem cdJ6 : cdo RJ6 (lkB csJ6) (lkB clJ6) := ⟨fun i v h => lkF_e (P := fun i v => Cond.constant RJ6 i v ∈ uW) csJ6_all h, fun i v h => lkF_e (P := fun i v => Cond.constantLong RJ6 i v ∈ uW) clJ6_all h⟩
end
section
theorem k_max : Cond.code Lib.Math.max.name Lib.Math.max.code 2 (some .int) ∈ uW ∧ Cond.static Lib.Math.max.name ∈ uW ∧ Cond.initialized "java/lang/Math" ∈ uW := ⟨uT 288 (by decide +kernel) rfl, uT 287 (by decide +kernel) rfl, uT 9 (by decide +kernel) rfl⟩
theorem k_min : Cond.code Lib.Math.min.name Lib.Math.min.code 2 (some .int) ∈ uW ∧ Cond.static Lib.Math.min.name ∈ uW ∧ Cond.initialized "java/lang/Math" ∈ uW := ⟨uT 248 (by decide +kernel) rfl, uT 247 (by decide +kernel) rfl, uT 9 (by decide +kernel) rfl⟩
theorem k_copy : Cond.native arraycopyName ∈ uW ∧ Cond.static arraycopyName ∈ uW ∧ Cond.initialized "java/lang/System" ∈ uW := ⟨uT 198 (by decide +kernel) rfl, uT 197 (by decide +kernel) rfl, uT 7 (by decide +kernel) rfl⟩
theorem lRX5_294 : Cond.methodLink RX5 294 arraycopyName ∈ uW := uT 579 (by decide +kernel) rfl
theorem lRX0_30 : Cond.methodLink RX0 30 arraycopyName ∈ uW := uT 196 (by decide +kernel) rfl
end
section
/-! ===== symbolic values, cells, worlds; a step over them; its soundness =====
A value: an int, a long, a reference by the number of its cell (none: null). A cell: an object (its class's number, its fields), or an array (the number of its kind in tysL, its length, its contents). σ: the cells' addresses. -/
abbrev sv : Type := Int32 ⊕ (Int64 ⊕ Option Nat)
abbrev sI (x : Int32) : sv := .inl x
abbrev sL (x : Int64) : sv := .inr (.inl x)
abbrev sR (k : Nat) : sv := .inr (.inr (some k))
abbrev sN : sv := .inr (.inr none)
def tv (σ : Nat → Nat) : sv → Value
  | .inl x => .int x
  | .inr (.inl x) => .long x
  | .inr (.inr r) => va_rf (r.map σ)
abbrev sc : Type := (Nat × List sv) ⊕ (Nat × Nat × ((Nat → Int32) ⊕ ((Nat → Int64) ⊕ (Nat → Option Nat))))
abbrev oC (ci : Nat) (fs : List sv) : sc := .inl (ci, fs)
abbrev aI (n : Nat) (f : Nat → Int32) : sc := .inr (0, n, .inl f)
abbrev aL (n : Nat) (f : Nat → Int64) : sc := .inr (1, n, .inr (.inl f))
abbrev aZ (n : Nat) (f : Nat → Int32) : sc := .inr (2, n, .inl f)
abbrev aR (n : Nat) (f : Nat → Option Nat) : sc := .inr (3, n, .inr (.inr f))
def tc (σ : Nat → Nat) (cA : Nat → ClassId) : sc → va_E
  | .inl (ci, fs) => .inr (ci, fs.map (tv σ))
  | .inr (t, n, .inl f) => .inl (cA t, n, .inl f)
  | .inr (t, n, .inr (.inl f)) => .inl (cA t, n, .inr (.inl f))
  | .inr (t, n, .inr (.inr f)) => .inl (cA t, n, .inr (.inr (.inr (.inr (fun i => (f i).map σ)))))
def tw (σ : Nat → Nat) (cA : Nat → ClassId) : Nat → List sc → va_W
  | _, [] => []
  | k, c :: r => (σ k, tc σ cA c) :: tw σ cA (k + 1) r
def nth {α : Type} : List α → Nat → Option α
  | [], _ => none
  | a :: _, 0 => some a
  | _ :: r, n + 1 => nth r n
def snth {α : Type} : List α → Nat → α → List α
  | [], _, _ => []
  | _ :: r, 0, x => x :: r
  | a :: r, n + 1, x => a :: snth r n x
theorem nth_eq {α : Type} : ∀ (l : List α) (n : Nat), nth l n = l[n]?
  | [], n => by simp [nth]
  | a :: r, 0 => by simp [nth]
  | a :: r, n + 1 => by simp [nth, nth_eq r n]
theorem snth_eq {α : Type} : ∀ (l : List α) (n : Nat) (x : α), snth l n x = l.set n x
  | [], n, x => by simp [snth]
  | a :: r, 0, x => by simp [snth]
  | a :: r, n + 1, x => by simp [snth, snth_eq r n x]
theorem tw_nth {σ : Nat → Nat} {cA : Nat → ClassId} : ∀ {w : List sc} {k i : Nat} {c : sc}, nth w i = some c → (tw σ cA k w)[i]? = some (σ (k + i), tc σ cA c)
  | [], _, _, _, h => by cases h
  | a :: r, k, 0, c, h => by cases h; rfl
  | a :: r, k, n + 1, c, h => by
    have := tw_nth (σ := σ) (cA := cA) (w := r) (k := k + 1) (i := n) (c := c) h
    rw [show k + (n + 1) = k + 1 + n by omega]
    simpa [tw] using this
theorem tw_of {σ : Nat → Nat} {cA : Nat → ClassId} : ∀ {w : List sc} {k i : Nat} {q : Nat × va_E}, (tw σ cA k w)[i]? = some q → ∃ c, nth w i = some c ∧ q = (σ (k + i), tc σ cA c)
  | [], _, _, _, h => by simp [tw] at h
  | a :: r, k, 0, q, h => by
    simp [tw] at h
    exact ⟨a, rfl, h.symm⟩
  | a :: r, k, n + 1, q, h => by
    simp [tw] at h
    obtain ⟨c, h1, h2⟩ := tw_of h
    exact ⟨c, h1, by rw [h2, show k + (n + 1) = k + 1 + n by omega]⟩
theorem tw_snth {σ : Nat → Nat} {cA : Nat → ClassId} : ∀ (w : List sc) (k i : Nat) (c : sc), tw σ cA k (snth w i c) = (tw σ cA k w).set i (σ (k + i), tc σ cA c)
  | [], _, _, _ => rfl
  | a :: r, k, 0, c => rfl
  | a :: r, k, n + 1, c => by
    have := tw_snth (σ := σ) (cA := cA) r (k + 1) n c
    simp only [snth, tw, List.set_cons_succ]
    rw [this, show k + 1 + n = k + (n + 1) by omega]
/-! locals: a list by their numbers -/
def sl : List (Option sv) → Nat → Option sv → List (Option sv)
  | [], 0, x => [x]
  | [], n + 1, x => none :: sl [] n x
  | _ :: r, 0, x => x :: r
  | a :: r, n + 1, x => a :: sl r n x
def lk : List (Option sv) → Nat → Option sv
  | [], _ => none
  | a :: _, 0 => a
  | _ :: r, n + 1 => lk r n
def kl3 (lv : List (Option sv)) (i : Nat) : Option sv → List (Option sv)
  | some (.inr (.inl _)) => sl lv i none
  | _ => lv
def kl2 (lv : List (Option sv)) : Nat → List (Option sv)
  | 0 => lv
  | i + 1 => kl3 lv i (lk lv i)
def tl (σ : Nat → Nat) : Nat → List (Option sv) → List (Nat × Value)
  | _, [] => []
  | k, none :: r => tl σ (k + 1) r
  | k, some v :: r => (k, tv σ v) :: tl σ (k + 1) r
def msk : List Bool → List (Option sv) → List (Option sv)
  | true :: m, a :: r => a :: msk m r
  | false :: m, _ :: r => none :: msk m r
  | _ :: m, [] => none :: msk m []
  | [], _ => []
theorem lk_nil (i : Nat) : lk [] i = none := by cases i <;> rfl
theorem lk_sl : ∀ (lv : List (Option sv)) (i j : Nat) (x : Option sv), lk (sl lv i x) j = if j = i then x else lk lv j
  | [], 0, 0, x => by simp [sl, lk]
  | [], 0, j + 1, x => by simp [sl, lk]
  | [], n + 1, 0, x => by simp [sl, lk]
  | [], n + 1, j + 1, x => by simp [sl, lk, lk_sl [] n j x, lk_nil]
  | a :: r, 0, 0, x => by simp [sl, lk]
  | a :: r, 0, j + 1, x => by simp [sl, lk]
  | a :: r, n + 1, 0, x => by simp [sl, lk]
  | a :: r, n + 1, j + 1, x => by simp [sl, lk, lk_sl r n j x]
theorem lk_kl2 (lv : List (Option sv)) (i j : Nat) (v : sv) (h : lk (kl2 lv i) j = some v) : lk lv j = some v ∧ (j + 1 = i → (∀ y, v ≠ .inr (.inl y))) := by
  cases i with
  | zero => exact ⟨h, fun e => by omega⟩
  | succ i =>
    simp only [kl2] at h
    cases hl : lk lv i with
    | none =>
      rw [hl] at h
      refine ⟨h, fun e => ?_⟩
      have : j = i := by omega
      subst this
      have h' : lk lv j = some v := h
      rw [hl] at h'; cases h'
    | some x =>
      rw [hl] at h
      rcases x with x | x | x
      · refine ⟨h, fun e y hy => ?_⟩
        have : j = i := by omega
        subst this
        have h' : lk lv j = some v := h
        rw [hl] at h'; cases h'; cases hy
      · have h' : lk (sl lv i none) j = some v := h
        rw [lk_sl] at h'
        by_cases e : j = i
        · rw [if_pos e] at h'; cases h'
        · rw [if_neg e] at h'
          exact ⟨h', fun e2 => absurd (by omega) e⟩
      · refine ⟨h, fun e y hy => ?_⟩
        have : j = i := by omega
        subst this
        have h' : lk lv j = some v := h
        rw [hl] at h'; cases h'; cases hy
theorem lk_msk : ∀ (mm : List Bool) (lv : List (Option sv)) (i : Nat) (v : sv), lk (msk mm lv) i = some v → lk lv i = some v
  | [], lv, i, v, h => by simp [msk, lk_nil] at h
  | true :: mm, [], 0, v, h => by simp [msk, lk] at h
  | false :: mm, [], 0, v, h => by simp [msk, lk] at h
  | true :: mm, [], i + 1, v, h => by
    have := lk_msk mm [] i v h
    rw [lk_nil] at this; cases this
  | false :: mm, [], i + 1, v, h => by
    have := lk_msk mm [] i v h
    rw [lk_nil] at this; cases this
  | true :: mm, a :: r, 0, v, h => h
  | true :: mm, a :: r, i + 1, v, h => lk_msk mm r i v h
  | false :: mm, a :: r, 0, v, h => by simp [msk, lk] at h
  | false :: mm, a :: r, i + 1, v, h => lk_msk mm r i v h
theorem tl_mem {σ : Nat → Nat} : ∀ {lv : List (Option sv)} {k i : Nat} {v : sv}, lk lv i = some v → (k + i, tv σ v) ∈ tl σ k lv
  | [], k, i, v, h => by rw [lk_nil] at h; cases h
  | none :: r, k, 0, v, h => by simp [lk] at h
  | some a :: r, k, 0, v, h => by simp [lk] at h; subst h; simp [tl]
  | none :: r, k, i + 1, v, h => by
    have := tl_mem (σ := σ) (k := k + 1) (show lk r i = some v from h)
    rw [show k + (i + 1) = k + 1 + i by omega]; exact this
  | some a :: r, k, i + 1, v, h => by
    have := tl_mem (σ := σ) (k := k + 1) (show lk r i = some v from h)
    rw [show k + (i + 1) = k + 1 + i by omega]; exact List.mem_cons_of_mem _ this
theorem tl_of {σ : Nat → Nat} : ∀ {lv : List (Option sv)} {k : Nat} {q : Nat × Value}, q ∈ tl σ k lv → ∃ i v, q = (k + i, tv σ v) ∧ lk lv i = some v
  | [], k, q, h => by simp [tl] at h
  | none :: r, k, q, h => by
    obtain ⟨i, v, h1, h2⟩ := tl_of (show q ∈ tl σ (k + 1) r from h)
    exact ⟨i + 1, v, by rw [h1, show k + 1 + i = k + (i + 1) by omega], h2⟩
  | some a :: r, k, q, h => by
    rcases List.mem_cons.mp (show q ∈ (k, tv σ a) :: tl σ (k + 1) r from h) with h | h
    · exact ⟨0, a, h, rfl⟩
    · obtain ⟨i, v, h1, h2⟩ := tl_of h
      exact ⟨i + 1, v, by rw [h1, show k + 1 + i = k + (i + 1) by omega], h2⟩
theorem tv_cat (σ : Nat → Nat) (v : sv) (h : ∀ y, v ≠ .inr (.inl y)) : (tv σ v).category = 1 := by
  rcases v with x | x | x
  · rfl
  · exact absurd rfl (h x)
  · cases x <;> rfl
theorem lvh_sub {ls : Array Slot} {nL : Nat} {l l' : List (Nat × Value)} (h : lv_has ls nL l) (hs : ∀ q ∈ l', q ∈ l) : lv_has ls nL l' := ⟨h.1, h.2.1, fun q hq => h.2.2 q (hs q hq)⟩
theorem tl_sub {σ : Nat → Nat} {lv lv' : List (Option sv)} (h : ∀ i v, lk lv' i = some v → lk lv i = some v) : ∀ q ∈ tl σ 0 lv', q ∈ tl σ 0 lv := by
  intro q hq
  obtain ⟨i, v, h1, h2⟩ := tl_of hq
  rw [h1]; exact tl_mem (h i v h2)
theorem tl_st1 {σ : Nat → Nat} {lv : List (Option sv)} {i : Nat} {v : sv} : ∀ q ∈ tl σ 0 (sl (kl2 lv i) i (some v)), q ∈ (i, tv σ v) :: (tl σ 0 lv).filter (fun q => !(q.1 == i) && !(q.1 + 1 == i && q.2.category == 2)) := by
  intro q hq
  obtain ⟨j, u, h1, h2⟩ := tl_of hq
  rw [lk_sl] at h2
  by_cases e : j = i
  · rw [if_pos e] at h2; cases h2
    rw [h1, e, Nat.zero_add]; exact List.mem_cons_self
  · rw [if_neg e] at h2
    obtain ⟨h3, h4⟩ := lk_kl2 _ _ _ _ h2
    refine List.mem_cons_of_mem _ (List.mem_filter.mpr ⟨?_, ?_⟩)
    · rw [h1]; exact tl_mem h3
    · rw [h1]
      simp only [Nat.zero_add]
      by_cases e2 : j + 1 = i
      · simp [e, tv_cat σ u (h4 e2)]
      · simp [e, e2]
theorem tl_st2 {σ : Nat → Nat} {lv : List (Option sv)} {i : Nat} {v : sv} : ∀ q ∈ tl σ 0 (sl (sl (kl2 lv i) i (some v)) (i + 1) none), q ∈ (i, tv σ v) :: (tl σ 0 lv).filter (fun q => !(q.1 == i) && (!(q.1 == i + 1) && !(q.1 + 1 == i && q.2.category == 2))) := by
  intro q hq
  obtain ⟨j, u, h1, h2⟩ := tl_of hq
  rw [lk_sl] at h2
  by_cases e0 : j = i + 1
  · rw [if_pos e0] at h2; cases h2
  rw [if_neg e0, lk_sl] at h2
  by_cases e : j = i
  · rw [if_pos e] at h2; cases h2
    rw [h1, e, Nat.zero_add]; exact List.mem_cons_self
  · rw [if_neg e] at h2
    obtain ⟨h3, h4⟩ := lk_kl2 _ _ _ _ h2
    refine List.mem_cons_of_mem _ (List.mem_filter.mpr ⟨?_, ?_⟩)
    · rw [h1]; exact tl_mem h3
    · rw [h1]
      simp only [Nat.zero_add]
      by_cases e2 : j + 1 = i
      · simp [e, e0, tv_cat σ u (h4 e2)]
      · simp [e, e0, e2]
/-! what a step takes -/
def pI : List sv → (Int32 → List sv → Prop) → Prop
  | .inl x :: r, f => f x r
  | _, _ => False
def pL : List sv → (Int64 → List sv → Prop) → Prop
  | .inr (.inl x) :: r, f => f x r
  | _, _ => False
def pR : List sv → (Nat → List sv → Prop) → Prop
  | .inr (.inr (some x)) :: r, f => f x r
  | _, _ => False
def pA : List sv → (sv → List sv → Prop) → Prop
  | .inl x :: r, f => f (.inl x) r
  | .inr (.inr x) :: r, f => f (.inr (.inr x)) r
  | _, _ => False
def lI : Option sv → (Int32 → Prop) → Prop
  | some (.inl x), f => f x
  | _, _ => False
def lL : Option sv → (Int64 → Prop) → Prop
  | some (.inr (.inl x)), f => f x
  | _, _ => False
def lR : Option sv → (Nat → Prop) → Prop
  | some (.inr (.inr (some x))), f => f x
  | _, _ => False
def oO {α : Type} : Option α → (α → Prop) → Prop
  | some x, f => f x
  | none, _ => False
def oP : Option (Instr × Nat × Nat × Int32) → (Instr → Nat → Nat → Int32 → Prop) → Prop
  | some (i, nx, tg, li), f => f i nx tg li
  | none, _ => False
def oF : Option (Nat × Nat × Nat) → (Nat → Nat → Nat → Prop) → Prop
  | some (a, b, c), f => f a b c
  | none, _ => False
/-- a check that is computed -/
def ck : Bool → Prop → Prop
  | true, A => A
  | false, _ => False
theorem ck_e {b : Bool} {A : Prop} (h : ck b A) : b = true ∧ A := by
  cases b with
  | true => exact ⟨rfl, h⟩
  | false => exact h.elim
def cq (a b : Nat) (A : Prop) : Prop := ck (Nat.beq a b) A
theorem cq_e {a b : Nat} {A : Prop} (h : cq a b A) : a = b ∧ A := ⟨Nat.eq_of_beq_eq_true (ck_e h).1, (ck_e h).2⟩
def okv : Nat → sv → Prop → Prop
  | 0, .inl _, A => A
  | 1, .inl x, A => (x = 0 ∨ x = 1) ∧ A
  | 2, .inr (.inr (some _)), A => A
  | _, _, _ => False
/-- the answer of a method of ints (1) or of booleans (2) -/
def rz : Nat → Int32 → Prop → Prop
  | 1, _, A => A
  | 2, x, A => (x = 0 ∨ x = 1) ∧ A
  | _, _, _ => False
theorem rz_e {rk : Nat} {x : Int32} {A : Prop} (h : rz rk x A) : ((rk = 2 ∧ (x = 0 ∨ x = 1)) ∨ rk = 1) ∧ A := by
  unfold rz at h; split at h
  · exact ⟨Or.inr rfl, h⟩
  · exact ⟨Or.inl ⟨rfl, h.1⟩, h.2⟩
  · exact h.elim
def cO : Option sc → (Nat → List sv → Prop) → Prop
  | some (.inl (ci, fs)), f => f ci fs
  | _, _ => False
def cI (t : Nat) : Option sc → (Nat → (Nat → Int32) → Prop) → Prop
  | some (.inr (t', n, .inl g)), f => cq t' t (f n g)
  | _, _ => False
def cL : Option sc → (Nat → (Nat → Int64) → Prop) → Prop
  | some (.inr (t', n, .inr (.inl g))), f => cq t' 1 (f n g)
  | _, _ => False
def cR : Option sc → (Nat → (Nat → Option Nat) → Prop) → Prop
  | some (.inr (t', n, .inr (.inr g))), f => cq t' 3 (f n g)
  | _, _ => False
def cN : Option sc → (Nat → Prop) → Prop
  | some (.inr (t', n, g)), f => ck (Nat.blt t' 4) (f n)
  | _, _ => False
def rI : List sv → (Int32 → Prop) → Prop
  | [.inl x], f => f x
  | _, _ => False
def rL : List sv → (Int64 → Prop) → Prop
  | [.inr (.inl x)], f => f x
  | _, _ => False
def rR : List sv → (Nat → Prop) → Prop
  | [.inr (.inr (some x))], f => f x
  | _, _ => False
def rV : List sv → Prop → Prop
  | [], f => f
  | _, _ => False
theorem pI_e {st : List sv} {f : Int32 → List sv → Prop} (h : pI st f) : ∃ x r, st = .inl x :: r ∧ f x r := by
  unfold pI at h; split at h
  · exact ⟨_, _, rfl, h⟩
  · exact h.elim
theorem pL_e {st : List sv} {f : Int64 → List sv → Prop} (h : pL st f) : ∃ x r, st = .inr (.inl x) :: r ∧ f x r := by
  unfold pL at h; split at h
  · exact ⟨_, _, rfl, h⟩
  · exact h.elim
theorem pR_e {st : List sv} {f : Nat → List sv → Prop} (h : pR st f) : ∃ x r, st = .inr (.inr (some x)) :: r ∧ f x r := by
  unfold pR at h; split at h
  · exact ⟨_, _, rfl, h⟩
  · exact h.elim
theorem pA_e {st : List sv} {f : sv → List sv → Prop} (h : pA st f) : ∃ x r, st = x :: r ∧ (∀ y, x ≠ .inr (.inl y)) ∧ f x r := by
  unfold pA at h; split at h
  · exact ⟨_, _, rfl, (fun y e => by cases e), h⟩
  · exact ⟨_, _, rfl, (fun y e => by cases e), h⟩
  · exact h.elim
theorem lI_e {o : Option sv} {f : Int32 → Prop} (h : lI o f) : ∃ x, o = some (.inl x) ∧ f x := by
  unfold lI at h; split at h
  · exact ⟨_, rfl, h⟩
  · exact h.elim
theorem lL_e {o : Option sv} {f : Int64 → Prop} (h : lL o f) : ∃ x, o = some (.inr (.inl x)) ∧ f x := by
  unfold lL at h; split at h
  · exact ⟨_, rfl, h⟩
  · exact h.elim
theorem lR_e {o : Option sv} {f : Nat → Prop} (h : lR o f) : ∃ x, o = some (.inr (.inr (some x))) ∧ f x := by
  unfold lR at h; split at h
  · exact ⟨_, rfl, h⟩
  · exact h.elim
theorem oO_e {α : Type} {o : Option α} {f : α → Prop} (h : oO o f) : ∃ x, o = some x ∧ f x := by
  cases o with
  | none => exact h.elim
  | some x => exact ⟨x, rfl, h⟩
theorem oP_e {o : Option (Instr × Nat × Nat × Int32)} {f : Instr → Nat → Nat → Int32 → Prop} (h : oP o f) : ∃ i nx tg li, o = some (i, nx, tg, li) ∧ f i nx tg li := by
  unfold oP at h; split at h
  · exact ⟨_, _, _, _, rfl, h⟩
  · exact h.elim
theorem oF_e {o : Option (Nat × Nat × Nat)} {f : Nat → Nat → Nat → Prop} (h : oF o f) : ∃ a b c, o = some (a, b, c) ∧ f a b c := by
  unfold oF at h; split at h
  · exact ⟨_, _, _, rfl, h⟩
  · exact h.elim
theorem cO_e {o : Option sc} {f : Nat → List sv → Prop} (h : cO o f) : ∃ ci fs, o = some (.inl (ci, fs)) ∧ f ci fs := by
  unfold cO at h; split at h
  · exact ⟨_, _, rfl, h⟩
  · exact h.elim
theorem cI_e {t : Nat} {o : Option sc} {f : Nat → (Nat → Int32) → Prop} (h : cI t o f) : ∃ n g, o = some (.inr (t, n, .inl g)) ∧ f n g := by
  unfold cI at h; split at h
  · obtain ⟨e1, h2⟩ := cq_e h; subst e1; exact ⟨_, _, rfl, h2⟩
  · exact h.elim
theorem cL_e {o : Option sc} {f : Nat → (Nat → Int64) → Prop} (h : cL o f) : ∃ n g, o = some (.inr (1, n, .inr (.inl g))) ∧ f n g := by
  unfold cL at h; split at h
  · obtain ⟨e1, h2⟩ := cq_e h; subst e1; exact ⟨_, _, rfl, h2⟩
  · exact h.elim
theorem cR_e {o : Option sc} {f : Nat → (Nat → Option Nat) → Prop} (h : cR o f) : ∃ n g, o = some (.inr (3, n, .inr (.inr g))) ∧ f n g := by
  unfold cR at h; split at h
  · obtain ⟨e1, h2⟩ := cq_e h; subst e1; exact ⟨_, _, rfl, h2⟩
  · exact h.elim
theorem cN_e {o : Option sc} {f : Nat → Prop} (h : cN o f) : ∃ t n g, o = some (.inr (t, n, g)) ∧ t < 4 ∧ f n := by
  unfold cN at h; split at h
  · exact ⟨_, _, _, rfl, Nat.le_of_ble_eq_true (ck_e h).1, (ck_e h).2⟩
  · exact h.elim
theorem rI_e {o : List sv} {f : Int32 → Prop} (h : rI o f) : ∃ x, o = [.inl x] ∧ f x := by
  unfold rI at h; split at h
  · exact ⟨_, rfl, h⟩
  · exact h.elim
theorem rL_e {o : List sv} {f : Int64 → Prop} (h : rL o f) : ∃ x, o = [.inr (.inl x)] ∧ f x := by
  unfold rL at h; split at h
  · exact ⟨_, rfl, h⟩
  · exact h.elim
theorem rR_e {o : List sv} {f : Nat → Prop} (h : rR o f) : ∃ x, o = [.inr (.inr (some x))] ∧ f x := by
  unfold rR at h; split at h
  · exact ⟨_, rfl, h⟩
  · exact h.elim
theorem rV_e {o : List sv} {f : Prop} (h : rV o f) : o = [] ∧ f := by
  unfold rV at h; split at h
  · exact ⟨rfl, h⟩
  · exact h.elim
def jrem (x y : Int32) : Int32 := x - x / y * y
def jremL (x y : Int64) : Int64 := x - x / y * y
def jshl (x y : Int32) : Int32 := x <<< (y &&& 31)
def jshr (x y : Int32) : Int32 := x >>> (y &&& 31)
def jushr (x y : Int32) : Int32 := (x.toUInt32 >>> (y.toUInt32 &&& Int32.toUInt32 31)).toInt32
def tsw (pc : Nat) (x : Int32) : Int → List Int → (Nat → Prop) → Prop
  | _, [], _ => True
  | lo, o :: os, K => (x = Int32.ofInt lo → K ((pc : Int) + o).toNat) ∧ tsw pc x (lo + 1) os K
def lsw (pc : Nat) (x : Int32) : List (Int × Int) → Int → (Nat → Prop) → Prop
  | [], d, K => K ((pc : Int) + d).toNat
  | (a, o) :: r, d, K => (Int32.ofInt a).toInt = a ∧ (x = Int32.ofInt a → K ((pc : Int) + o).toNat) ∧ (¬ x = Int32.ofInt a → lsw pc x r d K)
abbrev Kt : Type := Nat → List (Option sv) → List sv → List sc → Prop
def jc (c : Jvm.ClassFile.Cond) (x y : Int32) (A B : Prop) : Prop := match c with
  | .eq => (x = y → A) ∧ (¬ x = y → B)
  | .ne => (¬ x = y → A) ∧ (x = y → B)
  | .lt => (x < y → A) ∧ (¬ x < y → B)
  | .ge => (y ≤ x → A) ∧ (¬ y ≤ x → B)
  | .gt => (y < x → A) ∧ (¬ y < x → B)
  | .le => (x ≤ y → A) ∧ (¬ x ≤ y → B)
end
section
/-! ===== a step, and steps up to the cuts ===== -/
abbrev Cl : Type := Nat → List sv → List sc → (List sv → List sc → Prop) → Prop
def stpi (nL rk : Nat) (fld : Ft) (cst : Nat → Option Int32) (cstL : Nat → Option Int64) (call : Cl) (ret : Option sv → List sc → Prop)
    (k : Kt) (i : Instr) (nx tg : Nat) (li : Int32) (pc : Nat) (lv : List (Option sv)) (st : List sv) (w : List sc) : Prop := match i with
  | .iconst _ => k nx lv (.inl li :: st) w
  | .bipush _ => k nx lv (.inl li :: st) w
  | .sipush _ => k nx lv (.inl li :: st) w
  | .lconst n => k nx lv (.inr (.inl (cond (Nat.beq n.val 0) 0 1)) :: st) w
  | .ldc _ => oO (cst tg) fun x => k nx lv (.inl x :: st) w
  | .ldc_w _ => oO (cst tg) fun x => k nx lv (.inl x :: st) w
  | .ldc2_w _ => oO (cstL tg) fun x => k nx lv (.inr (.inl x) :: st) w
  | .iload_n _ => lI (lk lv tg) fun x => k nx lv (.inl x :: st) w
  | .iload _ => lI (lk lv tg) fun x => k nx lv (.inl x :: st) w
  | .lload_n _ => lL (lk lv tg) fun x => k nx lv (.inr (.inl x) :: st) w
  | .lload _ => lL (lk lv tg) fun x => k nx lv (.inr (.inl x) :: st) w
  | .aload_n _ => lR (lk lv tg) fun x => k nx lv (.inr (.inr (some x)) :: st) w
  | .aload _ => lR (lk lv tg) fun x => k nx lv (.inr (.inr (some x)) :: st) w
  | .istore_n _ => pI st fun x r => ck (Nat.blt tg nL) <| k nx (sl (kl2 lv tg) tg (some (.inl x))) r w
  | .istore _ => pI st fun x r => ck (Nat.blt tg nL) <| k nx (sl (kl2 lv tg) tg (some (.inl x))) r w
  | .lstore_n _ => pL st fun x r => ck (Nat.blt (tg + 1) nL) <| k nx (sl (sl (kl2 lv tg) tg (some (.inr (.inl x)))) (tg + 1) none) r w
  | .lstore _ => pL st fun x r => ck (Nat.blt (tg + 1) nL) <| k nx (sl (sl (kl2 lv tg) tg (some (.inr (.inl x)))) (tg + 1) none) r w
  | .astore_n _ => pR st fun x r => ck (Nat.blt tg nL) <| k nx (sl (kl2 lv tg) tg (some (.inr (.inr (some x))))) r w
  | .astore _ => pR st fun x r => ck (Nat.blt tg nL) <| k nx (sl (kl2 lv tg) tg (some (.inr (.inr (some x))))) r w
  | .iinc _ _ => lI (lk lv tg) fun x => ck (Nat.blt tg nL) <| k nx (sl (kl2 lv tg) tg (some (.inl (x + li)))) st w
  | .iadd => pI st fun y r => pI r fun x r => k nx lv (.inl (x + y) :: r) w
  | .isub => pI st fun y r => pI r fun x r => k nx lv (.inl (x - y) :: r) w
  | .imul => pI st fun y r => pI r fun x r => k nx lv (.inl (x * y) :: r) w
  | .idiv => pI st fun y r => pI r fun x r => ¬ y = 0 ∧ k nx lv (.inl (x / y) :: r) w
  | .irem => pI st fun y r => pI r fun x r => ¬ y = 0 ∧ k nx lv (.inl (jrem x y) :: r) w
  | .iand => pI st fun y r => pI r fun x r => k nx lv (.inl (x &&& y) :: r) w
  | .ior => pI st fun y r => pI r fun x r => k nx lv (.inl (x ||| y) :: r) w
  | .ixor => pI st fun y r => pI r fun x r => k nx lv (.inl (x ^^^ y) :: r) w
  | .ishl => pI st fun y r => pI r fun x r => k nx lv (.inl (jshl x y) :: r) w
  | .ishr => pI st fun y r => pI r fun x r => k nx lv (.inl (jshr x y) :: r) w
  | .iushr => pI st fun y r => pI r fun x r => k nx lv (.inl (jushr x y) :: r) w
  | .ladd => pL st fun y r => pL r fun x r => k nx lv (.inr (.inl (x + y)) :: r) w
  | .lsub => pL st fun y r => pL r fun x r => k nx lv (.inr (.inl (x - y)) :: r) w
  | .lmul => pL st fun y r => pL r fun x r => k nx lv (.inr (.inl (x * y)) :: r) w
  | .ldiv => pL st fun y r => pL r fun x r => ¬ y = 0 ∧ k nx lv (.inr (.inl (x / y)) :: r) w
  | .lrem => pL st fun y r => pL r fun x r => ¬ y = 0 ∧ k nx lv (.inr (.inl (jremL x y)) :: r) w
  | .lcmp => pL st fun y r => pL r fun x r => k nx lv (.inl (lg_cmp x y) :: r) w
  | .i2l => pI st fun x r => k nx lv (.inr (.inl x.toInt64) :: r) w
  | .l2i => pL st fun x r => k nx lv (.inl x.toInt32 :: r) w
  | .i2b => pI st fun x r => k nx lv (.inl x.toInt8.toInt32 :: r) w
  | .i2s => pI st fun x r => k nx lv (.inl x.toInt16.toInt32 :: r) w
  | .dup => pA st fun x r => k nx lv (x :: x :: r) w
  | .dup2 => pA st fun x r => pA r fun y r => k nx lv (x :: y :: x :: y :: r) w
  | .pop => pA st fun x r => k nx lv r w
  | .goto _ => k tg lv st w
  | .ifCond c _ => pI st fun x r => jc c x 0 (k tg lv r w) (k nx lv r w)
  | .if_icmp c _ => pI st fun y r => pI r fun x r => jc c x y (k tg lv r w) (k nx lv r w)
  | .tableswitch d lo hi offs => pI st fun x r => (x.toInt < lo ∨ hi < x.toInt → k ((pc : Int) + d).toNat lv r w) ∧ ck (Nat.beq offs.size (hi - lo + 1).toNat) (tsw pc x lo offs.toList fun q => k q lv r w)
  | .lookupswitch d ps => pI st fun x r => ck ((ps.toList.zip (ps.toList.drop 1)).all (fun (a, next) => a.1 < next.1)) <| lsw pc x ps.toList d fun q => k q lv r w
  | .getfield _ => pR st fun a r => oF (fld tg) fun ci kf _ => cO (nth w a) fun cj fs => cq cj ci (oO (nth fs kf) fun v => k nx lv (v :: r) w)
  | .putfield _ => pA st fun v r => pR r fun a r => oF (fld tg) fun ci kf ty => okv ty v (cO (nth w a) fun cj fs => cq cj ci (oO (nth fs kf) fun _ => k nx lv r (snth w a (.inl (ci, snth fs kf v)))))
  | .iaload => pI st fun i r => pR r fun a r => cI 0 (nth w a) fun n f => vp_in i n ∧ k nx lv (.inl (f i.toNatClampNeg) :: r) w
  | .iastore => pI st fun x r => pI r fun i r => pR r fun a r => cI 0 (nth w a) fun n f => vp_in i n ∧ k nx lv r (snth w a (.inr (0, n, .inl (upd f i.toNatClampNeg x))))
  | .laload => pI st fun i r => pR r fun a r => cL (nth w a) fun n f => vp_in i n ∧ k nx lv (.inr (.inl (f i.toNatClampNeg)) :: r) w
  | .lastore => pL st fun x r => pI r fun i r => pR r fun a r => cL (nth w a) fun n f => vp_in i n ∧ k nx lv r (snth w a (.inr (1, n, .inr (.inl (vp_updL f i.toNatClampNeg x)))))
  | .baload => pI st fun i r => pR r fun a r => cI 2 (nth w a) fun n f => vp_in i n ∧ k nx lv (.inl (f i.toNatClampNeg) :: r) w
  | .bastore => pI st fun x r => pI r fun i r => pR r fun a r => cI 2 (nth w a) fun n f => vp_in i n ∧ (x = 0 ∨ x = 1) ∧ k nx lv r (snth w a (.inr (2, n, .inl (upd f i.toNatClampNeg x))))
  | .aaload => pI st fun i r => pR r fun a r => cR (nth w a) fun n f => vp_in i n ∧ oO (f i.toNatClampNeg) fun v => k nx lv (.inr (.inr (some v)) :: r) w
  | .arraylength => pR st fun a r => cN (nth w a) fun n => k nx lv (.inl (Int32.ofNat n) :: r) w
  | .invokevirtual _ => call pc st w fun st' w' => k (pc + 3) lv st' w'
  | .invokestatic _ => call pc st w fun st' w' => k (pc + 3) lv st' w'
  | .invokespecial _ => call pc st w fun st' w' => k (pc + 3) lv st' w'
  | .ireturn => rI st fun x => rz rk x (ret (some (.inl x)) w)
  | .lreturn => rL st fun x => ck (Nat.beq rk 3) <| ret (some (.inr (.inl x))) w
  | .areturn => rR st fun x => ck (Nat.beq rk 4) <| ret (some (.inr (.inr (some x)))) w
  | .return_ => rV st (ck (Nat.beq rk 0) (ret none w))
  | _ => False
abbrev Pg : Type := Nat → Option (Instr × Nat × Nat × Int32)
def stp (pr : Pg) (nL rk : Nat) (fld : Ft) (cst : Nat → Option Int32) (cstL : Nat → Option Int64) (call : Cl) (ret : Option sv → List sc → Prop) (k : Kt) (pc : Nat) (lv : List (Option sv)) (st : List sv) (w : List sc) : Prop :=
  oP (pr pc) fun i nx tg li => stpi nL rk fld cst cstL call ret k i nx tg li pc lv st w
abbrev Ct0 : Type := Nat → Option (List Bool × (List (Option sv) → List sv → List sc → Prop))
def wpc (lv : List (Option sv)) (st : List sv) (w : List sc) (B : Prop) : Option (List Bool × (List (Option sv) → List sv → List sc → Prop)) → Prop
  | some (m, P) => P (msk m lv) st w
  | none => B
def wp (pr : Pg) (nL rk : Nat) (fld : Ft) (cst : Nat → Option Int32) (cstL : Nat → Option Int64) (call : Cl) (ret : Option sv → List sc → Prop) (cut : Ct0) : Nat → Kt
  | 0, _, _, _, _ => False
  | n + 1, pc, lv, st, w => wpc lv st w (stp pr nL rk fld cst cstL call ret (wp pr nL rk fld cst cstL call ret cut n) pc lv st w) (cut pc)
/-! the machine's side -/
def rto (rk : Nat) (rt : Option FieldType) : Prop := (rk = 0 → rt = none) ∧ (rk = 1 → rt = some .int) ∧ (rk = 2 → rt = some .boolean) ∧ (rk = 3 → rt = some .long) ∧ (rk = 4 → ∃ n, rt = some (.object n))
section ZX
variable {p : Program} {l : Launch} {e : Env} {R : Room} {s : State} {m : MethodId} {args : Array Value} {below : List Frame} {meth : Method} {c : Code} {D : va_G} {σ : Nat → Nat} {cA : Nat → ClassId} {A : Nat → Prop} {H0 : Heap} {nL : Nat} {Q : State → Prop}
def Zx (p : Program) (l : Launch) (e : Env) (R : Room) (s : State) (m : MethodId) (args : Array Value) (below : List Frame) (meth : Method) (c : Code) (D : va_G) (σ : Nat → Nat) (cA : Nat → ClassId) (A : Nat → Prop) (H0 : Heap) (nL : Nat) (Q : State → Prop) : Kt := fun pc lv st w =>
  ∀ (H : Heap) (locs : List Loc) (ls : Array Slot), va_P D vwCl (tw σ cA 0 w) H → va_D A (tw σ cA 0 w) → va_S A H0 H locs → lv_has ls nL (tl σ 0 lv) → W p l e R s m args below meth c H locs 0 0 Q (F0 m pc ls (st.map (tv σ)))
/-- what stays through a method -/
def Cx (p : Program) (s : State) (m : MethodId) (args : Array Value) (meth : Method) (c : Code) (D : va_G) (cA : Nat → ClassId) (cc : ByteArray) (nL : Nat) (rt : Option FieldType) (own : String) : Prop :=
  p.tables.exec = Jvm.exec ∧ c.code = cc ∧ c.maxLocals = nL ∧ s.vm.findClass own = some m.cls ∧ (∀ w ∈ uW, w.before args s = true) ∧ va_K D vwCl (tysL cA) s ∧ meth.locks = false ∧ meth.sig.returnType = rt
theorem Zx_mask {pc : Nat} {lv : List (Option sv)} {st : List sv} {w : List sc} (mm : List Bool) (h : Zx p l e R s m args below meth c D σ cA A H0 nL Q pc (msk mm lv) st w) : Zx p l e R s m args below meth c D σ cA A H0 nL Q pc lv st w :=
  fun H locs ls hP hD hS hl => h H locs ls hP hD hS (lvh_sub hl (tl_sub (lk_msk mm lv)))
end ZX
end
section
/-! ===== soundness of a step ===== -/
def okw : Nat → sv → Prop
  | 0, .inl _ => True
  | 1, .inl x => x = 0 ∨ x = 1
  | 2, .inr (.inr (some _)) => True
  | _, _ => False
theorem okv_e {t : Nat} {v : sv} {A : Prop} (h : okv t v A) : okw t v ∧ A := by
  unfold okv at h; split at h
  · exact ⟨trivial, h⟩
  · exact ⟨h.1, h.2⟩
  · exact ⟨trivial, h⟩
  · exact h.elim
section SND
variable {p : Program} {l : Launch} {e : Env} {R : Room} {s : State} {m : MethodId} {args : Array Value} {below : List Frame} {meth : Method} {c : Code} {D : va_G} {σ : Nat → Nat} {cA : Nat → ClassId} {A : Nat → Prop} {H0 : Heap} {nL : Nat}
theorem va_rf_map (σ : Nat → Nat) (x : Nat) : va_rf ((some x).map σ) = .ref (σ x) := rfl
theorem tys_at {cA : Nat → ClassId} : (tysL cA)[0]? = some (cA 0, .int) ∧ (tysL cA)[1]? = some (cA 1, .long) ∧ (tysL cA)[2]? = some (cA 2, .boolean) ∧ (tysL cA)[3]? = some (cA 3, .object RX3) := ⟨rfl, rfl, rfl, rfl⟩
theorem lkm {ls : Array Slot} {nL : Nat} {lv : List (Option sv)} {σ : Nat → Nat} {i : Nat} {v : sv} (hl : lv_has ls nL (tl σ 0 lv)) (h : lk lv i = some v) : ls[i]? = some (.val (tv σ v)) := by
  have := hl.2.2 _ (tl_mem (k := 0) (σ := σ) h)
  simpa using this
theorem nar_z {x : Int32} (h : x = 0 ∨ x = 1) : narrow .boolean (.int x) = .int x ∧ fits .boolean (.int x) = true ∧ vp_nar .boolean x = x := by
  rcases h with rfl | rfl <;> decide
theorem tsw_use {pc : Nat} {x : Int32} {K : Nat → Prop} : ∀ {lo : Int} {os : List Int}, tsw pc x lo os K → ∀ (j : Nat) (o : Int), os[j]? = some o → x.toInt = lo + j → K ((pc : Int) + o).toNat
  | _, [], _, j, o, ho, _ => by simp at ho
  | lo, a :: os, h, 0, o, ho, hx => by
    simp at ho; subst ho
    exact h.1 (by rw [← Int32.ofInt_toInt x, hx]; simp)
  | lo, a :: os, h, j + 1, o, ho, hx => by
    exact tsw_use h.2 j o (by simpa using ho) (by rw [hx]; omega)
theorem lsw_use {pc : Nat} {x : Int32} {K : Nat → Prop} : ∀ {ps : List (Int × Int)} {d : Int}, lsw pc x ps d K → K ((pc : Int) + Op.lookupswitch.offset ps d x.toInt).toNat
  | [], d, h => h
  | (a, o) :: r, d, h => by
    rw [Op.lookupswitch.offset_cons]
    obtain ⟨h1, h2, h3⟩ := h
    by_cases e : a = x.toInt
    · rw [if_pos e]
      exact h2 (by rw [e, Int32.ofInt_toInt])
    · rw [if_neg e]
      exact lsw_use (h3 (fun q => e (by rw [q, h1])))
theorem tgt_of {pc : Nat} {o : Int} (h : 0 ≤ (pc : Int) + o) : (pc : Int) + o = (((pc : Int) + o).toNat : Int) := by omega
theorem lso_mem : ∀ (ps : List (Int × Int)) (d k : Int), Op.lookupswitch.offset ps d k = d ∨ ∃ q ∈ ps, Op.lookupswitch.offset ps d k = q.2
  | [], d, k => Or.inl rfl
  | (a, o) :: r, d, k => by
    rw [Op.lookupswitch.offset_cons]
    by_cases e : a = k
    · rw [if_pos e]; exact Or.inr ⟨(a, o), List.mem_cons_self, rfl⟩
    · rw [if_neg e]
      rcases lso_mem r d k with h | ⟨q, h1, h2⟩
      · exact Or.inl h
      · exact Or.inr ⟨q, List.mem_cons_of_mem _ h1, h2⟩
set_option maxHeartbeats 4000000 in
theorem stpi_sound {cc : ByteArray} {rk : Nat} {fld : Ft} {cst : Nat → Option Int32} {cstL : Nat → Option Int64} {call : Cl} {ret : Option sv → List sc → Prop} {k : Kt} {rt : Option FieldType} {own : String} {Qc : Array Value → State → Outcome → State → Prop} {free : Addr → Prop}
    (X : Cx p s m args meth c D cA cc nL rt own) (hf : fdo own fld) (hc : cdo own cst cstL) (hrt : rto rk rt)
    (hk : ∀ pc lv st w, k pc lv st w → Zx p l e R s m args below meth c D σ cA A H0 nL (MQ below Qc args s 0 0 free) pc lv st w)
    (hcall : ∀ pc st w kk, call pc st w kk → ∀ lv, (∀ st' w', kk st' w' → Zx p l e R s m args below meth c D σ cA A H0 nL (MQ below Qc args s 0 0 free) (pc + 3) lv st' w') → Zx p l e R s m args below meth c D σ cA A H0 nL (MQ below Qc args s 0 0 free) pc lv st w)
    (hret : ∀ r w, ret r w → ∀ H locs, va_P D vwCl (tw σ cA 0 w) H → va_D A (tw σ cA 0 w) → va_S A H0 H locs → (∀ t : State, t.heap = H → s.WarmedH t.vm → Qc args s (.returned (r.map (tv σ))) t) ∧ ∀ q ∈ locs, free q.base)
    {pc : Nat} {lv : List (Option sv)} {st : List sv} {w : List sc} {i : Instr} {nx tg : Nat} {li : Int32} (hd : xdec cc pc = some (i, nx, tg, li)) (h : stpi nL rk fld cst cstL call ret k i nx tg li pc lv st w) :
    Zx p l e R s m args below meth c D σ cA A H0 nL (MQ below Qc args s 0 0 free) pc lv st w := by
  obtain ⟨hx, hb, hml, hown, hts, hK, hlocks, hr⟩ := id X
  obtain ⟨len, hdg, hlen, hps, rfl, rfl, rfl⟩ := xdec_ok hd
  intro H locs ls hP hD hS hl
  cases i
  case iconst n =>
    obtain rfl : len = 1 := hlen.resolve_right (Nat.succ_ne_zero _)
    exact lv_iconst hx hb hdg rfl (hk _ _ _ _ h _ _ _ hP hD hS hl)
  case bipush n =>
    obtain rfl : len = 2 := hlen.resolve_right (Nat.succ_ne_zero _)
    exact lv_bipush hx hb hdg rfl (hk _ _ _ _ h _ _ _ hP hD hS hl)
  case sipush n =>
    obtain rfl : len = 3 := hlen.resolve_right (Nat.succ_ne_zero _)
    exact lv_sipush hx hb hdg rfl (hk _ _ _ _ h _ _ _ hP hD hS hl)
  case lconst n =>
    obtain rfl : len = 1 := hlen.resolve_right (Nat.succ_ne_zero _)
    rcases (show n = 0 ∨ n = 1 by omega) with rfl | rfl
    · exact lv_lconst hx hb hdg rfl (hk _ _ _ _ h _ _ _ hP hD hS hl)
    · exact lv_lconst hx hb hdg rfl (hk _ _ _ _ h _ _ _ hP hD hS hl)
  case ldc n =>
    obtain rfl : len = 2 := hlen.resolve_right (Nat.succ_ne_zero _)
    obtain ⟨x, h1, h2⟩ := oO_e h
    exact lv_ldc hx hb hown (hts _ (hc.1 _ _ h1)) hdg (hk _ _ _ _ h2 _ _ _ hP hD hS hl)
  case ldc_w n =>
    obtain rfl : len = 3 := hlen.resolve_right (Nat.succ_ne_zero _)
    obtain ⟨x, h1, h2⟩ := oO_e h
    exact lv_ldcw hx hb hown (hts _ (hc.1 _ _ h1)) hdg (hk _ _ _ _ h2 _ _ _ hP hD hS hl)
  case ldc2_w n =>
    obtain rfl : len = 3 := hlen.resolve_right (Nat.succ_ne_zero _)
    obtain ⟨x, h1, h2⟩ := oO_e h
    exact lv_ldc2 hx hb hown (hts _ (hc.2 _ _ h1)) hdg (hk _ _ _ _ h2 _ _ _ hP hD hS hl)
  case iload_n n =>
    obtain rfl : len = 1 := hlen.resolve_right (Nat.succ_ne_zero _)
    obtain ⟨x, h1, h2⟩ := lI_e h
    exact lv_iload_n hx hb hdg rfl (lkm hl h1) (hk _ _ _ _ h2 _ _ _ hP hD hS hl)
  case iload n =>
    obtain rfl : len = 2 := hlen.resolve_right (Nat.succ_ne_zero _)
    obtain ⟨x, h1, h2⟩ := lI_e h
    exact lv_iload hx hb hdg (lkm hl h1) (hk _ _ _ _ h2 _ _ _ hP hD hS hl)
  case lload_n n =>
    obtain rfl : len = 1 := hlen.resolve_right (Nat.succ_ne_zero _)
    obtain ⟨x, h1, h2⟩ := lL_e h
    exact lv_lload_n hx hb hdg rfl (lkm hl h1) (hk _ _ _ _ h2 _ _ _ hP hD hS hl)
  case lload n =>
    obtain rfl : len = 2 := hlen.resolve_right (Nat.succ_ne_zero _)
    obtain ⟨x, h1, h2⟩ := lL_e h
    exact lv_lload hx hb hdg (lkm hl h1) (hk _ _ _ _ h2 _ _ _ hP hD hS hl)
  case aload_n n =>
    obtain rfl : len = 1 := hlen.resolve_right (Nat.succ_ne_zero _)
    obtain ⟨x, h1, h2⟩ := lR_e h
    exact lv_aload_n hx hb hdg rfl (lkm hl h1) (hk _ _ _ _ h2 _ _ _ hP hD hS hl)
  case aload n =>
    obtain rfl : len = 2 := hlen.resolve_right (Nat.succ_ne_zero _)
    obtain ⟨x, h1, h2⟩ := lR_e h
    exact lv_aload hx hb hdg (lkm hl h1) (hk _ _ _ _ h2 _ _ _ hP hD hS hl)
  case istore_n n =>
    obtain rfl : len = 1 := hlen.resolve_right (Nat.succ_ne_zero _)
    obtain ⟨x, r, rfl, hh⟩ := pI_e h; obtain ⟨h1, h2⟩ := ck_e hh; have h1 := Nat.le_of_ble_eq_true h1
    exact lv_istore_n hx hb hdg rfl hl h1 rfl (fun ls' hl' => hk _ _ _ _ h2 _ _ _ hP hD hS (lvh_sub hl' tl_st1))
  case istore n =>
    obtain rfl : len = 2 := hlen.resolve_right (Nat.succ_ne_zero _)
    obtain ⟨x, r, rfl, hh⟩ := pI_e h; obtain ⟨h1, h2⟩ := ck_e hh; have h1 := Nat.le_of_ble_eq_true h1
    exact lv_istore hx hb hdg hl h1 rfl (fun ls' hl' => hk _ _ _ _ h2 _ _ _ hP hD hS (lvh_sub hl' tl_st1))
  case lstore_n n =>
    obtain rfl : len = 1 := hlen.resolve_right (Nat.succ_ne_zero _)
    obtain ⟨x, r, rfl, hh⟩ := pL_e h; obtain ⟨h1, h2⟩ := ck_e hh; have h1 := Nat.le_of_ble_eq_true h1
    exact lv_lstore_n hx hb hdg rfl hl h1 rfl (fun ls' hl' => hk _ _ _ _ h2 _ _ _ hP hD hS (lvh_sub hl' tl_st2))
  case lstore n =>
    obtain rfl : len = 2 := hlen.resolve_right (Nat.succ_ne_zero _)
    obtain ⟨x, r, rfl, hh⟩ := pL_e h; obtain ⟨h1, h2⟩ := ck_e hh; have h1 := Nat.le_of_ble_eq_true h1
    exact lv_lstore hx hb hdg hl h1 rfl (fun ls' hl' => hk _ _ _ _ h2 _ _ _ hP hD hS (lvh_sub hl' tl_st2))
  case astore_n n =>
    obtain rfl : len = 1 := hlen.resolve_right (Nat.succ_ne_zero _)
    obtain ⟨x, r, rfl, hh⟩ := pR_e h; obtain ⟨h1, h2⟩ := ck_e hh; have h1 := Nat.le_of_ble_eq_true h1
    exact lv_astore_n hx hb hdg rfl hl h1 rfl (fun ls' hl' => hk _ _ _ _ h2 _ _ _ hP hD hS (lvh_sub hl' (tl_st1 (v := .inr (.inr (some x))))))
  case astore n =>
    obtain rfl : len = 2 := hlen.resolve_right (Nat.succ_ne_zero _)
    obtain ⟨x, r, rfl, hh⟩ := pR_e h; obtain ⟨h1, h2⟩ := ck_e hh; have h1 := Nat.le_of_ble_eq_true h1
    exact lv_astore hx hb hdg hl h1 rfl (fun ls' hl' => hk _ _ _ _ h2 _ _ _ hP hD hS (lvh_sub hl' (tl_st1 (v := .inr (.inr (some x))))))
  case iinc n q =>
    obtain rfl : len = 3 := hlen.resolve_right (Nat.succ_ne_zero _)
    obtain ⟨x, h1, hh⟩ := lI_e h; obtain ⟨h3, h2⟩ := ck_e hh; have h3 := Nat.le_of_ble_eq_true h3
    have h4 : (n, Value.int x) ∈ tl σ 0 lv := by
      have := tl_mem (σ := σ) (k := 0) h1
      rwa [Nat.zero_add] at this
    obtain ⟨kk, hkk⟩ := List.getElem?_of_mem h4
    exact lv_iinc hx hb hdg hl hkk rfl h3 rfl (fun ls' hl' => hk _ _ _ _ h2 _ _ _ hP hD hS (lvh_sub hl' (tl_st1 (v := .inl (x + Int32.ofInt q)))))
  case iadd =>
    obtain rfl : len = 1 := hlen.resolve_right (Nat.succ_ne_zero _)
    obtain ⟨y, r, rfl, h⟩ := pI_e h; obtain ⟨x, r, rfl, h⟩ := pI_e h
    exact lv_iadd hx hb hdg (hk _ _ _ _ h _ _ _ hP hD hS hl)
  case isub =>
    obtain rfl : len = 1 := hlen.resolve_right (Nat.succ_ne_zero _)
    obtain ⟨y, r, rfl, h⟩ := pI_e h; obtain ⟨x, r, rfl, h⟩ := pI_e h
    exact lv_isub hx hb hdg (hk _ _ _ _ h _ _ _ hP hD hS hl)
  case imul =>
    obtain rfl : len = 1 := hlen.resolve_right (Nat.succ_ne_zero _)
    obtain ⟨y, r, rfl, h⟩ := pI_e h; obtain ⟨x, r, rfl, h⟩ := pI_e h
    exact lv_imul hx hb hdg (hk _ _ _ _ h _ _ _ hP hD hS hl)
  case idiv =>
    obtain rfl : len = 1 := hlen.resolve_right (Nat.succ_ne_zero _)
    obtain ⟨y, r, rfl, h⟩ := pI_e h; obtain ⟨x, r, rfl, h0, h⟩ := pI_e h
    exact lv_idiv hx hb hdg h0 (hk _ _ _ _ h _ _ _ hP hD hS hl)
  case irem =>
    obtain rfl : len = 1 := hlen.resolve_right (Nat.succ_ne_zero _)
    obtain ⟨y, r, rfl, h⟩ := pI_e h; obtain ⟨x, r, rfl, h0, h⟩ := pI_e h
    exact lv_irem hx hb hdg h0 (hk _ _ _ _ h _ _ _ hP hD hS hl)
  case iand =>
    obtain rfl : len = 1 := hlen.resolve_right (Nat.succ_ne_zero _)
    obtain ⟨y, r, rfl, h⟩ := pI_e h; obtain ⟨x, r, rfl, h⟩ := pI_e h
    exact lv_iand hx hb hdg (hk _ _ _ _ h _ _ _ hP hD hS hl)
  case ior =>
    obtain rfl : len = 1 := hlen.resolve_right (Nat.succ_ne_zero _)
    obtain ⟨y, r, rfl, h⟩ := pI_e h; obtain ⟨x, r, rfl, h⟩ := pI_e h
    exact lv_ior hx hb hdg (hk _ _ _ _ h _ _ _ hP hD hS hl)
  case ixor =>
    obtain rfl : len = 1 := hlen.resolve_right (Nat.succ_ne_zero _)
    obtain ⟨y, r, rfl, h⟩ := pI_e h; obtain ⟨x, r, rfl, h⟩ := pI_e h
    exact lv_ixor hx hb hdg (hk _ _ _ _ h _ _ _ hP hD hS hl)
  case ishl =>
    obtain rfl : len = 1 := hlen.resolve_right (Nat.succ_ne_zero _)
    obtain ⟨y, r, rfl, h⟩ := pI_e h; obtain ⟨x, r, rfl, h⟩ := pI_e h
    exact lv_ishl hx hb hdg (hk _ _ _ _ h _ _ _ hP hD hS hl)
  case ishr =>
    obtain rfl : len = 1 := hlen.resolve_right (Nat.succ_ne_zero _)
    obtain ⟨y, r, rfl, h⟩ := pI_e h; obtain ⟨x, r, rfl, h⟩ := pI_e h
    exact lv_ishr hx hb hdg (hk _ _ _ _ h _ _ _ hP hD hS hl)
  case iushr =>
    obtain rfl : len = 1 := hlen.resolve_right (Nat.succ_ne_zero _)
    obtain ⟨y, r, rfl, h⟩ := pI_e h; obtain ⟨x, r, rfl, h⟩ := pI_e h
    exact lv_iushr hx hb hdg rfl (hk _ _ _ _ h _ _ _ hP hD hS hl)
  case ladd =>
    obtain rfl : len = 1 := hlen.resolve_right (Nat.succ_ne_zero _)
    obtain ⟨y, r, rfl, h⟩ := pL_e h; obtain ⟨x, r, rfl, h⟩ := pL_e h
    exact lv_ladd hx hb hdg (hk _ _ _ _ h _ _ _ hP hD hS hl)
  case lsub =>
    obtain rfl : len = 1 := hlen.resolve_right (Nat.succ_ne_zero _)
    obtain ⟨y, r, rfl, h⟩ := pL_e h; obtain ⟨x, r, rfl, h⟩ := pL_e h
    exact lv_lsub hx hb hdg (hk _ _ _ _ h _ _ _ hP hD hS hl)
  case lmul =>
    obtain rfl : len = 1 := hlen.resolve_right (Nat.succ_ne_zero _)
    obtain ⟨y, r, rfl, h⟩ := pL_e h; obtain ⟨x, r, rfl, h⟩ := pL_e h
    exact lv_lmul hx hb hdg (hk _ _ _ _ h _ _ _ hP hD hS hl)
  case ldiv =>
    obtain rfl : len = 1 := hlen.resolve_right (Nat.succ_ne_zero _)
    obtain ⟨y, r, rfl, h⟩ := pL_e h; obtain ⟨x, r, rfl, h0, h⟩ := pL_e h
    exact lv_ldiv hx hb hdg h0 (hk _ _ _ _ h _ _ _ hP hD hS hl)
  case lrem =>
    obtain rfl : len = 1 := hlen.resolve_right (Nat.succ_ne_zero _)
    obtain ⟨y, r, rfl, h⟩ := pL_e h; obtain ⟨x, r, rfl, h0, h⟩ := pL_e h
    exact lv_lrem hx hb hdg h0 (hk _ _ _ _ h _ _ _ hP hD hS hl)
  case lcmp =>
    obtain rfl : len = 1 := hlen.resolve_right (Nat.succ_ne_zero _)
    obtain ⟨y, r, rfl, h⟩ := pL_e h; obtain ⟨x, r, rfl, h⟩ := pL_e h
    exact W.lcmp hx hb hdg (hk _ _ _ _ h _ _ _ hP hD hS hl)
  case i2l =>
    obtain rfl : len = 1 := hlen.resolve_right (Nat.succ_ne_zero _)
    obtain ⟨x, r, rfl, h⟩ := pI_e h
    exact lv_i2l hx hb hdg rfl (hk _ _ _ _ h _ _ _ hP hD hS hl)
  case l2i =>
    obtain rfl : len = 1 := hlen.resolve_right (Nat.succ_ne_zero _)
    obtain ⟨x, r, rfl, h⟩ := pL_e h
    exact lv_l2i hx hb hdg rfl (hk _ _ _ _ h _ _ _ hP hD hS hl)
  case i2b =>
    obtain rfl : len = 1 := hlen.resolve_right (Nat.succ_ne_zero _)
    obtain ⟨x, r, rfl, h⟩ := pI_e h
    exact lv_i2b hx hb hdg rfl (hk _ _ _ _ h _ _ _ hP hD hS hl)
  case i2s =>
    obtain rfl : len = 1 := hlen.resolve_right (Nat.succ_ne_zero _)
    obtain ⟨x, r, rfl, h⟩ := pI_e h
    exact lv_i2s hx hb hdg rfl (hk _ _ _ _ h _ _ _ hP hD hS hl)
  case dup =>
    obtain rfl : len = 1 := hlen.resolve_right (Nat.succ_ne_zero _)
    obtain ⟨x, r, rfl, hx1, h⟩ := pA_e h
    exact lv_dup hx hb hdg (tv_cat σ x hx1) (hk _ _ _ _ h _ _ _ hP hD hS hl)
  case dup2 =>
    obtain rfl : len = 1 := hlen.resolve_right (Nat.succ_ne_zero _)
    obtain ⟨x, r, rfl, hx1, h⟩ := pA_e h; obtain ⟨y, r, rfl, hx2, h⟩ := pA_e h
    exact lv_dup2_11 hx hb hdg (tv_cat σ x hx1) (tv_cat σ y hx2) (hk _ _ _ _ h _ _ _ hP hD hS hl)
  case pop =>
    obtain rfl : len = 1 := hlen.resolve_right (Nat.succ_ne_zero _)
    obtain ⟨x, r, rfl, hx1, h⟩ := pA_e h
    exact lv_pop hx hb hdg (tv_cat σ x hx1) (hk _ _ _ _ h _ _ _ hP hD hS hl)
  case goto o =>
    obtain rfl : len = 3 := hlen.resolve_right (Nat.succ_ne_zero _)
    exact lv_goto hx hb hdg (tgt_of (of_decide_eq_true hps)) (hk _ _ _ _ h _ _ _ hP hD hS hl)
  case ifCond cd o =>
    obtain rfl : len = 3 := hlen.resolve_right (Nat.succ_ne_zero _)
    obtain ⟨x, r, rfl, h⟩ := pI_e h
    have ht := tgt_of (of_decide_eq_true hps)
    cases cd
    · exact lv_if_eq hx hb hdg ht (fun q => hk _ _ _ _ (h.1 q) _ _ _ hP hD hS hl) (fun q => hk _ _ _ _ (h.2 q) _ _ _ hP hD hS hl)
    · exact lv_if_ne hx hb hdg ht (fun q => hk _ _ _ _ (h.1 q) _ _ _ hP hD hS hl) (fun q => hk _ _ _ _ (h.2 q) _ _ _ hP hD hS hl)
    · exact lv_if_lt hx hb hdg ht (fun q => hk _ _ _ _ (h.1 q) _ _ _ hP hD hS hl) (fun q => hk _ _ _ _ (h.2 q) _ _ _ hP hD hS hl)
    · exact lv_if_ge hx hb hdg ht (fun q => hk _ _ _ _ (h.1 q) _ _ _ hP hD hS hl) (fun q => hk _ _ _ _ (h.2 q) _ _ _ hP hD hS hl)
    · exact lv_if_gt hx hb hdg ht (fun q => hk _ _ _ _ (h.1 q) _ _ _ hP hD hS hl) (fun q => hk _ _ _ _ (h.2 q) _ _ _ hP hD hS hl)
    · exact lv_if_le hx hb hdg ht (fun q => hk _ _ _ _ (h.1 q) _ _ _ hP hD hS hl) (fun q => hk _ _ _ _ (h.2 q) _ _ _ hP hD hS hl)
  case if_icmp cd o =>
    obtain rfl : len = 3 := hlen.resolve_right (Nat.succ_ne_zero _)
    obtain ⟨y, r, rfl, h⟩ := pI_e h; obtain ⟨x, r, rfl, h⟩ := pI_e h
    have ht := tgt_of (of_decide_eq_true hps)
    cases cd
    · exact lv_icmp_eq hx hb hdg ht (fun q => hk _ _ _ _ (h.1 q) _ _ _ hP hD hS hl) (fun q => hk _ _ _ _ (h.2 q) _ _ _ hP hD hS hl)
    · exact lv_icmp_ne hx hb hdg ht (fun q => hk _ _ _ _ (h.1 q) _ _ _ hP hD hS hl) (fun q => hk _ _ _ _ (h.2 q) _ _ _ hP hD hS hl)
    · exact lv_icmp_lt hx hb hdg ht (fun q => hk _ _ _ _ (h.1 q) _ _ _ hP hD hS hl) (fun q => hk _ _ _ _ (h.2 q) _ _ _ hP hD hS hl)
    · exact lv_icmp_ge hx hb hdg ht (fun q => hk _ _ _ _ (h.1 q) _ _ _ hP hD hS hl) (fun q => hk _ _ _ _ (h.2 q) _ _ _ hP hD hS hl)
    · exact lv_icmp_gt hx hb hdg ht (fun q => hk _ _ _ _ (h.1 q) _ _ _ hP hD hS hl) (fun q => hk _ _ _ _ (h.2 q) _ _ _ hP hD hS hl)
    · exact lv_icmp_le hx hb hdg ht (fun q => hk _ _ _ _ (h.1 q) _ _ _ hP hD hS hl) (fun q => hk _ _ _ _ (h.2 q) _ _ _ hP hD hS hl)
  case tableswitch d lo hi os =>
    obtain ⟨x, r, rfl, h1, hh⟩ := pI_e h; obtain ⟨h2, h3⟩ := ck_e hh; have h2 := Nat.eq_of_beq_eq_true h2
    obtain ⟨hp1, hp2⟩ := Bool.and_eq_true_iff.mp hps
    by_cases ho : x.toInt < lo ∨ hi < x.toInt
    · exact lv_tableOut hx hb hdg ho (tgt_of (of_decide_eq_true hp1)) (hk _ _ _ _ (h1 ho) _ _ _ hP hD hS hl)
    · have g1 : ¬ x.toInt < lo := fun q => ho (Or.inl q)
      have g2 : ¬ hi < x.toInt := fun q => ho (Or.inr q)
      have g3 : (x.toInt - lo).toNat < os.size := by rw [h2]; omega
      obtain ⟨o, hoo⟩ : ∃ o, os[(x.toInt - lo).toNat]? = some o := ⟨_, Array.getElem?_eq_getElem g3⟩
      have hoo' : os.toList[(x.toInt - lo).toNat]? = some o := by rw [Array.getElem?_toList]; exact hoo
      have hpos : 0 ≤ (pc : Int) + o := of_decide_eq_true (List.all_eq_true.mp hp2 o (List.mem_of_getElem? hoo'))
      exact lv_tableIn hx hb hdg g1 g2 hoo (tgt_of hpos) (hk _ _ _ _ (tsw_use h3 _ o hoo' (by omega)) _ _ _ hP hD hS hl)
  case lookupswitch d ps =>
    obtain ⟨x, r, rfl, hh⟩ := pI_e h; obtain ⟨h1, h2⟩ := ck_e hh
    obtain ⟨hp1, hp2⟩ := Bool.and_eq_true_iff.mp hps
    have hpos : 0 ≤ (pc : Int) + Op.lookupswitch.offset ps.toList d x.toInt := by
      rcases lso_mem ps.toList d x.toInt with q | ⟨q, q1, q2⟩
      · rw [q]; exact of_decide_eq_true hp1
      · rw [q2]; exact of_decide_eq_true (List.all_eq_true.mp hp2 q q1)
    exact lv_lookup hx hb hdg h1 rfl (tgt_of hpos) (hk _ _ _ _ (lsw_use h2) _ _ _ hP hD hS hl)
  case getfield n =>
    obtain rfl : len = 3 := hlen.resolve_right (Nat.succ_ne_zero _)
    obtain ⟨a, r, rfl, h⟩ := pR_e h
    obtain ⟨ci, kf, ty, hq, q1⟩ := oF_e h
    obtain ⟨cj, fs, hw, q2⟩ := cO_e q1
    obtain ⟨e1, q3⟩ := cq_e q2
    subst e1
    obtain ⟨v, hv, h⟩ := oO_e q3
    obtain ⟨C, T, N, t0, g1, g2, g3, g4, g5, -⟩ := hf _ _ _ _ hq
    have he := tw_nth (σ := σ) (cA := cA) (k := 0) hw
    rw [Nat.zero_add] at he
    rw [nth_eq] at hv
    exact va_get (a := σ a) (ref := C) hx hb hts g3 hown hK hP a he g1 kf g2 (hts _ g5) (fun x q => by rw [g4] at q; exact q) (v := tv σ v) (by show (fs.map (tv σ))[kf]? = _; rw [List.getElem?_map, hv]; rfl) hdg (hk _ _ _ _ h _ _ _ hP hD hS hl)
  case putfield n =>
    obtain rfl : len = 3 := hlen.resolve_right (Nat.succ_ne_zero _)
    obtain ⟨v, r, rfl, hv1, h⟩ := pA_e h
    obtain ⟨a, r, rfl, h⟩ := pR_e h
    obtain ⟨ci, kf, ty, hq, q0⟩ := oF_e h
    obtain ⟨hok, q1⟩ := okv_e q0
    obtain ⟨cj, fs, hw, q2⟩ := cO_e q1
    obtain ⟨e1, q3⟩ := cq_e q2
    subst e1
    obtain ⟨u, hv, h⟩ := oO_e q3
    obtain ⟨C, T, N, t0, g1, g2, g3, g4, g5, g6, g7, g8, g9, g10⟩ := hf _ _ _ _ hq
    have he := tw_nth (σ := σ) (cA := cA) (k := 0) hw
    rw [Nat.zero_add] at he
    rw [nth_eq] at hv
    have hlt : kf < (fs.map (tv σ)).length := by
      rw [List.length_map]
      exact (List.getElem?_eq_some_iff.mp hv).1
    have hgo : (T kf).2.2.2 = false → narrow (t0 kf) (tv σ v) = tv σ v → fits (t0 kf) (tv σ v) = true → W p l e R s m args below meth c H locs 0 0 (MQ below Qc args s 0 0 free) (F0 m pc ls (tv σ v :: .ref (σ a) :: r.map (tv σ))) := by
      intro f1 f2 f3
      refine va_put (a := σ a) (ref := C) hx hb hts g3 t0 g6 g7 hown hK hP hD hS a he g1 kf g2 (hts _ g5) (fun x q => by rw [g4] at q; exact q) f1 (g6 kf g2) f2 f3 hlt hdg (fun H1 locs1 hP1 hD1 hS1 => ?_)
      have e1 : (tw σ cA 0 w).set a (σ a, .inr (cj, (fs.map (tv σ)).set kf (tv σ v))) = tw σ cA 0 (snth w a (.inl (cj, snth fs kf v))) := by
        rw [tw_snth, Nat.zero_add, snth_eq]
        show _ = (tw σ cA 0 w).set a (σ a, .inr (cj, (fs.set kf v).map (tv σ)))
        rw [List.map_set]
      rw [e1] at hP1 hD1
      exact hk _ _ _ _ h _ _ _ hP1 hD1 hS1 hl
    rcases v with x | x | x
    · match ty, hok with
      | 0, _ => exact hgo (g8 rfl).1 (by rw [(g8 rfl).2]; rfl) (by rw [(g8 rfl).2]; rfl)
      | 1, hok => exact hgo (g9 rfl).1 (by rw [(g9 rfl).2]; exact (nar_z hok).1) (by rw [(g9 rfl).2]; exact (nar_z hok).2.1)
      | 2, hok => exact hok.elim
      | n + 3, hok => exact hok.elim
    · exact absurd rfl (hv1 x)
    · match ty, x, hok with
      | 2, some y, _ =>
        obtain ⟨f1, t, f2⟩ := g10 rfl
        exact hgo f1 (by rw [f2]; rfl) (by rw [f2]; rfl)
  case iaload =>
    obtain rfl : len = 1 := hlen.resolve_right (Nat.succ_ne_zero _)
    obtain ⟨i, r, rfl, h⟩ := pI_e h; obtain ⟨a, r, rfl, h⟩ := pR_e h
    obtain ⟨n, f, hw, hin, h⟩ := cI_e h
    have he := tw_nth (σ := σ) (cA := cA) (k := 0) hw
    rw [Nat.zero_add] at he
    exact va_iald (a := σ a) hx hb hK hP a 0 he rfl hin hdg (hk _ _ _ _ h _ _ _ hP hD hS hl)
  case laload =>
    obtain rfl : len = 1 := hlen.resolve_right (Nat.succ_ne_zero _)
    obtain ⟨i, r, rfl, h⟩ := pI_e h; obtain ⟨a, r, rfl, h⟩ := pR_e h
    obtain ⟨n, f, hw, hin, h⟩ := cL_e h
    have he := tw_nth (σ := σ) (cA := cA) (k := 0) hw
    rw [Nat.zero_add] at he
    exact va_lald (a := σ a) hx hb hK hP a 1 he rfl hin hdg (hk _ _ _ _ h _ _ _ hP hD hS hl)
  case baload =>
    obtain rfl : len = 1 := hlen.resolve_right (Nat.succ_ne_zero _)
    obtain ⟨i, r, rfl, h⟩ := pI_e h; obtain ⟨a, r, rfl, h⟩ := pR_e h
    obtain ⟨n, f, hw, hin, h⟩ := cI_e h
    have he := tw_nth (σ := σ) (cA := cA) (k := 0) hw
    rw [Nat.zero_add] at he
    exact va_zald (a := σ a) hx hb hK hP a 2 he rfl hin hdg (hk _ _ _ _ h _ _ _ hP hD hS hl)
  case aaload =>
    obtain rfl : len = 1 := hlen.resolve_right (Nat.succ_ne_zero _)
    obtain ⟨i, r, rfl, h⟩ := pI_e h; obtain ⟨a, r, rfl, h⟩ := pR_e h
    obtain ⟨n, f, hw, hin, h⟩ := cR_e h
    obtain ⟨v, hv, h⟩ := oO_e h
    have he := tw_nth (σ := σ) (cA := cA) (k := 0) hw
    rw [Nat.zero_add] at he
    have h2 := hk _ _ _ _ h _ _ _ hP hD hS hl
    exact va_aldq (a := σ a) hx hb hK hP a 3 he rfl hin hdg (by rw [hv]; exact h2)
  case arraylength =>
    obtain rfl : len = 1 := hlen.resolve_right (Nat.succ_ne_zero _)
    obtain ⟨a, r, rfl, h⟩ := pR_e h
    obtain ⟨t, n, g, hw, ht, h⟩ := cN_e h
    have he := tw_nth (σ := σ) (cA := cA) (k := 0) hw
    rw [Nat.zero_add] at he
    have h2 := hk _ _ _ _ h _ _ _ hP hD hS hl
    obtain ⟨ty, hty⟩ : ∃ ty, (tysL cA)[t]? = some (cA t, ty) := by
      rcases (show t = 0 ∨ t = 1 ∨ t = 2 ∨ t = 3 by omega) with rfl | rfl | rfl | rfl <;> exact ⟨_, rfl⟩
    rcases g with g | g | g
    · exact va_alen (a := σ a) hx hb hK hP a t he hty rfl hdg h2
    · exact va_alen (a := σ a) hx hb hK hP a t he hty rfl hdg h2
    · exact va_alen (a := σ a) hx hb hK hP a t he hty rfl hdg h2
  case iastore =>
    obtain rfl : len = 1 := hlen.resolve_right (Nat.succ_ne_zero _)
    obtain ⟨x, r, rfl, h⟩ := pI_e h; obtain ⟨i, r, rfl, h⟩ := pI_e h; obtain ⟨a, r, rfl, h⟩ := pR_e h
    obtain ⟨n, f, hw, hin, h⟩ := cI_e h
    have he := tw_nth (σ := σ) (cA := cA) (k := 0) hw
    rw [Nat.zero_add] at he
    refine va_iast (a := σ a) hx hb hK hP hD hS a 0 he rfl hin hdg (fun H1 locs1 hP1 hD1 hS1 => ?_)
    have e1 := tw_snth (σ := σ) (cA := cA) w 0 a (.inr (0, n, .inl (upd f i.toNatClampNeg x)))
    rw [Nat.zero_add] at e1
    exact hk _ _ _ _ h _ _ _ (by rw [e1]; exact hP1) (by rw [e1]; exact hD1) hS1 hl
  case lastore =>
    obtain rfl : len = 1 := hlen.resolve_right (Nat.succ_ne_zero _)
    obtain ⟨x, r, rfl, h⟩ := pL_e h; obtain ⟨i, r, rfl, h⟩ := pI_e h; obtain ⟨a, r, rfl, h⟩ := pR_e h
    obtain ⟨n, f, hw, hin, h⟩ := cL_e h
    have he := tw_nth (σ := σ) (cA := cA) (k := 0) hw
    rw [Nat.zero_add] at he
    refine va_last (a := σ a) hx hb hK hP hD hS a 1 he rfl hin hdg (fun H1 locs1 hP1 hD1 hS1 => ?_)
    have e1 := tw_snth (σ := σ) (cA := cA) w 0 a (.inr (1, n, .inr (.inl (vp_updL f i.toNatClampNeg x))))
    rw [Nat.zero_add] at e1
    exact hk _ _ _ _ h _ _ _ (by rw [e1]; exact hP1) (by rw [e1]; exact hD1) hS1 hl
  case bastore =>
    obtain rfl : len = 1 := hlen.resolve_right (Nat.succ_ne_zero _)
    obtain ⟨x, r, rfl, h⟩ := pI_e h; obtain ⟨i, r, rfl, h⟩ := pI_e h; obtain ⟨a, r, rfl, h⟩ := pR_e h
    obtain ⟨n, f, hw, hin, hz, h⟩ := cI_e h
    have he := tw_nth (σ := σ) (cA := cA) (k := 0) hw
    rw [Nat.zero_add] at he
    refine va_zast (a := σ a) hx hb hK hP hD hS a 2 he rfl hin hdg (fun H1 locs1 hP1 hD1 hS1 => ?_)
    have e1 := tw_snth (σ := σ) (cA := cA) w 0 a (.inr (2, n, .inl (upd f i.toNatClampNeg x)))
    rw [Nat.zero_add] at e1
    rw [(nar_z hz).2.2] at hP1 hD1
    exact hk _ _ _ _ h _ _ _ (by rw [e1]; exact hP1) (by rw [e1]; exact hD1) hS1 hl
  case invokevirtual n => exact hcall _ _ _ _ h lv (fun st' w' q => hk _ _ _ _ q) H locs ls hP hD hS hl
  case invokestatic n => exact hcall _ _ _ _ h lv (fun st' w' q => hk _ _ _ _ q) H locs ls hP hD hS hl
  case invokespecial n => exact hcall _ _ _ _ h lv (fun st' w' q => hk _ _ _ _ q) H locs ls hP hD hS hl
  case ireturn =>
    obtain rfl : len = 1 := hlen.resolve_right (Nat.succ_ne_zero _)
    obtain ⟨x, rfl, hh⟩ := rI_e h; obtain ⟨h1, h2⟩ := rz_e hh
    obtain ⟨q1, q2⟩ := hret _ _ h2 H locs hP hD hS
    rcases h1 with ⟨hz, h1⟩ | hz
    · exact W.zret (ty := .boolean) hx hb (hr.trans (hrt.2.2.1 hz)) (nar_z h1).1 q1 q2 hdg hlocks
    · exact W.iret hx hb (hr.trans (hrt.2.1 hz)) q1 q2 hdg hlocks
  case lreturn =>
    obtain rfl : len = 1 := hlen.resolve_right (Nat.succ_ne_zero _)
    obtain ⟨x, rfl, hh⟩ := rL_e h; obtain ⟨h1, h2⟩ := ck_e hh; have h1 := Nat.eq_of_beq_eq_true h1
    obtain ⟨q1, q2⟩ := hret _ _ h2 H locs hP hD hS
    exact W.lret hx hb (hr.trans (hrt.2.2.2.1 h1)) q1 q2 hdg hlocks
  case areturn =>
    obtain rfl : len = 1 := hlen.resolve_right (Nat.succ_ne_zero _)
    obtain ⟨x, rfl, hh⟩ := rR_e h; obtain ⟨h1, h2⟩ := ck_e hh; have h1 := Nat.eq_of_beq_eq_true h1
    obtain ⟨q1, q2⟩ := hret _ _ h2 H locs hP hD hS
    obtain ⟨n, hn⟩ := hrt.2.2.2.2 h1
    exact W.aret hx hb (hr.trans hn) (Or.inl ⟨n, rfl⟩) (Or.inr ⟨σ x, rfl⟩) q1 q2 hdg hlocks
  case return_ =>
    obtain rfl : len = 1 := hlen.resolve_right (Nat.succ_ne_zero _)
    obtain ⟨rfl, hh⟩ := rV_e h; obtain ⟨h1, h2⟩ := ck_e hh; have h1 := Nat.eq_of_beq_eq_true h1
    obtain ⟨q1, q2⟩ := hret _ _ h2 H locs hP hD hS
    exact W.vret hx hb (hr.trans (hrt.1 h1)) q1 q2 hdg hlocks
  all_goals exact h.elim
end SND
end
section
/-! ===== methods: cuts with a measure, contracts, calls ===== -/
abbrev Fn : Type := List sv → List sc → (Option sv → List sc → Prop) → Prop
abbrev Cts : Type := Nat → Option (List Bool × (Nat → List (Option sv) → List sv → List sc → Prop))
def cutl (n : Nat) : Option (List Bool × (Nat → List (Option sv) → List sv → List sc → Prop)) → Option (List Bool × (List (Option sv) → List sv → List sc → Prop))
  | some (m, P) => some (m, fun lv st w => ∃ n', n' < n ∧ P n' lv st w)
  | none => none
def cuts : Option (List Bool × (Nat → List (Option sv) → List sv → List sc → Prop)) → Option (List Bool × (List (Option sv) → List sv → List sc → Prop))
  | some (m, P) => some (m, fun lv st w => ∃ n', P n' lv st w)
  | none => none
def noc : Cts := fun _ => none
def rmd (d : Nat) : Room := { frames := d, cells := 0, slots := 0, locals := 100 * d }
def NWl : List (String × Nat × MethodName × String) := [(RX0, 58, ⟨"ServesWhatOneDreamt", "within", "(III)Z"⟩, "ServesWhatOneDreamt"), (RX1, 11, ⟨"ServesWhatOneDreamt", "within", "(III)Z"⟩, "ServesWhatOneDreamt"), (RX3, 19, ⟨"ServesWhatOneDreamt", "within", "(III)Z"⟩, "ServesWhatOneDreamt"), (RX4, 25, ⟨"ServesWhatOneDreamt", "isDigit", "(I)Z"⟩, "ServesWhatOneDreamt"), (RX4, 83, ⟨"ServesWhatOneDreamt", "within", "(III)Z"⟩, "ServesWhatOneDreamt")]
def NW (U : State) : Prop := ∀ q ∈ NWl, va_Nw (.methodLinkNest q.1 q.2.1 q.2.2.1 q.2.2.2) U
def wPre (D : va_G) (σ : Nat → Nat) (cA : Nat → ClassId) (sz : Nat) (w : List sc) (U : State) : Prop := U.heap.size = sz ∧ va_P D vwCl (tw σ cA 0 w) U.heap ∧ va_K D vwCl (tysL cA) U ∧ va_D (fun _ => True) (tw σ cA 0 w) ∧ NW U
def Qg (D : va_G) (σ : Nat → Nat) (cA : Nat → ClassId) (A : Nat → Prop) (K : Option sv → List sc → Prop) : Array Value → State → Outcome → State → Prop := fun _ st oc t =>
  (∃ (r : Option sv) (w' : List sc), oc = .returned (r.map (tv σ)) ∧ K r w' ∧ va_P D vwCl (tw σ cA 0 w') t.heap ∧ va_D A (tw σ cA 0 w')) ∧ va_F A st t
def enL : List sv → List (Option sv)
  | [] => []
  | .inl x :: r => some (.inl x) :: enL r
  | .inr (.inl x) :: r => some (.inr (.inl x)) :: none :: enL r
  | .inr (.inr x) :: r => some (.inr (.inr x)) :: enL r
def slen : List sv → Nat
  | [] => 0
  | .inl _ :: r => slen r + 1
  | .inr (.inl _) :: r => slen r + 2
  | .inr (.inr _) :: r => slen r + 1
theorem rf_cat (x : Option Nat) (σ : Nat → Nat) : (va_rf (x.map σ)).category = 1 := by cases x <;> rfl
theorem slen_ok (σ : Nat → Nat) : ∀ (as : List sv), (lg_sl (as.map (tv σ))).length = slen as
  | [] => rfl
  | .inl x :: r => by
    have := slen_ok σ r
    simp only [lg_sl, List.map_cons, List.flatMap_cons, List.length_append] at this ⊢
    rw [this]; simp [slen, tv, Value.category]; omega
  | .inr (.inl x) :: r => by
    have := slen_ok σ r
    simp only [lg_sl, List.map_cons, List.flatMap_cons, List.length_append] at this ⊢
    rw [this]; simp [slen, tv, Value.category]; omega
  | .inr (.inr x) :: r => by
    have := slen_ok σ r
    simp only [lg_sl, List.map_cons, List.flatMap_cons, List.length_append] at this ⊢
    rw [this]; simp [slen, tv, rf_cat]; omega
theorem enL_ok (σ : Nat → Nat) : ∀ (as : List sv) (k : Nat), ∀ q ∈ tl σ k (enL as), q ∈ lv_args k (as.map (tv σ))
  | [], k, q, h => by simp [enL, tl] at h
  | .inl x :: r, k, q, h => by
    simp only [enL, tl, List.mem_cons, List.map_cons, lv_args] at h ⊢
    rcases h with h | h
    · exact Or.inl h
    · refine Or.inr ?_
      have := enL_ok σ r (k + 1) q h
      simpa [tv, Value.category] using this
  | .inr (.inl x) :: r, k, q, h => by
    simp only [enL, tl, List.mem_cons, List.map_cons, lv_args] at h ⊢
    rcases h with h | h
    · exact Or.inl h
    · refine Or.inr ?_
      have := enL_ok σ r (k + 1 + 1) q h
      simpa [tv, Value.category] using this
  | .inr (.inr x) :: r, k, q, h => by
    simp only [enL, tl, List.mem_cons, List.map_cons, lv_args] at h ⊢
    rcases h with h | h
    · exact Or.inl h
    · refine Or.inr ?_
      have := enL_ok σ r (k + 1) q h
      simpa [tv, rf_cat] using this
/-- a method's contract: whatever F says -/
def Ct (y : MethodName) (cc : ByteArray) (nL : Nat) (rt : Option FieldType) (d : Nat) (F : Fn) : Prop :=
  ∀ (l : Launch) (D : va_G) (σ : Nat → Nat) (cA : Nat → ClassId) (sz : Nat) (as : List sv) (w : List sc) (K : Option sv → List sc → Prop), F as w K →
    Met l y (.code y cc nL rt :: uW) (rmd d) (va_Pc (as.map (tv σ)) (wPre D σ cA sz w)) (Qg D σ cA (va_A (tw σ cA 0 w) sz) K) 0 0 (va_A (tw σ cA 0 w) sz)
def SiteOK (cc : ByteArray) (nL : Nat) (rt : Option FieldType) (own : String) (d pc : Nat) (f : List sv → List sc → (List sv → List sc → Prop) → Prop) : Prop :=
  ∀ (p : Program) (l : Launch) (e : Env) (s : State) (m : MethodId) (args : Array Value) (below : List Frame) (meth : Method) (c : Code) (D : va_G) (σ : Nat → Nat) (cA : Nat → ClassId) (A : Nat → Prop) (Q : State → Prop),
    Cx p s m args meth c D cA cc nL rt own → NW s → (∀ q, s.heap.size ≤ q → A q) → ∀ st w kk, f st w kk → ∀ lv, (∀ st' w', kk st' w' → Zx p l e (rmd d) s m args below meth c D σ cA A s.heap nL Q (pc + 3) lv st' w') → Zx p l e (rmd d) s m args below meth c D σ cA A s.heap nL Q pc lv st w
def ctab : List (Nat × (List sv → List sc → (List sv → List sc → Prop) → Prop)) → Cl
  | [], _, _, _, _ => False
  | (q, f) :: t, pc, st, w, kk => if pc = q then f st w kk else ctab t pc st w kk
def CallOK (cc : ByteArray) (nL : Nat) (rt : Option FieldType) (own : String) (d : Nat) (t : List (Nat × (List sv → List sc → (List sv → List sc → Prop) → Prop))) : Prop := ∀ q ∈ t, SiteOK cc nL rt own d q.1 q.2
theorem CallOK_nil {cc : ByteArray} {nL : Nat} {rt : Option FieldType} {own : String} {d : Nat} : CallOK cc nL rt own d [] := fun _ h => by cases h
theorem CallOK_cons {cc : ByteArray} {nL : Nat} {rt : Option FieldType} {own : String} {d pc : Nat} {f : List sv → List sc → (List sv → List sc → Prop) → Prop} {t : List (Nat × (List sv → List sc → (List sv → List sc → Prop) → Prop))} (h : SiteOK cc nL rt own d pc f) (ht : CallOK cc nL rt own d t) : CallOK cc nL rt own d ((pc, f) :: t) := by
  intro q hq
  rcases List.mem_cons.mp hq with rfl | hq
  · exact h
  · exact ht q hq
theorem ctab_use {cc : ByteArray} {nL : Nat} {rt : Option FieldType} {own : String} {d : Nat} : ∀ {t : List (Nat × (List sv → List sc → (List sv → List sc → Prop) → Prop))} {pc : Nat} {st : List sv} {w : List sc} {kk : List sv → List sc → Prop}, CallOK cc nL rt own d t → ctab t pc st w kk → ∃ f, SiteOK cc nL rt own d pc f ∧ f st w kk
  | [], _, _, _, _, _, h => h.elim
  | (q, f) :: t, pc, st, w, kk, ht, h => by
    unfold ctab at h
    by_cases e : pc = q
    · rw [if_pos e] at h
      exact ⟨f, by rw [e]; exact ht (q, f) List.mem_cons_self, h⟩
    · rw [if_neg e] at h
      exact ctab_use (fun z hz => ht z (List.mem_cons_of_mem _ hz)) h
section WPS
variable {p : Program} {l : Launch} {e : Env} {R : Room} {s : State} {m : MethodId} {args : Array Value} {below : List Frame} {meth : Method} {c : Code} {D : va_G} {σ : Nat → Nat} {cA : Nat → ClassId} {A : Nat → Prop} {H0 : Heap} {nL : Nat}
theorem wp_sound {cc : ByteArray} {pr : Pg} {rk : Nat} {fld : Ft} {cst : Nat → Option Int32} {cstL : Nat → Option Int64} {call : Cl} {ret : Option sv → List sc → Prop} {rt : Option FieldType} {own : String} {Qc : Array Value → State → Outcome → State → Prop} {free : Addr → Prop} {cut : Ct0}
    (hpr : ∀ pc q, pr pc = some q → xdec cc pc = some q) (X : Cx p s m args meth c D cA cc nL rt own) (hf : fdo own fld) (hc : cdo own cst cstL) (hrt : rto rk rt)
    (hcall : ∀ pc st w kk, call pc st w kk → ∀ lv, (∀ st' w', kk st' w' → Zx p l e R s m args below meth c D σ cA A H0 nL (MQ below Qc args s 0 0 free) (pc + 3) lv st' w') → Zx p l e R s m args below meth c D σ cA A H0 nL (MQ below Qc args s 0 0 free) pc lv st w)
    (hret : ∀ r w, ret r w → ∀ H locs, va_P D vwCl (tw σ cA 0 w) H → va_D A (tw σ cA 0 w) → va_S A H0 H locs → (∀ t : State, t.heap = H → s.WarmedH t.vm → Qc args s (.returned (r.map (tv σ))) t) ∧ ∀ q ∈ locs, free q.base)
    (hcut : ∀ pc mm P, cut pc = some (mm, P) → ∀ lv st w, P lv st w → Zx p l e R s m args below meth c D σ cA A H0 nL (MQ below Qc args s 0 0 free) pc lv st w) :
    ∀ (n pc : Nat) (lv : List (Option sv)) (st : List sv) (w : List sc), wp pr nL rk fld cst cstL call ret cut n pc lv st w → Zx p l e R s m args below meth c D σ cA A H0 nL (MQ below Qc args s 0 0 free) pc lv st w
  | 0, _, _, _, _, h => h.elim
  | n + 1, pc, lv, st, w, h => by
    unfold wp at h
    cases hcp : cut pc with
    | none =>
      rw [hcp] at h
      obtain ⟨i, nx, tg, li, hd, h⟩ := oP_e (show oP _ _ from h)
      exact stpi_sound X hf hc hrt (fun pc lv st w q => wp_sound hpr X hf hc hrt hcall hret hcut n pc lv st w q) hcall hret (hpr _ _ hd) h
    | some q =>
      obtain ⟨mm, P⟩ := q
      rw [hcp] at h
      exact Zx_mask mm (hcut _ _ _ hcp _ _ _ h)
theorem cuts_sound {cc : ByteArray} {pr : Pg} {rk : Nat} {fld : Ft} {cst : Nat → Option Int32} {cstL : Nat → Option Int64} {call : Cl} {ret : Option sv → List sc → Prop} {rt : Option FieldType} {own : String} {Qc : Array Value → State → Outcome → State → Prop} {free : Addr → Prop} {cs : Cts} {fuel : Nat}
    (hpr : ∀ pc q, pr pc = some q → xdec cc pc = some q) (X : Cx p s m args meth c D cA cc nL rt own) (hf : fdo own fld) (hc : cdo own cst cstL) (hrt : rto rk rt)
    (hcall : ∀ pc st w kk, call pc st w kk → ∀ lv, (∀ st' w', kk st' w' → Zx p l e R s m args below meth c D σ cA A H0 nL (MQ below Qc args s 0 0 free) (pc + 3) lv st' w') → Zx p l e R s m args below meth c D σ cA A H0 nL (MQ below Qc args s 0 0 free) pc lv st w)
    (hret : ∀ r w, ret r w → ∀ H locs, va_P D vwCl (tw σ cA 0 w) H → va_D A (tw σ cA 0 w) → va_S A H0 H locs → (∀ t : State, t.heap = H → s.WarmedH t.vm → Qc args s (.returned (r.map (tv σ))) t) ∧ ∀ q ∈ locs, free q.base)
    (hinv : ∀ pc mm P, cs pc = some (mm, P) → ∀ n lv st w, P n lv st w → stp pr nL rk fld cst cstL call ret (wp pr nL rk fld cst cstL call ret (fun q => cutl n (cs q)) fuel) pc lv st w) :
    ∀ (n pc : Nat) (mm : List Bool) (P : Nat → List (Option sv) → List sv → List sc → Prop), cs pc = some (mm, P) → ∀ lv st w, P n lv st w → Zx p l e R s m args below meth c D σ cA A H0 nL (MQ below Qc args s 0 0 free) pc lv st w := by
  intro n
  induction n using Nat.strongRecOn with
  | ind n ih =>
    intro pc mm P hcp lv st w hp
    obtain ⟨i, nx, tg, li, hd, h⟩ := oP_e (show oP _ _ from hinv pc mm P hcp n lv st w hp)
    refine stpi_sound X hf hc hrt (fun pc lv st w q => wp_sound hpr X hf hc hrt hcall hret ?_ fuel pc lv st w q) hcall hret (hpr _ _ hd) h
    intro pc' mm' P' hc' lv' st' w' hp'
    have hc2 : cutl n (cs pc') = some (mm', P') := hc'
    cases h3 : cs pc' with
    | none => rw [h3] at hc2; cases hc2
    | some q =>
      obtain ⟨m2, P2⟩ := q
      rw [h3] at hc2
      cases hc2
      obtain ⟨n', hn', hp'⟩ := hp'
      exact ih n' hn' pc' _ P2 h3 lv' st' w' hp'
end WPS
theorem met_of {y : MethodName} {cc : ByteArray} {pr : Pg} {nL rk d fuel : Nat} {rt : Option FieldType} {fld : Ft} {cst : Nat → Option Int32} {cstL : Nat → Option Int64} {ct : List (Nat × (List sv → List sc → (List sv → List sc → Prop) → Prop))} {as : List sv} {w : List sc} {K : Option sv → List sc → Prop} (cs : Cts)
    (hpr : ∀ pc q, pr pc = some q → xdec cc pc = some q) (hy : plainName y.cls = true) (hf : fdo y.cls fld) (hc : cdo y.cls cst cstL) (hrt : rto rk rt) (hct : CallOK cc nL rt y.cls d ct) (hlen : slen as ≤ nL)
    (hinv : ∀ pc mm P, cs pc = some (mm, P) → ∀ n lv st w, P n lv st w → stp pr nL rk fld cst cstL (ctab ct) K (wp pr nL rk fld cst cstL (ctab ct) K (fun q => cutl n (cs q)) fuel) pc lv st w)
    (hst : wp pr nL rk fld cst cstL (ctab ct) K (fun q => cuts (cs q)) fuel 0 (enL as) [] w)
    (l : Launch) (D : va_G) (σ : Nat → Nat) (cA : Nat → ClassId) (sz : Nat) :
    Met l y (.code y cc nL rt :: uW) (rmd d) (va_Pc (as.map (tv σ)) (wPre D σ cA sz w)) (Qg D σ cA (va_A (tw σ cA 0 w) sz) K) 0 0 (va_A (tw σ cA 0 w) sz) := by
  refine Met.ofW (cc := cc) (maxL := nL) (ret := rt) hy rfl ?_
  intro p e s m args below meth c s₁ B hml hv
  obtain ⟨rfl, hsz, hP, hK, hD0, hnw⟩ := hv
  have hts0 := atoms_spec (ws := .code y cc nL rt :: uW) B.pre
  have hown : s.vm.findClass y.cls = some m.cls := findClass_of_methodNamed B.named
  subst hsz
  have hD := hD0.self (sz := s.heap.size)
  generalize hAe : va_A (tw σ cA 0 w) s.heap.size = A at hD ⊢
  have hA : ∀ q : Nat, s.heap.size ≤ q → A q := fun q h => by rw [← hAe]; exact Or.inr h
  have hS : va_S A s.heap s.heap [] := va_S.rf
  have X : Cx p s m (as.map (tv σ)).toArray meth c D cA cc nL rt y.cls := ⟨B.exec, B.bytes, hml, hown, fun w hw => hts0 w (List.mem_cons_of_mem _ hw), hK, B.notSynchronized, B.returns⟩
  have hcall : ∀ pc st w kk, ctab ct pc st w kk → ∀ lv, (∀ st' w', kk st' w' → Zx p l e (rmd d) s m (as.map (tv σ)).toArray below meth c D σ cA A s.heap nL (MQ below (Qg D σ cA A K) (as.map (tv σ)).toArray s 0 0 A) (pc + 3) lv st' w') → Zx p l e (rmd d) s m (as.map (tv σ)).toArray below meth c D σ cA A s.heap nL (MQ below (Qg D σ cA A K) (as.map (tv σ)).toArray s 0 0 A) pc lv st w := by
    intro pc st w kk h lv hk
    obtain ⟨f, hs, hf⟩ := ctab_use hct h
    exact hs p l e s m _ below meth c D σ cA A _ X hnw hA st w kk hf lv hk
  have hret : ∀ r w, K r w → ∀ H locs, va_P D vwCl (tw σ cA 0 w) H → va_D A (tw σ cA 0 w) → va_S A s.heap H locs → (∀ t : State, t.heap = H → s.WarmedH t.vm → Qg D σ cA A K (as.map (tv σ)).toArray s (.returned (r.map (tv σ))) t) ∧ ∀ q ∈ locs, A q.base := by
    intro r w' hK' H locs hP' hD' hS'
    exact ⟨fun t ht _ => ⟨⟨r, w', rfl, hK', by rw [ht]; exact hP', hD'⟩, hS'.F ht⟩, hS'.2.2⟩
  have hl := lv_entry (as.map (tv σ)) (n := nL) (by rw [slen_ok]; exact hlen)
  rw [lg_entry_eq]
  generalize (lg_sl (as.map (tv σ)) ++ List.replicate (nL - (lg_sl (as.map (tv σ))).length) Slot.unset).toArray = ls at hl ⊢
  have hz := wp_sound (p := p) (l := l) (e := e) (R := rmd d) (below := below) (σ := σ) (A := A) (H0 := s.heap) (Qc := Qg D σ cA A K) (free := A) hpr X hf hc hrt hcall hret (cut := fun q => cuts (cs q)) (by
    intro pc mm P hcp lv st w hp
    cases h3 : cs pc with
    | none => simp [h3, cuts] at hcp
    | some q =>
      obtain ⟨m2, P2⟩ := q
      simp only [h3, cuts, Option.some.injEq, Prod.mk.injEq] at hcp
      obtain ⟨rfl, rfl⟩ := hcp
      obtain ⟨n, hp⟩ := hp
      exact cuts_sound hpr X hf hc hrt hcall hret hinv n pc m2 P2 h3 lv st w hp) fuel 0 (enL as) [] w hst
  exact hz s.heap [] ls hP hD hS (lvh_sub hl (enL_ok σ as 0))
end
section
/-! ===== calls: in the same world, in a part of it ===== -/
def popN : Nat → List sv → List sv → (List sv → List sv → Prop) → Prop
  | 0, st, acc, f => f acc st
  | n + 1, v :: st, acc, f => popN n st (v :: acc) f
  | _ + 1, [], _, _ => False
theorem popN_e : ∀ {n : Nat} {st acc : List sv} {f : List sv → List sv → Prop}, popN n st acc f → ∃ as rest, st = as.reverse ++ rest ∧ as.length = n ∧ f (as ++ acc) rest
  | 0, st, acc, f, h => ⟨[], st, rfl, rfl, h⟩
  | n + 1, [], acc, f, h => h.elim
  | n + 1, v :: st, acc, f, h => by
    obtain ⟨as, rest, h1, h2, h3⟩ := popN_e (show popN n st (v :: acc) f from h)
    exact ⟨as ++ [v], rest, by rw [h1]; simp, by simp [h2], by simpa using h3⟩
def rcat : List sv → Nat
  | [] => 0
  | .inl _ :: r => rcat r + 1
  | .inr (.inl _) :: r => rcat r + 2
  | .inr (.inr _) :: r => rcat r + 1
theorem rcat_ok (σ : Nat → Nat) : ∀ (st : List sv), ((st.map (tv σ)).map fun v => v.category).sum = rcat st
  | [] => rfl
  | .inl x :: r => by simp [rcat, tv, Value.category, ← rcat_ok σ r]; omega
  | .inr (.inl x) :: r => by simp [rcat, tv, Value.category, ← rcat_ok σ r]; omega
  | .inr (.inr x) :: r => by simp [rcat, tv, rf_cat, ← rcat_ok σ r]; omega
def rok : Option Nat → List sv → List sc → Prop → Prop
  | none, _, _, A => A
  | some ci, .inr (.inr (some k)) :: _, w, A => cO (nth w k) fun cj _ => cq cj ci A
  | _, _, _, _ => False
theorem rok_e {vk : Option Nat} {as : List sv} {w : List sc} {A : Prop} (h : rok vk as w A) : rok vk as w True ∧ A := by
  unfold rok at h; split at h
  · exact ⟨trivial, h⟩
  · obtain ⟨ci, fs, h1, h2⟩ := cO_e h
    obtain ⟨rfl, h3⟩ := cq_e h2
    refine ⟨?_, h3⟩
    show cO _ _
    rw [h1]
    show ck (Nat.beq _ _) True
    rw [Nat.beq_refl]
    trivial
  · exact h.elim
def oL : Option sv → List sv
  | none => []
  | some v => [v]
theorem oL_ok (σ : Nat → Nat) (r : Option sv) (rest : List sv) : (oL r ++ rest).map (tv σ) = (r.map (tv σ)).toList ++ rest.map (tv σ) := by cases r <;> simp [oL]
/-- a call on the whole world -/
def cS (vk : Option Nat) (na : Nat) (F : Fn) (st : List sv) (w : List sc) (kk : List sv → List sc → Prop) : Prop :=
  popN na st [] fun as rest => ck (Nat.ble (rcat rest) 8) (rok vk as w (F as w fun r w' => kk (oL r ++ rest) w'))
def ixo : List Nat → Nat → Nat → Nat → Nat
  | [], x, _, n => n + x
  | a :: r, x, k, n => if x = a then k else ixo r x (k + 1) n
def rn (is : List Nat) (x : Nat) : Nat := ixo is x 0 is.length
def unO (n k : Nat) : Option Nat → Nat
  | some i => i
  | none => k - n
def un (is : List Nat) (k : Nat) : Nat := unO is.length k (nth is k)
theorem ixo_un : ∀ (pre r : List Nat) (x : Nat), un (pre ++ r) (ixo r x pre.length (pre ++ r).length) = x
  | pre, [], x => by
    have h : nth pre (pre.length + x) = none := by rw [nth_eq]; simp
    simp [ixo, un, h, unO]
  | pre, a :: r, x => by
    unfold ixo
    by_cases e : x = a
    · subst e
      simp [un, nth_eq, unO]
    · rw [if_neg e]
      have := ixo_un (pre ++ [a]) r x
      simpa using this
theorem un_rn (is : List Nat) (x : Nat) : un is (rn is x) = x := ixo_un [] is x
def renv (is : List Nat) : sv → sv
  | .inl x => .inl x
  | .inr (.inl x) => .inr (.inl x)
  | .inr (.inr none) => .inr (.inr none)
  | .inr (.inr (some x)) => .inr (.inr (some (rn is x)))
def unrv (is : List Nat) : sv → sv
  | .inl x => .inl x
  | .inr (.inl x) => .inr (.inl x)
  | .inr (.inr none) => .inr (.inr none)
  | .inr (.inr (some x)) => .inr (.inr (some (un is x)))
def renc (is : List Nat) : sc → sc
  | .inl (ci, fs) => .inl (ci, fs.map (renv is))
  | .inr (t, n, .inl f) => .inr (t, n, .inl f)
  | .inr (t, n, .inr (.inl f)) => .inr (t, n, .inr (.inl f))
  | .inr (t, n, .inr (.inr f)) => .inr (t, n, .inr (.inr (fun i => (f i).map (rn is))))
def unrc (is : List Nat) : sc → sc
  | .inl (ci, fs) => .inl (ci, fs.map (unrv is))
  | .inr (t, n, .inl f) => .inr (t, n, .inl f)
  | .inr (t, n, .inr (.inl f)) => .inr (t, n, .inr (.inl f))
  | .inr (t, n, .inr (.inr f)) => .inr (t, n, .inr (.inr (fun i => (f i).map (un is))))
theorem tv_ren (σ : Nat → Nat) (is : List Nat) (v : sv) : tv (fun k => σ (un is k)) (renv is v) = tv σ v := by
  rcases v with x | x | x
  · rfl
  · rfl
  · cases x with
    | none => rfl
    | some x => simp [renv, tv, un_rn]
theorem tv_unr (σ : Nat → Nat) (is : List Nat) (v : sv) : tv σ (unrv is v) = tv (fun k => σ (un is k)) v := by
  rcases v with x | x | x
  · rfl
  · rfl
  · cases x <;> rfl
theorem tc_ren (σ : Nat → Nat) (cA : Nat → ClassId) (is : List Nat) (c : sc) : tc (fun k => σ (un is k)) cA (renc is c) = tc σ cA c := by
  rcases c with ⟨ci, fs⟩ | ⟨t, n, f | f | f⟩
  · simp [renc, tc, tv_ren]
  · rfl
  · rfl
  · have e : (fun i => ((f i).map (rn is)).map (fun k => σ (un is k))) = (fun i => (f i).map σ) := by
      funext i
      cases f i with
      | none => rfl
      | some x => simp [un_rn]
    simp only [renc, tc]
    rw [e]
theorem tc_unr (σ : Nat → Nat) (cA : Nat → ClassId) (is : List Nat) (c : sc) : tc σ cA (unrc is c) = tc (fun k => σ (un is k)) cA c := by
  rcases c with ⟨ci, fs⟩ | ⟨t, n, f | f | f⟩
  · have e : (fs.map (unrv is)).map (tv σ) = fs.map (tv (fun k => σ (un is k))) := by
      rw [List.map_map]
      exact List.map_congr_left (fun v _ => tv_unr σ is v)
    simp only [unrc, tc]
    rw [e]
  · rfl
  · rfl
  · have e : (fun i => ((f i).map (un is)).map σ) = (fun i => (f i).map (fun k => σ (un is k))) := by
      funext i
      cases f i <;> rfl
    simp only [unrc, tc]
    rw [e]
def pick : List Nat → List sc → (List sc → Prop) → Prop
  | [], _, f => f []
  | i :: r, w, f => oO (nth w i) fun c => pick r w fun cs => f (c :: cs)
theorem pick_e : ∀ {is : List Nat} {w : List sc} {f : List sc → Prop}, pick is w f → ∃ cs, f cs ∧ cs.length = is.length ∧ ∀ k i, nth is k = some i → ∃ c, nth w i = some c ∧ nth cs k = some c
  | [], w, f, h => ⟨[], h, rfl, fun k i hk => by cases k <;> cases hk⟩
  | i :: r, w, f, h => by
    obtain ⟨c, hc, h⟩ := oO_e h
    obtain ⟨cs, h1, h2, h3⟩ := pick_e h
    refine ⟨c :: cs, h1, by simp [h2], fun k j hk => ?_⟩
    cases k with
    | zero => cases hk; exact ⟨c, hc, rfl⟩
    | succ k => exact h3 k j hk
def putw (is0 : List Nat) : List Nat → List sc → List sc → List sc
  | i :: r, w, c :: cs => putw is0 r (snth w i (unrc is0 c)) cs
  | _, w, _ => w
theorem nth_snth {α : Type} : ∀ (l : List α) (i j : Nat) (x c : α), nth (snth l i x) j = some c → (j = i ∧ c = x ∧ ∃ c', nth l j = some c') ∨ (j ≠ i ∧ nth l j = some c)
  | [], i, j, x, c, h => by simp [snth, nth] at h
  | a :: r, 0, 0, x, c, h => by cases h; exact Or.inl ⟨rfl, rfl, a, rfl⟩
  | a :: r, 0, j + 1, x, c, h => Or.inr ⟨by omega, h⟩
  | a :: r, i + 1, 0, x, c, h => Or.inr ⟨by omega, h⟩
  | a :: r, i + 1, j + 1, x, c, h => by
    rcases nth_snth r i j x c h with ⟨h1, h2, h3⟩ | ⟨h1, h2⟩
    · exact Or.inl ⟨by omega, h2, h3⟩
    · exact Or.inr ⟨by omega, h2⟩
theorem putw_e (is0 : List Nat) : ∀ {r : List Nat} {w cs : List sc} {j : Nat} {c : sc}, r.length = cs.length → nth (putw is0 r w cs) j = some c → (∃ k c', nth r k = some j ∧ nth cs k = some c' ∧ c = unrc is0 c') ∨ (j ∉ r ∧ nth w j = some c)
  | [], w, [], j, c, _, h => Or.inr ⟨by simp, h⟩
  | i :: r, w, c0 :: cs, j, c, hl, h => by
    rcases putw_e is0 (r := r) (by simpa using hl) (show nth (putw is0 r (snth w i (unrc is0 c0)) cs) j = some c from h) with ⟨k, c', h1, h2, h3⟩ | ⟨h1, h2⟩
    · exact Or.inl ⟨k + 1, c', h1, h2, h3⟩
    · rcases nth_snth _ _ _ _ _ h2 with ⟨e, h3, -⟩ | ⟨e, h3⟩
      · exact Or.inl ⟨0, c0, by rw [e]; rfl, rfl, h3⟩
      · exact Or.inr ⟨by simp [e, h1], h3⟩
theorem putw_d (is0 : List Nat) : ∀ {r : List Nat} {w cs : List sc} {j : Nat} {c : sc}, nth (putw is0 r w cs) j = some c → ∃ c', nth w j = some c'
  | [], w, cs, j, c, h => by cases cs <;> exact ⟨c, h⟩
  | i :: r, w, [], j, c, h => ⟨c, h⟩
  | i :: r, w, c0 :: cs, j, c, h => by
    obtain ⟨c1, h1⟩ := putw_d is0 (r := r) (cs := cs) (show nth (putw is0 r (snth w i (unrc is0 c0)) cs) j = some c from h)
    rcases nth_snth _ _ _ _ _ h1 with ⟨-, -, h3⟩ | ⟨-, h3⟩
    · exact h3
    · exact ⟨_, h3⟩
/-- a call on a part of the world: the cells of the list -/
def cG (is : List Nat) (vk : Option Nat) (na : Nat) (F : Fn) (st : List sv) (w : List sc) (kk : List sv → List sc → Prop) : Prop :=
  popN na st [] fun as rest => ck (Nat.ble (rcat rest) 8) (pick is w fun cs => rok vk (as.map (renv is)) (cs.map (renc is)) (F (as.map (renv is)) (cs.map (renc is)) fun r wc => ck (Nat.beq is.length wc.length) (kk (oL (r.map (unrv is)) ++ rest) (putw is is w wc))))
theorem wPre_blind {D : va_G} {σ : Nat → Nat} {cA : Nat → ClassId} {sz : Nat} {w : List sc} {av : List Value} : FrameBlind (va_Pc av (wPre D σ cA sz w)) := by
  intro a U g mk q
  obtain ⟨q0, q1, qP, qK, qD, qN⟩ := q
  exact ⟨q0, q1, qP, va_K.moved (u := U) (U := U.calling g mk a) (Vm.Alike.refl U.vm) qK, qD, fun q hq => va_Nw.same rfl rfl (qN q hq)⟩
section RUN
variable {p : Program} {l : Launch} {e : Env} {R : Room} {s : State} {m : MethodId} {args : Array Value} {below : List Frame} {meth : Method} {c : Code} {D : va_G} {σ : Nat → Nat} {cA : Nat → ClassId} {A0 A1 : Nat → Prop} {H0 H : Heap} {nL : Nat} {locs : List Loc} {Q : State → Prop}
theorem wPre_at {w : List sc} (hK : va_K D vwCl (tysL cA) s) (hnw : NW s) (hP : va_P D vwCl (tw σ cA 0 w) H) (hD : va_D A0 (tw σ cA 0 w)) (U : State) (hU : U.heap = H) (hW : s.WarmedH U.vm) : wPre D σ cA H.size w U :=
  ⟨by rw [hU], by rw [hU]; exact hP, va_K.moved hW.alike hK, hD.weaken (fun _ _ _ _ => trivial), fun q hq => va_Nw.warmM hW (hnw q hq)⟩
theorem run_go {K : Option sv → List sc → Prop} {free : Addr → Prop} {a : Array Value} {pc : Nat} {ls : Array Slot} {st0 rest : List Value} (hr : va_Run p l e R s m args below meth c H locs 0 0 0 0 (F0 m pc ls st0) rest (Qg D σ cA A1 K a) free) (hS : va_S A0 H0 H locs) (hA : ∀ q, q < H.size → A1 q → A0 q) (hf : ∀ q, free q → A0 q)
    (kk : ∀ (r : Option sv) (w' : List sc) (H1 : Heap) (locs1 : List Loc), K r w' → va_P D vwCl (tw σ cA 0 w') H1 → va_D A1 (tw σ cA 0 w') → H.size ≤ H1.size → (∀ q : Nat, q < H.size → ¬ A1 q → H1[q]? = H[q]?) → va_S A0 H0 H1 locs1 → W p l e R s m args below meth c H1 locs1 0 0 Q (F0 m (pc + 3) ls ((r.map (tv σ)).toList ++ rest))) : W p l e R s m args below meth c H locs 0 0 Q (F0 m pc ls st0) := by
  intro T hT X
  obtain ⟨v, st₀, t, T', L, h0, X', hL, e1, e2, ⟨⟨r, w', hv, hk, hp, hd⟩, hz, hkp⟩, st⟩ := hr T hT X
  cases hv
  rw [h0] at hz hkp
  obtain ⟨t2, a1, b1⟩ := kk r w' T'.heap (locs ++ L) hk (by rw [e1]; exact hp) hd (by rw [e1]; exact hz) (fun q h1 h2 => by rw [e1]; exact hkp q h1 h2)
    ⟨Nat.le_trans hS.1 (by rw [e1]; exact hz), fun q h1 h2 => by rw [e1, hkp q (Nat.lt_of_lt_of_le h1 hS.1) (fun z => h2 (hA q (Nat.lt_of_lt_of_le h1 hS.1) z))]; exact hS.2.1 q h1 h2, fun q hq => by
      rcases List.mem_append.mp hq with h | h
      · exact hS.2.2 q h
      · exact hf _ (hL q h)⟩ T' rfl X'
  exact ⟨t2, st t2 a1, b1⟩
end RUN
def RunOK (cc : ByteArray) (nL : Nat) (rt : Option FieldType) (own : String) (d pc : Nat) (vk : Option Nat) (na : Nat) (F : Fn) : Prop :=
  ∀ (p : Program) (l : Launch) (e : Env) (s : State) (m : MethodId) (args : Array Value) (below : List Frame) (meth : Method) (c : Code) (D : va_G) (σ : Nat → Nat) (cA : Nat → ClassId), Cx p s m args meth c D cA cc nL rt own → NW s →
    ∀ (H : Heap) (locs : List Loc) (ls : Array Slot) (as : List sv) (w : List sc) (K : Option sv → List sc → Prop) (B : Nat → Prop) (restV : List Value), F as w K → as.length = na → rok vk as w True → va_P D vwCl (tw σ cA 0 w) H → va_D B (tw σ cA 0 w) → ls.size = nL → (restV.map fun v => v.category).sum ≤ 8 →
      va_Run p l e (rmd d) s m args below meth c H locs 0 0 0 0 (F0 m pc ls ((as.map (tv σ)).reverse ++ restV)) restV (Qg D σ cA (va_A (tw σ cA 0 w) H.size) K (as.map (tv σ)).toArray) (va_A (tw σ cA 0 w) H.size)
theorem good_code {y : MethodName} {cc : ByteArray} {nL : Nat} {rt : Option FieldType} (h : Cond.code y cc nL rt ∈ uW) : GoodIn uW (.code y cc nL rt :: uW) := by
  intro w hw
  rcases List.mem_cons.mp hw with rfl | hw
  · exact uW_good _ h
  · exact uW_good _ hw
theorem run_S {cc cc' : ByteArray} {nL nL' d d' pc idx na : Nat} {rt rt' : Option FieldType} {own : String} {y : MethodName} {F : Fn} (hdg : decode cc pc = .ok (.invokestatic idx, 3)) (hct : Ct y cc' nL' rt' d' F) (hcode : Cond.code y cc' nL' rt' ∈ uW) (hl : Cond.methodLink own idx y ∈ uW) (hst : Cond.static y ∈ uW) (hin : Cond.initialized y.cls ∈ uW)
    (hd : y.cls ≠ "java/lang/invoke/MethodHandle" ∧ y.cls ≠ "java/lang/invoke/VarHandle" ∧ (parseMethodDescriptor y.desc).map (fun d => d.parameters.length) = some na) (hdd : d' + 1 ≤ d) (hnl : nL' ≤ 81) : RunOK cc nL rt own d pc none na F := by
  intro p l e s m args below meth c D σ cA X hnw H locs ls as w K B restV hF hlen _ hP hD hls hrc
  obtain ⟨hx, hb, hml, hown, hts, hK, hlocks, hr⟩ := X
  have hM := hct l D σ cA H.size as w K hF
  have cb : CallB (rmd d) s args own idx y cc' nL' rt' (.code y cc' nL' rt' :: uW) (rmd d') 0 0 na := callB_of na hts (good_code hcode) rfl rfl rfl (hts _ hin) (hts _ hl) hd ⟨hdd, by show 8 + (nL' + 11) + 100 * d' ≤ 100 * d; omega⟩
  exact va_runS (As := as.map (tv σ)) (rest := restV) (nL := nL) ⟨hx, hb, hml, hown, hts⟩ hM ⟨cb, hts _ hst⟩ ⟨wPre_blind, fun U hU hW => ⟨rfl, wPre_at hK hnw hP hD U hU hW⟩⟩ rfl (by rw [List.length_map]; exact hlen) hls rfl (lv_room hrc) hdg ⟨Nat.le_refl 0, Nat.le_refl 0⟩
theorem run_N {cc cc' : ByteArray} {nL nL' d d' pc idx na : Nat} {rt rt' : Option FieldType} {own host : String} {y : MethodName} {F : Fn} (hdg : decode cc pc = .ok (.invokestatic idx, 3)) (hct : Ct y cc' nL' rt' d' F) (hcode : Cond.code y cc' nL' rt' ∈ uW) (hl : (own, idx, y, host) ∈ NWl) (hst : Cond.static y ∈ uW) (hin : Cond.initialized y.cls ∈ uW)
    (hd : y.cls ≠ "java/lang/invoke/MethodHandle" ∧ y.cls ≠ "java/lang/invoke/VarHandle" ∧ (parseMethodDescriptor y.desc).map (fun d => d.parameters.length) = some na) (hdd : d' + 1 ≤ d) (hnl : nL' ≤ 81) : RunOK cc nL rt own d pc none na F := by
  intro p l e s m args below meth c D σ cA X hnw H locs ls as w K B restV hF hlen _ hP hD hls hrc
  obtain ⟨hx, hb, hml, hown, hts, hK, hlocks, hr⟩ := X
  have hM := hct l D σ cA H.size as w K hF
  have cb := va_cnB (R := rmd d) (s := s) (args := args) (own := own) (host := host) (index := idx) (maxL := nL') (mc := 0) (ms := 0) (y := y) (bytes := cc') (ret := rt') (Ts := uW) (ws := .code y cc' nL' rt' :: uW) (rm := rmd d') na hts (good_code hcode) rfl rfl rfl (hnw _ hl) (hts _ hin) hd ⟨hdd, by show 8 + (nL' + 11) + 100 * d' ≤ 100 * d; omega⟩
  exact va_runSN (As := as.map (tv σ)) (rest := restV) (nL := nL) ⟨hx, hb, hml, hown, hts⟩ hM ⟨cb, hts _ hst, trivial⟩ ⟨wPre_blind, fun U hU hW => ⟨rfl, wPre_at hK hnw hP hD U hU hW⟩⟩ rfl (by rw [List.length_map]; exact hlen) hls rfl (lv_room hrc) hdg ⟨Nat.le_refl 0, Nat.le_refl 0⟩
theorem run_V {cc cc' : ByteArray} {nL nL' d d' pc idx na ci N : Nat} {T : u_T} {rt rt' : Option FieldType} {own : String} {y : MethodName} {F : Fn} (hdg : decode cc pc = .ok (.invokevirtual idx, 3)) (hct : Ct y cc' nL' rt' d' F) (hcode : Cond.code y cc' nL' rt' ∈ uW) (hl : Cond.methodLink own idx y ∈ uW) (hst : Cond.instanceMethod y ∈ uW) (hse : Cond.selects y.cls y y ∈ uW) (hin : Cond.initialized y.cls ∈ uW)
    (hci : vwCl[ci]? = some (y.cls, T, N)) (hd : y.cls ≠ "java/lang/invoke/MethodHandle" ∧ y.cls ≠ "java/lang/invoke/VarHandle" ∧ (parseMethodDescriptor y.desc).map (fun d => d.parameters.length) = some na) (hdd : d' + 1 ≤ d) (hnl : nL' ≤ 81) : RunOK cc nL rt own d pc (some ci) (na + 1) F := by
  intro p l e s m args below meth c D σ cA X hnw H locs ls as w K B restV hF hlen hrok hP hD hls hrc
  obtain ⟨hx, hb, hml, hown, hts, hK, hlocks, hr⟩ := X
  have hM := hct l D σ cA H.size as w K hF
  have cb : CallB (rmd d) s args own idx y cc' nL' rt' (.code y cc' nL' rt' :: uW) (rmd d') 0 0 na := callB_of na hts (good_code hcode) rfl rfl rfl (hts _ hin) (hts _ hl) hd ⟨hdd, by show 8 + (nL' + 11) + 100 * d' ≤ 100 * d; omega⟩
  match as, hrok with
  | .inr (.inr (some k)) :: as', hrok =>
    obtain ⟨cj, fs, hw, hcj⟩ := cO_e hrok; obtain ⟨rfl, -⟩ := cq_e hcj
    have he := tw_nth (σ := σ) (cA := cA) (k := 0) hw
    rw [Nat.zero_add] at he
    have hst' : (((.inr (.inr (some k)) :: as' : List sv).map (tv σ)).reverse ++ restV) = (as'.map (tv σ)).reverse ++ Value.ref (σ k) :: restV := by simp [tv, va_rf]
    rw [hst']
    exact va_runV (C := y.cls) (As := as'.map (tv σ)) (rest := restV) (nL := nL) (n := na) ⟨hx, hb, hml, hown, hts⟩ hM ⟨cb, hts _ hst, hts _ hse⟩ ⟨wPre_blind, va_recv hK hP hci he, fun U hU hW => ⟨rfl, wPre_at hK hnw hP hD U hU hW⟩⟩ rfl (by rw [List.length_map]; simpa using hlen) hls rfl (lv_room hrc) hdg ⟨Nat.le_refl 0, Nat.le_refl 0⟩
theorem site_same {cc : ByteArray} {nL d pc na : Nat} {rt : Option FieldType} {own : String} {vk : Option Nat} {F : Fn} (hR : RunOK cc nL rt own d pc vk na F) : SiteOK cc nL rt own d pc (cS vk na F) := by
  intro p l e s m args below meth c D σ cA A Q X hnw hA st w kk h lv hk H locs ls hP hD hS hlv
  obtain ⟨as, rest, rfl, hlen, hh⟩ := popN_e h
  rw [List.append_nil] at hh
  obtain ⟨hrc, hh⟩ := ck_e hh
  have hrc := Nat.le_of_ble_eq_true hrc
  obtain ⟨hrok, hF⟩ := rok_e hh
  have hrun := hR p l e s m args below meth c D σ cA X hnw H locs ls as w _ A (rest.map (tv σ)) hF hlen hrok hP hD hlv.1 (by rw [rcat_ok]; exact hrc)
  have hFc : ∀ q, va_A (tw σ cA 0 w) H.size q → A q := by
    intro q h
    rcases h with ⟨k, e, h⟩ | h
    · exact hD.2 k _ h
    · exact hA q (Nat.le_trans hS.1 h)
  rw [List.map_append, List.map_reverse]
  refine run_go hrun hS (fun q _ h => hFc q h) hFc (fun r w' H1 locs1 hK1 hP1 hD1 _ _ hS1 => ?_)
  have := hk _ _ hK1 H1 locs1 ls hP1 (hD1.weaken (fun _ _ _ h => hFc _ h)) hS1 hlv
  rwa [oL_ok] at this
theorem nodup_nth {is : List Nat} (hn : va_nd is = true) {k1 k2 i : Nat} (h1 : nth is k1 = some i) (h2 : nth is k2 = some i) : k1 = k2 := by
  rw [nth_eq] at h1 h2
  exact va_nd_inj is hn k1 k2 i h1 h2
theorem site_gen {cc : ByteArray} {nL d pc na : Nat} {rt : Option FieldType} {own : String} {vk : Option Nat} {F : Fn} (is : List Nat) (hn : va_nd is = true) (hR : RunOK cc nL rt own d pc vk na F) : SiteOK cc nL rt own d pc (cG is vk na F) := by
  intro p l e s m args below meth c D σ cA A Q X hnw hA st w kk h lv hk H locs ls hP hD hS hlv
  obtain ⟨as, rest, rfl, hlen, hh⟩ := popN_e h
  rw [List.append_nil] at hh
  obtain ⟨hrc, hh⟩ := ck_e hh
  have hrc := Nat.le_of_ble_eq_true hrc
  obtain ⟨cs, hh, hcl, hcs⟩ := pick_e hh
  obtain ⟨hrok, hF⟩ := rok_e hh
  have hcell : ∀ k c', nth (cs.map (renc is)) k = some c' → ∃ i c, nth is k = some i ∧ nth w i = some c ∧ c' = renc is c := by
    intro k c' hk
    rw [nth_eq, List.getElem?_map] at hk
    obtain ⟨c, hc, rfl⟩ := Option.map_eq_some_iff.mp hk
    have hk2 : k < is.length := by
      rw [← hcl]
      exact (List.getElem?_eq_some_iff.mp hc).1
    obtain ⟨c2, g1, g2⟩ := hcs k is[k] (by rw [nth_eq]; exact List.getElem?_eq_getElem hk2)
    rw [nth_eq, hc] at g2
    cases g2
    exact ⟨is[k], c, by rw [nth_eq]; exact List.getElem?_eq_getElem hk2, g1, rfl⟩
  have hun : ∀ k i, nth is k = some i → un is k = i := fun k i hk => by simp [un, hk, unO]
  have hPc : va_P D vwCl (tw (fun k => σ (un is k)) cA 0 (cs.map (renc is))) H := by
    intro k q hq
    obtain ⟨c', h1, rfl⟩ := tw_of hq
    obtain ⟨i, c, g1, g2, rfl⟩ := hcell k c' h1
    have := hP i _ (tw_nth (σ := σ) (cA := cA) (k := 0) g2)
    rw [Nat.zero_add] at this ⊢
    rw [tc_ren]
    show va_at D vwCl (σ (un is k), _) H
    rw [hun k i g1]; exact this
  have hDc : va_D A (tw (fun k => σ (un is k)) cA 0 (cs.map (renc is))) := by
    refine ⟨fun k1 k2 q1 q2 h1 h2 e => ?_, fun k q hq => ?_⟩
    · obtain ⟨c1, a1, rfl⟩ := tw_of h1
      obtain ⟨c2, a2, rfl⟩ := tw_of h2
      obtain ⟨i1, d1, b1, b2, -⟩ := hcell k1 c1 a1
      obtain ⟨i2, d2, b3, b4, -⟩ := hcell k2 c2 a2
      simp only [Nat.zero_add, hun _ _ b1, hun _ _ b3] at e
      have := hD.1 i1 i2 _ _ (tw_nth (σ := σ) (cA := cA) (k := 0) b2) (tw_nth (σ := σ) (cA := cA) (k := 0) b4) (by simpa using e)
      subst this
      exact nodup_nth hn b1 b3
    · obtain ⟨c1, a1, rfl⟩ := tw_of hq
      obtain ⟨i1, d1, b1, b2, -⟩ := hcell k c1 a1
      have := hD.2 i1 _ (tw_nth (σ := σ) (cA := cA) (k := 0) b2)
      simpa [hun _ _ b1] using this
  have hrun := hR p l e s m args below meth c D (fun k => σ (un is k)) cA X hnw H locs ls _ _ _ A (rest.map (tv σ)) hF (by rw [List.length_map]; exact hlen) hrok hPc hDc hlv.1 (by rw [rcat_ok]; exact hrc)
  have hFc : ∀ q, va_A (tw (fun k => σ (un is k)) cA 0 (cs.map (renc is))) H.size q → A q := by
    intro q h
    rcases h with ⟨k, e, h⟩ | h
    · exact hDc.2 k _ h
    · exact hA q (Nat.le_trans hS.1 h)
  have has : (as.map (renv is)).map (tv (fun k => σ (un is k))) = as.map (tv σ) := by
    rw [List.map_map]
    exact List.map_congr_left (fun v _ => tv_ren σ is v)
  rw [has] at hrun
  rw [List.map_append, List.map_reverse]
  refine run_go hrun hS (fun q _ h => hFc q h) hFc (fun r wc H1 locs1 hK1 hP1 hD1 _ hkp hS1 => ?_)
  obtain ⟨hl1, hK1⟩ := ck_e hK1
  have hl1 := Nat.eq_of_beq_eq_true hl1
  have hP2 : va_P D vwCl (tw σ cA 0 (putw is is w wc)) H1 := by
    intro j q hq
    obtain ⟨c, h1, rfl⟩ := tw_of hq
    rw [Nat.zero_add]
    rcases putw_e is hl1 h1 with ⟨k, c', g1, g2, rfl⟩ | ⟨g1, g2⟩
    · have := hP1 k _ (tw_nth (σ := fun k => σ (un is k)) (cA := cA) (k := 0) g2)
      rw [tc_unr]
      simp only [Nat.zero_add, hun _ _ g1] at this
      exact this
    · have h2 := hP j _ (tw_nth (σ := σ) (cA := cA) (k := 0) g2)
      rw [Nat.zero_add] at h2
      refine h2.kept (hkp _ h2.lt ?_)
      rintro (⟨k, e, h3⟩ | h3)
      · obtain ⟨c1, a1, a2⟩ := tw_of h3
        obtain ⟨i1, d1, b1, b2, -⟩ := hcell k c1 a1
        have e1 : σ j = σ i1 := by
          have := congrArg Prod.fst a2
          simpa [hun _ _ b1] using this
        have := hD.1 j i1 _ _ (tw_nth (σ := σ) (cA := cA) (k := 0) g2) (tw_nth (σ := σ) (cA := cA) (k := 0) b2) (by simpa using e1)
        subst this
        rw [nth_eq] at b1
        exact g1 (List.mem_of_getElem? b1)
      · exact absurd h2.lt (Nat.not_lt.mpr h3)
  have hD2 : va_D A (tw σ cA 0 (putw is is w wc)) := by
    refine ⟨fun k1 k2 q1 q2 h1 h2 e => ?_, fun k q hq => ?_⟩
    · obtain ⟨c1, a1, rfl⟩ := tw_of h1
      obtain ⟨c2, a2, rfl⟩ := tw_of h2
      obtain ⟨d1, b1⟩ := putw_d is a1
      obtain ⟨d2, b2⟩ := putw_d is a2
      exact hD.1 k1 k2 _ _ (tw_nth (σ := σ) (cA := cA) (k := 0) b1) (tw_nth (σ := σ) (cA := cA) (k := 0) b2) e
    · obtain ⟨c1, a1, rfl⟩ := tw_of hq
      obtain ⟨d1, b1⟩ := putw_d is a1
      have h9 := hD.2 k _ (tw_nth (σ := σ) (cA := cA) (k := 0) b1)
      exact h9
  have := hk _ _ hK1 H1 locs1 ls hP2 hD2 hS1 hlv
  rw [oL_ok] at this
  have e2 : (r.map (unrv is)).map (tv σ) = r.map (tv (fun k => σ (un is k))) := by
    cases r with
    | none => rfl
    | some v => simp [tv_unr]
  rwa [e2] at this
end
section
/-! ===== call sites by the tables; Math.max, Math.min, System.arraycopy ===== -/
theorem xd_S {cc : ByteArray} {pc idx nx tg : Nat} {li : Int32} (h : xdec cc pc = some (.invokestatic idx, nx, tg, li)) : decode cc pc = .ok (.invokestatic idx, 3) := by
  obtain ⟨len, h1, h2, -⟩ := xdec_ok h
  obtain rfl : len = 3 := h2.resolve_right (Nat.succ_ne_zero _)
  exact h1
theorem xd_V {cc : ByteArray} {pc idx nx tg : Nat} {li : Int32} (h : xdec cc pc = some (.invokevirtual idx, nx, tg, li)) : decode cc pc = .ok (.invokevirtual idx, 3) := by
  obtain ⟨len, h1, h2, -⟩ := xdec_ok h
  obtain rfl : len = 3 := h2.resolve_right (Nat.succ_ne_zero _)
  exact h1
theorem rnS {cc cc' : ByteArray} {nL nL' d d' pc idx na nx tg : Nat} {li : Int32} {rt rt' : Option FieldType} {own : String} {y : MethodName} {F : Fn} (hd : xdec cc pc = some (.invokestatic idx, nx, tg, li)) (hct : Ct y cc' nL' rt' d' F) (k : KS y cc' nL' rt' na) (hl : Cond.methodLink own idx y ∈ uW) (hdd : d' + 1 ≤ d) : RunOK cc nL rt own d pc none na F :=
  run_S (xd_S hd) hct k.1 hl k.2.1 k.2.2.1 k.2.2.2.1 hdd k.2.2.2.2.1
theorem rnN {cc cc' : ByteArray} {nL nL' d d' pc idx na nx tg : Nat} {li : Int32} {rt rt' : Option FieldType} {own host : String} {y : MethodName} {F : Fn} (hd : xdec cc pc = some (.invokestatic idx, nx, tg, li)) (hct : Ct y cc' nL' rt' d' F) (k : KS y cc' nL' rt' na) (hl : (own, idx, y, host) ∈ NWl) (hdd : d' + 1 ≤ d) : RunOK cc nL rt own d pc none na F :=
  run_N (xd_S hd) hct k.1 hl k.2.1 k.2.2.1 k.2.2.2.1 hdd k.2.2.2.2.1
theorem rnV {cc cc' : ByteArray} {nL nL' d d' pc idx na ci nx tg : Nat} {li : Int32} {rt rt' : Option FieldType} {own : String} {y : MethodName} {F : Fn} (hd : xdec cc pc = some (.invokevirtual idx, nx, tg, li)) (hct : Ct y cc' nL' rt' d' F) (k : KV y cc' nL' rt' na ci) (hl : Cond.methodLink own idx y ∈ uW) (hdd : d' + 1 ≤ d) : RunOK cc nL rt own d pc (some ci) (na + 1) F := by
  obtain ⟨k1, k2, k3, k4, k5, ⟨T, N, k6⟩, k7, k8⟩ := k
  exact run_V (xd_V hd) hct k1 hl k2 k3 k4 k6 k5 hdd k7
def jmax (x y : Int32) : Int32 := if x < y then y else x
def jmin (x y : Int32) : Int32 := if y < x then y else x
def cMax (st : List sv) (w : List sc) (kk : List sv → List sc → Prop) : Prop := pI st fun y r => pI r fun x r => ck (Nat.ble (rcat r) 8) (kk (.inl (jmax x y) :: r) w)
def cMin (st : List sv) (w : List sc) (kk : List sv → List sc → Prop) : Prop := pI st fun y r => pI r fun x r => ck (Nat.ble (rcat r) 8) (kk (.inl (jmin x y) :: r) w)
def cCpy (st : List sv) (w : List sc) (kk : List sv → List sc → Prop) : Prop := pI st fun n r => pI r fun dp r => pR r fun a r => pI r fun sp r => pR r fun a0 r => ck (Nat.ble (rcat r) 8) <| cI 0 (nth w a0) fun n0 f => cI 0 (nth w a) fun n1 g =>
  (¬ sp < 0 ∧ ¬ dp < 0 ∧ ¬ n < 0 ∧ sp.toNatClampNeg + n.toNatClampNeg ≤ n0 ∧ dp.toNatClampNeg + n.toNatClampNeg ≤ n1) ∧ kk r (snth w a (.inr (0, n1, .inl (va_cpy f g sp.toNatClampNeg dp.toNatClampNeg n.toNatClampNeg))))
theorem site_max {cc : ByteArray} {nL d pc idx nx tg : Nat} {li : Int32} {rt : Option FieldType} {own : String} (hd : xdec cc pc = some (.invokestatic idx, nx, tg, li)) (hl : Cond.methodLink own idx Lib.Math.max.name ∈ uW) (hdd : 1 ≤ d) : SiteOK cc nL rt own d pc cMax := by
  intro p l e s m args below meth c D σ cA A Q X hnw hA st w kk h lv hk H locs ls hP hD hS hlv
  obtain ⟨y, r1, rfl, g1⟩ := pI_e h
  obtain ⟨x, r, rfl, g2⟩ := pI_e g1
  obtain ⟨hrc, g⟩ := ck_e g2
  have hrc := Nat.le_of_ble_eq_true hrc
  obtain ⟨hx, hb, hml, hown, hts, hK, hlocks, hr⟩ := X
  exact va_mmax hx hb (hml.trans hlv.1.symm) hown (hts _ hl) (hts _ k_max.2.1) (hts _ k_max.2.2) (hts _ k_max.1) hdd (by rw [rcat_ok]; show _ ≤ 100 * d; omega) (Nat.le_refl 0) (Nat.le_refl 0) (xd_S hd) (hk _ _ g H locs ls hP hD hS hlv)
theorem site_min {cc : ByteArray} {nL d pc idx nx tg : Nat} {li : Int32} {rt : Option FieldType} {own : String} (hd : xdec cc pc = some (.invokestatic idx, nx, tg, li)) (hl : Cond.methodLink own idx Lib.Math.min.name ∈ uW) (hdd : 1 ≤ d) : SiteOK cc nL rt own d pc cMin := by
  intro p l e s m args below meth c D σ cA A Q X hnw hA st w kk h lv hk H locs ls hP hD hS hlv
  obtain ⟨y, r1, rfl, g1⟩ := pI_e h
  obtain ⟨x, r, rfl, g2⟩ := pI_e g1
  obtain ⟨hrc, g⟩ := ck_e g2
  have hrc := Nat.le_of_ble_eq_true hrc
  obtain ⟨hx, hb, hml, hown, hts, hK, hlocks, hr⟩ := X
  exact va_mmin hx hb (hml.trans hlv.1.symm) hown (hts _ hl) (hts _ k_min.2.1) (hts _ k_min.2.2) (hts _ k_min.1) hdd (by rw [rcat_ok]; show _ ≤ 100 * d; omega) (Nat.le_refl 0) (Nat.le_refl 0) (xd_S hd) (hk _ _ g H locs ls hP hD hS hlv)
theorem nfw : nativeFrameWords "java/lang/System" "arraycopy" 5 + 11 ≤ 90 := by decide +kernel
theorem site_cpy {cc : ByteArray} {nL d pc idx nx tg : Nat} {li : Int32} {rt : Option FieldType} {own : String} (hd : xdec cc pc = some (.invokestatic idx, nx, tg, li)) (hl : Cond.methodLink own idx arraycopyName ∈ uW) (hdd : 1 ≤ d) : SiteOK cc nL rt own d pc cCpy := by
  intro p l e s m args below meth c D σ cA A Q X hnw hA st w kk h lv hk H locs ls hP hD hS hlv
  obtain ⟨n, r1, rfl, g1⟩ := pI_e h
  obtain ⟨dp, r2, rfl, g2⟩ := pI_e g1
  obtain ⟨a, r3, rfl, g3⟩ := pR_e g2
  obtain ⟨sp, r4, rfl, g4⟩ := pI_e g3
  obtain ⟨a0, r, rfl, g45⟩ := pR_e g4
  obtain ⟨hrc, g5⟩ := ck_e g45
  have hrc := Nat.le_of_ble_eq_true hrc
  obtain ⟨n0, f, hw0, g6⟩ := cI_e g5
  obtain ⟨n1, g, hw1, ⟨h1, h2, h3, h4, h5⟩, g7⟩ := cI_e g6
  obtain ⟨hx, hb, hml, hown, hts, hK, hlocks, hr⟩ := X
  have he0 := tw_nth (σ := σ) (cA := cA) (k := 0) hw0
  have he1 := tw_nth (σ := σ) (cA := cA) (k := 0) hw1
  rw [Nat.zero_add] at he0 he1
  refine va_copyi (a := σ a) (a0 := σ a0) hx hb (hml.trans hlv.1.symm) hown (hts _ hl) (hts _ k_copy.1) (hts _ k_copy.2.1) (hts _ k_copy.2.2) hK hP hD hS a0 a 0 0 he0 he1 rfl rfl rfl h1 h2 h3 h4 h5 (fun _ _ => rfl) hdd (by rw [rcat_ok]; have := nfw; show _ ≤ 100 * d; omega) (xd_S hd) (fun H1 locs1 hP1 hD1 hS1 => ?_)
  have e1 := tw_snth (σ := σ) (cA := cA) w 0 a (.inr (0, n1, .inl (va_cpy f g sp.toNatClampNeg dp.toNatClampNeg n.toNatClampNeg)))
  rw [Nat.zero_add] at e1
  exact hk _ _ g7 H1 locs1 ls (by rw [e1]; exact hP1) (by rw [e1]; exact hD1) hS1 hlv
theorem metL {y : MethodName} {cc : ByteArray} {pr : Pg} {nL rk d : Nat} {rt : Option FieldType} {fld : Ft} {cst : Nat → Option Int32} {cstL : Nat → Option Int64} {ct : List (Nat × (List sv → List sc → (List sv → List sc → Prop) → Prop))} {as : List sv} {w : List sc} {K : Option sv → List sc → Prop} (L : List (Nat × (List Bool × (Nat → List (Option sv) → List sv → List sc → Prop))))
    (hpr : ∀ pc q, pr pc = some q → xdec cc pc = some q) (hy : plainName y.cls = true) (hf : fdo y.cls fld) (hc : cdo y.cls cst cstL) (hrt : rto rk rt) (hct : CallOK cc nL rt y.cls d ct) (hlen : slen as ≤ nL)
    (hinv : ∀ q ∈ L, ∀ n lv st w, q.2.2 n lv st w → stp pr nL rk fld cst cstL (ctab ct) K (wp pr nL rk fld cst cstL (ctab ct) K (fun z => cutl n (lkB L z)) 400) q.1 lv st w)
    (hst : wp pr nL rk fld cst cstL (ctab ct) K (fun z => cuts (lkB L z)) 400 0 (enL as) [] w)
    (l : Launch) (D : va_G) (σ : Nat → Nat) (cA : Nat → ClassId) (sz : Nat) :
    Met l y (.code y cc nL rt :: uW) (rmd d) (va_Pc (as.map (tv σ)) (wPre D σ cA sz w)) (Qg D σ cA (va_A (tw σ cA 0 w) sz) K) 0 0 (va_A (tw σ cA 0 w) sz) :=
  met_of (lkB L) hpr hy hf hc hrt hct hlen (fun pc mm P h => lkB_e (P := fun pc q => ∀ n lv st w, q.2 n lv st w → stp pr nL rk fld cst cstL (ctab ct) K (wp pr nL rk fld cst cstL (ctab ct) K (fun z => cutl n (lkB L z)) 400) pc lv st w) hinv h) hst l D σ cA sz
theorem cut0 {P : Nat × (List Bool × (Nat → List (Option sv) → List sv → List sc → Prop)) → Prop} : ∀ q ∈ ([] : List (Nat × (List Bool × (Nat → List (Option sv) → List sv → List sc → Prop)))), P q := fun _ h => absurd h List.not_mem_nil
theorem rto0 : rto 0 none := ⟨fun _ => rfl, (fun h => by cases h), (fun h => by cases h), (fun h => by cases h), (fun h => by cases h)⟩
theorem rto1 : rto 1 (some .int) := ⟨(fun h => by cases h), fun _ => rfl, (fun h => by cases h), (fun h => by cases h), (fun h => by cases h)⟩
theorem rto2 : rto 2 (some .boolean) := ⟨(fun h => by cases h), (fun h => by cases h), fun _ => rfl, (fun h => by cases h), (fun h => by cases h)⟩
theorem rto3 : rto 3 (some .long) := ⟨(fun h => by cases h), (fun h => by cases h), (fun h => by cases h), fun _ => rfl, (fun h => by cases h)⟩
theorem rto4 (n : String) : rto 4 (some (.object n)) := ⟨(fun h => by cases h), (fun h => by cases h), (fun h => by cases h), (fun h => by cases h), fun _ => ⟨n, rfl⟩⟩
noncomputable def bp (P : Prop) : Int32 := @ite Int32 P (Classical.propDecidable P) 1 0
theorem bp_t {P : Prop} (h : P) : bp P = 1 := by unfold bp; exact @if_pos _ (Classical.propDecidable P) h _ _ _
theorem bp_f {P : Prop} (h : ¬ P) : bp P = 0 := by unfold bp; exact @if_neg _ (Classical.propDecidable P) h _ _ _
theorem bp_0 {P : Prop} : bp P = 0 ↔ ¬ P := ⟨fun h q => by rw [bp_t q] at h; exact absurd h (by decide), bp_f⟩
theorem bp_01 (P : Prop) : bp P = 0 ∨ bp P = 1 := (Classical.em P).elim (fun h => Or.inr (bp_t h)) (fun h => Or.inl (bp_f h))
theorem kI {K : Option sv → List sc → Prop} {w : List sc} {x y : Int32} (h : K (some (.inl x)) w) (e : x = y) : K (some (.inl y)) w := e ▸ h
theorem kB {K : Option sv → List sc → Prop} {w : List sc} {P : Prop} (h : K (some (.inl (bp P))) w) (e : P) : ((1 : Int32) = 0 ∨ (1 : Int32) = 1) ∧ K (some (.inl 1)) w := ⟨Or.inr rfl, by rw [bp_t e] at h; exact h⟩
theorem kB0 {K : Option sv → List sc → Prop} {w : List sc} {P : Prop} (h : K (some (.inl (bp P))) w) (e : ¬ P) : ((0 : Int32) = 0 ∨ (0 : Int32) = 1) ∧ K (some (.inl 0)) w := ⟨Or.inl rfl, by rw [bp_f e] at h; exact h⟩
end
section
/-! ===== the inn, as numbers ===== -/
abbrev PA : Type := Nat → Int32
def heldI (v hi : Int32) : Int32 := if v < 0 then 0 else if hi < v then hi else v
def cookD (f w n : Int32) : Int32 := if jrem n (f + 2) = 0 then w else -4
def dreamK (k f w la n : Int32) : Int32 :=
  if k = 1 then 1 else if k = 2 then jrem (w + n) 10 else if k = 3 then cookD f w n else if k = 4 then 0 else if k = 5 then jrem (la + 1 + f) 10 else if k = 6 then 9 else if k = 7 then (if jrem n 2 = 0 then la else cookD f w n) else w
def eatsK (k : Int32) : Int32 := if k = 2 ∨ k = 7 then 2 else 1
def gainK (k f p la : Int32) : Int32 :=
  if k = 1 then 1 else if k = 4 then 1 else if k = 2 then p / 2 else if k = 3 then 9 - p else if k = 5 then p / 2 - 3 else if k = 6 then f else if k = 7 then heldI (8 - p) 9 else (if p = la then 0 else 2)
def costK (k f : Int32) : Int32 :=
  if k = 1 then 1 else if k = 2 then 3 + f else if k = 3 then 6 else if k = 5 then (3 + f) / 2 else if k = 7 then heldI (6 - f) 6 else if k = 0 then 3 else 0
/-! plain numbers' contracts -/
def F_X5_within : Fn := fun as w K => match as with
  | [.inl v, .inl lo, .inl hi] => K (some (.inl (bp (lo ≤ v ∧ v ≤ hi)))) w
  | _ => False
def ctb_X5_within : List (Nat × (List sv → List sc → (List sv → List sc → Prop) → Prop)) := []
theorem cok_X5_within : CallOK cX5_within 3 (some .boolean) RX5 1 ctb_X5_within := CallOK_nil
theorem ct_X5_within : Ct yX5_within cX5_within 3 (some .boolean) 1 F_X5_within := by
  intro l D σ cA sz as w K h
  unfold F_X5_within at h
  split at h
  · rename_i v lo hi
    refine metL (pr := lkB pX5_within) (rk := 2) (ct := ctb_X5_within) (fld := lkB flX5) (cst := lkB csX5) (cstL := lkB clX5) [] pX5_within_ok kX5_within.2.2.2.2.2 fdX5 cdX5 rto2 cok_X5_within (Nat.le_of_ble_eq_true rfl) cut0 ?_ l D σ cA sz
    conv => whnf
    refine ⟨fun h1 => ?_, fun h1 => ?_⟩
    · conv => whnf
      exact kB0 h (fun q => absurd h1 (Int32.not_lt.mpr q.1))
    · conv => whnf
      refine ⟨fun h2 => ?_, fun h2 => ?_⟩
      · conv => whnf
        exact kB0 h (fun q => absurd h2 (Int32.not_lt.mpr q.2))
      · conv => whnf
        exact kB h ⟨Int32.not_lt.mp h1, Int32.not_lt.mp h2⟩
  · exact h.elim
def F_X1_eats : Fn := fun as w K => match as with
  | [.inl k] => K (some (.inl (eatsK k))) w
  | _ => False
def ctb_X1_eats : List (Nat × (List sv → List sc → (List sv → List sc → Prop) → Prop)) := []
theorem cok_X1_eats : CallOK cX1_eats 1 (some .int) RX1 1 ctb_X1_eats := CallOK_nil
theorem ct_X1_eats : Ct yX1_eats cX1_eats 1 (some .int) 1 F_X1_eats := by
  intro l D σ cA sz as w K h
  unfold F_X1_eats at h
  split at h
  · rename_i k
    refine metL (pr := lkB pX1_eats) (rk := 1) (ct := ctb_X1_eats) (fld := lkB flX1) (cst := lkB csX1) (cstL := lkB clX1) [] pX1_eats_ok kX1_eats.2.2.2.2.2 fdX1 cdX1 rto1 cok_X1_eats (Nat.le_of_ble_eq_true rfl) cut0 ?_ l D σ cA sz
    repeat' ((conv => whnf); (first | refine And.intro (by first | decide | with_reducible assumption) ?_ | with_reducible refine And.intro (fun hc => ?_) (fun hc => ?_) | with_reducible refine And.intro (fun hc => ?_) ?_ | fail))
    all_goals try (conv => whnf)
    all_goals exact kI h (by simp_all [eatsK])
  · exact h.elim
def F_X1_cooksDream : Fn := fun as w K => match as with
  | [.inl f, .inl wi, .inl n] => 0 < f + 2 ∧ K (some (.inl (cookD f wi n))) w
  | _ => False
def ctb_X1_cooksDream : List (Nat × (List sv → List sc → (List sv → List sc → Prop) → Prop)) := []
theorem cok_X1_cooksDream : CallOK cX1_cooksDream 4 (some .int) RX1 1 ctb_X1_cooksDream := CallOK_nil
theorem ct_X1_cooksDream : Ct yX1_cooksDream cX1_cooksDream 4 (some .int) 1 F_X1_cooksDream := by
  intro l D σ cA sz as w K h
  unfold F_X1_cooksDream at h
  split at h
  · rename_i f wi n
    obtain ⟨h0, h⟩ := h
    have h1 : ¬ f + 2 = 0 := fun q => by rw [q] at h0; exact absurd h0 (by decide)
    refine metL (pr := lkB pX1_cooksDream) (rk := 1) (ct := ctb_X1_cooksDream) (fld := lkB flX1) (cst := lkB csX1) (cstL := lkB clX1) [] pX1_cooksDream_ok kX1_cooksDream.2.2.2.2.2 fdX1 cdX1 rto1 cok_X1_cooksDream (Nat.le_of_ble_eq_true rfl) cut0 ?_ l D σ cA sz
    repeat' ((conv => whnf); (first | refine And.intro (by first | decide | with_reducible assumption) ?_ | with_reducible refine And.intro (fun hc => ?_) (fun hc => ?_) | with_reducible refine And.intro (fun hc => ?_) ?_ | fail))
    all_goals try (conv => whnf)
    · exact absurd h0 (Int32.not_lt.mpr hc)
    all_goals exact kI h (by simp_all [cookD])
  · exact h.elim
theorem ofI1 : Int32.ofInt 1 = 1 ∧ Int32.ofInt (1 + 1) = 2 ∧ Int32.ofInt (1 + 1 + 1) = 3 ∧ Int32.ofInt (1 + 1 + 1 + 1) = 4 ∧ Int32.ofInt (1 + 1 + 1 + 1 + 1) = 5 ∧ Int32.ofInt (1 + 1 + 1 + 1 + 1 + 1) = 6 ∧ Int32.ofInt (1 + 1 + 1 + 1 + 1 + 1 + 1) = 7 := by decide
theorem out17 {k : Int32} (h : k.toInt < 1 ∨ 7 < k.toInt) : k ≠ 1 ∧ k ≠ 2 ∧ k ≠ 3 ∧ k ≠ 4 ∧ k ≠ 5 ∧ k ≠ 6 ∧ k ≠ 7 := by
  refine ⟨?_, ?_, ?_, ?_, ?_, ?_, ?_⟩ <;> (rintro rfl; revert h; decide)
def F_X1_dream : Fn := fun as w K => match as with
  | [.inl k, .inl f, .inl wi, .inl la, .inl n] => 0 < f + 2 ∧ K (some (.inl (dreamK k f wi la n))) w
  | _ => False
def ctb_X1_dream : List (Nat × (List sv → List sc → (List sv → List sc → Prop) → Prop)) := [(58, cS none 3 F_X1_cooksDream), (91, cS none 3 F_X1_cooksDream)]
theorem cok_X1_dream : CallOK cX1_dream 5 (some .int) RX1 2 ctb_X1_dream := CallOK_cons (site_same (rnS (pX1_dream_ok 58 _ rfl) ct_X1_cooksDream kX1_cooksDream lRX1_15 (by decide))) (CallOK_cons (site_same (rnS (pX1_dream_ok 91 _ rfl) ct_X1_cooksDream kX1_cooksDream lRX1_15 (by decide))) (CallOK_nil))
theorem ct_X1_dream : Ct yX1_dream cX1_dream 5 (some .int) 2 F_X1_dream := by
  intro l D σ cA sz as w K h
  unfold F_X1_dream at h
  split at h
  · rename_i k f wi la n
    obtain ⟨h0, h⟩ := h
    refine metL (pr := lkB pX1_dream) (rk := 1) (ct := ctb_X1_dream) (fld := lkB flX1) (cst := lkB csX1) (cstL := lkB clX1) [] pX1_dream_ok kX1_dream.2.2.2.2.2 fdX1 cdX1 rto1 cok_X1_dream (Nat.le_of_ble_eq_true rfl) cut0 ?_ l D σ cA sz
    repeat' ((conv => whnf); (first | refine And.intro (by first | decide | with_reducible assumption) ?_ | with_reducible refine And.intro (fun hc => ?_) (fun hc => ?_) | with_reducible refine And.intro (fun hc => ?_) ?_ | fail))
    all_goals try (conv => whnf)
    · obtain ⟨a1, a2, a3, a4, a5, a6, a7⟩ := out17 hc
      exact kI h (by simp [dreamK, *])
    all_goals first | trivial | exact kI h (by simp_all [dreamK, ofI1])
  · exact h.elim
/-- a number below n -/
def rng (n : Nat) (x : Int32) : Prop := ∃ j : Nat, j < n ∧ x = nI j
theorem max8 {p : Int32} (h : rng 10 p) : heldI (8 - p) 9 = jmax 0 (8 - p) := by
  obtain ⟨j, hj, rfl⟩ := h
  exact (by decide : ∀ j : Fin 10, heldI (8 - nI j.val) 9 = jmax 0 (8 - nI j.val)) ⟨j, hj⟩
theorem max6 {p : Int32} (h : rng 10 p) : heldI (6 - p) 6 = jmax 0 (6 - p) := by
  obtain ⟨j, hj, rfl⟩ := h
  exact (by decide : ∀ j : Fin 10, heldI (6 - nI j.val) 6 = jmax 0 (6 - nI j.val)) ⟨j, hj⟩
theorem i32_lt (a b : Int32) : a < b ↔ a.toInt < b.toInt := Int32.lt_iff_toInt_lt
theorem i32_le (a b : Int32) : a ≤ b ↔ a.toInt ≤ b.toInt := Int32.le_iff_toInt_le
theorem i32_eq (a b : Int32) : a = b ↔ a.toInt = b.toInt := Int32.toInt_inj.symm
theorem held_mm (v : Int32) : heldI v 99 = jmax 0 (jmin 99 v) := by
  have e0 : (0 : Int32).toInt = 0 := rfl
  have e9 : (99 : Int32).toInt = 99 := rfl
  simp only [heldI, jmax, jmin, i32_lt, e0, e9]
  repeat' split
  all_goals first | rfl | omega | (rw [i32_eq]; omega)
theorem held_m (v : Int32) (h : ¬ v < 0) : heldI v 9999 = jmin 9999 v := by
  have e0 : (0 : Int32).toInt = 0 := rfl
  have e9 : (9999 : Int32).toInt = 9999 := rfl
  simp only [heldI, jmin, i32_lt, e0, e9] at h ⊢
  repeat' split
  all_goals first | rfl | omega | (rw [i32_eq]; omega)
theorem held_m9 (v : Int32) (h : ¬ v < 0) : heldI v 99 = jmin 99 v := by
  have e0 : (0 : Int32).toInt = 0 := rfl
  have e9 : (99 : Int32).toInt = 99 := rfl
  simp only [heldI, jmin, i32_lt, e0, e9] at h ⊢
  repeat' split
  all_goals first | rfl | omega | (rw [i32_eq]; omega)
theorem rng_f2 {f : Int32} (h : rng 10 f) : 0 < f + 2 := by
  obtain ⟨j, hj, rfl⟩ := h
  exact (by decide : ∀ j : Fin 10, 0 < nI j.val + 2) ⟨j, hj⟩
def F_X1_gain : Fn := fun as w K => match as with
  | [.inl k, .inl f, .inl p, .inl la] => rng 10 p ∧ K (some (.inl (gainK k f p la))) w
  | _ => False
def ctb_X1_gain : List (Nat × (List sv → List sc → (List sv → List sc → Prop) → Prop)) := [(68, cMax)]
theorem cok_X1_gain : CallOK cX1_gain 4 (some .int) RX1 1 ctb_X1_gain := CallOK_cons (site_max (pX1_gain_ok 68 _ rfl) lRX1_19 (by decide)) (CallOK_nil)
theorem ct_X1_gain : Ct yX1_gain cX1_gain 4 (some .int) 1 F_X1_gain := by
  intro l D σ cA sz as w K h
  unfold F_X1_gain at h
  split at h
  · rename_i k f p la
    obtain ⟨h0, h⟩ := h
    refine metL (pr := lkB pX1_gain) (rk := 1) (ct := ctb_X1_gain) (fld := lkB flX1) (cst := lkB csX1) (cstL := lkB clX1) [] pX1_gain_ok kX1_gain.2.2.2.2.2 fdX1 cdX1 rto1 cok_X1_gain (Nat.le_of_ble_eq_true rfl) cut0 ?_ l D σ cA sz
    repeat' ((conv => whnf); (first | refine And.intro (by first | decide | with_reducible assumption) ?_ | with_reducible refine And.intro (fun hc => ?_) (fun hc => ?_) | with_reducible refine And.intro (fun hc => ?_) ?_ | fail))
    all_goals try (conv => whnf)
    all_goals first | trivial | (refine kI h ?_; clear h; simp_all [gainK, ofI1, max8]; done) | (have a := out17 (k := k) (by assumption); refine kI h ?_; clear h; simp_all [gainK]; done)
  · exact h.elim
def F_X1_price : Fn := fun as w K => match as with
  | [.inl k, .inl f] => (rng 10 f ∧ rng 8 k) ∧ K (some (.inl (costK k f))) w
  | _ => False
theorem out17' {k : Int32} (h : k.toInt < 1 ∨ 7 < k.toInt) (h8 : rng 8 k) : k = 0 := by
  obtain ⟨j, hj, rfl⟩ := h8
  rw [nI_toInt (by omega)] at h
  have : j = 0 := by omega
  subst this; rfl
def ctb_X1_price : List (Nat × (List sv → List sc → (List sv → List sc → Prop) → Prop)) := [(66, cMax)]
theorem cok_X1_price : CallOK cX1_price 2 (some .int) RX1 1 ctb_X1_price := CallOK_cons (site_max (pX1_price_ok 66 _ rfl) lRX1_19 (by decide)) (CallOK_nil)
theorem ct_X1_price : Ct yX1_price cX1_price 2 (some .int) 1 F_X1_price := by
  intro l D σ cA sz as w K h
  unfold F_X1_price at h
  split at h
  · rename_i k f
    obtain ⟨⟨h0, h8⟩, h⟩ := h
    refine metL (pr := lkB pX1_price) (rk := 1) (ct := ctb_X1_price) (fld := lkB flX1) (cst := lkB csX1) (cstL := lkB clX1) [] pX1_price_ok kX1_price.2.2.2.2.2 fdX1 cdX1 rto1 cok_X1_price (Nat.le_of_ble_eq_true rfl) cut0 ?_ l D σ cA sz
    repeat' ((conv => whnf); (first | refine And.intro (by first | decide | with_reducible assumption) ?_ | with_reducible refine And.intro (fun hc => ?_) (fun hc => ?_) | with_reducible refine And.intro (fun hc => ?_) ?_ | fail))
    all_goals try (conv => whnf)
    all_goals first | trivial | (refine kI h ?_; clear h; simp_all [costK, ofI1, max6]; done) | (have a := out17' (k := k) (by assumption) h8; refine kI h ?_; clear h; simp_all [costK]; done)
  · exact h.elim
def F_X1_isKind : Fn := fun as w K => match as with
  | [.inl k] => K (some (.inl (bp (0 ≤ k ∧ k ≤ 7)))) w
  | _ => False
def ctb_X1_isKind : List (Nat × (List sv → List sc → (List sv → List sc → Prop) → Prop)) := [(4, cS none 3 F_X5_within)]
theorem cok_X1_isKind : CallOK cX1_isKind 1 (some .boolean) RX1 2 ctb_X1_isKind := CallOK_cons (site_same (rnN (pX1_isKind_ok 4 _ rfl) ct_X5_within kX5_within (List.mem_of_getElem? (i := 1) rfl) (by decide))) (CallOK_nil)
theorem ct_X1_isKind : Ct yX1_isKind cX1_isKind 1 (some .boolean) 2 F_X1_isKind := by
  intro l D σ cA sz as w K h
  unfold F_X1_isKind at h
  split at h
  · rename_i k
    refine metL (pr := lkB pX1_isKind) (rk := 2) (ct := ctb_X1_isKind) (fld := lkB flX1) (cst := lkB csX1) (cstL := lkB clX1) [] pX1_isKind_ok kX1_isKind.2.2.2.2.2 fdX1 cdX1 rto2 cok_X1_isKind (Nat.le_of_ble_eq_true rfl) cut0 ?_ l D σ cA sz
    repeat' ((conv => whnf); (first | refine And.intro (by first | decide | with_reducible assumption) ?_ | with_reducible refine And.intro (fun hc => ?_) (fun hc => ?_) | with_reducible refine And.intro (fun hc => ?_) ?_ | fail))
    all_goals try (conv => whnf)
    exact ⟨bp_01 _, h⟩
  · exact h.elim
def F_X5_isPlate : Fn := fun as w K => match as with
  | [.inl k] => K (some (.inl (bp (0 ≤ k ∧ k ≤ 9)))) w
  | _ => False
def ctb_X5_isPlate : List (Nat × (List sv → List sc → (List sv → List sc → Prop) → Prop)) := [(4, cS none 3 F_X5_within)]
theorem cok_X5_isPlate : CallOK cX5_isPlate 1 (some .boolean) RX5 2 ctb_X5_isPlate := CallOK_cons (site_same (rnS (pX5_isPlate_ok 4 _ rfl) ct_X5_within kX5_within lRX5_129 (by decide))) (CallOK_nil)
theorem ct_X5_isPlate : Ct yX5_isPlate cX5_isPlate 1 (some .boolean) 2 F_X5_isPlate := by
  intro l D σ cA sz as w K h
  unfold F_X5_isPlate at h
  split at h
  · skip
    refine metL (pr := lkB pX5_isPlate) (rk := 2) (ct := ctb_X5_isPlate) (fld := lkB flX5) (cst := lkB csX5) (cstL := lkB clX5) [] pX5_isPlate_ok kX5_isPlate.2.2.2.2.2 fdX5 cdX5 rto2 cok_X5_isPlate (Nat.le_of_ble_eq_true rfl) cut0 ?_ l D σ cA sz
    repeat' ((conv => whnf); (first | refine And.intro (by first | decide | with_reducible assumption) ?_ | with_reducible refine And.intro (fun hc => ?_) (fun hc => ?_) | with_reducible refine And.intro (fun hc => ?_) ?_ | fail))
    all_goals try (conv => whnf)
    exact ⟨bp_01 _, h⟩
  · exact h.elim
def F_X5_isWhile : Fn := fun as w K => match as with
  | [.inl k] => K (some (.inl (bp (0 ≤ k ∧ k ≤ 60)))) w
  | _ => False
def ctb_X5_isWhile : List (Nat × (List sv → List sc → (List sv → List sc → Prop) → Prop)) := [(4, cS none 3 F_X5_within)]
theorem cok_X5_isWhile : CallOK cX5_isWhile 1 (some .boolean) RX5 2 ctb_X5_isWhile := CallOK_cons (site_same (rnS (pX5_isWhile_ok 4 _ rfl) ct_X5_within kX5_within lRX5_129 (by decide))) (CallOK_nil)
theorem ct_X5_isWhile : Ct yX5_isWhile cX5_isWhile 1 (some .boolean) 2 F_X5_isWhile := by
  intro l D σ cA sz as w K h
  unfold F_X5_isWhile at h
  split at h
  · skip
    refine metL (pr := lkB pX5_isWhile) (rk := 2) (ct := ctb_X5_isWhile) (fld := lkB flX5) (cst := lkB csX5) (cstL := lkB clX5) [] pX5_isWhile_ok kX5_isWhile.2.2.2.2.2 fdX5 cdX5 rto2 cok_X5_isWhile (Nat.le_of_ble_eq_true rfl) cut0 ?_ l D σ cA sz
    repeat' ((conv => whnf); (first | refine And.intro (by first | decide | with_reducible assumption) ?_ | with_reducible refine And.intro (fun hc => ?_) (fun hc => ?_) | with_reducible refine And.intro (fun hc => ?_) ?_ | fail))
    all_goals try (conv => whnf)
    exact ⟨bp_01 _, h⟩
  · exact h.elim
def F_X5_isShelf : Fn := fun as w K => match as with
  | [.inl k] => K (some (.inl (bp (0 ≤ k ∧ k ≤ 7)))) w
  | _ => False
def ctb_X5_isShelf : List (Nat × (List sv → List sc → (List sv → List sc → Prop) → Prop)) := [(4, cS none 3 F_X5_within)]
theorem cok_X5_isShelf : CallOK cX5_isShelf 1 (some .boolean) RX5 2 ctb_X5_isShelf := CallOK_cons (site_same (rnS (pX5_isShelf_ok 4 _ rfl) ct_X5_within kX5_within lRX5_129 (by decide))) (CallOK_nil)
theorem ct_X5_isShelf : Ct yX5_isShelf cX5_isShelf 1 (some .boolean) 2 F_X5_isShelf := by
  intro l D σ cA sz as w K h
  unfold F_X5_isShelf at h
  split at h
  · skip
    refine metL (pr := lkB pX5_isShelf) (rk := 2) (ct := ctb_X5_isShelf) (fld := lkB flX5) (cst := lkB csX5) (cstL := lkB clX5) [] pX5_isShelf_ok kX5_isShelf.2.2.2.2.2 fdX5 cdX5 rto2 cok_X5_isShelf (Nat.le_of_ble_eq_true rfl) cut0 ?_ l D σ cA sz
    repeat' ((conv => whnf); (first | refine And.intro (by first | decide | with_reducible assumption) ?_ | with_reducible refine And.intro (fun hc => ?_) (fun hc => ?_) | with_reducible refine And.intro (fun hc => ?_) ?_ | fail))
    all_goals try (conv => whnf)
    exact ⟨bp_01 _, h⟩
  · exact h.elim
def F_X5_isDigit : Fn := fun as w K => match as with
  | [.inl k] => K (some (.inl (bp (0 ≤ k ∧ k ≤ 9)))) w
  | _ => False
def ctb_X5_isDigit : List (Nat × (List sv → List sc → (List sv → List sc → Prop) → Prop)) := [(4, cS none 3 F_X5_within)]
theorem cok_X5_isDigit : CallOK cX5_isDigit 1 (some .boolean) RX5 2 ctb_X5_isDigit := CallOK_cons (site_same (rnS (pX5_isDigit_ok 4 _ rfl) ct_X5_within kX5_within lRX5_129 (by decide))) (CallOK_nil)
theorem ct_X5_isDigit : Ct yX5_isDigit cX5_isDigit 1 (some .boolean) 2 F_X5_isDigit := by
  intro l D σ cA sz as w K h
  unfold F_X5_isDigit at h
  split at h
  · skip
    refine metL (pr := lkB pX5_isDigit) (rk := 2) (ct := ctb_X5_isDigit) (fld := lkB flX5) (cst := lkB csX5) (cstL := lkB clX5) [] pX5_isDigit_ok kX5_isDigit.2.2.2.2.2 fdX5 cdX5 rto2 cok_X5_isDigit (Nat.le_of_ble_eq_true rfl) cut0 ?_ l D σ cA sz
    repeat' ((conv => whnf); (first | refine And.intro (by first | decide | with_reducible assumption) ?_ | with_reducible refine And.intro (fun hc => ?_) (fun hc => ?_) | with_reducible refine And.intro (fun hc => ?_) ?_ | fail))
    all_goals try (conv => whnf)
    exact ⟨bp_01 _, h⟩
  · exact h.elim
def F_X3_isSort : Fn := fun as w K => match as with
  | [.inl k] => K (some (.inl (bp (0 ≤ k ∧ k ≤ 2)))) w
  | _ => False
def ctb_X3_isSort : List (Nat × (List sv → List sc → (List sv → List sc → Prop) → Prop)) := [(3, cS none 3 F_X5_within)]
theorem cok_X3_isSort : CallOK cX3_isSort 1 (some .boolean) RX3 2 ctb_X3_isSort := CallOK_cons (site_same (rnN (pX3_isSort_ok 3 _ rfl) ct_X5_within kX5_within (List.mem_of_getElem? (i := 2) rfl) (by decide))) (CallOK_nil)
theorem ct_X3_isSort : Ct yX3_isSort cX3_isSort 1 (some .boolean) 2 F_X3_isSort := by
  intro l D σ cA sz as w K h
  unfold F_X3_isSort at h
  split at h
  · skip
    refine metL (pr := lkB pX3_isSort) (rk := 2) (ct := ctb_X3_isSort) (fld := lkB flX3) (cst := lkB csX3) (cstL := lkB clX3) [] pX3_isSort_ok kX3_isSort.2.2.2.2.2 fdX3 cdX3 rto2 cok_X3_isSort (Nat.le_of_ble_eq_true rfl) cut0 ?_ l D σ cA sz
    repeat' ((conv => whnf); (first | refine And.intro (by first | decide | with_reducible assumption) ?_ | with_reducible refine And.intro (fun hc => ?_) (fun hc => ?_) | with_reducible refine And.intro (fun hc => ?_) ?_ | fail))
    all_goals try (conv => whnf)
    exact ⟨bp_01 _, h⟩
  · exact h.elim
def narrowI (s v : Int32) : Int32 := if s = 0 then v.toInt8.toInt32 else if s = 1 then v.toInt16.toInt32 else v
def F_X3_lowestBits : Fn := fun as w K => match as with
  | [.inl s, .inl v] => K (some (.inl (narrowI s v))) w
  | _ => False
def ctb_X3_lowestBits : List (Nat × (List sv → List sc → (List sv → List sc → Prop) → Prop)) := []
theorem cok_X3_lowestBits : CallOK cX3_lowestBits 2 (some .int) RX3 1 ctb_X3_lowestBits := CallOK_nil
theorem ct_X3_lowestBits : Ct yX3_lowestBits cX3_lowestBits 2 (some .int) 1 F_X3_lowestBits := by
  intro l D σ cA sz as w K h
  unfold F_X3_lowestBits at h
  split at h
  · skip
    refine metL (pr := lkB pX3_lowestBits) (rk := 1) (ct := ctb_X3_lowestBits) (fld := lkB flX3) (cst := lkB csX3) (cstL := lkB clX3) [] pX3_lowestBits_ok kX3_lowestBits.2.2.2.2.2 fdX3 cdX3 rto1 cok_X3_lowestBits (Nat.le_of_ble_eq_true rfl) cut0 ?_ l D σ cA sz
    repeat' ((conv => whnf); (first | refine And.intro (by first | decide | with_reducible assumption) ?_ | with_reducible refine And.intro (fun hc => ?_) (fun hc => ?_) | with_reducible refine And.intro (fun hc => ?_) ?_ | fail))
    all_goals try (conv => whnf)
    all_goals exact kI h (by clear h; simp_all [narrowI])
  · exact h.elim
end
section
/-! ===== an inn's cells, and what its methods do to them ===== -/
abbrev InnS : Type := PA × PA × PA × PA × PA × PA × Int32 × Int32 × Int32 × Int32 × Int32 × Int32 × Int32
abbrev iK (s : InnS) : PA := s.1
abbrev iF (s : InnS) : PA := s.2.1
abbrev iW (s : InnS) : PA := s.2.2.1
abbrev iL (s : InnS) : PA := s.2.2.2.1
abbrev iH (s : InnS) : PA := s.2.2.2.2.1
abbrev iP (s : InnS) : PA := s.2.2.2.2.2.1
abbrev iG (s : InnS) : Int32 := s.2.2.2.2.2.2.1
abbrev iT (s : InnS) : Int32 := s.2.2.2.2.2.2.2.1
abbrev iN (s : InnS) : Int32 := s.2.2.2.2.2.2.2.2.1
abbrev iS (s : InnS) : Int32 := s.2.2.2.2.2.2.2.2.2.1
abbrev iA (s : InnS) : Int32 := s.2.2.2.2.2.2.2.2.2.2.1
abbrev iSn (s : InnS) : Int32 := s.2.2.2.2.2.2.2.2.2.2.2.1
abbrev iLn (s : InnS) : Int32 := s.2.2.2.2.2.2.2.2.2.2.2.2
def innW (s : InnS) : List sc := [oC 0 [sR 1, sR 2, sR 3, sR 4, sR 5, sR 6, sI (iG s), sI (iT s), sI (iN s), sI (iS s), sI (iA s), sI (iSn s), sI (iLn s)], aI 7 (iK s), aI 7 (iF s), aI 7 (iW s), aI 7 (iL s), aI 7 (iH s), aI 10 (iP s)]
abbrev ix (g : Int32) : Nat := g.toNatClampNeg
def tb (t g : Int32) : Prop := ¬ (jshr t g &&& 1) = 0
def stS (s : InnS) (k more : Int32) : InnS := (iK s, iF s, iW s, iL s, iH s, upd (iP s) (ix k) (jmin 99 (iP s (ix k) + more)), iG s, iT s, iN s, iS s, iA s, iSn s, iLn s)
noncomputable def chT (t h g : Int32) : Int32 := if h = 0 then t &&& (jshl 1 g ^^^ (-1)) else t
noncomputable def chS (s : InnS) (g d : Int32) : InnS := (iK s, iF s, iW s, iL s, upd (iH s) (ix g) (heldI (iH s (ix g) + d) 99), iP s, iG s, chT (iT s) (heldI (iH s (ix g) + d) 99) g, iN s, iS s, iA s, iSn s, iLn s)
def dmS (s : InnS) (g n : Int32) : Int32 := dreamK (iK s (ix g)) (iF s (ix g)) (iW s (ix g)) (iL s (ix g)) n
theorem kW {K : Option sv → List sc → Prop} {r : Option sv} {w w' : List sc} (h : K r w) (e : w = w') : K r w' := e ▸ h
theorem kIW {K : Option sv → List sc → Prop} {x y : Int32} {w w' : List sc} (h : K (some (.inl x)) w) (e1 : x = y) (e : w = w') : K (some (.inl y)) w' := e1 ▸ e ▸ h
def F_X0_isThere : Fn := fun as w K => ∃ (s : InnS) (g : Int32), as = [sR 0, sI g] ∧ w = innW s ∧ K (some (.inl (bp (tb (iT s) g)))) w
def ctb_X0_isThere : List (Nat × (List sv → List sc → (List sv → List sc → Prop) → Prop)) := []
theorem cok_X0_isThere : CallOK cX0_isThere 2 (some .boolean) RX0 1 ctb_X0_isThere := CallOK_nil
theorem ct_X0_isThere : Ct yX0_isThere cX0_isThere 2 (some .boolean) 1 F_X0_isThere := by
  intro l D σ cA sz as w K h
  obtain ⟨s, g, rfl, rfl, h⟩ := h
  refine metL (pr := lkB pX0_isThere) (rk := 2) (ct := ctb_X0_isThere) (fld := lkB flX0) (cst := lkB csX0) (cstL := lkB clX0) [] pX0_isThere_ok kX0_isThere.2.2.2.2.2.2.2 fdX0 cdX0 rto2 cok_X0_isThere (Nat.le_of_ble_eq_true rfl) cut0 ?_ l D σ cA sz
  repeat' ((conv => whnf); (first | refine And.intro (by first | decide | with_reducible assumption) ?_ | with_reducible refine And.intro (fun hc => ?_) (fun hc => ?_) | with_reducible refine And.intro (fun hc => ?_) ?_ | fail))
  all_goals try (conv => whnf)
  · exact (kB0 h (fun q => q (by assumption))).2
  · exact (kB h (by assumption)).2
def F_X0_knows : Fn := fun as w K => ∃ (s : InnS) (g : Int32), as = [sR 0, sI g] ∧ w = innW s ∧ K (some (.inl (bp (0 ≤ g ∧ g ≤ iG s - 1)))) w
def ctb_X0_knows : List (Nat × (List sv → List sc → (List sv → List sc → Prop) → Prop)) := [(8, cS none 3 F_X5_within)]
theorem cok_X0_knows : CallOK cX0_knows 2 (some .boolean) RX0 2 ctb_X0_knows := CallOK_cons (site_same (rnN (pX0_knows_ok 8 _ rfl) ct_X5_within kX5_within (List.mem_of_getElem? (i := 0) rfl) (by decide))) (CallOK_nil)
theorem ct_X0_knows : Ct yX0_knows cX0_knows 2 (some .boolean) 2 F_X0_knows := by
  intro l D σ cA sz as w K h
  obtain ⟨s, g, rfl, rfl, h⟩ := h
  refine metL (pr := lkB pX0_knows) (rk := 2) (ct := ctb_X0_knows) (fld := lkB flX0) (cst := lkB csX0) (cstL := lkB clX0) [] pX0_knows_ok kX0_knows.2.2.2.2.2.2.2 fdX0 cdX0 rto2 cok_X0_knows (Nat.le_of_ble_eq_true rfl) cut0 ?_ l D σ cA sz
  repeat' ((conv => whnf); (first | refine And.intro (by first | decide | with_reducible assumption) ?_ | with_reducible refine And.intro (fun hc => ?_) (fun hc => ?_) | with_reducible refine And.intro (fun hc => ?_) ?_ | fail))
  all_goals try (conv => whnf)
  exact ⟨bp_01 _, h⟩
def F_X0_stock : Fn := fun as w K => ∃ (s : InnS) (k m : Int32), as = [sR 0, sI k, sI m] ∧ w = innW s ∧ vp_in k 10 ∧ K none (innW (stS s k m))
def ctb_X0_stock : List (Nat × (List sv → List sc → (List sv → List sc → Prop) → Prop)) := [(15, cMin)]
theorem cok_X0_stock : CallOK cX0_stock 3 none RX0 1 ctb_X0_stock := CallOK_cons (site_min (pX0_stock_ok 15 _ rfl) lRX0_62 (by decide)) (CallOK_nil)
theorem ct_X0_stock : Ct yX0_stock cX0_stock 3 none 1 F_X0_stock := by
  intro l D σ cA sz as w K h
  obtain ⟨s, k, m, rfl, rfl, hk, h⟩ := h
  refine metL (pr := lkB pX0_stock) (rk := 0) (ct := ctb_X0_stock) (fld := lkB flX0) (cst := lkB csX0) (cstL := lkB clX0) [] pX0_stock_ok kX0_stock.2.2.2.2.2.2.2 fdX0 cdX0 rto0 cok_X0_stock (Nat.le_of_ble_eq_true rfl) cut0 ?_ l D σ cA sz
  repeat' ((conv => whnf); (first | refine And.intro (by first | decide | with_reducible assumption) ?_ | with_reducible refine And.intro (fun hc => ?_) (fun hc => ?_) | with_reducible refine And.intro (fun hc => ?_) ?_ | fail))
  all_goals try (conv => whnf)
  exact h
def F_X0_dream : Fn := fun as w K => ∃ (s : InnS) (g n : Int32), as = [sR 0, sI g, sI n] ∧ w = innW s ∧ vp_in g 7 ∧ 0 < iF s (ix g) + 2 ∧ K (some (.inl (dmS s g n))) w
def ctb_X0_dream : List (Nat × (List sv → List sc → (List sv → List sc → Prop) → Prop)) := [(25, cS none 5 F_X1_dream)]
theorem cok_X0_dream : CallOK cX0_dream 3 (some .int) RX0 3 ctb_X0_dream := CallOK_cons (site_same (rnS (pX0_dream_ok 25 _ rfl) ct_X1_dream kX1_dream lRX0_86 (by decide))) (CallOK_nil)
theorem ct_X0_dream : Ct yX0_dream cX0_dream 3 (some .int) 3 F_X0_dream := by
  intro l D σ cA sz as w K h
  obtain ⟨s, g, n, rfl, rfl, hg, hf, h⟩ := h
  refine metL (pr := lkB pX0_dream) (rk := 1) (ct := ctb_X0_dream) (fld := lkB flX0) (cst := lkB csX0) (cstL := lkB clX0) [] pX0_dream_ok kX0_dream.2.2.2.2.2.2.2 fdX0 cdX0 rto1 cok_X0_dream (Nat.le_of_ble_eq_true rfl) cut0 ?_ l D σ cA sz
  repeat' ((conv => whnf); (first | refine And.intro (by first | decide | with_reducible assumption) ?_ | with_reducible refine And.intro (fun hc => ?_) (fun hc => ?_) | with_reducible refine And.intro (fun hc => ?_) ?_ | fail))
  all_goals try (conv => whnf)
  exact h
noncomputable def ndS (s : InnS) (g : Int32) : Int32 := @ite _ (tb (iT s) g) (Classical.propDecidable _) (dmS s g (iN s + 1)) (-4)
def F_X0_nextDream : Fn := fun as w K => ∃ (s : InnS) (g : Int32), as = [sR 0, sI g] ∧ w = innW s ∧ vp_in g 7 ∧ 0 < iF s (ix g) + 2 ∧ K (some (.inl (ndS s g))) w
def ctb_X0_nextDream : List (Nat × (List sv → List sc → (List sv → List sc → Prop) → Prop)) := [(2, cS (some 0) 2 F_X0_isThere), (16, cS (some 0) 3 F_X0_dream)]
theorem cok_X0_nextDream : CallOK cX0_nextDream 2 (some .int) RX0 4 ctb_X0_nextDream := CallOK_cons (site_same (rnV (pX0_nextDream_ok 2 _ rfl) ct_X0_isThere kX0_isThere lRX0_76 (by decide))) (CallOK_cons (site_same (rnV (pX0_nextDream_ok 16 _ rfl) ct_X0_dream kX0_dream lRX0_80 (by decide))) (CallOK_nil))
theorem ct_X0_nextDream : Ct yX0_nextDream cX0_nextDream 2 (some .int) 4 F_X0_nextDream := by
  intro l D σ cA sz as w K h
  obtain ⟨s, g, rfl, rfl, hg, hf, h⟩ := h
  refine metL (pr := lkB pX0_nextDream) (rk := 1) (ct := ctb_X0_nextDream) (fld := lkB flX0) (cst := lkB csX0) (cstL := lkB clX0) [] pX0_nextDream_ok kX0_nextDream.2.2.2.2.2.2.2 fdX0 cdX0 rto1 cok_X0_nextDream (Nat.le_of_ble_eq_true rfl) cut0 ?_ l D σ cA sz
  conv => whnf
  refine ⟨s, g, rfl, rfl, ?_⟩
  conv => whnf
  refine ⟨fun hc => ?_, fun hc => ?_⟩
  · conv => whnf
    exact kI h (by unfold ndS; rw [if_neg (bp_0.mp hc)])
  · conv => whnf
    refine ⟨s, g, iN s + 1, rfl, rfl, hg, hf, ?_⟩
    conv => whnf
    exact kI h (by unfold ndS; rw [if_pos (Classical.not_not.mp (fun q => hc (bp_0.mpr q)))])
def F_X0_changeHealth : Fn := fun as w K => ∃ (s : InnS) (g d : Int32), as = [sR 0, sI g, sI d] ∧ w = innW s ∧ vp_in g 7 ∧ K none (innW (chS s g d))
def ctb_X0_changeHealth : List (Nat × (List sv → List sc → (List sv → List sc → Prop) → Prop)) := [(16, cMin), (19, cMax)]
theorem cok_X0_changeHealth : CallOK cX0_changeHealth 3 none RX0 1 ctb_X0_changeHealth := CallOK_cons (site_min (pX0_changeHealth_ok 16 _ rfl) lRX0_62 (by decide)) (CallOK_cons (site_max (pX0_changeHealth_ok 19 _ rfl) lRX0_102 (by decide)) (CallOK_nil))
theorem ct_X0_changeHealth : Ct yX0_changeHealth cX0_changeHealth 3 none 1 F_X0_changeHealth := by
  intro l D σ cA sz as w K h
  obtain ⟨s, g, d, rfl, rfl, hg, h⟩ := h
  have hg' := hg
  refine metL (pr := lkB pX0_changeHealth) (rk := 0) (ct := ctb_X0_changeHealth) (fld := lkB flX0) (cst := lkB csX0) (cstL := lkB clX0) [] pX0_changeHealth_ok kX0_changeHealth.2.2.2.2.2.2.2 fdX0 cdX0 rto0 cok_X0_changeHealth (Nat.le_of_ble_eq_true rfl) cut0 ?_ l D σ cA sz
  repeat' ((conv => whnf); (first | refine And.intro (by first | decide | with_reducible assumption) ?_ | with_reducible refine And.intro (fun hc => ?_) (fun hc => ?_) | with_reducible refine And.intro (fun hc => ?_) ?_ | fail))
  all_goals try (conv => whnf)
  · refine kW h ?_
    rw [pk_us, ← held_mm] at hc
    unfold chS
    rw [← held_mm, chT, if_neg hc]
    rfl
  · refine kW h ?_
    rw [pk_us, ← held_mm] at hc
    unfold chS
    rw [← held_mm, chT, if_pos hc]
    rfl
def tkS (s : InnS) (k e : Int32) : InnS := (iK s, iF s, iW s, iL s, iH s, upd (iP s) (ix k) (iP s (ix k) - e), iG s, iT s, iN s, iS s, iA s, iSn s, iLn s)
def svS (s : InnS) (g k : Int32) : InnS := (iK s, iF s, iW s, upd (iL s) (ix g) k, iH s, iP s, iG s, iT s, iN s, heldI (iS s + 1) 9999, iA s, iSn s ||| jshl 1 g, iLn s)
def laS (s : InnS) (g : Int32) : InnS := (iK s, iF s, iW s, iL s, iH s, iP s, iG s, iT s, iN s, iS s, heldI (iA s + 1) 9999, iSn s, iLn s ||| jshl 1 g)
noncomputable def bfS (s : InnS) (g k : Int32) : InnS := if k = -4 then chS s g (-5) else if eatsK (iK s (ix g)) ≤ iP s (ix k) then svS (chS (tkS s k (eatsK (iK s (ix g)))) g (gainK (iK s (ix g)) (iF s (ix g)) k (iL s (ix g)))) g k else laS (chS s g (-3)) g
theorem iA_ch (s : InnS) (g d : Int32) : iA (chS s g d) = iA s := rfl
theorem iS_ch (s : InnS) (g d : Int32) : iS (chS s g d) = iS s := rfl
theorem iS_tk (s : InnS) (k e : Int32) : iS (tkS s k e) = iS s := rfl
theorem la_w (t : InnS) (g : Int32) (h : ¬ iA t + 1 < 0) : innW (laS t g) = snth (snth (innW t) 0 (oC 0 (snth [sR 1, sR 2, sR 3, sR 4, sR 5, sR 6, sI (iG t), sI (iT t), sI (iN t), sI (iS t), sI (iA t), sI (iSn t), sI (iLn t)] 10 (sI (jmin 9999 (iA t + 1)))))) 0 (oC 0 (snth (snth [sR 1, sR 2, sR 3, sR 4, sR 5, sR 6, sI (iG t), sI (iT t), sI (iN t), sI (iS t), sI (iA t), sI (iSn t), sI (iLn t)] 10 (sI (jmin 9999 (iA t + 1)))) 12 (sI (iLn t ||| jshl 1 g)))) := by
  unfold laS
  rw [held_m (iA t + 1) h]
  rfl
def F_X0_breakfast : Fn := fun as w K => ∃ (s : InnS) (g k : Int32), as = [sR 0, sI g, sI k] ∧ w = innW s ∧ vp_in g 7 ∧ (k = -4 ∨ rng 10 k) ∧ (¬ iS s + 1 < 0 ∧ ¬ iA s + 1 < 0) ∧ K none (innW (bfS s g k))
theorem rng_in {n : Nat} {x : Int32} (h : rng n x) (hn : n < 2 ^ 31) : vp_in x n := by
  obtain ⟨j, hj, rfl⟩ := h
  exact vp_in_nI hj hn
def ctb_X0_breakfast : List (Nat × (List sv → List sc → (List sv → List sc → Prop) → Prop)) := [(6, cS none 1 F_X1_eats), (20, cS (some 0) 3 F_X0_changeHealth), (67, cS none 4 F_X1_gain), (70, cS (some 0) 3 F_X0_changeHealth), (90, cMin), (115, cS (some 0) 3 F_X0_changeHealth), (128, cMin)]
theorem cok_X0_breakfast : CallOK cX0_breakfast 4 none RX0 2 ctb_X0_breakfast := CallOK_cons (site_same (rnS (pX0_breakfast_ok 6 _ rfl) ct_X1_eats kX1_eats lRX0_91 (by decide))) (CallOK_cons (site_same (rnV (pX0_breakfast_ok 20 _ rfl) ct_X0_changeHealth kX0_changeHealth lRX0_95 (by decide))) (CallOK_cons (site_same (rnS (pX0_breakfast_ok 67 _ rfl) ct_X1_gain kX1_gain lRX0_98 (by decide))) (CallOK_cons (site_same (rnV (pX0_breakfast_ok 70 _ rfl) ct_X0_changeHealth kX0_changeHealth lRX0_95 (by decide))) (CallOK_cons (site_min (pX0_breakfast_ok 90 _ rfl) lRX0_62 (by decide)) (CallOK_cons (site_same (rnV (pX0_breakfast_ok 115 _ rfl) ct_X0_changeHealth kX0_changeHealth lRX0_95 (by decide))) (CallOK_cons (site_min (pX0_breakfast_ok 128 _ rfl) lRX0_62 (by decide)) (CallOK_nil)))))))
theorem ct_X0_breakfast : Ct yX0_breakfast cX0_breakfast 4 none 2 F_X0_breakfast := by
  intro l D σ cA sz as w K h
  obtain ⟨s, g, k, rfl, rfl, hg, hk, ⟨hs, ha⟩, h⟩ := h
  refine metL (pr := lkB pX0_breakfast) (rk := 0) (ct := ctb_X0_breakfast) (fld := lkB flX0) (cst := lkB csX0) (cstL := lkB clX0) [] pX0_breakfast_ok kX0_breakfast.2.2.2.2.2.2.2 fdX0 cdX0 rto0 cok_X0_breakfast (Nat.le_of_ble_eq_true rfl) cut0 ?_ l D σ cA sz
  repeat' ((conv => whnf); (first | refine And.intro (by first | decide | with_reducible assumption | exact rng_in (hk.resolve_left (by assumption)) (by decide) | exact hk.resolve_left (by assumption)) ?_ | with_reducible refine And.intro (fun hc => ?_) (fun hc => ?_) | with_reducible refine And.intro (fun hc => ?_) ?_ | fail))
  all_goals try (conv => whnf)
  · refine ⟨s, g, -3, rfl, rfl, hg, ?_⟩
    repeat' ((conv => whnf); (first | refine And.intro (by first | decide | with_reducible assumption) ?_ | with_reducible refine And.intro (fun hc => ?_) (fun hc => ?_) | with_reducible refine And.intro (fun hc => ?_) ?_ | fail))
    all_goals try (conv => whnf)
    refine kW h ?_
    unfold bfS
    rw [if_neg (by assumption), if_neg (fun q => absurd hc (Int32.not_lt.mpr q))]
    exact la_w _ _ (by rw [iA_ch]; exact ha)
  · refine ⟨tkS s k (eatsK (iK s (ix g))), g, gainK (iK s (ix g)) (iF s (ix g)) k (iL s (ix g)), rfl, rfl, hg, ?_⟩
    repeat' ((conv => whnf); (first | refine And.intro (by first | decide | with_reducible assumption) ?_ | with_reducible refine And.intro (fun hc => ?_) (fun hc => ?_) | with_reducible refine And.intro (fun hc => ?_) ?_ | fail))
    all_goals try (conv => whnf)
    refine kW h ?_
    unfold bfS
    rw [if_neg (by assumption), if_pos (Int32.not_lt.mp hc)]
    have hs' : ¬ iS (chS (tkS s k (eatsK (iK s (ix g)))) g (gainK (iK s (ix g)) (iF s (ix g)) k (iL s (ix g)))) + 1 < 0 := by
      rw [iS_ch, iS_tk]; exact hs
    generalize chS (tkS s k (eatsK (iK s (ix g)))) g (gainK (iK s (ix g)) (iF s (ix g)) k (iL s (ix g))) = t at hs' ⊢
    unfold svS
    rw [held_m (iS t + 1) hs']
    rfl
  · refine ⟨s, g, -5, rfl, rfl, hg, ?_⟩
    repeat' ((conv => whnf); (first | refine And.intro (by first | decide | with_reducible assumption) ?_ | with_reducible refine And.intro (fun hc => ?_) (fun hc => ?_) | with_reducible refine And.intro (fun hc => ?_) ?_ | fail))
    all_goals try (conv => whnf)
    refine kW h ?_
    unfold bfS
    rw [if_pos (by assumption)]
/-! a night -/
noncomputable def pkS (s : InnS) (mare sil g : Int32) : Int32 := @ite _ (tb sil g) (Classical.propDecidable _) 1 (if ¬ mare = 0 ∧ ¬ dmS s g (iN s) = -4 then 7 else dmS s g (iN s))
noncomputable def gsS (s : InnS) (mare sil g : Int32) : InnS := @ite _ (tb (iT s) g) (Classical.propDecidable _) (bfS s g (pkS s mare sil g)) s
noncomputable def gfS (mare sil : Int32) : Nat → InnS → InnS
  | 0, s => s
  | j + 1, s => gsS (gfS mare sil j s) mare sil (nI j)
def nbS (s : InnS) : InnS := (iK s, iF s, iW s, iL s, iH s, upd (iP s) (ix (jrem (iN s + 1) 10)) (heldI (iP s (ix (jrem (iN s + 1) 10)) + 2) 99), iG s, iT s, iN s + 1, iS s, iA s, 0, 0)
noncomputable def nightS (mare sil : Int32) (s : InnS) : InnS := gfS mare sil (ix (iG s)) (nbS s)
/-- what holds of an inn through the nights -/
def GS (s : InnS) : Prop := (∀ j, j < 7 → rng 10 (iF s j) ∧ rng 10 (iW s j) ∧ rng 10 (iL s j)) ∧ rng 8 (iG s) ∧ rng 10000 (iS s) ∧ rng 10000 (iA s) ∧ (∀ k, k < 10 → rng 100 (iP s k)) ∧ ∀ j, j < 7 → rng 100 (iH s j)
theorem jrem_nI {a d : Nat} (ha : a < 2 ^ 31) (h0 : 0 < d) (hd : d < 2 ^ 31) : jrem (nI a) (nI d) = nI (a % d) := pk_rem ha h0 hd
theorem rng_inc {x : Int32} (h : rng 10000 x) : ¬ x + 1 < 0 ∧ rng 10000 (heldI (x + 1) 9999) := by
  obtain ⟨j, hj, rfl⟩ := h
  rw [nI_1]
  refine ⟨nI_pos (by omega), ?_⟩
  unfold heldI
  rw [if_neg (nI_pos (by omega))]
  split
  · exact ⟨9999, by decide, by decide⟩
  · rename_i h
    refine ⟨j + 1, ?_, rfl⟩
    rcases Nat.lt_or_ge (j + 1) 10000 with q | q
    · exact q
    · exact absurd (show nI 9999 < nI (j + 1) from nI_lt (by omega) (by omega)) h
theorem rng_held (v : Int32) : rng 100 (heldI v 99) := by
  unfold heldI
  split
  · exact ⟨0, by decide, by decide⟩
  · split
    · exact ⟨99, by decide, by decide⟩
    · rename_i h1 h2
      obtain ⟨j, hj, hx⟩ := nI_of2 (M := 99) (n := 99) rfl h1 (Int32.not_lt.mp h2)
      exact ⟨j, by omega, hx⟩
theorem cook_ok {f w : Int32} {n : Nat} (hw : rng 10 w) : cookD f w (nI n) = -4 ∨ rng 10 (cookD f w (nI n)) := by
  unfold cookD
  split
  · exact Or.inr hw
  · exact Or.inl rfl
theorem dream_ok {k f w la : Int32} {n : Nat} (hn : n < 100000) (hf : rng 10 f) (hw : rng 10 w) (hl : rng 10 la) : dreamK k f w la (nI n) = -4 ∨ rng 10 (dreamK k f w la (nI n)) := by
  have c := cook_ok (f := f) (n := n) hw
  have e : ∀ a : Nat, a < 200000 → rng 10 (jrem (nI a) 10) := fun a ha => ⟨a % 10, Nat.mod_lt _ (by decide), jrem_nI (d := 10) (by omega) (by decide) (by decide)⟩
  unfold dreamK
  repeat' split
  · exact Or.inr ⟨1, by decide, by decide⟩
  · obtain ⟨j, hj, rfl⟩ := hw
    rw [nI_add]
    exact Or.inr (e _ (by omega))
  · exact c
  · exact Or.inr ⟨0, by decide, by decide⟩
  · obtain ⟨j, hj, rfl⟩ := hl
    obtain ⟨i, hi, rfl⟩ := hf
    rw [nI_1, nI_add]
    exact Or.inr (e _ (by omega))
  · exact Or.inr ⟨9, by decide, by decide⟩
  · exact Or.inr hl
  · exact c
  · exact Or.inr hw
theorem pick_ok {s : InnS} {j N : Nat} {mare sil : Int32} (h : GS s) (hj : j < 7) (hN : iN s = nI N) (hN2 : N < 100000) : pkS s mare sil (nI j) = -4 ∨ rng 10 (pkS s mare sil (nI j)) := by
  have e : ix (nI j) = j := nI_clamp (by omega)
  have d : dmS s (nI j) (iN s) = -4 ∨ rng 10 (dmS s (nI j) (iN s)) := by
    unfold dmS
    rw [e, hN]
    exact dream_ok hN2 (h.1 j hj).1 (h.1 j hj).2.1 (h.1 j hj).2.2
  unfold pkS
  split
  · exact Or.inr ⟨1, by decide, by decide⟩
  · split
    · exact Or.inr ⟨7, by decide, by decide⟩
    · exact d
theorem GS_ch {s : InnS} {g d : Int32} (h : GS s) : GS (chS s g d) := by
  refine ⟨h.1, h.2.1, h.2.2.1, h.2.2.2.1, h.2.2.2.2.1, fun j hj => ?_⟩
  show rng 100 (upd (iH s) (ix g) _ j)
  by_cases e : j = ix g
  · rw [e, pk_us]; exact rng_held _
  · rw [pk_un e]; exact h.2.2.2.2.2 j hj
theorem GS_la {s : InnS} {g : Int32} (hc : GS s) : GS (laS s g) := ⟨hc.1, hc.2.1, hc.2.2.1, (rng_inc hc.2.2.2.1).2, hc.2.2.2.2.1, hc.2.2.2.2.2⟩
theorem GS_sv {s : InnS} {g k : Int32} (hc : GS s) (hk : rng 10 k) : GS (svS s g k) := by
  refine ⟨fun j hj => ⟨(hc.1 j hj).1, (hc.1 j hj).2.1, ?_⟩, hc.2.1, (rng_inc hc.2.2.1).2, hc.2.2.2.1, hc.2.2.2.2.1, hc.2.2.2.2.2⟩
  show rng 10 (upd (iL s) (ix g) k j)
  by_cases e : j = ix g
  · rw [e, pk_us]; exact hk
  · rw [pk_un e]; exact (hc.1 j hj).2.2
theorem GS_tk {s : InnS} {k e : Int32} (h : GS s) (he2 : e = nI 2 ∨ e = nI 1) (he : e ≤ iP s (ix k)) : GS (tkS s k e) := by
  refine ⟨h.1, h.2.1, h.2.2.1, h.2.2.2.1, fun q hq => ?_, h.2.2.2.2.2⟩
  show rng 100 (upd (iP s) (ix k) (iP s (ix k) - e) q)
  by_cases e9 : q = ix k
  · rw [e9, pk_us]
    obtain ⟨a, ha, hp⟩ := h.2.2.2.2.1 _ (e9 ▸ hq)
    rw [hp] at he ⊢
    rcases he2 with hee | hee
    · rw [hee] at he ⊢
      have := (nI_leI (by decide) (by omega)).mp he
      exact ⟨a - 2, by omega, pk_sub this⟩
    · rw [hee] at he ⊢
      have := (nI_leI (by decide) (by omega)).mp he
      exact ⟨a - 1, by omega, pk_sub this⟩
  · rw [pk_un e9]; exact h.2.2.2.2.1 q hq
theorem eats_12 (k : Int32) : eatsK k = nI 2 ∨ eatsK k = nI 1 := by
  unfold eatsK; split
  · exact Or.inl (by decide)
  · exact Or.inr (by decide)
theorem GS_bf {s : InnS} {g k : Int32} (h : GS s) (hk : k = -4 ∨ rng 10 k) : GS (bfS s g k) := by
  unfold bfS
  by_cases h4 : k = -4
  · rw [if_pos h4]; exact GS_ch h
  · rw [if_neg h4]
    by_cases he : eatsK (iK s (ix g)) ≤ iP s (ix k)
    · rw [if_pos he]
      exact GS_sv (GS_ch (GS_tk h (eats_12 _) he)) (hk.resolve_left h4)
    · rw [if_neg he]
      exact GS_la (GS_ch h)
theorem ch_keep {s : InnS} {g d : Int32} : iN (chS s g d) = iN s ∧ iG (chS s g d) = iG s ∧ iK (chS s g d) = iK s ∧ iF (chS s g d) = iF s ∧ iW (chS s g d) = iW s := ⟨rfl, rfl, rfl, rfl, rfl⟩
theorem la_keep {s : InnS} {g : Int32} : iN (laS s g) = iN s ∧ iG (laS s g) = iG s ∧ iK (laS s g) = iK s ∧ iF (laS s g) = iF s ∧ iW (laS s g) = iW s := ⟨rfl, rfl, rfl, rfl, rfl⟩
theorem bf_keep {s : InnS} {g k : Int32} : iN (bfS s g k) = iN s ∧ iG (bfS s g k) = iG s ∧ iK (bfS s g k) = iK s ∧ iF (bfS s g k) = iF s ∧ iW (bfS s g k) = iW s := by
  unfold bfS
  split
  · exact ch_keep
  · split
    · exact ⟨rfl, rfl, rfl, rfl, rfl⟩
    · have h1 := la_keep (s := chS s g (-3)) (g := g)
      have h2 := ch_keep (s := s) (g := g) (d := -3)
      exact ⟨h1.1.trans h2.1, h1.2.1.trans h2.2.1, h1.2.2.1.trans h2.2.2.1, h1.2.2.2.1.trans h2.2.2.2.1, h1.2.2.2.2.trans h2.2.2.2.2⟩
theorem gs_keep {s : InnS} {mare sil g : Int32} : iN (gsS s mare sil g) = iN s ∧ iG (gsS s mare sil g) = iG s ∧ iK (gsS s mare sil g) = iK s ∧ iF (gsS s mare sil g) = iF s ∧ iW (gsS s mare sil g) = iW s := by
  unfold gsS
  split
  · exact bf_keep
  · exact ⟨rfl, rfl, rfl, rfl, rfl⟩
theorem gf_keep {s : InnS} {mare sil : Int32} : ∀ j, iN (gfS mare sil j s) = iN s ∧ iG (gfS mare sil j s) = iG s ∧ iK (gfS mare sil j s) = iK s ∧ iF (gfS mare sil j s) = iF s ∧ iW (gfS mare sil j s) = iW s
  | 0 => ⟨rfl, rfl, rfl, rfl, rfl⟩
  | j + 1 => by
    have h := gf_keep (s := s) (mare := mare) (sil := sil) j
    have h2 := gs_keep (s := gfS mare sil j s) (mare := mare) (sil := sil) (g := nI j)
    exact ⟨h2.1.trans h.1, h2.2.1.trans h.2.1, h2.2.2.1.trans h.2.2.1, h2.2.2.2.1.trans h.2.2.2.1, h2.2.2.2.2.trans h.2.2.2.2⟩
theorem GS_gf {s : InnS} {mare sil : Int32} {N : Nat} (h : GS s) (hN : iN s = nI N) (hN2 : N < 100000) : ∀ j, j ≤ 7 → GS (gfS mare sil j s)
  | 0, _ => h
  | j + 1, hj => by
    have h1 := GS_gf (mare := mare) (sil := sil) h hN hN2 j (by omega)
    show GS (gsS _ _ _ _)
    unfold gsS
    split
    · exact GS_bf h1 (pick_ok h1 (by omega) ((gf_keep j).1.trans hN) hN2)
    · exact h1
theorem GS_nb {s : InnS} (h : GS s) : GS (nbS s) := by
  refine ⟨h.1, h.2.1, h.2.2.1, h.2.2.2.1, fun k hk => ?_, h.2.2.2.2.2⟩
  show rng 100 (upd (iP s) _ _ k)
  by_cases e : k = ix (jrem (iN s + 1) 10)
  · rw [e, pk_us]; exact rng_held _
  · rw [pk_un e]; exact h.2.2.2.2.1 k hk
end
section
/-! ===== a night in the class ===== -/
/-- n plain nights -/
noncomputable def nightsS : Nat → InnS → InnS
  | 0, s => s
  | n + 1, s => nightS 0 0 (nightsS n s)
theorem GS_night {s : InnS} {mare sil : Int32} {N : Nat} (h : GS s) (hN : iN s = nI N) (hN2 : N < 90000) : GS (nightS mare sil s) := by
  have hN1 : iN (nbS s) = nI (N + 1) := by show iN s + 1 = _; rw [hN, nI_1]
  obtain ⟨G, hG7, hG⟩ := h.2.1
  unfold nightS
  rw [hG, show ix (nI G) = G from nI_clamp (by omega)]
  exact GS_gf (GS_nb h) hN1 (by omega) G (by omega)
theorem night_keep {s : InnS} {mare sil : Int32} : iN (nightS mare sil s) = iN s + 1 ∧ iG (nightS mare sil s) = iG s ∧ iK (nightS mare sil s) = iK s ∧ iF (nightS mare sil s) = iF s ∧ iW (nightS mare sil s) = iW s := gf_keep (s := nbS s) _
theorem nights_keep {s : InnS} {N : Nat} (h : GS s) (hN : iN s = nI N) : ∀ n, N + n < 90001 → GS (nightsS n s) ∧ iN (nightsS n s) = nI (N + n)
  | 0, _ => ⟨h, hN⟩
  | n + 1, hn => by
    obtain ⟨h1, h2⟩ := nights_keep h hN n (by omega)
    refine ⟨GS_night h1 h2 (by omega), ?_⟩
    show iN (nightS 0 0 (nightsS n s)) = _
    rw [night_keep.1, h2, nI_1]
    rfl
def F_X0_passNight : Fn := fun as w K => ∃ (s : InnS) (mare sil : Int32) (N : Nat), as = [sR 0, sI mare, sI sil] ∧ w = innW s ∧ GS s ∧ iN s = nI N ∧ N < 90000 ∧ K none (innW (nightS mare sil s))
abbrev nnS (s : InnS) : InnS := (iK s, iF s, iW s, iL s, iH s, iP s, iG s, iT s, iN s + 1, iS s, iA s, iSn s, iLn s)
theorem nb_w (s : InnS) (h : ¬ iP s (ix (jrem (iN s + 1) 10)) + 2 < 0) : innW (nbS s) = innW (iK s, iF s, iW s, iL s, iH s, iP (stS (nnS s) (jrem (iN s + 1) 10) 2), iG s, iT s, iN s + 1, iS s, iA s, 0, 0) := by
  unfold nbS stS
  rw [held_m9 _ h]
theorem gs_f {s : InnS} {mare sil g : Int32} (h : ¬ tb (iT s) g) : gsS s mare sil g = s := by unfold gsS; rw [if_neg h]
theorem gs_t {s : InnS} {mare sil g : Int32} (h : tb (iT s) g) : gsS s mare sil g = bfS s g (pkS s mare sil g) := by unfold gsS; rw [if_pos h]
def ctb_X0_passNight : List (Nat × (List sv → List sc → (List sv → List sc → Prop) → Prop)) := [(19, cS (some 0) 3 F_X0_stock), (44, cS (some 0) 2 F_X0_isThere), (56, cS (some 0) 3 F_X0_dream), (92, cS (some 0) 3 F_X0_breakfast)]
theorem cok_X0_passNight : CallOK cX0_passNight 5 none RX0 4 ctb_X0_passNight := CallOK_cons (site_same (rnV (pX0_passNight_ok 19 _ rfl) ct_X0_stock kX0_stock lRX0_72 (by decide))) (CallOK_cons (site_same (rnV (pX0_passNight_ok 44 _ rfl) ct_X0_isThere kX0_isThere lRX0_76 (by decide))) (CallOK_cons (site_same (rnV (pX0_passNight_ok 56 _ rfl) ct_X0_dream kX0_dream lRX0_80 (by decide))) (CallOK_cons (site_same (rnV (pX0_passNight_ok 92 _ rfl) ct_X0_breakfast kX0_breakfast lRX0_83 (by decide))) (CallOK_nil))))
set_option maxRecDepth 4000 in
theorem ct_X0_passNight : Ct yX0_passNight cX0_passNight 5 none 4 F_X0_passNight := by
  intro l D σ cA sz as w K h
  obtain ⟨s, mare, sil, N, rfl, rfl, hGS, hN, hN2, h⟩ := h
  obtain ⟨G, hG7, hG⟩ := hGS.2.1
  have hN1 : iN s + 1 = nI (N + 1) := by rw [hN, nI_1]
  have hk : jrem (iN s + 1) 10 = nI ((N + 1) % 10) := by rw [hN1]; exact jrem_nI (d := 10) (by omega) (by decide) (by decide)
  have hki : vp_in (jrem (iN s + 1) 10) 10 := by rw [hk]; exact vp_in_nI (Nat.mod_lt _ (by decide)) (by decide)
  have hkp : ¬ iP s (ix (jrem (iN s + 1) 10)) + 2 < 0 := by
    rw [hk]
    have e : ix (nI ((N + 1) % 10)) = (N + 1) % 10 := nI_clamp (by omega)
    rw [e]
    obtain ⟨a, ha, hp⟩ := hGS.2.2.2.2.1 ((N + 1) % 10) (Nat.mod_lt _ (by decide))
    rw [hp, show (2 : Int32) = nI 2 by decide, nI_add]
    exact nI_pos (by omega)
  refine metL (pr := lkB pX0_passNight) (rk := 0) (ct := ctb_X0_passNight) (fld := lkB flX0) (cst := lkB csX0) (cstL := lkB clX0) [(34, ([true, true, true, true, false], fun n lv st w => ∃ j, j ≤ G ∧ n = G - j ∧ lv = [some (sR 0), some (sI mare), some (sI sil), some (sI (nI j)), none] ∧ st = [] ∧ w = innW (gfS mare sil j (nbS s))))] pX0_passNight_ok kX0_passNight.2.2.2.2.2.2.2 fdX0 cdX0 rto0 cok_X0_passNight (Nat.le_of_ble_eq_true rfl) ?_ ?_ l D σ cA sz
  · refine List.forall_mem_cons.mpr ⟨?_, cut0⟩
    rintro n lv st w ⟨j, hj, rfl, rfl, rfl, rfl⟩
    have hGt := GS_gf (mare := mare) (sil := sil) (GS_nb hGS) (show iN (nbS s) = nI (N + 1) from hN1) (by omega) j (by omega)
    have hkt := gf_keep (s := nbS s) (mare := mare) (sil := sil) j
    have hNt : iN (gfS mare sil j (nbS s)) = nI (N + 1) := hkt.1.trans hN1
    have hGG : iG (gfS mare sil j (nbS s)) = nI G := hkt.2.1.trans hG
    have hsuc : gfS mare sil (j + 1) (nbS s) = gsS (gfS mare sil j (nbS s)) mare sil (nI j) := rfl
    generalize ht : gfS mare sil j (nbS s) = t at hGt hNt hGG hsuc ⊢
    clear hkt
    conv => whnf
    refine ⟨fun hc => ?_, fun hc => ?_⟩
    · conv => whnf
      refine kW h ?_
      have hjG : j = G := by
        rw [hGG] at hc
        have := (nI_leI (by omega) (by omega)).mp hc
        omega
      unfold nightS
      rw [hG, show ix (nI G) = G from nI_clamp (by omega), ← hjG, ht]
    · have hjG : j < G := by
        rw [hGG] at hc
        rcases Nat.lt_or_ge j G with q | q
        · exact q
        · exact absurd (nI_le q (by omega)) hc
      have hvp : vp_in (nI j) 7 := vp_in_nI (by omega) (by decide)
      conv => whnf
      refine ⟨t, nI j, rfl, rfl, ?_⟩
      conv => whnf
      refine ⟨fun hb => ?_, fun hb => ?_⟩
      · conv => whnf
        exact ⟨G - (j + 1), by omega, j + 1, hjG, rfl, by rw [← nI_1]; rfl, rfl, by rw [hsuc, gs_f (bp_0.mp hb)]⟩
      · have hb : tb (iT t) (nI j) := Classical.not_not.mp (fun q => hb (bp_0.mpr q))
        conv => whnf
        refine ⟨t, nI j, iN t, rfl, rfl, hvp, ?_, ?_⟩
        · rw [show ix (nI j) = j from nI_clamp (by omega)]
          exact rng_f2 (hGt.1 j (by omega)).1
        repeat' ((conv => whnf); (first | refine And.intro (by first | decide | with_reducible assumption) ?_ | with_reducible refine And.intro (fun hc => ?_) (fun hc => ?_) | with_reducible refine And.intro (fun hc => ?_) ?_ | fail))
        all_goals try (conv => whnf)
        all_goals
          refine ⟨t, nI j, pkS t mare sil (nI j), ?_, rfl, hvp, pick_ok hGt (by omega) hNt (by omega), ⟨(rng_inc hGt.2.2.1).1, (rng_inc hGt.2.2.2.1).1⟩, ?_⟩
          · clear hNt hGG hsuc ht hN hN1 hG h
            simp [pkS, tb, *]
          · conv => whnf
            exact ⟨G - (j + 1), by omega, j + 1, hjG, rfl, by rw [← nI_1]; rfl, rfl, by rw [hsuc, gs_t hb]⟩
  · skip
    repeat' ((conv => whnf); (first | refine And.intro (by first | decide | with_reducible assumption) ?_ | with_reducible refine And.intro (fun hc => ?_) (fun hc => ?_) | with_reducible refine And.intro (fun hc => ?_) ?_ | fail))
    all_goals try (conv => whnf)
    refine ⟨nnS s, _, 2, rfl, rfl, hki, ?_⟩
    repeat' ((conv => whnf); (first | refine And.intro (by first | decide | with_reducible assumption) ?_ | with_reducible refine And.intro (fun hc => ?_) (fun hc => ?_) | with_reducible refine And.intro (fun hc => ?_) ?_ | fail))
    all_goals try (conv => whnf)
    exact ⟨G, 0, Nat.zero_le _, rfl, rfl, rfl, by show _ = innW (nbS s); rw [nb_w s hkp]; rfl⟩
def F_X0_pass : Fn := fun as w K => ∃ (s : InnS) (n N : Nat), as = [sR 0, sI (nI n)] ∧ w = innW s ∧ GS s ∧ iN s = nI N ∧ N + n < 90000 ∧ K none (innW (nightsS n s))
def ctb_X0_pass : List (Nat × (List sv → List sc → (List sv → List sc → Prop) → Prop)) := [(10, cS (some 0) 3 F_X0_passNight)]
theorem cok_X0_pass : CallOK cX0_pass 3 none RX0 5 ctb_X0_pass := CallOK_cons (site_same (rnV (pX0_pass_ok 10 _ rfl) ct_X0_passNight kX0_passNight lRX0_68 (by decide))) (CallOK_nil)
theorem ct_X0_pass : Ct yX0_pass cX0_pass 3 none 5 F_X0_pass := by
  intro l D σ cA sz as w K h
  obtain ⟨s, m, N, rfl, rfl, hGS, hN, hN2, h⟩ := h
  refine metL (pr := lkB pX0_pass) (rk := 0) (ct := ctb_X0_pass) (fld := lkB flX0) (cst := lkB csX0) (cstL := lkB clX0) [(2, ([true, true, true], fun n lv st w => ∃ j, j ≤ m ∧ n = m - j ∧ lv = [some (sR 0), some (sI (nI m)), some (sI (nI j))] ∧ st = [] ∧ w = innW (nightsS j s)))] pX0_pass_ok kX0_pass.2.2.2.2.2.2.2 fdX0 cdX0 rto0 cok_X0_pass (Nat.le_of_ble_eq_true rfl) ?_ ?_ l D σ cA sz
  · refine List.forall_mem_cons.mpr ⟨?_, cut0⟩
    rintro n lv st w ⟨j, hj, rfl, rfl, rfl, rfl⟩
    obtain ⟨g1, g2⟩ := nights_keep hGS hN j (by omega)
    have hsuc : nightsS (j + 1) s = nightS 0 0 (nightsS j s) := rfl
    conv => whnf
    refine ⟨fun hc => ?_, fun hc => ?_⟩
    · conv => whnf
      have : j = m := by
        have := (nI_leI (by omega) (by omega)).mp hc
        omega
      rw [← this] at h
      exact h
    · have hjm : j < m := by
        rcases Nat.lt_or_ge j m with q | q
        · exact q
        · exact absurd (nI_le q (by omega)) hc
      conv => whnf
      refine ⟨nightsS j s, 0, 0, N + j, rfl, rfl, g1, g2, by omega, ?_⟩
      conv => whnf
      exact ⟨m - (j + 1), by omega, j + 1, hjm, rfl, by rw [← nI_1]; rfl, rfl, by rw [hsuc]⟩
  · skip
    repeat' ((conv => whnf); (first | refine And.intro (by first | decide | with_reducible assumption) ?_ | with_reducible refine And.intro (fun hc => ?_) (fun hc => ?_) | with_reducible refine And.intro (fun hc => ?_) ?_ | fail))
    all_goals try (conv => whnf)
    exact ⟨m, 0, Nat.zero_le _, rfl, rfl, rfl, rfl⟩
end
section
/-! ===== an inn's questions ===== -/
/-- nothing lies beyond the rows -/
def ZB (s : InnS) : Prop := (∀ j, 7 ≤ j → iK s j = 0 ∧ iF s j = 0 ∧ iW s j = 0 ∧ iL s j = 0 ∧ iH s j = 0) ∧ ∀ k, 10 ≤ k → iP s k = 0
theorem lp_ge {j M : Nat} (hj : j ≤ M) (hM : M < 2 ^ 31) (hc : nI M ≤ nI j) : j = M := by
  have := (nI_leI hM (by omega)).mp hc
  omega
theorem lp_lt {j M : Nat} (hj : j ≤ M) (hM : M < 2 ^ 31) (hc : ¬ nI M ≤ nI j) : j < M := by
  rcases Nat.lt_or_ge j M with q | q
  · exact q
  · exact absurd (nI_le q (by omega)) hc
noncomputable def hsF (h : PA) (who : Int32) : Nat → Int32
  | 0 => 0
  | j + 1 => hsF h who j + @ite _ (tb who (nI j)) (Classical.propDecidable _) (h j) 0
def beF (p : PA) : Nat → Int32
  | 0 => 0
  | k + 1 => beF p k ||| (if p k = 0 then jshl 1 (nI k) else 0)
noncomputable def boF (t : Int32) (f : PA) : Nat → Int32
  | 0 => 0
  | g + 1 => boF t f g ||| @ite _ (tb t (nI g)) (Classical.propDecidable _) (jshl 1 (f g)) 0
def flF (p : PA) : Nat → Int32
  | 0 => 0
  | k + 1 => if p (ix (flF p k)) < p (k + 1) then nI (k + 1) else flF p k
noncomputable def wlF (t : Int32) (h : PA) : Nat → Int32 × Int32
  | 0 => (-4, -1)
  | g + 1 => @ite _ (tb t (nI g) ∧ (wlF t h g).2 < h g) (Classical.propDecidable _) (nI g, h g) (wlF t h g)
def F_X0_platesInAll : Fn := fun as w K => ∃ (s : InnS), as = [sR 0] ∧ w = innW s ∧ K (some (.inl (bx_sum (iP s) 10))) w
def ctb_X0_platesInAll : List (Nat × (List sv → List sc → (List sv → List sc → Prop) → Prop)) := []
theorem cok_X0_platesInAll : CallOK cX0_platesInAll 3 (some .int) RX0 1 ctb_X0_platesInAll := CallOK_nil
theorem ct_X0_platesInAll : Ct yX0_platesInAll cX0_platesInAll 3 (some .int) 1 F_X0_platesInAll := by
  intro l D σ cA sz as w K h
  obtain ⟨s, rfl, rfl, h⟩ := h
  refine metL (pr := lkB pX0_platesInAll) (rk := 1) (ct := ctb_X0_platesInAll) (fld := lkB flX0) (cst := lkB csX0) (cstL := lkB clX0) [(4, ([true, true, true], fun n lv st w => ∃ j, j ≤ 10 ∧ n = 10 - j ∧ lv = [some (sR 0), some (sI (bx_sum (iP s) j)), some (sI (nI j))] ∧ st = [] ∧ w = innW s))] pX0_platesInAll_ok kX0_platesInAll.2.2.2.2.2.2.2 fdX0 cdX0 rto1 cok_X0_platesInAll (Nat.le_of_ble_eq_true rfl) ?_ ?_ l D σ cA sz
  · refine List.forall_mem_cons.mpr ⟨?_, cut0⟩
    rintro n lv st w ⟨j, hj, rfl, rfl, rfl, rfl⟩
    conv => whnf
    refine ⟨fun hc => ?_, fun hc => ?_⟩
    · conv => whnf
      obtain rfl := lp_ge hj (by decide) hc
      exact h
    · have hlt := lp_lt hj (by decide) hc
      repeat' ((conv => whnf); (first | refine And.intro (by first | decide | exact vp_in_nI hlt (by decide)) ?_ | with_reducible refine And.intro (fun hc => ?_) (fun hc => ?_) | with_reducible refine And.intro (fun hc => ?_) ?_ | fail))
      all_goals try (conv => whnf)
      exact ⟨10 - (j + 1), by omega, j + 1, hlt, rfl, by rw [← nI_1, nI_clamp (n := j) (by omega)]; rfl, rfl, rfl⟩
  · skip
    repeat' ((conv => whnf); (first | refine And.intro (by first | decide | with_reducible assumption) ?_ | with_reducible refine And.intro (fun hc => ?_) (fun hc => ?_) | with_reducible refine And.intro (fun hc => ?_) ?_ | fail))
    all_goals try (conv => whnf)
    exact ⟨10, 0, Nat.zero_le _, rfl, rfl, rfl, rfl⟩
def F_X0_emptyPlates : Fn := fun as w K => ∃ (s : InnS), as = [sR 0] ∧ w = innW s ∧ K (some (.inl (beF (iP s) 10))) w
def ctb_X0_emptyPlates : List (Nat × (List sv → List sc → (List sv → List sc → Prop) → Prop)) := []
theorem cok_X0_emptyPlates : CallOK cX0_emptyPlates 3 (some .int) RX0 1 ctb_X0_emptyPlates := CallOK_nil
theorem ct_X0_emptyPlates : Ct yX0_emptyPlates cX0_emptyPlates 3 (some .int) 1 F_X0_emptyPlates := by
  intro l D σ cA sz as w K h
  obtain ⟨s, rfl, rfl, h⟩ := h
  refine metL (pr := lkB pX0_emptyPlates) (rk := 1) (ct := ctb_X0_emptyPlates) (fld := lkB flX0) (cst := lkB csX0) (cstL := lkB clX0) [(4, ([true, true, true], fun n lv st w => ∃ j, j ≤ 10 ∧ n = 10 - j ∧ lv = [some (sR 0), some (sI (beF (iP s) j)), some (sI (nI j))] ∧ st = [] ∧ w = innW s))] pX0_emptyPlates_ok kX0_emptyPlates.2.2.2.2.2.2.2 fdX0 cdX0 rto1 cok_X0_emptyPlates (Nat.le_of_ble_eq_true rfl) ?_ ?_ l D σ cA sz
  · refine List.forall_mem_cons.mpr ⟨?_, cut0⟩
    rintro n lv st w ⟨j, hj, rfl, rfl, rfl, rfl⟩
    conv => whnf
    refine ⟨fun hc => ?_, fun hc => ?_⟩
    · conv => whnf
      obtain rfl := lp_ge hj (by decide) hc
      exact h
    · have hlt := lp_lt hj (by decide) hc
      repeat' ((conv => whnf); (first | refine And.intro (by first | decide | exact vp_in_nI hlt (by decide)) ?_ | with_reducible refine And.intro (fun hc => ?_) (fun hc => ?_) | with_reducible refine And.intro (fun hc => ?_) ?_ | fail))
      all_goals try (conv => whnf)
      · rw [nI_clamp (n := j) (by omega)] at hc
        exact ⟨10 - (j + 1), by omega, j + 1, hlt, rfl, by rw [← nI_1, beF, if_neg hc]; rfl, rfl, rfl⟩
      · rw [nI_clamp (n := j) (by omega)] at hc
        exact ⟨10 - (j + 1), by omega, j + 1, hlt, rfl, by rw [← nI_1, beF, if_pos hc]; rfl, rfl, rfl⟩
  · skip
    repeat' ((conv => whnf); (first | refine And.intro (by first | decide | with_reducible assumption) ?_ | with_reducible refine And.intro (fun hc => ?_) (fun hc => ?_) | with_reducible refine And.intro (fun hc => ?_) ?_ | fail))
    all_goals try (conv => whnf)
    exact ⟨10, 0, Nat.zero_le _, rfl, rfl, rfl, rfl⟩
def F_X0_fullest : Fn := fun as w K => ∃ (s : InnS), as = [sR 0] ∧ w = innW s ∧ K (some (.inl (flF (iP s) 9))) w
theorem fl_in (p : PA) : ∀ k, k < 10 → rng 10 (flF p k)
  | 0, _ => ⟨0, by decide, nI_0.symm⟩
  | k + 1, h => by
    unfold flF
    split
    · exact ⟨k + 1, h, rfl⟩
    · exact fl_in p k (by omega)
def ctb_X0_fullest : List (Nat × (List sv → List sc → (List sv → List sc → Prop) → Prop)) := []
theorem cok_X0_fullest : CallOK cX0_fullest 3 (some .int) RX0 1 ctb_X0_fullest := CallOK_nil
theorem ct_X0_fullest : Ct yX0_fullest cX0_fullest 3 (some .int) 1 F_X0_fullest := by
  intro l D σ cA sz as w K h
  obtain ⟨s, rfl, rfl, h⟩ := h
  refine metL (pr := lkB pX0_fullest) (rk := 1) (ct := ctb_X0_fullest) (fld := lkB flX0) (cst := lkB csX0) (cstL := lkB clX0) [(4, ([true, true, true], fun n lv st w => ∃ j, j ≤ 9 ∧ n = 9 - j ∧ lv = [some (sR 0), some (sI (flF (iP s) j)), some (sI (nI (j + 1)))] ∧ st = [] ∧ w = innW s))] pX0_fullest_ok kX0_fullest.2.2.2.2.2.2.2 fdX0 cdX0 rto1 cok_X0_fullest (Nat.le_of_ble_eq_true rfl) ?_ ?_ l D σ cA sz
  · refine List.forall_mem_cons.mpr ⟨?_, cut0⟩
    rintro n lv st w ⟨j, hj, rfl, rfl, rfl, rfl⟩
    have hfl := rng_in (fl_in (iP s) j (by omega)) (by decide)
    conv => whnf
    refine ⟨fun hc => ?_, fun hc => ?_⟩
    · conv => whnf
      have := lp_ge (j := j + 1) (M := 10) (by omega) (by decide) hc
      obtain rfl : j = 9 := by omega
      exact h
    · have hlt := lp_lt (j := j + 1) (M := 10) (by omega) (by decide) hc
      have hv1 : vp_in (nI (j + 1)) 10 := vp_in_nI hlt (by decide)
      repeat' ((conv => whnf); (first | refine And.intro (by first | decide | with_reducible assumption) ?_ | with_reducible refine And.intro (fun hc => ?_) (fun hc => ?_) | with_reducible refine And.intro (fun hc => ?_) ?_ | fail))
      all_goals try (conv => whnf)
      · rw [nI_clamp (n := j + 1) (by omega)] at hc
        exact ⟨9 - (j + 1), by omega, j + 1, by omega, rfl, by rw [← nI_1 (j + 1), flF, if_neg (Int32.not_lt.mpr hc)]; rfl, rfl, rfl⟩
      · rw [nI_clamp (n := j + 1) (by omega)] at hc
        exact ⟨9 - (j + 1), by omega, j + 1, by omega, rfl, by rw [← nI_1 (j + 1), flF, if_pos (Int32.not_le.mp hc)]; rfl, rfl, rfl⟩
  · skip
    repeat' ((conv => whnf); (first | refine And.intro (by first | decide | with_reducible assumption) ?_ | with_reducible refine And.intro (fun hc => ?_) (fun hc => ?_) | with_reducible refine And.intro (fun hc => ?_) ?_ | fail))
    all_goals try (conv => whnf)
    exact ⟨9, 0, Nat.zero_le _, rfl, rfl, rfl, rfl⟩
def F_X0_healthOf : Fn := fun as w K => ∃ (s : InnS) (who : Int32) (G : Nat), as = [sR 0, sI who] ∧ w = innW s ∧ iG s = nI G ∧ G < 8 ∧ K (some (.inl (hsF (iH s) who G))) w
def ctb_X0_healthOf : List (Nat × (List sv → List sc → (List sv → List sc → Prop) → Prop)) := []
theorem cok_X0_healthOf : CallOK cX0_healthOf 4 (some .int) RX0 1 ctb_X0_healthOf := CallOK_nil
theorem ct_X0_healthOf : Ct yX0_healthOf cX0_healthOf 4 (some .int) 1 F_X0_healthOf := by
  intro l D σ cA sz as w K h
  obtain ⟨s, who, G, rfl, rfl, hG, hG7, h⟩ := h
  refine metL (pr := lkB pX0_healthOf) (rk := 1) (ct := ctb_X0_healthOf) (fld := lkB flX0) (cst := lkB csX0) (cstL := lkB clX0) [(4, ([true, true, true, true], fun n lv st w => ∃ j, j ≤ G ∧ n = G - j ∧ lv = [some (sR 0), some (sI who), some (sI (hsF (iH s) who j)), some (sI (nI j))] ∧ st = [] ∧ w = innW s))] pX0_healthOf_ok kX0_healthOf.2.2.2.2.2.2.2 fdX0 cdX0 rto1 cok_X0_healthOf (Nat.le_of_ble_eq_true rfl) ?_ ?_ l D σ cA sz
  · refine List.forall_mem_cons.mpr ⟨?_, cut0⟩
    rintro n lv st w ⟨j, hj, rfl, rfl, rfl, rfl⟩
    conv => whnf
    refine ⟨fun hc => ?_, fun hc => ?_⟩
    · conv => whnf
      rw [hG] at hc
      obtain rfl := lp_ge hj (by omega) hc
      exact h
    · rw [hG] at hc
      have hlt := lp_lt hj (by omega) hc
      repeat' ((conv => whnf); (first | refine And.intro (by first | decide | exact vp_in_nI (by omega) (by decide)) ?_ | with_reducible refine And.intro (fun hc => ?_) (fun hc => ?_) | with_reducible refine And.intro (fun hc => ?_) ?_ | fail))
      all_goals try (conv => whnf)
      · exact ⟨G - (j + 1), by omega, j + 1, hlt, rfl, by rw [← nI_1, hsF, if_neg (fun q => q hc)]; rfl, rfl, rfl⟩
      · exact ⟨G - (j + 1), by omega, j + 1, hlt, rfl, by rw [← nI_1, hsF, if_pos (show tb who (nI j) from hc), nI_clamp (n := j) (by omega)]; rfl, rfl, rfl⟩
  · skip
    repeat' ((conv => whnf); (first | refine And.intro (by first | decide | with_reducible assumption) ?_ | with_reducible refine And.intro (fun hc => ?_) (fun hc => ?_) | with_reducible refine And.intro (fun hc => ?_) ?_ | fail))
    all_goals try (conv => whnf)
    exact ⟨G, 0, Nat.zero_le _, rfl, rfl, rfl, rfl⟩
def F_X0_wellest : Fn := fun as w K => ∃ (s : InnS) (G : Nat), as = [sR 0] ∧ w = innW s ∧ iG s = nI G ∧ G < 8 ∧ K (some (.inl (wlF (iT s) (iH s) G).1)) w
def ctb_X0_wellest : List (Nat × (List sv → List sc → (List sv → List sc → Prop) → Prop)) := [(17, cS (some 0) 2 F_X0_isThere)]
theorem cok_X0_wellest : CallOK cX0_wellest 4 (some .int) RX0 2 ctb_X0_wellest := CallOK_cons (site_same (rnV (pX0_wellest_ok 17 _ rfl) ct_X0_isThere kX0_isThere lRX0_76 (by decide))) (CallOK_nil)
theorem ct_X0_wellest : Ct yX0_wellest cX0_wellest 4 (some .int) 2 F_X0_wellest := by
  intro l D σ cA sz as w K h
  obtain ⟨s, G, rfl, rfl, hG, hG7, h⟩ := h
  refine metL (pr := lkB pX0_wellest) (rk := 1) (ct := ctb_X0_wellest) (fld := lkB flX0) (cst := lkB csX0) (cstL := lkB clX0) [(7, ([true, true, true, true], fun n lv st w => ∃ j, j ≤ G ∧ n = G - j ∧ lv = [some (sR 0), some (sI (wlF (iT s) (iH s) j).1), some (sI (wlF (iT s) (iH s) j).2), some (sI (nI j))] ∧ st = [] ∧ w = innW s))] pX0_wellest_ok kX0_wellest.2.2.2.2.2.2.2 fdX0 cdX0 rto1 cok_X0_wellest (Nat.le_of_ble_eq_true rfl) ?_ ?_ l D σ cA sz
  · refine List.forall_mem_cons.mpr ⟨?_, cut0⟩
    rintro n lv st w ⟨j, hj, rfl, rfl, rfl, rfl⟩
    conv => whnf
    refine ⟨fun hc => ?_, fun hc => ?_⟩
    · conv => whnf
      rw [hG] at hc
      obtain rfl := lp_ge hj (by omega) hc
      exact h
    · rw [hG] at hc
      have hlt := lp_lt hj (by omega) hc
      conv => whnf
      refine ⟨s, nI j, rfl, rfl, ?_⟩
      repeat' ((conv => whnf); (first | refine And.intro (by first | decide | exact vp_in_nI (by omega) (by decide)) ?_ | with_reducible refine And.intro (fun hc => ?_) (fun hc => ?_) | with_reducible refine And.intro (fun hc => ?_) ?_ | fail))
      all_goals try (conv => whnf)
      · exact ⟨G - (j + 1), by omega, j + 1, hlt, rfl, by rw [← nI_1, wlF, if_neg (fun q => bp_0.mp hc q.1)]; rfl, rfl, rfl⟩
      · rw [nI_clamp (n := j) (by omega)] at hc
        exact ⟨G - (j + 1), by omega, j + 1, hlt, rfl, by rw [← nI_1, wlF, if_neg (fun q => absurd q.2 (Int32.not_lt.mpr hc))]; rfl, rfl, rfl⟩
      · rename_i hb
        rw [nI_clamp (n := j) (by omega)] at hc
        exact ⟨G - (j + 1), by omega, j + 1, hlt, rfl, by rw [← nI_1, wlF, if_pos ⟨Classical.not_not.mp (fun q => hb (bp_0.mpr q)), Int32.not_le.mp hc⟩, nI_clamp (n := j) (by omega)]; rfl, rfl, rfl⟩
  · skip
    repeat' ((conv => whnf); (first | refine And.intro (by first | decide | with_reducible assumption) ?_ | with_reducible refine And.intro (fun hc => ?_) (fun hc => ?_) | with_reducible refine And.intro (fun hc => ?_) ?_ | fail))
    all_goals try (conv => whnf)
    exact ⟨G, 0, Nat.zero_le _, rfl, rfl, rfl, rfl⟩
end
section
/-! ===== the rest of an inn ===== -/
def F_X0_platesOf3 : Fn := fun as w K => ∃ (s : InnS) (G : Nat), as = [sR 0, sR 3] ∧ w = innW s ∧ iG s = nI G ∧ G < 8 ∧ K (some (.inl (boF (iT s) (iW s) G))) w
def F_X0_platesOf4 : Fn := fun as w K => ∃ (s : InnS) (G : Nat), as = [sR 0, sR 4] ∧ w = innW s ∧ iG s = nI G ∧ G < 8 ∧ K (some (.inl (boF (iT s) (iL s) G))) w
def ctb_X0_platesOf : List (Nat × (List sv → List sc → (List sv → List sc → Prop) → Prop)) := [(21, cS (some 0) 2 F_X0_isThere)]
theorem cok_X0_platesOf : CallOK cX0_platesOf 4 (some .int) RX0 2 ctb_X0_platesOf := CallOK_cons (site_same (rnV (pX0_platesOf_ok 21 _ rfl) ct_X0_isThere kX0_isThere lRX0_76 (by decide))) (CallOK_nil)
theorem ct_X0_platesOf3 : Ct yX0_platesOf cX0_platesOf 4 (some .int) 2 F_X0_platesOf3 := by
  intro l D σ cA sz as w K h
  obtain ⟨s, G, rfl, rfl, hG, hG7, h⟩ := h
  refine metL (pr := lkB pX0_platesOf) (rk := 1) (ct := ctb_X0_platesOf) (fld := lkB flX0) (cst := lkB csX0) (cstL := lkB clX0) [(4, ([true, true, true, true], fun n lv st w => ∃ j, j ≤ G ∧ n = G - j ∧ lv = [some (sR 0), some (sR 3), some (sI (boF (iT s) (iW s) j)), some (sI (nI j))] ∧ st = [] ∧ w = innW s))] pX0_platesOf_ok kX0_platesOf.2.2.2.2.2.2.2 fdX0 cdX0 rto1 cok_X0_platesOf (Nat.le_of_ble_eq_true rfl) ?_ ?_ l D σ cA sz
  · refine List.forall_mem_cons.mpr ⟨?_, cut0⟩
    rintro n lv st w ⟨j, hj, rfl, rfl, rfl, rfl⟩
    conv => whnf
    refine ⟨fun hc => ?_, fun hc => ?_⟩
    · conv => whnf
      rw [hG] at hc
      obtain rfl := lp_ge hj (by omega) hc
      exact h
    · rw [hG] at hc
      have hlt := lp_lt hj (by omega) hc
      have hv : vp_in (nI j) 7 := vp_in_nI (by omega) (by decide)
      conv => whnf
      refine ⟨fun hc => ?_, fun hc => ?_⟩
      · exact absurd (show nI 7 ≤ nI j from hc) (nI_ge (by omega) (by omega))
      conv => whnf
      refine ⟨s, nI j, rfl, rfl, ?_⟩
      repeat' ((conv => whnf); (first | refine And.intro (by first | decide | with_reducible assumption) ?_ | with_reducible refine And.intro (fun hc => ?_) (fun hc => ?_) | with_reducible refine And.intro (fun hc => ?_) ?_ | fail))
      all_goals try (conv => whnf)
      · exact ⟨G - (j + 1), by omega, j + 1, hlt, rfl, by rw [← nI_1, boF, if_neg (bp_0.mp hc)]; rfl, rfl, rfl⟩
      · exact ⟨G - (j + 1), by omega, j + 1, hlt, rfl, by rw [← nI_1, boF, if_pos (Classical.not_not.mp (fun q => hc (bp_0.mpr q))), nI_clamp (n := j) (by omega)]; rfl, rfl, rfl⟩
  · skip
    repeat' ((conv => whnf); (first | refine And.intro (by first | decide | with_reducible assumption) ?_ | with_reducible refine And.intro (fun hc => ?_) (fun hc => ?_) | with_reducible refine And.intro (fun hc => ?_) ?_ | fail))
    all_goals try (conv => whnf)
    exact ⟨G, 0, Nat.zero_le _, rfl, rfl, rfl, rfl⟩
theorem ct_X0_platesOf4 : Ct yX0_platesOf cX0_platesOf 4 (some .int) 2 F_X0_platesOf4 := by
  intro l D σ cA sz as w K h
  obtain ⟨s, G, rfl, rfl, hG, hG7, h⟩ := h
  refine metL (pr := lkB pX0_platesOf) (rk := 1) (ct := ctb_X0_platesOf) (fld := lkB flX0) (cst := lkB csX0) (cstL := lkB clX0) [(4, ([true, true, true, true], fun n lv st w => ∃ j, j ≤ G ∧ n = G - j ∧ lv = [some (sR 0), some (sR 4), some (sI (boF (iT s) (iL s) j)), some (sI (nI j))] ∧ st = [] ∧ w = innW s))] pX0_platesOf_ok kX0_platesOf.2.2.2.2.2.2.2 fdX0 cdX0 rto1 cok_X0_platesOf (Nat.le_of_ble_eq_true rfl) ?_ ?_ l D σ cA sz
  · refine List.forall_mem_cons.mpr ⟨?_, cut0⟩
    rintro n lv st w ⟨j, hj, rfl, rfl, rfl, rfl⟩
    conv => whnf
    refine ⟨fun hc => ?_, fun hc => ?_⟩
    · conv => whnf
      rw [hG] at hc
      obtain rfl := lp_ge hj (by omega) hc
      exact h
    · rw [hG] at hc
      have hlt := lp_lt hj (by omega) hc
      have hv : vp_in (nI j) 7 := vp_in_nI (by omega) (by decide)
      conv => whnf
      refine ⟨fun hc => ?_, fun hc => ?_⟩
      · exact absurd (show nI 7 ≤ nI j from hc) (nI_ge (by omega) (by omega))
      conv => whnf
      refine ⟨s, nI j, rfl, rfl, ?_⟩
      repeat' ((conv => whnf); (first | refine And.intro (by first | decide | with_reducible assumption) ?_ | with_reducible refine And.intro (fun hc => ?_) (fun hc => ?_) | with_reducible refine And.intro (fun hc => ?_) ?_ | fail))
      all_goals try (conv => whnf)
      · exact ⟨G - (j + 1), by omega, j + 1, hlt, rfl, by rw [← nI_1, boF, if_neg (bp_0.mp hc)]; rfl, rfl, rfl⟩
      · exact ⟨G - (j + 1), by omega, j + 1, hlt, rfl, by rw [← nI_1, boF, if_pos (Classical.not_not.mp (fun q => hc (bp_0.mpr q))), nI_clamp (n := j) (by omega)]; rfl, rfl, rfl⟩
  · skip
    repeat' ((conv => whnf); (first | refine And.intro (by first | decide | with_reducible assumption) ?_ | with_reducible refine And.intro (fun hc => ?_) (fun hc => ?_) | with_reducible refine And.intro (fun hc => ?_) ?_ | fail))
    all_goals try (conv => whnf)
    exact ⟨G, 0, Nat.zero_le _, rfl, rfl, rfl, rfl⟩
def twR (b : Int32) (d : Nat → Int32) (g : Nat) : Nat → Int32
  | 0 => b
  | o + 1 => twR b d g o + (if ¬ d g = -4 ∧ d g = d o then 1 else 0)
def twF (d : Nat → Int32) : Nat → Int32
  | 0 => 0
  | g + 1 => twR (twF d g) d g g
def F_X0_twosOfOneDream : Fn := fun as w K => ∃ (s : InnS) (G : Nat), as = [sR 0] ∧ w = innW s ∧ iG s = nI G ∧ G < 8 ∧ GS s ∧ K (some (.inl (twF (fun g => ndS s (nI g)) G))) w
def ctb_X0_twosOfOneDream : List (Nat × (List sv → List sc → (List sv → List sc → Prop) → Prop)) := [(21, cS (some 0) 2 F_X0_nextDream), (38, cS (some 0) 2 F_X0_nextDream)]
theorem cok_X0_twosOfOneDream : CallOK cX0_twosOfOneDream 5 (some .int) RX0 5 ctb_X0_twosOfOneDream := CallOK_cons (site_same (rnV (pX0_twosOfOneDream_ok 21 _ rfl) ct_X0_nextDream kX0_nextDream lRX0_105 (by decide))) (CallOK_cons (site_same (rnV (pX0_twosOfOneDream_ok 38 _ rfl) ct_X0_nextDream kX0_nextDream lRX0_105 (by decide))) (CallOK_nil))
theorem ct_X0_twosOfOneDream : Ct yX0_twosOfOneDream cX0_twosOfOneDream 5 (some .int) 5 F_X0_twosOfOneDream := by
  intro l D σ cA sz as w K h
  obtain ⟨s, G, rfl, rfl, hG, hG7, hGS, h⟩ := h
  have hf2 : ∀ j, j < 7 → 0 < iF s (ix (nI j)) + 2 := fun j hj => by
    rw [show ix (nI j) = j from nI_clamp (by omega)]
    exact rng_f2 (hGS.1 j hj).1
  refine metL (pr := lkB pX0_twosOfOneDream) (rk := 1) (ct := ctb_X0_twosOfOneDream) (fld := lkB flX0) (cst := lkB csX0) (cstL := lkB clX0) [(4, ([true, true, true, false, false], fun n lv st w => ∃ g, g ≤ G ∧ n = (G - g) * 10 + 9 ∧ lv = [some (sR 0), some (sI (twF (fun g => ndS s (nI g)) g)), some (sI (nI g)), none, none] ∧ st = [] ∧ w = innW s)), (14, ([true, true, true, true, false], fun n lv st w => ∃ g o, g < G ∧ o ≤ g ∧ n = (G - g) * 10 + (g - o) ∧ lv = [some (sR 0), some (sI (twR (twF (fun g => ndS s (nI g)) g) (fun g => ndS s (nI g)) g o)), some (sI (nI g)), some (sI (nI o)), none] ∧ st = [] ∧ w = innW s))] pX0_twosOfOneDream_ok kX0_twosOfOneDream.2.2.2.2.2.2.2 fdX0 cdX0 rto1 cok_X0_twosOfOneDream (Nat.le_of_ble_eq_true rfl) ?_ ?_ l D σ cA sz
  · refine List.forall_mem_cons.mpr ⟨?_, List.forall_mem_cons.mpr ⟨?_, cut0⟩⟩
    · rintro n lv st w ⟨g, hg, rfl, rfl, rfl, rfl⟩
      conv => whnf
      refine ⟨fun hc => ?_, fun hc => ?_⟩
      · conv => whnf
        rw [hG] at hc
        obtain rfl := lp_ge hg (by omega) hc
        exact h
      · rw [hG] at hc
        have hlt := lp_lt hg (by omega) hc
        repeat' ((conv => whnf); (first | refine And.intro (by first | decide | with_reducible assumption) ?_ | with_reducible refine And.intro (fun hc => ?_) (fun hc => ?_) | with_reducible refine And.intro (fun hc => ?_) ?_ | fail))
        all_goals try (conv => whnf)
        exact ⟨(G - g) * 10 + (g - 0), by omega, g, 0, hlt, Nat.zero_le _, rfl, rfl, rfl, rfl⟩
    · rintro n lv st w ⟨g, o, hg, ho, rfl, rfl, rfl, rfl⟩
      conv => whnf
      refine ⟨fun hc => ?_, fun hc => ?_⟩
      · conv => whnf
        obtain rfl := lp_ge ho (by omega) hc
        exact ⟨(G - (o + 1)) * 10 + 9, by omega, o + 1, by omega, rfl, by rw [← nI_1]; rfl, rfl, rfl⟩
      · have hlt := lp_lt ho (by omega) hc
        conv => whnf
        refine ⟨s, nI g, rfl, rfl, vp_in_nI (by omega) (by decide), hf2 g (by omega), ?_⟩
        conv => whnf
        refine ⟨fun h4 => ?_, fun h4 => ?_⟩
        · conv => whnf
          exact ⟨(G - g) * 10 + (g - (o + 1)), by omega, g, o + 1, hg, hlt, rfl, by rw [← nI_1, twR, if_neg (fun q => q.1 h4)]; rfl, rfl, rfl⟩
        · conv => whnf
          refine ⟨s, nI o, rfl, rfl, vp_in_nI (by omega) (by decide), hf2 o (by omega), ?_⟩
          conv => whnf
          refine ⟨fun h5 => ?_, fun h5 => ?_⟩
          · conv => whnf
            exact ⟨(G - g) * 10 + (g - (o + 1)), by omega, g, o + 1, hg, hlt, rfl, by rw [← nI_1, twR, if_neg (fun q => h5 q.2)]; rfl, rfl, rfl⟩
          · conv => whnf
            exact ⟨(G - g) * 10 + (g - (o + 1)), by omega, g, o + 1, hg, hlt, rfl, by rw [← nI_1, twR, if_pos ⟨h4, h5⟩]; rfl, rfl, rfl⟩
  · skip
    repeat' ((conv => whnf); (first | refine And.intro (by first | decide | with_reducible assumption) ?_ | with_reducible refine And.intro (fun hc => ?_) (fun hc => ?_) | with_reducible refine And.intro (fun hc => ?_) ?_ | fail))
    all_goals try (conv => whnf)
    exact ⟨(G - 0) * 10 + 9, 0, Nat.zero_le _, rfl, rfl, rfl, rfl⟩
/-! nothing beyond the rows, through the nights -/
theorem ZB_ch {s : InnS} {g d : Int32} (h : ZB s) (hg : ix g < 7) : ZB (chS s g d) := by
  refine ⟨fun j hj => ⟨(h.1 j hj).1, (h.1 j hj).2.1, (h.1 j hj).2.2.1, (h.1 j hj).2.2.2.1, ?_⟩, h.2⟩
  show upd (iH s) (ix g) _ j = 0
  rw [pk_un (by omega)]; exact (h.1 j hj).2.2.2.2
theorem ZB_la {s : InnS} {g : Int32} (h : ZB s) : ZB (laS s g) := h
theorem ZB_sv {s : InnS} {g k : Int32} (h : ZB s) (hg : ix g < 7) : ZB (svS s g k) := by
  refine ⟨fun j hj => ⟨(h.1 j hj).1, (h.1 j hj).2.1, (h.1 j hj).2.2.1, ?_, (h.1 j hj).2.2.2.2⟩, h.2⟩
  show upd (iL s) (ix g) _ j = 0
  rw [pk_un (by omega)]; exact (h.1 j hj).2.2.2.1
theorem ZB_tk {s : InnS} {k e : Int32} (h : ZB s) (hk : ix k < 10) : ZB (tkS s k e) := by
  refine ⟨h.1, fun q hq => ?_⟩
  show upd (iP s) (ix k) _ q = 0
  rw [pk_un (by omega)]; exact h.2 q hq
theorem ZB_bf {s : InnS} {g k : Int32} (h : ZB s) (hg : ix g < 7) (hk : k = -4 ∨ rng 10 k) : ZB (bfS s g k) := by
  unfold bfS
  by_cases h4 : k = -4
  · rw [if_pos h4]; exact ZB_ch h hg
  · rw [if_neg h4]
    have hk10 : ix k < 10 := by
      obtain ⟨j, hj, rfl⟩ := hk.resolve_left h4
      rw [show ix (nI j) = j from nI_clamp (by omega)]; exact hj
    by_cases he : eatsK (iK s (ix g)) ≤ iP s (ix k)
    · rw [if_pos he]
      exact ZB_sv (ZB_ch (ZB_tk h hk10) hg) hg
    · rw [if_neg he]
      exact ZB_la (ZB_ch h hg)
theorem ZB_gf {s : InnS} {mare sil : Int32} {N : Nat} (hz : ZB s) (h : GS s) (hN : iN s = nI N) (hN2 : N < 100000) : ∀ j, j ≤ 7 → ZB (gfS mare sil j s)
  | 0, _ => hz
  | j + 1, hj => by
    have h1 := GS_gf (mare := mare) (sil := sil) h hN hN2 j (by omega)
    have z1 := ZB_gf (mare := mare) (sil := sil) hz h hN hN2 j (by omega)
    show ZB (gsS _ _ _ _)
    unfold gsS
    split
    · exact ZB_bf z1 (by rw [show ix (nI j) = j from nI_clamp (by omega)]; omega) (pick_ok h1 (by omega) ((gf_keep j).1.trans hN) hN2)
    · exact z1
theorem ZB_night {s : InnS} {mare sil : Int32} {N : Nat} (hz : ZB s) (h : GS s) (hN : iN s = nI N) (hN2 : N < 90000) : ZB (nightS mare sil s) := by
  have hN1 : iN s + 1 = nI (N + 1) := by rw [hN, nI_1]
  have hb : ZB (nbS s) := by
    refine ⟨hz.1, fun q hq => ?_⟩
    show upd (iP s) (ix (jrem (iN s + 1) 10)) _ q = 0
    have e : jrem (iN s + 1) 10 = nI ((N + 1) % 10) := by rw [hN1]; exact jrem_nI (d := 10) (by omega) (by decide) (by decide)
    have e2 : ix (nI ((N + 1) % 10)) = (N + 1) % 10 := nI_clamp (by omega)
    rw [pk_un (by rw [e, e2]; omega)]
    exact hz.2 q hq
  obtain ⟨G, hG7, hG⟩ := h.2.1
  unfold nightS
  rw [hG, show ix (nI G) = G from nI_clamp (by omega)]
  exact ZB_gf hb (GS_nb h) hN1 (by omega) G (by omega)
theorem ZB_nights {s : InnS} {N : Nat} (hz : ZB s) (h : GS s) (hN : iN s = nI N) : ∀ n, N + n < 90001 → ZB (nightsS n s)
  | 0, _ => hz
  | n + 1, hn => by
    obtain ⟨h1, h2⟩ := nights_keep h hN n (by omega)
    exact ZB_night (ZB_nights hz h hN n (by omega)) h1 h2 (by omega)
def F_X0_passUnlacking : Fn := fun as w K => ∃ (s : InnS) (n N : Nat), as = [sR 0, sI (nI n)] ∧ w = innW s ∧ ZB s ∧ GS s ∧ iN s = nI N ∧ N + n < 90000 ∧ ∀ s', ZB s' → K (some (.inl (bp (∀ j, j < n → iLn (nightsS (j + 1) s) = 0)))) (innW s')
def ctb_X0_passUnlacking : List (Nat × (List sv → List sc → (List sv → List sc → Prop) → Prop)) := [(10, cS (some 0) 3 F_X0_passNight)]
theorem cok_X0_passUnlacking : CallOK cX0_passUnlacking 3 (some .boolean) RX0 5 ctb_X0_passUnlacking := CallOK_cons (site_same (rnV (pX0_passUnlacking_ok 10 _ rfl) ct_X0_passNight kX0_passNight lRX0_68 (by decide))) (CallOK_nil)
theorem ct_X0_passUnlacking : Ct yX0_passUnlacking cX0_passUnlacking 3 (some .boolean) 5 F_X0_passUnlacking := by
  intro l D σ cA sz as w K h
  obtain ⟨s, m, N, rfl, rfl, hZ, hGS, hN, hN2, h⟩ := h
  refine metL (pr := lkB pX0_passUnlacking) (rk := 2) (ct := ctb_X0_passUnlacking) (fld := lkB flX0) (cst := lkB csX0) (cstL := lkB clX0) [(2, ([true, true, true], fun n lv st w => ∃ j, j ≤ m ∧ n = m - j ∧ (∀ i, i < j → iLn (nightsS (i + 1) s) = 0) ∧ lv = [some (sR 0), some (sI (nI m)), some (sI (nI j))] ∧ st = [] ∧ w = innW (nightsS j s)))] pX0_passUnlacking_ok kX0_passUnlacking.2.2.2.2.2.2.2 fdX0 cdX0 rto2 cok_X0_passUnlacking (Nat.le_of_ble_eq_true rfl) ?_ ?_ l D σ cA sz
  · refine List.forall_mem_cons.mpr ⟨?_, cut0⟩
    rintro n lv st w ⟨j, hj, rfl, hall, rfl, rfl, rfl⟩
    obtain ⟨g1, g2⟩ := nights_keep hGS hN j (by omega)
    have hz := ZB_nights hZ hGS hN j (by omega)
    have hz1 := fun q => ZB_nights hZ hGS hN (j + 1) q
    have hsuc : nightsS (j + 1) s = nightS 0 0 (nightsS j s) := rfl
    conv => whnf
    refine ⟨fun hc => ?_, fun hc => ?_⟩
    · conv => whnf
      obtain rfl := lp_ge hj (by omega) hc
      exact kB (h _ hz) hall
    · have hjm := lp_lt hj (by omega) hc
      conv => whnf
      refine ⟨nightsS j s, 0, 0, N + j, rfl, rfl, g1, g2, by omega, ?_⟩
      rw [← hsuc]
      conv => whnf
      refine ⟨fun h0 => ?_, fun h0 => ?_⟩
      · conv => whnf
        exact ⟨m - (j + 1), by omega, j + 1, hjm, rfl, lt_s hall h0, by rw [← nI_1]; rfl, rfl, rfl⟩
      · conv => whnf
        exact kB0 (h _ (hz1 (by omega))) (fun q => h0 (q j hjm))
  · skip
    repeat' ((conv => whnf); (first | refine And.intro (by first | decide | with_reducible assumption) ?_ | with_reducible refine And.intro (fun hc => ?_) (fun hc => ?_) | with_reducible refine And.intro (fun hc => ?_) ?_ | fail))
    all_goals try (conv => whnf)
    exact ⟨m, 0, Nat.zero_le _, rfl, lt_0, rfl, rfl, rfl⟩
def adS (s : InnS) (k f w : Int32) : InnS := (upd (iK s) (ix (iG s)) k, upd (iF s) (ix (iG s)) f, upd (iW s) (ix (iG s)) w, upd (iL s) (ix (iG s)) 0, upd (iH s) (ix (iG s)) 50, iP s, iG s + 1, iT s ||| jshl 1 (iG s), iN s, iS s, iA s, iSn s, iLn s)
def F_X0_admit : Fn := fun as w K => ∃ (s : InnS) (k f wi : Int32), as = [sR 0, sI k, sI f, sI wi] ∧ w = innW s ∧ rng 8 (iG s) ∧ (7 ≤ iG s → K (some (.inl (-2))) w) ∧ (iG s < 7 → K (some (.inl (iG s))) (innW (adS s k f wi)))
def ctb_X0_admit : List (Nat × (List sv → List sc → (List sv → List sc → Prop) → Prop)) := []
theorem cok_X0_admit : CallOK cX0_admit 5 (some .int) RX0 1 ctb_X0_admit := CallOK_nil
theorem ct_X0_admit : Ct yX0_admit cX0_admit 5 (some .int) 1 F_X0_admit := by
  intro l D σ cA sz as w K h
  obtain ⟨s, k, f, wi, rfl, rfl, hG, h1, h2⟩ := h
  refine metL (pr := lkB pX0_admit) (rk := 1) (ct := ctb_X0_admit) (fld := lkB flX0) (cst := lkB csX0) (cstL := lkB clX0) [] pX0_admit_ok kX0_admit.2.2.2.2.2.2.2 fdX0 cdX0 rto1 cok_X0_admit (Nat.le_of_ble_eq_true rfl) cut0 ?_ l D σ cA sz
  conv => whnf
  refine ⟨fun hc => ?_, fun hc => ?_⟩
  · have hv : vp_in (iG s) 7 := by
      obtain ⟨G, hG7, hG⟩ := hG
      rw [hG] at hc ⊢
      exact vp_in_nI ((nI_ltI (by omega) (by decide)).mp (show nI G < nI 7 from hc)) (by decide)
    repeat' ((conv => whnf); (first | refine And.intro (by first | decide | with_reducible assumption) ?_ | with_reducible refine And.intro (fun hc => ?_) (fun hc => ?_) | with_reducible refine And.intro (fun hc => ?_) ?_ | fail))
    all_goals try (conv => whnf)
    exact h2 hc
  · conv => whnf
    exact h1 (Int32.not_lt.mp hc)
/-- an inn whose cells begin at 7 -/
def innB7 (s : InnS) : List sc := [oC 0 [sR 8, sR 9, sR 10, sR 11, sR 12, sR 13, sI (iG s), sI (iT s), sI (iN s), sI (iS s), sI (iA s), sI (iSn s), sI (iLn s)], aI 7 (iK s), aI 7 (iF s), aI 7 (iW s), aI 7 (iL s), aI 7 (iH s), aI 10 (iP s)]
def F_X0_become : Fn := fun as w K => ∃ (s o : InnS), as = [sR 0, sR 7] ∧ w = innW s ++ innB7 o ∧ ZB s ∧ ZB o ∧ K none (innW o ++ innB7 o)
theorem cpy_z {f g : PA} {n : Nat} (hf : ∀ j, n ≤ j → f j = 0) (hg : ∀ j, n ≤ j → g j = 0) : va_cpy f g 0 0 n = f := by
  funext j
  by_cases h : j < n
  · rw [pk_cpy_in (Nat.zero_le _) (by omega), Nat.zero_add, Nat.sub_zero]
  · rw [pk_cpy_out (by omega), hf j (by omega), hg j (by omega)]
def ctb_X0_become : List (Nat × (List sv → List sc → (List sv → List sc → Prop) → Prop)) := [(12, cCpy), (27, cCpy), (42, cCpy), (57, cCpy), (72, cCpy), (87, cCpy)]
theorem cok_X0_become : CallOK cX0_become 2 none RX0 1 ctb_X0_become := CallOK_cons (site_cpy (pX0_become_ok 12 _ rfl) lRX0_30 (by decide)) (CallOK_cons (site_cpy (pX0_become_ok 27 _ rfl) lRX0_30 (by decide)) (CallOK_cons (site_cpy (pX0_become_ok 42 _ rfl) lRX0_30 (by decide)) (CallOK_cons (site_cpy (pX0_become_ok 57 _ rfl) lRX0_30 (by decide)) (CallOK_cons (site_cpy (pX0_become_ok 72 _ rfl) lRX0_30 (by decide)) (CallOK_cons (site_cpy (pX0_become_ok 87 _ rfl) lRX0_30 (by decide)) (CallOK_nil))))))
theorem ct_X0_become : Ct yX0_become cX0_become 2 none 1 F_X0_become := by
  intro l D σ cA sz as w K h
  obtain ⟨s, o, rfl, rfl, hZs, hZo, h⟩ := h
  refine metL (pr := lkB pX0_become) (rk := 0) (ct := ctb_X0_become) (fld := lkB flX0) (cst := lkB csX0) (cstL := lkB clX0) [] pX0_become_ok kX0_become.2.2.2.2.2.2.2 fdX0 cdX0 rto0 cok_X0_become (Nat.le_of_ble_eq_true rfl) cut0 ?_ l D σ cA sz
  repeat' ((conv => whnf); (first | refine And.intro (by first | decide | with_reducible assumption) ?_ | with_reducible refine And.intro (fun hc => ?_) (fun hc => ?_) | with_reducible refine And.intro (fun hc => ?_) ?_ | fail))
  all_goals try (conv => whnf)
  refine kW h ?_
  have e1 := cpy_z (fun j hj => (hZo.1 j hj).1) (fun j hj => (hZs.1 j hj).1)
  have e2 := cpy_z (fun j hj => (hZo.1 j hj).2.1) (fun j hj => (hZs.1 j hj).2.1)
  have e3 := cpy_z (fun j hj => (hZo.1 j hj).2.2.1) (fun j hj => (hZs.1 j hj).2.2.1)
  have e4 := cpy_z (fun j hj => (hZo.1 j hj).2.2.2.1) (fun j hj => (hZs.1 j hj).2.2.2.1)
  have e5 := cpy_z (fun j hj => (hZo.1 j hj).2.2.2.2) (fun j hj => (hZs.1 j hj).2.2.2.2)
  have e6 := cpy_z hZo.2 hZs.2
  show innW o ++ innB7 o = [oC 0 [sR 1, sR 2, sR 3, sR 4, sR 5, sR 6, sI (iG o), sI (iT o), sI (iN o), sI (iS o), sI (iA o), sI (iSn o), sI (iLn o)], aI 7 (va_cpy (iK o) (iK s) 0 0 7), aI 7 (va_cpy (iF o) (iF s) 0 0 7), aI 7 (va_cpy (iW o) (iW s) 0 0 7), aI 7 (va_cpy (iL o) (iL s) 0 0 7), aI 7 (va_cpy (iH o) (iH s) 0 0 7), aI 10 (va_cpy (iP o) (iP s) 0 0 10)] ++ innB7 o
  rw [e1, e2, e3, e4, e5, e6]
  rfl
end
section
/-! ===== the reference: its cells, its small methods, its nights ===== -/
abbrev Pm : Type := PA × PA × PA × PA × PA × (Nat → Int64) × PA × Int32
abbrev qH (q : Pm) : PA := q.1
abbrev qK (q : Pm) : PA := q.2.1
abbrev qF (q : Pm) : PA := q.2.2.1
abbrev qS (q : Pm) : PA := q.2.2.2.1
abbrev qM (q : Pm) : PA := q.2.2.2.2.1
abbrev qR (q : Pm) : Nat → Int64 := q.2.2.2.2.2.1
abbrev qI (q : Pm) : PA := q.2.2.2.2.2.2.1
abbrev qB (q : Pm) : Int32 := q.2.2.2.2.2.2.2
abbrev Tm : Type := Int32 × Int32 × Int32 × Int32 × Int32 × Int32 × Int32 × PA × PA × PA × PA × Int32 × Int32 × Option Nat × PA × PA × PA × Int32 × (Nat → Int64)
abbrev tSy (t : Tm) : Int32 := t.1
abbrev tMr (t : Tm) : Int32 := t.2.1
abbrev tTh (t : Tm) : Int32 := t.2.2.1
abbrev tRd (t : Tm) : Int32 := t.2.2.2.1
abbrev tPl (t : Tm) : Int32 := t.2.2.2.2.1
abbrev tBd (t : Tm) : Int32 := t.2.2.2.2.2.1
abbrev tSt (t : Tm) : Int32 := t.2.2.2.2.2.2.1
abbrev tPi (t : Tm) : PA := t.2.2.2.2.2.2.2.1
abbrev tLo (t : Tm) : PA := t.2.2.2.2.2.2.2.2.1
abbrev tTo (t : Tm) : PA := t.2.2.2.2.2.2.2.2.2.1
abbrev tKe (t : Tm) : PA := t.2.2.2.2.2.2.2.2.2.2.1
abbrev tP0 (t : Tm) : Int32 := t.2.2.2.2.2.2.2.2.2.2.2.1
abbrev tTk (t : Tm) : Int32 := t.2.2.2.2.2.2.2.2.2.2.2.2.1
abbrev tKi (t : Tm) : Option Nat := t.2.2.2.2.2.2.2.2.2.2.2.2.2.1
abbrev tDr (t : Tm) : PA := t.2.2.2.2.2.2.2.2.2.2.2.2.2.2.1
abbrev tCe (t : Tm) : PA := t.2.2.2.2.2.2.2.2.2.2.2.2.2.2.2.1
abbrev tGa (t : Tm) : PA := t.2.2.2.2.2.2.2.2.2.2.2.2.2.2.2.2.1
abbrev tSd (t : Tm) : Int32 := t.2.2.2.2.2.2.2.2.2.2.2.2.2.2.2.2.2.1
abbrev tBt (t : Tm) : Nat → Int64 := t.2.2.2.2.2.2.2.2.2.2.2.2.2.2.2.2.2.2
def modX (s : InnS) (hw kk kf rs rm : PA) (rows : Nat → Int64) (im : PA) (hb : Int32) (sy mr th rd pl bd st : Int32) (pi lo to ke : PA) (p0 tk : Int32) (ki : Option Nat) (dr ce ga : PA) (sd : Int32) (bt : Nat → Int64) : List sc := [oC 4 [sR 1, sI (iG s), sR 2, sR 3, sR 4, sR 5, sR 6, sI (iT s), sI (iS s), sI (iA s), sI (iN s), sI sy, sI mr, sR 7, sR 8, sR 9, sR 10, sR 11, sR 12, sI th, sI (iSn s), sI rd, sI pl, sI bd, sI st, sR 13, sR 14, sR 15, sR 16, sR 17, sI hb, sI p0, sI tk, .inr (.inr ki), sR 18, sR 19, sR 20, sI sd, sR 21],
  aI 10 (iP s), aI 7 (iK s), aI 7 (iF s), aI 7 (iW s), aI 7 (iL s), aI 7 (iH s), aI 8 hw, aI 8 kk, aI 8 kf, aI 8 rs, aI 8 rm, aL 800 rows, aI 51 pi, aI 51 lo, aI 153 to, aI 50 ke, aI 50 im, aI 7 dr, aZ 1024 ce, aI 8 ga, aL 100 bt]
abbrev modW (s : InnS) (q : Pm) (t : Tm) : List sc := modX s (qH q) (qK q) (qF q) (qS q) (qM q) (qR q) (qI q) (qB q) (tSy t) (tMr t) (tTh t) (tRd t) (tPl t) (tBd t) (tSt t) (tPi t) (tLo t) (tTo t) (tKe t) (tP0 t) (tTk t) (tKi t) (tDr t) (tCe t) (tGa t) (tSd t) (tBt t)
theorem lg_lt (x y : Int64) : lg_cmp x y < 0 ↔ x < y := by
  unfold lg_cmp
  by_cases h1 : x > y
  · rw [if_pos h1]
    exact ⟨fun h => absurd h (by decide), fun h => absurd h (Int64.not_lt.mpr (Int64.le_of_lt h1))⟩
  · rw [if_neg h1]
    by_cases h2 : x = y
    · rw [if_pos h2]
      exact ⟨fun h => absurd h (by decide), fun h => absurd h (by rw [h2]; exact Int64.lt_irrefl)⟩
    · rw [if_neg h2]
      exact ⟨fun _ => Int64.lt_of_le_of_ne (Int64.not_lt.mp h1) h2, fun _ => by decide⟩
theorem lg_gt (x y : Int64) : 0 < lg_cmp x y ↔ y < x := by
  unfold lg_cmp
  by_cases h1 : x > y
  · rw [if_pos h1]
    exact ⟨fun _ => h1, fun _ => by decide⟩
  · rw [if_neg h1]
    by_cases h2 : x = y
    · rw [if_pos h2]
      exact ⟨fun h => absurd h (by decide), fun h => absurd h h1⟩
    · rw [if_neg h2]
      exact ⟨fun h => absurd h (by decide), fun h => absurd h h1⟩
theorem w_le (a b : Int32) : a.toInt64 ≤ b.toInt64 ↔ a ≤ b := by
  rw [Int64.le_iff_toInt_le, Int32.le_iff_toInt_le, Int32.toInt_toInt64, Int32.toInt_toInt64]
def F_X6_in : Fn := fun as w K => match as with
  | [.inr (.inl v), .inr (.inl lo), .inr (.inl hi)] => K (some (.inl (bp (lo ≤ v ∧ v ≤ hi)))) w
  | _ => False
def ctb_X6_in : List (Nat × (List sv → List sc → (List sv → List sc → Prop) → Prop)) := []
theorem cok_X6_in : CallOK cX6_in 6 (some .boolean) RX6 1 ctb_X6_in := CallOK_nil
theorem ct_X6_in : Ct yX6_in cX6_in 6 (some .boolean) 1 F_X6_in := by
  intro l D σ cA sz as w K h
  unfold F_X6_in at h
  split at h
  · skip
    refine metL (pr := lkB pX6_in) (rk := 2) (ct := ctb_X6_in) (fld := lkB flX6) (cst := lkB csX6) (cstL := lkB clX6) [] pX6_in_ok kX6_in.2.2.2.2.2 fdX6 cdX6 rto2 cok_X6_in (Nat.le_of_ble_eq_true rfl) cut0 ?_ l D σ cA sz
    repeat' ((conv => whnf); (first | refine And.intro (by first | decide | with_reducible assumption) ?_ | with_reducible refine And.intro (fun hc => ?_) (fun hc => ?_) | with_reducible refine And.intro (fun hc => ?_) ?_ | fail))
    all_goals try (conv => whnf)
    · exact (kB0 h (fun q => absurd ((lg_lt _ _).mp hc) (Int64.not_lt.mpr q.1))).2
    · exact (kB0 h (fun q => absurd ((lg_gt _ _).mp hc) (Int64.not_lt.mpr q.2))).2
    · rename_i hc1
      exact (kB h ⟨Int64.not_lt.mp (fun q => hc1 ((lg_lt _ _).mpr q)), Int64.not_lt.mp (fun q => hc ((lg_gt _ _).mpr q))⟩).2
  · exact h.elim
theorem and1_01 (x : Int32) : (x &&& 1) = 0 ∨ (x &&& 1) = 1 := by
  obtain ⟨j, hj, e⟩ := pk_andE x (m := 1) 1 (by decide)
  rw [e]
  rcases (show j = 0 ∨ j = 1 by omega) with rfl | rfl
  · exact Or.inl (by decide)
  · exact Or.inr (by decide)
def F_X6_hasBit : Fn := fun as w K => match as with
  | [.inl b, .inl k] => K (some (.inl (bp (tb b k)))) w
  | _ => False
def ctb_X6_hasBit : List (Nat × (List sv → List sc → (List sv → List sc → Prop) → Prop)) := []
theorem cok_X6_hasBit : CallOK cX6_hasBit 2 (some .boolean) RX6 1 ctb_X6_hasBit := CallOK_nil
theorem ct_X6_hasBit : Ct yX6_hasBit cX6_hasBit 2 (some .boolean) 1 F_X6_hasBit := by
  intro l D σ cA sz as w K h
  unfold F_X6_hasBit at h
  split at h
  · skip
    refine metL (pr := lkB pX6_hasBit) (rk := 2) (ct := ctb_X6_hasBit) (fld := lkB flX6) (cst := lkB csX6) (cstL := lkB clX6) [] pX6_hasBit_ok kX6_hasBit.2.2.2.2.2 fdX6 cdX6 rto2 cok_X6_hasBit (Nat.le_of_ble_eq_true rfl) cut0 ?_ l D σ cA sz
    repeat' ((conv => whnf); (first | refine And.intro (by first | decide | with_reducible assumption) ?_ | with_reducible refine And.intro (fun hc => ?_) (fun hc => ?_) | with_reducible refine And.intro (fun hc => ?_) ?_ | fail))
    all_goals try (conv => whnf)
    · refine (kB0 h (fun q => ?_)).2
      rcases and1_01 _ with e | e
      · exact q e
      · exact hc e
    · refine (kB h (fun q => ?_)).2
      rw [q] at hc; exact absurd hc (by decide)
  · exact h.elim
def F_X6_held : Fn := fun as w K => match as with
  | [.inl v, .inl hi] => K (some (.inl (heldI v hi))) w
  | _ => False
def ctb_X6_held : List (Nat × (List sv → List sc → (List sv → List sc → Prop) → Prop)) := []
theorem cok_X6_held : CallOK cX6_held 2 (some .int) RX6 1 ctb_X6_held := CallOK_nil
theorem ct_X6_held : Ct yX6_held cX6_held 2 (some .int) 1 F_X6_held := by
  intro l D σ cA sz as w K h
  unfold F_X6_held at h
  split at h
  · skip
    refine metL (pr := lkB pX6_held) (rk := 1) (ct := ctb_X6_held) (fld := lkB flX6) (cst := lkB csX6) (cstL := lkB clX6) [] pX6_held_ok kX6_held.2.2.2.2.2 fdX6 cdX6 rto1 cok_X6_held (Nat.le_of_ble_eq_true rfl) cut0 ?_ l D σ cA sz
    repeat' ((conv => whnf); (first | refine And.intro (by first | decide | with_reducible assumption) ?_ | with_reducible refine And.intro (fun hc => ?_) (fun hc => ?_) | with_reducible refine And.intro (fun hc => ?_) ?_ | fail))
    all_goals try (conv => whnf)
    · rename_i hc1
      exact kI h (by unfold heldI; rw [if_neg (Int32.not_lt.mpr hc1), if_neg (Int32.not_lt.mpr hc)])
    · rename_i hc1
      exact kI h (by unfold heldI; rw [if_neg (Int32.not_lt.mpr hc1), if_pos (Int32.not_le.mp hc)])
    · exact kI h (by unfold heldI; rw [if_pos (Int32.not_le.mp hc)])
  · exact h.elim
def F_X6_isPlate : Fn := fun as w K => match as with
  | [.inl k] => K (some (.inl (bp (0 ≤ k ∧ k ≤ 9)))) w
  | _ => False
theorem bp_iff {P Q : Prop} (h : P ↔ Q) : bp P = bp Q := by rw [propext h]
theorem l_0 : (0 : Int64) = (0 : Int32).toInt64 := by decide
theorem l_1 : (1 : Int64) = (1 : Int32).toInt64 := by decide
theorem l_9 : (9 : Int64) = (9 : Int32).toInt64 := by decide
theorem l_60 : (60 : Int64) = (60 : Int32).toInt64 := by decide
theorem l_7 : (7 : Int64) = (7 : Int32).toInt64 := by decide
theorem l_99 : (99 : Int64) = (99 : Int32).toInt64 := by decide
theorem l_2 : (2 : Int64) = (2 : Int32).toInt64 := by decide
theorem l_m1 : (-1 : Int64) = (-1 : Int32).toInt64 := by decide
theorem l_20 : (20 : Int64) = (20 : Int32).toInt64 := by decide
theorem l_30 : (30 : Int64) = (30 : Int32).toInt64 := by decide
theorem l_48 : (48 : Int64) = (48 : Int32).toInt64 := by decide
theorem l_57 : (57 : Int64) = (57 : Int32).toInt64 := by decide
theorem in_ii (a b c : Int32) : bp (a.toInt64 ≤ b.toInt64 ∧ b.toInt64 ≤ c.toInt64) = bp (a ≤ b ∧ b ≤ c) := bp_iff (by rw [w_le, w_le])
def ctb_X6_isPlate : List (Nat × (List sv → List sc → (List sv → List sc → Prop) → Prop)) := [(6, cS none 3 F_X6_in)]
theorem cok_X6_isPlate : CallOK cX6_isPlate 1 (some .boolean) RX6 2 ctb_X6_isPlate := CallOK_cons (site_same (rnS (pX6_isPlate_ok 6 _ rfl) ct_X6_in kX6_in lRX6_81 (by decide))) (CallOK_nil)
theorem ct_X6_isPlate : Ct yX6_isPlate cX6_isPlate 1 (some .boolean) 2 F_X6_isPlate := by
  intro l D σ cA sz as w K h
  unfold F_X6_isPlate at h
  split at h
  · rename_i k
    refine metL (pr := lkB pX6_isPlate) (rk := 2) (ct := ctb_X6_isPlate) (fld := lkB flX6) (cst := lkB csX6) (cstL := lkB clX6) [] pX6_isPlate_ok kX6_isPlate.2.2.2.2.2 fdX6 cdX6 rto2 cok_X6_isPlate (Nat.le_of_ble_eq_true rfl) cut0 ?_ l D σ cA sz
    repeat' ((conv => whnf); (first | refine And.intro (by first | decide | with_reducible assumption) ?_ | with_reducible refine And.intro (fun hc => ?_) (fun hc => ?_) | with_reducible refine And.intro (fun hc => ?_) ?_ | fail))
    all_goals try (conv => whnf)
    refine ⟨bp_01 _, kI h ?_⟩
    exact (in_ii 0 k 9).symm
  · exact h.elim
def F_X6_isOne : Fn := fun as w K => ∃ (s : InnS) (q : Pm) (t : Tm) (g : Int32), as = [sR 0, sI g] ∧ w = modW s q t ∧ K (some (.inl (bp (0 ≤ g ∧ g ≤ iG s - 1)))) w
def ctb_X6_isOne : List (Nat × (List sv → List sc → (List sv → List sc → Prop) → Prop)) := [(10, cS none 3 F_X6_in)]
theorem cok_X6_isOne : CallOK cX6_isOne 2 (some .boolean) RX6 2 ctb_X6_isOne := CallOK_cons (site_same (rnS (pX6_isOne_ok 10 _ rfl) ct_X6_in kX6_in lRX6_81 (by decide))) (CallOK_nil)
theorem ct_X6_isOne : Ct yX6_isOne cX6_isOne 2 (some .boolean) 2 F_X6_isOne := by
  intro l D σ cA sz as w K h
  obtain ⟨s, q, t, g, rfl, rfl, h⟩ := h
  refine metL (pr := lkB pX6_isOne) (rk := 2) (ct := ctb_X6_isOne) (fld := lkB flX6) (cst := lkB csX6) (cstL := lkB clX6) [] pX6_isOne_ok kX6_isOne.2.2.2.2.2.2.2 fdX6 cdX6 rto2 cok_X6_isOne (Nat.le_of_ble_eq_true rfl) cut0 ?_ l D σ cA sz
  repeat' ((conv => whnf); (first | refine And.intro (by first | decide | with_reducible assumption) ?_ | with_reducible refine And.intro (fun hc => ?_) (fun hc => ?_) | with_reducible refine And.intro (fun hc => ?_) ?_ | fail))
  all_goals try (conv => whnf)
  exact ⟨bp_01 _, kI h (in_ii 0 g (iG s - 1)).symm⟩
def F_X6_eatsOf : Fn := fun as w K => ∃ (s : InnS) (q : Pm) (t : Tm) (g : Int32), as = [sR 0, sI g] ∧ w = modW s q t ∧ vp_in g 7 ∧ K (some (.inl (eatsK (iK s (ix g))))) w
def ctb_X6_eatsOf : List (Nat × (List sv → List sc → (List sv → List sc → Prop) → Prop)) := []
theorem cok_X6_eatsOf : CallOK cX6_eatsOf 2 (some .int) RX6 1 ctb_X6_eatsOf := CallOK_nil
theorem ct_X6_eatsOf : Ct yX6_eatsOf cX6_eatsOf 2 (some .int) 1 F_X6_eatsOf := by
  intro l D σ cA sz as w K h
  obtain ⟨s, q, t, g, rfl, rfl, hg, h⟩ := h
  refine metL (pr := lkB pX6_eatsOf) (rk := 1) (ct := ctb_X6_eatsOf) (fld := lkB flX6) (cst := lkB csX6) (cstL := lkB clX6) [] pX6_eatsOf_ok kX6_eatsOf.2.2.2.2.2.2.2 fdX6 cdX6 rto1 cok_X6_eatsOf (Nat.le_of_ble_eq_true rfl) cut0 ?_ l D σ cA sz
  repeat' ((conv => whnf); (first | refine And.intro (by first | decide | with_reducible assumption) ?_ | with_reducible refine And.intro (fun hc => ?_) (fun hc => ?_) | with_reducible refine And.intro (fun hc => ?_) ?_ | fail))
  all_goals try (conv => whnf)
  all_goals (refine kI h ?_; clear h; simp_all [eatsK])
def F_X6_dreamsOf : Fn := fun as w K => ∃ (s : InnS) (q : Pm) (t : Tm) (g n : Int32), as = [sR 0, sI g, sI n] ∧ w = modW s q t ∧ vp_in g 7 ∧ ¬ iF s (ix g) + 2 = 0 ∧ K (some (.inl (dmS s g n))) w
def ctb_X6_dreamsOf : List (Nat × (List sv → List sc → (List sv → List sc → Prop) → Prop)) := []
theorem cok_X6_dreamsOf : CallOK cX6_dreamsOf 5 (some .int) RX6 1 ctb_X6_dreamsOf := CallOK_nil
theorem ct_X6_dreamsOf : Ct yX6_dreamsOf cX6_dreamsOf 5 (some .int) 1 F_X6_dreamsOf := by
  intro l D σ cA sz as w K h
  obtain ⟨s, q, t, g, n, rfl, rfl, hg, hf, h⟩ := h
  refine metL (pr := lkB pX6_dreamsOf) (rk := 1) (ct := ctb_X6_dreamsOf) (fld := lkB flX6) (cst := lkB csX6) (cstL := lkB clX6) [] pX6_dreamsOf_ok kX6_dreamsOf.2.2.2.2.2.2.2 fdX6 cdX6 rto1 cok_X6_dreamsOf (Nat.le_of_ble_eq_true rfl) cut0 ?_ l D σ cA sz
  repeat' ((conv => whnf); (first | refine And.intro (by first | decide | with_reducible assumption) ?_ | with_reducible refine And.intro (fun hc => ?_) (fun hc => ?_) | with_reducible refine And.intro (fun hc => ?_) ?_ | fail))
  all_goals try (conv => whnf)
  all_goals first | trivial | (refine kI h ?_; clear h; simp_all [dmS, dreamK, cookD, ofI1]; done) | (have a := out17 (k := iK s g.toNatClampNeg) (by assumption); refine kI h ?_; clear h; simp_all [dmS, dreamK, cookD]; done)
def F_X6_gainsOf : Fn := fun as w K => ∃ (s : InnS) (q : Pm) (t : Tm) (g k : Int32), as = [sR 0, sI g, sI k] ∧ w = modW s q t ∧ vp_in g 7 ∧ K (some (.inl (gainK (iK s (ix g)) (iF s (ix g)) k (iL s (ix g))))) w
def ctb_X6_gainsOf : List (Nat × (List sv → List sc → (List sv → List sc → Prop) → Prop)) := [(78, cS none 2 F_X6_held)]
theorem cok_X6_gainsOf : CallOK cX6_gainsOf 3 (some .int) RX6 2 ctb_X6_gainsOf := CallOK_cons (site_same (rnS (pX6_gainsOf_ok 78 _ rfl) ct_X6_held kX6_held lRX6_88 (by decide))) (CallOK_nil)
theorem ct_X6_gainsOf : Ct yX6_gainsOf cX6_gainsOf 3 (some .int) 2 F_X6_gainsOf := by
  intro l D σ cA sz as w K h
  obtain ⟨s, q, t, g, k, rfl, rfl, hg, h⟩ := h
  refine metL (pr := lkB pX6_gainsOf) (rk := 1) (ct := ctb_X6_gainsOf) (fld := lkB flX6) (cst := lkB csX6) (cstL := lkB clX6) [] pX6_gainsOf_ok kX6_gainsOf.2.2.2.2.2.2.2 fdX6 cdX6 rto1 cok_X6_gainsOf (Nat.le_of_ble_eq_true rfl) cut0 ?_ l D σ cA sz
  repeat' ((conv => whnf); (first | refine And.intro (by first | decide | with_reducible assumption) ?_ | with_reducible refine And.intro (fun hc => ?_) (fun hc => ?_) | with_reducible refine And.intro (fun hc => ?_) ?_ | fail))
  all_goals try (conv => whnf)
  all_goals first | trivial | (refine kI h ?_; clear h; simp_all [gainK, ofI1]; done) | (have a := out17 (k := iK s g.toNatClampNeg) (by assumption); refine kI h ?_; clear h; simp_all [gainK]; done)
end
section
/-! ===== the reference's nights ===== -/
theorem sub5 (x : Int32) : x - 5 = x + (-5) := Int32.sub_eq_add_neg ..
theorem sub3 (x : Int32) : x - 3 = x + (-3) := Int32.sub_eq_add_neg ..
theorem andm1 (x : Int32) : x &&& (-1) = x := by
  obtain ⟨n, hn, rfl⟩ : ∃ n, n < 2 ^ 32 ∧ x = nI n := ⟨x.toBitVec.toNat, x.toBitVec.isLt, by
    show x = Int32.ofNat x.toBitVec.toNat
    apply Int32.toBitVec_inj.mp
    simp⟩
  apply Int32.toBitVec_inj.mp
  have : (-1 : Int32).toBitVec = BitVec.allOnes 32 := by decide
  simp [this]
theorem msv_w (s : InnS) (q : Pm) (t : Tm) (g k e d : Int32) : modW (svS (chS (tkS s k e) g d) g k) q t = modW (iK s, iF s, iW s, upd (iL s) (ix g) k, upd (iH s) (ix g) (heldI (iH s (ix g) + d) 99), upd (iP s) (ix k) (iP s (ix k) - e), iG s, chT (iT s) (heldI (iH s (ix g) + d) 99) g, iN s, heldI (iS s + 1) 9999, iA s, iSn s ||| jshl 1 g, iLn s) q t := rfl
theorem tk_iK (s : InnS) (k e : Int32) : iK (tkS s k e) = iK s := rfl
theorem tk_iF (s : InnS) (k e : Int32) : iF (tkS s k e) = iF s := rfl
theorem tk_iL (s : InnS) (k e : Int32) : iL (tkS s k e) = iL s := rfl
def F_X6_breakfast : Fn := fun as w K => ∃ (s : InnS) (q : Pm) (t : Tm) (j N : Nat), as = [sR 0, sI (nI j)] ∧ w = modW s q t ∧ GS s ∧ j < 7 ∧ iN s = nI N ∧ N < 100000 ∧ K none (modW (bfS s (nI j) (pkS s (tMr t) (tSy t) (nI j))) q t)
def ctb_X6_breakfast : List (Nat × (List sv → List sc → (List sv → List sc → Prop) → Prop)) := [(6, cS (some 4) 3 F_X6_dreamsOf), (33, cS none 2 F_X6_hasBit), (64, cS none 2 F_X6_held), (79, cS (some 4) 2 F_X6_eatsOf), (94, cS (some 4) 2 F_X6_eatsOf), (113, cS (some 4) 3 F_X6_gainsOf), (119, cS none 2 F_X6_held), (140, cS none 2 F_X6_held), (176, cS none 2 F_X6_held), (190, cS none 2 F_X6_held)]
theorem cok_X6_breakfast : CallOK cX6_breakfast 3 none RX6 3 ctb_X6_breakfast := CallOK_cons (site_same (rnV (pX6_breakfast_ok 6 _ rfl) ct_X6_dreamsOf kX6_dreamsOf lRX6_95 (by decide))) (CallOK_cons (site_same (rnS (pX6_breakfast_ok 33 _ rfl) ct_X6_hasBit kX6_hasBit lRX6_105 (by decide))) (CallOK_cons (site_same (rnS (pX6_breakfast_ok 64 _ rfl) ct_X6_held kX6_held lRX6_88 (by decide))) (CallOK_cons (site_same (rnV (pX6_breakfast_ok 79 _ rfl) ct_X6_eatsOf kX6_eatsOf lRX6_109 (by decide))) (CallOK_cons (site_same (rnV (pX6_breakfast_ok 94 _ rfl) ct_X6_eatsOf kX6_eatsOf lRX6_109 (by decide))) (CallOK_cons (site_same (rnV (pX6_breakfast_ok 113 _ rfl) ct_X6_gainsOf kX6_gainsOf lRX6_113 (by decide))) (CallOK_cons (site_same (rnS (pX6_breakfast_ok 119 _ rfl) ct_X6_held kX6_held lRX6_88 (by decide))) (CallOK_cons (site_same (rnS (pX6_breakfast_ok 140 _ rfl) ct_X6_held kX6_held lRX6_88 (by decide))) (CallOK_cons (site_same (rnS (pX6_breakfast_ok 176 _ rfl) ct_X6_held kX6_held lRX6_88 (by decide))) (CallOK_cons (site_same (rnS (pX6_breakfast_ok 190 _ rfl) ct_X6_held kX6_held lRX6_88 (by decide))) (CallOK_nil))))))))))
theorem ct_X6_breakfast : Ct yX6_breakfast cX6_breakfast 3 none 3 F_X6_breakfast := by
  intro l D σ cA sz as w K h
  obtain ⟨s, q, t, j, N, rfl, rfl, hGS, hj, hN, hN2, h⟩ := h
  have hv : vp_in (nI j) 7 := vp_in_nI hj (by decide)
  have ej : ix (nI j) = j := nI_clamp (by omega)
  have hf : ¬ iF s (ix (nI j)) + 2 = 0 := by
    rw [ej]
    intro q
    have := rng_f2 (hGS.1 j hj).1
    rw [q] at this; exact absurd this (by decide)
  have hd : dmS s (nI j) (iN s) = -4 ∨ rng 10 (dmS s (nI j) (iN s)) := by
    unfold dmS
    rw [ej, hN]
    exact dream_ok hN2 (hGS.1 j hj).1 (hGS.1 j hj).2.1 (hGS.1 j hj).2.2
  have hpk := pick_ok (mare := tMr t) (sil := tSy t) hGS hj hN hN2
  refine metL (pr := lkB pX6_breakfast) (rk := 0) (ct := ctb_X6_breakfast) (fld := lkB flX6) (cst := lkB csX6) (cstL := lkB clX6) [(45, ([true, true, true], fun n lv st w => n = 0 ∧ lv = [some (sR 0), some (sI (nI j)), some (sI (pkS s (tMr t) (tSy t) (nI j)))] ∧ st = [] ∧ w = modW s q t))] pX6_breakfast_ok kX6_breakfast.2.2.2.2.2.2.2 fdX6 cdX6 rto0 cok_X6_breakfast (Nat.le_of_ble_eq_true rfl) ?_ ?_ l D σ cA sz
  · refine List.forall_mem_cons.mpr ⟨?_, cut0⟩
    rintro n lv st w ⟨rfl, rfl, rfl, rfl⟩
    generalize pkS s (tMr t) (tSy t) (nI j) = k at h hpk ⊢
    conv => whnf
    refine ⟨fun hc => ?_, fun hc => ?_⟩
    · have hk4 : ¬ k = -4 := fun q => by rw [q] at hc; exact absurd hc (by decide)
      have hk := hpk.resolve_left hk4
      have hki := rng_in hk (by decide)
      repeat' ((conv => whnf); (first | refine And.intro (by first | decide | with_reducible assumption) ?_ | with_reducible refine And.intro (fun hc => ?_) (fun hc => ?_) | with_reducible refine And.intro (fun hc => ?_) ?_ | fail))
      all_goals try (conv => whnf)
      refine ⟨s, q, t, nI j, rfl, rfl, hv, ?_⟩
      repeat' ((conv => whnf); (first | refine And.intro (by first | decide | with_reducible assumption) ?_ | with_reducible refine And.intro (fun hc => ?_) (fun hc => ?_) | with_reducible refine And.intro (fun hc => ?_) ?_ | fail))
      all_goals try (conv => whnf)
      · rw [pk_us, sub3] at hc
        refine kW h ?_
        unfold bfS
        rw [if_neg hk4, if_neg (fun q => absurd (show iP s (ix k) < eatsK (iK s (ix (nI j))) by with_reducible assumption) (Int32.not_lt.mpr q))]
        unfold laS chS
        rw [chT, if_neg hc, sub3, andm1]
        rfl
      · rw [pk_us, sub3] at hc
        refine kW h ?_
        unfold bfS
        rw [if_neg hk4, if_neg (fun q => absurd (show iP s (ix k) < eatsK (iK s (ix (nI j))) by with_reducible assumption) (Int32.not_lt.mpr q))]
        unfold laS chS
        rw [chT, if_pos hc, sub3]
        rfl
      · refine ⟨s, q, t, nI j, rfl, rfl, hv, ?_⟩
        repeat' ((conv => whnf); (first | refine And.intro (by first | decide | with_reducible assumption) ?_ | with_reducible refine And.intro (fun hc => ?_) (fun hc => ?_) | with_reducible refine And.intro (fun hc => ?_) ?_ | fail))
        all_goals try (conv => whnf)
        refine ⟨tkS s k (eatsK (iK s (ix (nI j)))), q, t, nI j, k, rfl, rfl, hv, ?_⟩
        rw [tk_iK, tk_iF, tk_iL]
        repeat' ((conv => whnf); (first | refine And.intro (by first | decide | with_reducible assumption) ?_ | with_reducible refine And.intro (fun hc => ?_) (fun hc => ?_) | with_reducible refine And.intro (fun hc => ?_) ?_ | fail))
        all_goals try (conv => whnf)
        · rw [pk_us] at hc
          refine kW h ?_
          unfold bfS
          rw [if_neg hk4, if_pos (Int32.not_lt.mp (show ¬ iP s (ix k) < eatsK (iK s (ix (nI j))) by with_reducible assumption))]
          rw [msv_w, chT, if_neg hc, andm1]
          rfl
        · rw [pk_us] at hc
          refine kW h ?_
          unfold bfS
          rw [if_neg hk4, if_pos (Int32.not_lt.mp (show ¬ iP s (ix k) < eatsK (iK s (ix (nI j))) by with_reducible assumption))]
          rw [msv_w, chT, if_pos hc]
          rfl
    · have hk4 : k = -4 := hpk.resolve_right (fun ⟨a, ha, e⟩ => hc (by rw [e]; exact nI_pos' (by omega)))
      repeat' ((conv => whnf); (first | refine And.intro (by first | decide | with_reducible assumption) ?_ | with_reducible refine And.intro (fun hc => ?_) (fun hc => ?_) | with_reducible refine And.intro (fun hc => ?_) ?_ | fail))
      all_goals try (conv => whnf)
      · rw [pk_us, sub5] at hc
        refine kW h ?_
        unfold bfS
        rw [if_pos hk4]
        unfold chS
        rw [chT, if_neg hc, sub5, andm1]
        rfl
      · rw [pk_us, sub5] at hc
        refine kW h ?_
        unfold bfS
        rw [if_pos hk4]
        unfold chS
        rw [chT, if_pos hc, sub5]
        rfl
  · conv => whnf
    refine ⟨s, q, t, nI j, iN s, rfl, rfl, hv, hf, ?_⟩
    have hge : 0 ≤ dmS s (nI j) (iN s) ↔ ¬ dmS s (nI j) (iN s) = -4 := by
      rcases hd with e | ⟨a, ha, e⟩
      · rw [e]; decide
      · rw [e]
        exact ⟨fun _ q => absurd (show nI a < 0 by rw [q]; decide) (nI_pos (by omega)), fun _ => nI_pos' (by omega)⟩
    have hlt : dmS s (nI j) (iN s) < 0 ↔ dmS s (nI j) (iN s) = -4 := ⟨fun q => Classical.not_not.mp (fun r => absurd (hge.mpr r) (Int32.not_le.mpr q)), fun q => by rw [q]; decide⟩
    repeat' ((conv => whnf); (first | refine And.intro (by first | decide | with_reducible assumption) ?_ | with_reducible refine And.intro (fun hc => ?_) (fun hc => ?_) | with_reducible refine And.intro (fun hc => ?_) ?_ | fail))
    all_goals try (conv => whnf)
    all_goals
      refine ⟨0, rfl, ?_, rfl, rfl⟩
      have e : ∀ x, pkS s (tMr t) (tSy t) (nI j) = x → [some (sR 0), some (sI (nI j)), some (sI x)] = [some (sR 0), some (sI (nI j)), some (sI (pkS s (tMr t) (tSy t) (nI j)))] := fun x hx => by rw [hx]
      refine e _ ?_
      clear h e hpk hd hN hge
      unfold pkS
      simp_all [bp_0]
def t0S (t : Tm) : Tm := (0, 0, t.2.2)
def F_X6_nightOn : Fn := fun as w K => ∃ (s : InnS) (q : Pm) (t : Tm) (N : Nat), as = [sR 0] ∧ w = modW s q t ∧ GS s ∧ iN s = nI N ∧ N < 90000 ∧ K none (modW (nightS (tMr t) (tSy t) s) q (t0S t))
theorem mnb_w (s : InnS) (q : Pm) (t : Tm) : modW (nbS s) q t = modW (iK s, iF s, iW s, iL s, iH s, upd (iP s) (ix (jrem (iN s + 1) 10)) (heldI (iP s (ix (jrem (iN s + 1) 10)) + 2) 99), iG s, iT s, iN s + 1, iS s, iA s, 0, iLn s) q t := rfl
def ctb_X6_nightOn : List (Nat × (List sv → List sc → (List sv → List sc → Prop) → Prop)) := [(42, cS none 2 F_X6_held), (61, cS none 2 F_X6_hasBit), (69, cS (some 4) 2 F_X6_breakfast)]
theorem cok_X6_nightOn : CallOK cX6_nightOn 2 none RX6 4 ctb_X6_nightOn := CallOK_cons (site_same (rnS (pX6_nightOn_ok 42 _ rfl) ct_X6_held kX6_held lRX6_88 (by decide))) (CallOK_cons (site_same (rnS (pX6_nightOn_ok 61 _ rfl) ct_X6_hasBit kX6_hasBit lRX6_105 (by decide))) (CallOK_cons (site_same (rnV (pX6_nightOn_ok 69 _ rfl) ct_X6_breakfast kX6_breakfast lRX6_128 (by decide))) (CallOK_nil)))
set_option maxRecDepth 4000 in
theorem ct_X6_nightOn : Ct yX6_nightOn cX6_nightOn 2 none 4 F_X6_nightOn := by
  intro l D σ cA sz as w K h
  obtain ⟨s, q, t, N, rfl, rfl, hGS, hN, hN2, h⟩ := h
  obtain ⟨G, hG7, hG⟩ := hGS.2.1
  have hN1 : iN s + 1 = nI (N + 1) := by rw [hN, nI_1]
  have hk : jrem (iN s + 1) 10 = nI ((N + 1) % 10) := by rw [hN1]; exact jrem_nI (d := 10) (by omega) (by decide) (by decide)
  have hki : vp_in (jrem (iN s + 1) 10) 10 := by rw [hk]; exact vp_in_nI (Nat.mod_lt _ (by decide)) (by decide)
  refine metL (pr := lkB pX6_nightOn) (rk := 0) (ct := ctb_X6_nightOn) (fld := lkB flX6) (cst := lkB csX6) (cstL := lkB clX6) [(48, ([true, true], fun n lv st w => ∃ j, j ≤ G ∧ n = G - j ∧ lv = [some (sR 0), some (sI (nI j))] ∧ st = [] ∧ w = modW (gfS (tMr t) (tSy t) j (nbS s)) q t))] pX6_nightOn_ok kX6_nightOn.2.2.2.2.2.2.2 fdX6 cdX6 rto0 cok_X6_nightOn (Nat.le_of_ble_eq_true rfl) ?_ ?_ l D σ cA sz
  · refine List.forall_mem_cons.mpr ⟨?_, cut0⟩
    rintro n lv st w ⟨j, hj, rfl, rfl, rfl, rfl⟩
    have hGt := GS_gf (mare := tMr t) (sil := tSy t) (GS_nb hGS) (show iN (nbS s) = nI (N + 1) from hN1) (by omega) j (by omega)
    have hkt := gf_keep (s := nbS s) (mare := tMr t) (sil := tSy t) j
    have hNt : iN (gfS (tMr t) (tSy t) j (nbS s)) = nI (N + 1) := hkt.1.trans hN1
    have hGG : iG (gfS (tMr t) (tSy t) j (nbS s)) = nI G := hkt.2.1.trans hG
    have hsuc : gfS (tMr t) (tSy t) (j + 1) (nbS s) = gsS (gfS (tMr t) (tSy t) j (nbS s)) (tMr t) (tSy t) (nI j) := rfl
    generalize hu : gfS (tMr t) (tSy t) j (nbS s) = u at hGt hNt hGG hsuc ⊢
    clear hkt
    conv => whnf
    refine ⟨fun hc => ?_, fun hc => ?_⟩
    · skip
      repeat' ((conv => whnf); (first | refine And.intro (by first | decide | with_reducible assumption) ?_ | with_reducible refine And.intro (fun hc => ?_) (fun hc => ?_) | with_reducible refine And.intro (fun hc => ?_) ?_ | fail))
      all_goals try (conv => whnf)
      refine kW h ?_
      rw [hGG] at hc
      have hjG := lp_ge hj (by omega) hc
      unfold nightS
      rw [hG, show ix (nI G) = G from nI_clamp (by omega), ← hjG, hu]
      rfl
    · rw [hGG] at hc
      have hjG := lp_lt hj (by omega) hc
      conv => whnf
      refine ⟨fun hb => ?_, fun hb => ?_⟩
      · conv => whnf
        exact ⟨G - (j + 1), by omega, j + 1, hjG, rfl, by rw [← nI_1]; rfl, rfl, by rw [hsuc, gs_f (bp_0.mp hb)]⟩
      · have hb : tb (iT u) (nI j) := Classical.not_not.mp (fun q => hb (bp_0.mpr q))
        conv => whnf
        refine ⟨u, q, t, j, N + 1, rfl, rfl, hGt, by omega, hNt, by omega, ?_⟩
        conv => whnf
        exact ⟨G - (j + 1), by omega, j + 1, hjG, rfl, by rw [← nI_1]; rfl, rfl, by rw [hsuc, gs_t hb]⟩
  · skip
    repeat' ((conv => whnf); (first | refine And.intro (by first | decide | with_reducible assumption) ?_ | with_reducible refine And.intro (fun hc => ?_) (fun hc => ?_) | with_reducible refine And.intro (fun hc => ?_) ?_ | fail))
    all_goals try (conv => whnf)
    exact ⟨G, 0, Nat.zero_le _, rfl, rfl, rfl, rfl⟩
end
section
/-! ===== the reference: what is kept and put back ===== -/
def mx (f0 f : PA) (m : Nat) : PA := fun k => if k < m then f0 k else f k
theorem mx_succ (f0 f : PA) (m : Nat) (v : Int32) (h : v = f0 m) : upd (mx f0 f m) m v = mx f0 f (m + 1) := by
  subst h
  funext k
  by_cases e : k = m
  · subst e
    rw [pk_us, mx, if_pos (by omega)]
  · rw [pk_un e]
    unfold mx
    by_cases e2 : k < m
    · rw [if_pos e2, if_pos (by omega)]
    · rw [if_neg e2, if_neg (by omega)]
theorem mx_0 (f0 f : PA) : mx f0 f 0 = f := by
  funext k
  rw [mx, if_neg (by omega)]
theorem mx_at (f0 f : PA) (m : Nat) : mx f0 f m m = f m := by rw [mx, if_neg (by omega)]
theorem mx_full {f0 f : PA} {n : Nat} (h0 : ∀ k, n ≤ k → f0 k = 0) (h : ∀ k, n ≤ k → f k = 0) : mx f0 f n = f0 := by
  funext k
  unfold mx
  by_cases e : k < n
  · rw [if_pos e]
  · rw [if_neg e, h0 k (by omega), h k (by omega)]
theorem upd_self (f : PA) (k : Nat) : upd f k (f k) = f := by
  funext j
  by_cases e : j = k
  · rw [e, pk_us]
  · rw [pk_un e]
/-- what stands at each place of what is kept -/
def enc (s : InnS) (p : Nat) : Int32 := if p = 0 then iG s else if p = 1 then iT s else if p = 2 then iS s else if p = 3 then iA s else if p = 4 then iN s else if p < 15 then iP s (p - 5) else if (p - 15) % 5 = 0 then iK s ((p - 15) / 5) else if (p - 15) % 5 = 1 then iF s ((p - 15) / 5) else if (p - 15) % 5 = 2 then iW s ((p - 15) / 5) else if (p - 15) % 5 = 3 then iL s ((p - 15) / 5) else iH s ((p - 15) / 5)
theorem enc_P (s : InnS) {k : Nat} (h : k < 10) : enc s (5 + k) = iP s k := by
  unfold enc
  rw [if_neg (by omega), if_neg (by omega), if_neg (by omega), if_neg (by omega), if_neg (by omega), if_pos (by omega), show 5 + k - 5 = k by omega]
theorem enc_K (s : InnS) (g : Nat) : enc s (15 + 5 * g) = iK s g := by
  unfold enc
  rw [if_neg (by omega), if_neg (by omega), if_neg (by omega), if_neg (by omega), if_neg (by omega), if_neg (by omega), if_pos (by omega), show (15 + 5 * g - 15) / 5 = g by omega]
theorem enc_F (s : InnS) (g : Nat) : enc s (15 + 5 * g + 1) = iF s g := by
  unfold enc
  rw [if_neg (by omega), if_neg (by omega), if_neg (by omega), if_neg (by omega), if_neg (by omega), if_neg (by omega), if_neg (by omega), if_pos (by omega), show (15 + 5 * g + 1 - 15) / 5 = g by omega]
theorem enc_W (s : InnS) (g : Nat) : enc s (15 + 5 * g + 2) = iW s g := by
  unfold enc
  rw [if_neg (by omega), if_neg (by omega), if_neg (by omega), if_neg (by omega), if_neg (by omega), if_neg (by omega), if_neg (by omega), if_neg (by omega), if_pos (by omega), show (15 + 5 * g + 2 - 15) / 5 = g by omega]
theorem enc_L (s : InnS) (g : Nat) : enc s (15 + 5 * g + 3) = iL s g := by
  unfold enc
  rw [if_neg (by omega), if_neg (by omega), if_neg (by omega), if_neg (by omega), if_neg (by omega), if_neg (by omega), if_neg (by omega), if_neg (by omega), if_neg (by omega), if_pos (by omega), show (15 + 5 * g + 3 - 15) / 5 = g by omega]
theorem enc_H (s : InnS) (g : Nat) : enc s (15 + 5 * g + 4) = iH s g := by
  unfold enc
  rw [if_neg (by omega), if_neg (by omega), if_neg (by omega), if_neg (by omega), if_neg (by omega), if_neg (by omega), if_neg (by omega), if_neg (by omega), if_neg (by omega), if_neg (by omega), show (15 + 5 * g + 4 - 15) / 5 = g by omega]
/-- with other things kept: what think and image write -/
abbrev keW (s : InnS) (q : Pm) (t : Tm) (im ke : PA) (p0 tk : Int32) (ki : Option Nat) : List sc := modX s (qH q) (qK q) (qF q) (qS q) (qM q) (qR q) im (qB q) (tSy t) (tMr t) (tTh t) (tRd t) (tPl t) (tBd t) (tSt t) (tPi t) (tLo t) (tTo t) ke p0 tk ki (tDr t) (tCe t) (tGa t) (tSd t) (tBt t)
def ctb_X6_carry : List (Nat × (List sv → List sc → (List sv → List sc → Prop) → Prop)) := []
theorem cok_X6_carry : CallOK cX6_carry 2 (some .int) RX6 1 ctb_X6_carry := CallOK_nil
def F_X6_carryK1 : Fn := fun as w K => ∃ (s : InnS) (q : Pm) (t : Tm) (im ke : PA) (p : Nat) (v : Int32), as = [sR 0, sI v] ∧ w = keW s q t im ke (nI p) 1 (some 16) ∧ p < 50 ∧ K (some (.inl (v))) (keW s q t im (upd ke p v) (nI (p + 1)) 1 (some 16))
theorem ct_X6_carryK1 : Ct yX6_carry cX6_carry 2 (some .int) 1 F_X6_carryK1 := by
  intro l D σ cA sz as w K h
  obtain ⟨s, q, t, im, ke, p, v, rfl, rfl, hp, h⟩ := h
  have hv : vp_in (nI p) 50 := vp_in_nI hp (by decide)
  have e1 : nI p + 1 - 1 = nI p := by rw [nI_1]; exact nI_pred p
  have hv2 : vp_in (nI p + 1 - 1) 50 := by rw [e1]; exact hv
  have ec : (nI p).toNatClampNeg = p := nI_clamp (by omega)
  rw [← nI_1] at h
  refine metL (pr := lkB pX6_carry) (rk := 1) (ct := ctb_X6_carry) (fld := lkB flX6) (cst := lkB csX6) (cstL := lkB clX6) [] pX6_carry_ok kX6_carry.2.2.2.2.2.2.2 fdX6 cdX6 rto1 cok_X6_carry (Nat.le_of_ble_eq_true rfl) cut0 ?_ l D σ cA sz
  conv => whnf
  refine ⟨fun hc => absurd hc (by decide), fun hc => ?_⟩
  conv => whnf
  refine ⟨hv, ?_⟩
  conv => whnf
  refine ⟨hv2, ?_⟩
  conv => whnf
  refine kIW h ?_ ?_
  · rw [e1, pk_us]
  · rw [ec]; rfl
def F_X6_carryK0 : Fn := fun as w K => ∃ (s : InnS) (q : Pm) (t : Tm) (im ke : PA) (p : Nat) (v : Int32), as = [sR 0, sI v] ∧ w = keW s q t im ke (nI p) 0 (some 16) ∧ p < 50 ∧ K (some (.inl (ke p))) (keW s q t im ke (nI (p + 1)) 0 (some 16))
theorem ct_X6_carryK0 : Ct yX6_carry cX6_carry 2 (some .int) 1 F_X6_carryK0 := by
  intro l D σ cA sz as w K h
  obtain ⟨s, q, t, im, ke, p, v, rfl, rfl, hp, h⟩ := h
  have hv : vp_in (nI p) 50 := vp_in_nI hp (by decide)
  have e1 : nI p + 1 - 1 = nI p := by rw [nI_1]; exact nI_pred p
  have hv2 : vp_in (nI p + 1 - 1) 50 := by rw [e1]; exact hv
  have ec : (nI p).toNatClampNeg = p := nI_clamp (by omega)
  rw [← nI_1] at h
  refine metL (pr := lkB pX6_carry) (rk := 1) (ct := ctb_X6_carry) (fld := lkB flX6) (cst := lkB csX6) (cstL := lkB clX6) [] pX6_carry_ok kX6_carry.2.2.2.2.2.2.2 fdX6 cdX6 rto1 cok_X6_carry (Nat.le_of_ble_eq_true rfl) cut0 ?_ l D σ cA sz
  conv => whnf
  refine ⟨fun hc => ?_, fun hc => absurd rfl hc⟩
  conv => whnf
  refine ⟨hv2, ?_⟩
  conv => whnf
  refine kIW h ?_ rfl
  rw [e1, ec]
def F_X6_carryI1 : Fn := fun as w K => ∃ (s : InnS) (q : Pm) (t : Tm) (im ke : PA) (p : Nat) (v : Int32), as = [sR 0, sI v] ∧ w = keW s q t im ke (nI p) 1 (some 17) ∧ p < 50 ∧ K (some (.inl (v))) (keW s q t (upd im p v) ke (nI (p + 1)) 1 (some 17))
theorem ct_X6_carryI1 : Ct yX6_carry cX6_carry 2 (some .int) 1 F_X6_carryI1 := by
  intro l D σ cA sz as w K h
  obtain ⟨s, q, t, im, ke, p, v, rfl, rfl, hp, h⟩ := h
  have hv : vp_in (nI p) 50 := vp_in_nI hp (by decide)
  have e1 : nI p + 1 - 1 = nI p := by rw [nI_1]; exact nI_pred p
  have hv2 : vp_in (nI p + 1 - 1) 50 := by rw [e1]; exact hv
  have ec : (nI p).toNatClampNeg = p := nI_clamp (by omega)
  rw [← nI_1] at h
  refine metL (pr := lkB pX6_carry) (rk := 1) (ct := ctb_X6_carry) (fld := lkB flX6) (cst := lkB csX6) (cstL := lkB clX6) [] pX6_carry_ok kX6_carry.2.2.2.2.2.2.2 fdX6 cdX6 rto1 cok_X6_carry (Nat.le_of_ble_eq_true rfl) cut0 ?_ l D σ cA sz
  conv => whnf
  refine ⟨fun hc => absurd hc (by decide), fun hc => ?_⟩
  conv => whnf
  refine ⟨hv, ?_⟩
  conv => whnf
  refine ⟨hv2, ?_⟩
  conv => whnf
  refine kIW h ?_ ?_
  · rw [e1, pk_us]
  · rw [ec]; rfl
def F_X6_carryI0 : Fn := fun as w K => ∃ (s : InnS) (q : Pm) (t : Tm) (im ke : PA) (p : Nat) (v : Int32), as = [sR 0, sI v] ∧ w = keW s q t im ke (nI p) 0 (some 17) ∧ p < 50 ∧ K (some (.inl (im p))) (keW s q t im ke (nI (p + 1)) 0 (some 17))
theorem ct_X6_carryI0 : Ct yX6_carry cX6_carry 2 (some .int) 1 F_X6_carryI0 := by
  intro l D σ cA sz as w K h
  obtain ⟨s, q, t, im, ke, p, v, rfl, rfl, hp, h⟩ := h
  have hv : vp_in (nI p) 50 := vp_in_nI hp (by decide)
  have e1 : nI p + 1 - 1 = nI p := by rw [nI_1]; exact nI_pred p
  have hv2 : vp_in (nI p + 1 - 1) 50 := by rw [e1]; exact hv
  have ec : (nI p).toNatClampNeg = p := nI_clamp (by omega)
  rw [← nI_1] at h
  refine metL (pr := lkB pX6_carry) (rk := 1) (ct := ctb_X6_carry) (fld := lkB flX6) (cst := lkB csX6) (cstL := lkB clX6) [] pX6_carry_ok kX6_carry.2.2.2.2.2.2.2 fdX6 cdX6 rto1 cok_X6_carry (Nat.le_of_ble_eq_true rfl) cut0 ?_ l D σ cA sz
  conv => whnf
  refine ⟨fun hc => ?_, fun hc => absurd rfl hc⟩
  conv => whnf
  refine ⟨hv2, ?_⟩
  conv => whnf
  refine kIW h ?_ rfl
  rw [e1, ec]
end
section
/-! ===== the reference: all that is carried ===== -/
def F_X6_carryAllK1 : Fn := fun as w K => ∃ (s : InnS) (q : Pm) (t : Tm) (im ke : PA) (p0 tk : Int32) (ki : Option Nat), as = [sR 0, sR 16, sI 1] ∧ w = keW s q t im ke p0 tk ki ∧ K none (keW s q t im (mx (enc s) ke 50) (nI 50) 1 (some 16))
def ctb_X6_carryAll_K1 : List (Nat × (List sv → List sc → (List sv → List sc → Prop) → Prop)) := [(21, cS (some 4) 2 F_X6_carryK1), (33, cS (some 4) 2 F_X6_carryK1), (45, cS (some 4) 2 F_X6_carryK1), (57, cS (some 4) 2 F_X6_carryK1), (69, cS (some 4) 2 F_X6_carryK1), (95, cS (some 4) 2 F_X6_carryK1), (125, cS (some 4) 2 F_X6_carryK1), (141, cS (some 4) 2 F_X6_carryK1), (157, cS (some 4) 2 F_X6_carryK1), (173, cS (some 4) 2 F_X6_carryK1), (189, cS (some 4) 2 F_X6_carryK1)]
theorem cok_X6_carryAll_K1 : CallOK cX6_carryAll 4 none RX6 2 ctb_X6_carryAll_K1 := CallOK_cons (site_same (rnV (pX6_carryAll_ok 21 _ rfl) ct_X6_carryK1 kX6_carry lRX6_208 (by decide))) (CallOK_cons (site_same (rnV (pX6_carryAll_ok 33 _ rfl) ct_X6_carryK1 kX6_carry lRX6_208 (by decide))) (CallOK_cons (site_same (rnV (pX6_carryAll_ok 45 _ rfl) ct_X6_carryK1 kX6_carry lRX6_208 (by decide))) (CallOK_cons (site_same (rnV (pX6_carryAll_ok 57 _ rfl) ct_X6_carryK1 kX6_carry lRX6_208 (by decide))) (CallOK_cons (site_same (rnV (pX6_carryAll_ok 69 _ rfl) ct_X6_carryK1 kX6_carry lRX6_208 (by decide))) (CallOK_cons (site_same (rnV (pX6_carryAll_ok 95 _ rfl) ct_X6_carryK1 kX6_carry lRX6_208 (by decide))) (CallOK_cons (site_same (rnV (pX6_carryAll_ok 125 _ rfl) ct_X6_carryK1 kX6_carry lRX6_208 (by decide))) (CallOK_cons (site_same (rnV (pX6_carryAll_ok 141 _ rfl) ct_X6_carryK1 kX6_carry lRX6_208 (by decide))) (CallOK_cons (site_same (rnV (pX6_carryAll_ok 157 _ rfl) ct_X6_carryK1 kX6_carry lRX6_208 (by decide))) (CallOK_cons (site_same (rnV (pX6_carryAll_ok 173 _ rfl) ct_X6_carryK1 kX6_carry lRX6_208 (by decide))) (CallOK_cons (site_same (rnV (pX6_carryAll_ok 189 _ rfl) ct_X6_carryK1 kX6_carry lRX6_208 (by decide))) (CallOK_nil)))))))))))
theorem ct_X6_carryAllK1 : Ct yX6_carryAll cX6_carryAll 4 none 2 F_X6_carryAllK1 := by
  intro l D σ cA sz as w K h
  obtain ⟨s, q, t, im, ke, p0, tk, ki, rfl, rfl, h⟩ := h
  have m1 : upd ke 0 (iG s) = mx (enc s) ke 1 := by
    have := mx_succ (enc s) ke 0 (iG s) rfl
    rwa [mx_0] at this
  have m2 : upd (mx (enc s) ke 1) 1 (iT s) = mx (enc s) ke 2 := mx_succ _ _ 1 _ rfl
  have m3 : upd (mx (enc s) ke 2) 2 (iS s) = mx (enc s) ke 3 := mx_succ _ _ 2 _ rfl
  have m4 : upd (mx (enc s) ke 3) 3 (iA s) = mx (enc s) ke 4 := mx_succ _ _ 3 _ rfl
  have m5 : upd (mx (enc s) ke 4) 4 (iN s) = mx (enc s) ke 5 := mx_succ _ _ 4 _ rfl
  refine metL (pr := lkB pX6_carryAll) (rk := 0) (ct := ctb_X6_carryAll_K1) (fld := lkB flX6) (cst := lkB csX6) (cstL := lkB clX6) [(77, ([true, true, true, true], fun n lv st w => ∃ k, k ≤ 10 ∧ n = 100 - k ∧ lv = [some (sR 0), some (sR 16), some (sI 1), some (sI (nI k))] ∧ st = [] ∧ w = keW s q t im (mx (enc s) ke (5 + k)) (nI (5 + k)) 1 (some 16))), (107, ([true, true, true, true], fun n lv st w => ∃ g, g ≤ 7 ∧ n = 50 - g ∧ lv = [some (sR 0), some (sR 16), some (sI 1), some (sI (nI g))] ∧ st = [] ∧ w = keW s q t im (mx (enc s) ke (15 + 5 * g)) (nI (15 + 5 * g)) 1 (some 16)))] pX6_carryAll_ok kX6_carryAll.2.2.2.2.2.2.2 fdX6 cdX6 rto0 cok_X6_carryAll_K1 (Nat.le_of_ble_eq_true rfl) ?_ ?_ l D σ cA sz
  · refine List.forall_mem_cons.mpr ⟨?_, List.forall_mem_cons.mpr ⟨?_, cut0⟩⟩
    · rintro n lv st w ⟨k, hk, rfl, rfl, rfl, rfl⟩
      have ek : k < 10 → (nI k).toNatClampNeg = k := fun q => nI_clamp (by omega)
      conv => whnf
      refine ⟨fun hc => ?_, fun hc => ?_⟩
      · conv => whnf
        obtain rfl := lp_ge hk (by decide) hc
        exact ⟨50, by decide, 0, by decide, rfl, rfl, rfl, rfl⟩
      · have hlt := lp_lt hk (by decide) hc
        have hv : vp_in (nI k) 10 := vp_in_nI hlt (by decide)
        conv => whnf
        refine ⟨hv, ?_⟩
        conv => whnf
        refine ⟨s, q, t, im, mx (enc s) ke (5 + k), 5 + k, iP s (nI k).toNatClampNeg, rfl, rfl, by omega, ?_⟩
        rw [mx_succ _ _ _ _ (by rw [ek hlt, enc_P s hlt])]
        conv => whnf
        refine ⟨hv, ?_⟩
        conv => whnf
        exact ⟨100 - (k + 1), by omega, k + 1, hlt, rfl, by rw [← nI_1]; rfl, rfl, by rw [upd_self]; rfl⟩
    · rintro n lv st w ⟨g, hg, rfl, rfl, rfl, rfl⟩
      have eg : g < 7 → (nI g).toNatClampNeg = g := fun q => nI_clamp (by omega)
      conv => whnf
      refine ⟨fun hc => ?_, fun hc => ?_⟩
      · conv => whnf
        obtain rfl := lp_ge hg (by decide) hc
        exact h
      · have hlt := lp_lt hg (by decide) hc
        have hv : vp_in (nI g) 7 := vp_in_nI hlt (by decide)
        conv => whnf
        refine ⟨hv, ?_⟩
        conv => whnf
        refine ⟨s, q, t, im, mx (enc s) ke (15 + 5 * g), 15 + 5 * g, iK s (nI g).toNatClampNeg, rfl, rfl, by omega, ?_⟩
        rw [mx_succ _ _ _ _ (by rw [eg hlt, enc_K s g])]
        conv => whnf
        refine ⟨hv, ?_⟩
        conv => whnf
        refine ⟨hv, ?_⟩
        conv => whnf
        refine ⟨s, q, t, im, mx (enc s) ke (15 + 5 * g + 1), 15 + 5 * g + 1, iF s (nI g).toNatClampNeg, rfl, (by rw [upd_self]; rfl), by omega, ?_⟩
        rw [mx_succ _ _ _ _ (by rw [eg hlt, enc_F s g])]
        conv => whnf
        refine ⟨hv, ?_⟩
        conv => whnf
        refine ⟨hv, ?_⟩
        conv => whnf
        refine ⟨s, q, t, im, mx (enc s) ke (15 + 5 * g + 2), 15 + 5 * g + 2, iW s (nI g).toNatClampNeg, rfl, (by rw [upd_self]; rfl), by omega, ?_⟩
        rw [mx_succ _ _ _ _ (by rw [eg hlt, enc_W s g])]
        conv => whnf
        refine ⟨hv, ?_⟩
        conv => whnf
        refine ⟨hv, ?_⟩
        conv => whnf
        refine ⟨s, q, t, im, mx (enc s) ke (15 + 5 * g + 3), 15 + 5 * g + 3, iL s (nI g).toNatClampNeg, rfl, (by rw [upd_self]; rfl), by omega, ?_⟩
        rw [mx_succ _ _ _ _ (by rw [eg hlt, enc_L s g])]
        conv => whnf
        refine ⟨hv, ?_⟩
        conv => whnf
        refine ⟨hv, ?_⟩
        conv => whnf
        refine ⟨s, q, t, im, mx (enc s) ke (15 + 5 * g + 4), 15 + 5 * g + 4, iH s (nI g).toNatClampNeg, rfl, (by rw [upd_self]; rfl), by omega, ?_⟩
        rw [mx_succ _ _ _ _ (by rw [eg hlt, enc_H s g])]
        conv => whnf
        refine ⟨hv, ?_⟩
        conv => whnf
        exact ⟨50 - (g + 1), by omega, g + 1, hlt, rfl, by rw [← nI_1]; rfl, rfl, by rw [upd_self]; rfl⟩
  · conv => whnf
    refine ⟨Or.inr rfl, ?_⟩
    conv => whnf
    refine ⟨s, q, t, im, ke, 0, iG s, rfl, rfl, by decide, ?_⟩
    rw [m1]
    conv => whnf
    refine ⟨s, q, t, im, mx (enc s) ke 1, 1, iT s, rfl, rfl, by decide, ?_⟩
    rw [m2]
    conv => whnf
    refine ⟨s, q, t, im, mx (enc s) ke 2, 2, iS s, rfl, rfl, by decide, ?_⟩
    rw [m3]
    conv => whnf
    refine ⟨s, q, t, im, mx (enc s) ke 3, 3, iA s, rfl, rfl, by decide, ?_⟩
    rw [m4]
    conv => whnf
    refine ⟨s, q, t, im, mx (enc s) ke 4, 4, iN s, rfl, rfl, by decide, ?_⟩
    rw [m5]
    conv => whnf
    exact ⟨100, 0, by decide, rfl, rfl, rfl, rfl⟩
def F_X6_carryAllI1 : Fn := fun as w K => ∃ (s : InnS) (q : Pm) (t : Tm) (im ke : PA) (p0 tk : Int32) (ki : Option Nat), as = [sR 0, sR 17, sI 1] ∧ w = keW s q t im ke p0 tk ki ∧ K none (keW s q t (mx (enc s) im 50) ke (nI 50) 1 (some 17))
def ctb_X6_carryAll_I1 : List (Nat × (List sv → List sc → (List sv → List sc → Prop) → Prop)) := [(21, cS (some 4) 2 F_X6_carryI1), (33, cS (some 4) 2 F_X6_carryI1), (45, cS (some 4) 2 F_X6_carryI1), (57, cS (some 4) 2 F_X6_carryI1), (69, cS (some 4) 2 F_X6_carryI1), (95, cS (some 4) 2 F_X6_carryI1), (125, cS (some 4) 2 F_X6_carryI1), (141, cS (some 4) 2 F_X6_carryI1), (157, cS (some 4) 2 F_X6_carryI1), (173, cS (some 4) 2 F_X6_carryI1), (189, cS (some 4) 2 F_X6_carryI1)]
theorem cok_X6_carryAll_I1 : CallOK cX6_carryAll 4 none RX6 2 ctb_X6_carryAll_I1 := CallOK_cons (site_same (rnV (pX6_carryAll_ok 21 _ rfl) ct_X6_carryI1 kX6_carry lRX6_208 (by decide))) (CallOK_cons (site_same (rnV (pX6_carryAll_ok 33 _ rfl) ct_X6_carryI1 kX6_carry lRX6_208 (by decide))) (CallOK_cons (site_same (rnV (pX6_carryAll_ok 45 _ rfl) ct_X6_carryI1 kX6_carry lRX6_208 (by decide))) (CallOK_cons (site_same (rnV (pX6_carryAll_ok 57 _ rfl) ct_X6_carryI1 kX6_carry lRX6_208 (by decide))) (CallOK_cons (site_same (rnV (pX6_carryAll_ok 69 _ rfl) ct_X6_carryI1 kX6_carry lRX6_208 (by decide))) (CallOK_cons (site_same (rnV (pX6_carryAll_ok 95 _ rfl) ct_X6_carryI1 kX6_carry lRX6_208 (by decide))) (CallOK_cons (site_same (rnV (pX6_carryAll_ok 125 _ rfl) ct_X6_carryI1 kX6_carry lRX6_208 (by decide))) (CallOK_cons (site_same (rnV (pX6_carryAll_ok 141 _ rfl) ct_X6_carryI1 kX6_carry lRX6_208 (by decide))) (CallOK_cons (site_same (rnV (pX6_carryAll_ok 157 _ rfl) ct_X6_carryI1 kX6_carry lRX6_208 (by decide))) (CallOK_cons (site_same (rnV (pX6_carryAll_ok 173 _ rfl) ct_X6_carryI1 kX6_carry lRX6_208 (by decide))) (CallOK_cons (site_same (rnV (pX6_carryAll_ok 189 _ rfl) ct_X6_carryI1 kX6_carry lRX6_208 (by decide))) (CallOK_nil)))))))))))
theorem ct_X6_carryAllI1 : Ct yX6_carryAll cX6_carryAll 4 none 2 F_X6_carryAllI1 := by
  intro l D σ cA sz as w K h
  obtain ⟨s, q, t, im, ke, p0, tk, ki, rfl, rfl, h⟩ := h
  have m1 : upd im 0 (iG s) = mx (enc s) im 1 := by
    have := mx_succ (enc s) im 0 (iG s) rfl
    rwa [mx_0] at this
  have m2 : upd (mx (enc s) im 1) 1 (iT s) = mx (enc s) im 2 := mx_succ _ _ 1 _ rfl
  have m3 : upd (mx (enc s) im 2) 2 (iS s) = mx (enc s) im 3 := mx_succ _ _ 2 _ rfl
  have m4 : upd (mx (enc s) im 3) 3 (iA s) = mx (enc s) im 4 := mx_succ _ _ 3 _ rfl
  have m5 : upd (mx (enc s) im 4) 4 (iN s) = mx (enc s) im 5 := mx_succ _ _ 4 _ rfl
  refine metL (pr := lkB pX6_carryAll) (rk := 0) (ct := ctb_X6_carryAll_I1) (fld := lkB flX6) (cst := lkB csX6) (cstL := lkB clX6) [(77, ([true, true, true, true], fun n lv st w => ∃ k, k ≤ 10 ∧ n = 100 - k ∧ lv = [some (sR 0), some (sR 17), some (sI 1), some (sI (nI k))] ∧ st = [] ∧ w = keW s q t (mx (enc s) im (5 + k)) ke (nI (5 + k)) 1 (some 17))), (107, ([true, true, true, true], fun n lv st w => ∃ g, g ≤ 7 ∧ n = 50 - g ∧ lv = [some (sR 0), some (sR 17), some (sI 1), some (sI (nI g))] ∧ st = [] ∧ w = keW s q t (mx (enc s) im (15 + 5 * g)) ke (nI (15 + 5 * g)) 1 (some 17)))] pX6_carryAll_ok kX6_carryAll.2.2.2.2.2.2.2 fdX6 cdX6 rto0 cok_X6_carryAll_I1 (Nat.le_of_ble_eq_true rfl) ?_ ?_ l D σ cA sz
  · refine List.forall_mem_cons.mpr ⟨?_, List.forall_mem_cons.mpr ⟨?_, cut0⟩⟩
    · rintro n lv st w ⟨k, hk, rfl, rfl, rfl, rfl⟩
      have ek : k < 10 → (nI k).toNatClampNeg = k := fun q => nI_clamp (by omega)
      conv => whnf
      refine ⟨fun hc => ?_, fun hc => ?_⟩
      · conv => whnf
        obtain rfl := lp_ge hk (by decide) hc
        exact ⟨50, by decide, 0, by decide, rfl, rfl, rfl, rfl⟩
      · have hlt := lp_lt hk (by decide) hc
        have hv : vp_in (nI k) 10 := vp_in_nI hlt (by decide)
        conv => whnf
        refine ⟨hv, ?_⟩
        conv => whnf
        refine ⟨s, q, t, mx (enc s) im (5 + k), ke, 5 + k, iP s (nI k).toNatClampNeg, rfl, rfl, by omega, ?_⟩
        rw [mx_succ _ _ _ _ (by rw [ek hlt, enc_P s hlt])]
        conv => whnf
        refine ⟨hv, ?_⟩
        conv => whnf
        exact ⟨100 - (k + 1), by omega, k + 1, hlt, rfl, by rw [← nI_1]; rfl, rfl, by rw [upd_self]; rfl⟩
    · rintro n lv st w ⟨g, hg, rfl, rfl, rfl, rfl⟩
      have eg : g < 7 → (nI g).toNatClampNeg = g := fun q => nI_clamp (by omega)
      conv => whnf
      refine ⟨fun hc => ?_, fun hc => ?_⟩
      · conv => whnf
        obtain rfl := lp_ge hg (by decide) hc
        exact h
      · have hlt := lp_lt hg (by decide) hc
        have hv : vp_in (nI g) 7 := vp_in_nI hlt (by decide)
        conv => whnf
        refine ⟨hv, ?_⟩
        conv => whnf
        refine ⟨s, q, t, mx (enc s) im (15 + 5 * g), ke, 15 + 5 * g, iK s (nI g).toNatClampNeg, rfl, rfl, by omega, ?_⟩
        rw [mx_succ _ _ _ _ (by rw [eg hlt, enc_K s g])]
        conv => whnf
        refine ⟨hv, ?_⟩
        conv => whnf
        refine ⟨hv, ?_⟩
        conv => whnf
        refine ⟨s, q, t, mx (enc s) im (15 + 5 * g + 1), ke, 15 + 5 * g + 1, iF s (nI g).toNatClampNeg, rfl, (by rw [upd_self]; rfl), by omega, ?_⟩
        rw [mx_succ _ _ _ _ (by rw [eg hlt, enc_F s g])]
        conv => whnf
        refine ⟨hv, ?_⟩
        conv => whnf
        refine ⟨hv, ?_⟩
        conv => whnf
        refine ⟨s, q, t, mx (enc s) im (15 + 5 * g + 2), ke, 15 + 5 * g + 2, iW s (nI g).toNatClampNeg, rfl, (by rw [upd_self]; rfl), by omega, ?_⟩
        rw [mx_succ _ _ _ _ (by rw [eg hlt, enc_W s g])]
        conv => whnf
        refine ⟨hv, ?_⟩
        conv => whnf
        refine ⟨hv, ?_⟩
        conv => whnf
        refine ⟨s, q, t, mx (enc s) im (15 + 5 * g + 3), ke, 15 + 5 * g + 3, iL s (nI g).toNatClampNeg, rfl, (by rw [upd_self]; rfl), by omega, ?_⟩
        rw [mx_succ _ _ _ _ (by rw [eg hlt, enc_L s g])]
        conv => whnf
        refine ⟨hv, ?_⟩
        conv => whnf
        refine ⟨hv, ?_⟩
        conv => whnf
        refine ⟨s, q, t, mx (enc s) im (15 + 5 * g + 4), ke, 15 + 5 * g + 4, iH s (nI g).toNatClampNeg, rfl, (by rw [upd_self]; rfl), by omega, ?_⟩
        rw [mx_succ _ _ _ _ (by rw [eg hlt, enc_H s g])]
        conv => whnf
        refine ⟨hv, ?_⟩
        conv => whnf
        exact ⟨50 - (g + 1), by omega, g + 1, hlt, rfl, by rw [← nI_1]; rfl, rfl, by rw [upd_self]; rfl⟩
  · conv => whnf
    refine ⟨Or.inr rfl, ?_⟩
    conv => whnf
    refine ⟨s, q, t, im, ke, 0, iG s, rfl, rfl, by decide, ?_⟩
    rw [m1]
    conv => whnf
    refine ⟨s, q, t, mx (enc s) im 1, ke, 1, iT s, rfl, rfl, by decide, ?_⟩
    rw [m2]
    conv => whnf
    refine ⟨s, q, t, mx (enc s) im 2, ke, 2, iS s, rfl, rfl, by decide, ?_⟩
    rw [m3]
    conv => whnf
    refine ⟨s, q, t, mx (enc s) im 3, ke, 3, iA s, rfl, rfl, by decide, ?_⟩
    rw [m4]
    conv => whnf
    refine ⟨s, q, t, mx (enc s) im 4, ke, 4, iN s, rfl, rfl, by decide, ?_⟩
    rw [m5]
    conv => whnf
    exact ⟨100, 0, by decide, rfl, rfl, rfl, rfl⟩
/-- all but what the last night showed is of the other -/
abbrev rsS (s0 s : InnS) : InnS := (iK s0, iF s0, iW s0, iL s0, iH s0, iP s0, iG s0, iT s0, iN s0, iS s0, iA s0, iSn s, iLn s)
def F_X6_carryAllK0 : Fn := fun as w K => ∃ (s s0 : InnS) (q : Pm) (t : Tm) (im ke : PA) (p0 tk : Int32) (ki : Option Nat), as = [sR 0, sR 16, sI 0] ∧ w = keW s q t im ke p0 tk ki ∧ (∀ p, p < 50 → ke p = enc s0 p) ∧ ZB s ∧ ZB s0 ∧ K none (keW (rsS s0 s) q t im ke (nI 50) 0 (some 16))
def ctb_X6_carryAll_K0 : List (Nat × (List sv → List sc → (List sv → List sc → Prop) → Prop)) := [(21, cS (some 4) 2 F_X6_carryK0), (33, cS (some 4) 2 F_X6_carryK0), (45, cS (some 4) 2 F_X6_carryK0), (57, cS (some 4) 2 F_X6_carryK0), (69, cS (some 4) 2 F_X6_carryK0), (95, cS (some 4) 2 F_X6_carryK0), (125, cS (some 4) 2 F_X6_carryK0), (141, cS (some 4) 2 F_X6_carryK0), (157, cS (some 4) 2 F_X6_carryK0), (173, cS (some 4) 2 F_X6_carryK0), (189, cS (some 4) 2 F_X6_carryK0)]
theorem cok_X6_carryAll_K0 : CallOK cX6_carryAll 4 none RX6 2 ctb_X6_carryAll_K0 := CallOK_cons (site_same (rnV (pX6_carryAll_ok 21 _ rfl) ct_X6_carryK0 kX6_carry lRX6_208 (by decide))) (CallOK_cons (site_same (rnV (pX6_carryAll_ok 33 _ rfl) ct_X6_carryK0 kX6_carry lRX6_208 (by decide))) (CallOK_cons (site_same (rnV (pX6_carryAll_ok 45 _ rfl) ct_X6_carryK0 kX6_carry lRX6_208 (by decide))) (CallOK_cons (site_same (rnV (pX6_carryAll_ok 57 _ rfl) ct_X6_carryK0 kX6_carry lRX6_208 (by decide))) (CallOK_cons (site_same (rnV (pX6_carryAll_ok 69 _ rfl) ct_X6_carryK0 kX6_carry lRX6_208 (by decide))) (CallOK_cons (site_same (rnV (pX6_carryAll_ok 95 _ rfl) ct_X6_carryK0 kX6_carry lRX6_208 (by decide))) (CallOK_cons (site_same (rnV (pX6_carryAll_ok 125 _ rfl) ct_X6_carryK0 kX6_carry lRX6_208 (by decide))) (CallOK_cons (site_same (rnV (pX6_carryAll_ok 141 _ rfl) ct_X6_carryK0 kX6_carry lRX6_208 (by decide))) (CallOK_cons (site_same (rnV (pX6_carryAll_ok 157 _ rfl) ct_X6_carryK0 kX6_carry lRX6_208 (by decide))) (CallOK_cons (site_same (rnV (pX6_carryAll_ok 173 _ rfl) ct_X6_carryK0 kX6_carry lRX6_208 (by decide))) (CallOK_cons (site_same (rnV (pX6_carryAll_ok 189 _ rfl) ct_X6_carryK0 kX6_carry lRX6_208 (by decide))) (CallOK_nil)))))))))))
theorem ct_X6_carryAllK0 : Ct yX6_carryAll cX6_carryAll 4 none 2 F_X6_carryAllK0 := by
  intro l D σ cA sz as w K h
  obtain ⟨s, s0, q, t, im, ke, p0, tk, ki, rfl, rfl, hb, hZ, hZ0, h⟩ := h
  have b0 : ke 0 = iG s0 := (hb 0 (by decide)).trans rfl
  have b1 : ke 1 = iT s0 := (hb 1 (by decide)).trans rfl
  have b2 : ke 2 = iS s0 := (hb 2 (by decide)).trans rfl
  have b3 : ke 3 = iA s0 := (hb 3 (by decide)).trans rfl
  have b4 : ke 4 = iN s0 := (hb 4 (by decide)).trans rfl
  have bP : ∀ k, k < 10 → ke (5 + k) = iP s0 k := fun k hk => (hb _ (by omega)).trans (enc_P s0 hk)
  have bK : ∀ g, g < 7 → ke (15 + 5 * g) = iK s0 g := fun g hg => (hb _ (by omega)).trans (enc_K s0 g)
  have bF : ∀ g, g < 7 → ke (15 + 5 * g + 1) = iF s0 g := fun g hg => (hb _ (by omega)).trans (enc_F s0 g)
  have bW : ∀ g, g < 7 → ke (15 + 5 * g + 2) = iW s0 g := fun g hg => (hb _ (by omega)).trans (enc_W s0 g)
  have bL : ∀ g, g < 7 → ke (15 + 5 * g + 3) = iL s0 g := fun g hg => (hb _ (by omega)).trans (enc_L s0 g)
  have bH : ∀ g, g < 7 → ke (15 + 5 * g + 4) = iH s0 g := fun g hg => (hb _ (by omega)).trans (enc_H s0 g)
  refine metL (pr := lkB pX6_carryAll) (rk := 0) (ct := ctb_X6_carryAll_K0) (fld := lkB flX6) (cst := lkB csX6) (cstL := lkB clX6) [(77, ([true, true, true, true], fun n lv st w => ∃ k, k ≤ 10 ∧ n = 100 - k ∧ lv = [some (sR 0), some (sR 16), some (sI 0), some (sI (nI k))] ∧ st = [] ∧ w = keW (iK s, iF s, iW s, iL s, iH s, mx (iP s0) (iP s) k, iG s0, iT s0, iN s0, iS s0, iA s0, iSn s, iLn s) q t im ke (nI (5 + k)) 0 (some 16))), (107, ([true, true, true, true], fun n lv st w => ∃ g, g ≤ 7 ∧ n = 50 - g ∧ lv = [some (sR 0), some (sR 16), some (sI 0), some (sI (nI g))] ∧ st = [] ∧ w = keW (mx (iK s0) (iK s) g, mx (iF s0) (iF s) g, mx (iW s0) (iW s) g, mx (iL s0) (iL s) g, mx (iH s0) (iH s) g, mx (iP s0) (iP s) 10, iG s0, iT s0, iN s0, iS s0, iA s0, iSn s, iLn s) q t im ke (nI (15 + 5 * g)) 0 (some 16)))] pX6_carryAll_ok kX6_carryAll.2.2.2.2.2.2.2 fdX6 cdX6 rto0 cok_X6_carryAll_K0 (Nat.le_of_ble_eq_true rfl) ?_ ?_ l D σ cA sz
  · refine List.forall_mem_cons.mpr ⟨?_, List.forall_mem_cons.mpr ⟨?_, cut0⟩⟩
    · rintro n lv st w ⟨k, hk, rfl, rfl, rfl, rfl⟩
      have ek : k < 10 → (nI k).toNatClampNeg = k := fun q => nI_clamp (by omega)
      conv => whnf
      refine ⟨fun hc => ?_, fun hc => ?_⟩
      · conv => whnf
        obtain rfl := lp_ge hk (by decide) hc
        exact ⟨50, by decide, 0, by decide, rfl, rfl, rfl, by rw [mx_0, mx_0, mx_0, mx_0, mx_0]⟩
      · have hlt := lp_lt hk (by decide) hc
        have hv : vp_in (nI k) 10 := vp_in_nI hlt (by decide)
        conv => whnf
        refine ⟨hv, ?_⟩
        conv => whnf
        refine ⟨(iK s, iF s, iW s, iL s, iH s, mx (iP s0) (iP s) k, iG s0, iT s0, iN s0, iS s0, iA s0, iSn s, iLn s), q, t, im, ke, 5 + k, mx (iP s0) (iP s) k (nI k).toNatClampNeg, rfl, rfl, by omega, ?_⟩
        rw [bP k hlt]
        conv => whnf
        refine ⟨hv, ?_⟩
        conv => whnf
        exact ⟨100 - (k + 1), by omega, k + 1, hlt, rfl, by rw [← nI_1]; rfl, rfl, by rw [ek hlt, ← mx_succ (iP s0) (iP s) k _ rfl]; rfl⟩
    · rintro n lv st w ⟨g, hg, rfl, rfl, rfl, rfl⟩
      have eg : g < 7 → (nI g).toNatClampNeg = g := fun q => nI_clamp (by omega)
      conv => whnf
      refine ⟨fun hc => ?_, fun hc => ?_⟩
      · conv => whnf
        obtain rfl := lp_ge hg (by decide) hc
        refine kW h ?_
        rw [mx_full (fun j hj => (hZ0.1 j hj).1) (fun j hj => (hZ.1 j hj).1), mx_full (fun j hj => (hZ0.1 j hj).2.1) (fun j hj => (hZ.1 j hj).2.1), mx_full (fun j hj => (hZ0.1 j hj).2.2.1) (fun j hj => (hZ.1 j hj).2.2.1), mx_full (fun j hj => (hZ0.1 j hj).2.2.2.1) (fun j hj => (hZ.1 j hj).2.2.2.1), mx_full (fun j hj => (hZ0.1 j hj).2.2.2.2) (fun j hj => (hZ.1 j hj).2.2.2.2), mx_full hZ0.2 hZ.2]
      · have hlt := lp_lt hg (by decide) hc
        have hv : vp_in (nI g) 7 := vp_in_nI hlt (by decide)
        conv => whnf
        refine ⟨hv, ?_⟩
        conv => whnf
        refine ⟨(mx (iK s0) (iK s) g, mx (iF s0) (iF s) g, mx (iW s0) (iW s) g, mx (iL s0) (iL s) g, mx (iH s0) (iH s) g, mx (iP s0) (iP s) 10, iG s0, iT s0, iN s0, iS s0, iA s0, iSn s, iLn s), q, t, im, ke, 15 + 5 * g, mx (iK s0) (iK s) g (nI g).toNatClampNeg, rfl, rfl, by omega, ?_⟩
        rw [bK g hlt]
        conv => whnf
        refine ⟨hv, ?_⟩
        conv => whnf
        refine ⟨hv, ?_⟩
        conv => whnf
        refine ⟨(mx (iK s0) (iK s) (g + 1), mx (iF s0) (iF s) g, mx (iW s0) (iW s) g, mx (iL s0) (iL s) g, mx (iH s0) (iH s) g, mx (iP s0) (iP s) 10, iG s0, iT s0, iN s0, iS s0, iA s0, iSn s, iLn s), q, t, im, ke, 15 + 5 * g + 1, mx (iF s0) (iF s) g (nI g).toNatClampNeg, rfl, (by rw [eg hlt, ← mx_succ (iK s0) (iK s) g _ rfl]; rfl), by omega, ?_⟩
        rw [bF g hlt]
        conv => whnf
        refine ⟨hv, ?_⟩
        conv => whnf
        refine ⟨hv, ?_⟩
        conv => whnf
        refine ⟨(mx (iK s0) (iK s) (g + 1), mx (iF s0) (iF s) (g + 1), mx (iW s0) (iW s) g, mx (iL s0) (iL s) g, mx (iH s0) (iH s) g, mx (iP s0) (iP s) 10, iG s0, iT s0, iN s0, iS s0, iA s0, iSn s, iLn s), q, t, im, ke, 15 + 5 * g + 2, mx (iW s0) (iW s) g (nI g).toNatClampNeg, rfl, (by rw [eg hlt, ← mx_succ (iF s0) (iF s) g _ rfl]; rfl), by omega, ?_⟩
        rw [bW g hlt]
        conv => whnf
        refine ⟨hv, ?_⟩
        conv => whnf
        refine ⟨hv, ?_⟩
        conv => whnf
        refine ⟨(mx (iK s0) (iK s) (g + 1), mx (iF s0) (iF s) (g + 1), mx (iW s0) (iW s) (g + 1), mx (iL s0) (iL s) g, mx (iH s0) (iH s) g, mx (iP s0) (iP s) 10, iG s0, iT s0, iN s0, iS s0, iA s0, iSn s, iLn s), q, t, im, ke, 15 + 5 * g + 3, mx (iL s0) (iL s) g (nI g).toNatClampNeg, rfl, (by rw [eg hlt, ← mx_succ (iW s0) (iW s) g _ rfl]; rfl), by omega, ?_⟩
        rw [bL g hlt]
        conv => whnf
        refine ⟨hv, ?_⟩
        conv => whnf
        refine ⟨hv, ?_⟩
        conv => whnf
        refine ⟨(mx (iK s0) (iK s) (g + 1), mx (iF s0) (iF s) (g + 1), mx (iW s0) (iW s) (g + 1), mx (iL s0) (iL s) (g + 1), mx (iH s0) (iH s) g, mx (iP s0) (iP s) 10, iG s0, iT s0, iN s0, iS s0, iA s0, iSn s, iLn s), q, t, im, ke, 15 + 5 * g + 4, mx (iH s0) (iH s) g (nI g).toNatClampNeg, rfl, (by rw [eg hlt, ← mx_succ (iL s0) (iL s) g _ rfl]; rfl), by omega, ?_⟩
        rw [bH g hlt]
        conv => whnf
        refine ⟨hv, ?_⟩
        conv => whnf
        exact ⟨50 - (g + 1), by omega, g + 1, hlt, rfl, by rw [← nI_1]; rfl, rfl, by rw [eg hlt, ← mx_succ (iH s0) (iH s) g _ rfl]; rfl⟩
  · conv => whnf
    refine ⟨Or.inl rfl, ?_⟩
    conv => whnf
    refine ⟨(iK s, iF s, iW s, iL s, iH s, iP s, iG s, iT s, iN s, iS s, iA s, iSn s, iLn s), q, t, im, ke, 0, iG s, rfl, rfl, by decide, ?_⟩
    rw [b0]
    conv => whnf
    refine ⟨(iK s, iF s, iW s, iL s, iH s, iP s, iG s0, iT s, iN s, iS s, iA s, iSn s, iLn s), q, t, im, ke, 1, iT s, rfl, rfl, by decide, ?_⟩
    rw [b1]
    conv => whnf
    refine ⟨(iK s, iF s, iW s, iL s, iH s, iP s, iG s0, iT s0, iN s, iS s, iA s, iSn s, iLn s), q, t, im, ke, 2, iS s, rfl, rfl, by decide, ?_⟩
    rw [b2]
    conv => whnf
    refine ⟨(iK s, iF s, iW s, iL s, iH s, iP s, iG s0, iT s0, iN s, iS s0, iA s, iSn s, iLn s), q, t, im, ke, 3, iA s, rfl, rfl, by decide, ?_⟩
    rw [b3]
    conv => whnf
    refine ⟨(iK s, iF s, iW s, iL s, iH s, iP s, iG s0, iT s0, iN s, iS s0, iA s0, iSn s, iLn s), q, t, im, ke, 4, iN s, rfl, rfl, by decide, ?_⟩
    rw [b4]
    conv => whnf
    exact ⟨100, 0, by decide, rfl, rfl, rfl, by rw [mx_0]; rfl⟩
def F_X6_carryAllI0 : Fn := fun as w K => ∃ (s s0 : InnS) (q : Pm) (t : Tm) (im ke : PA) (p0 tk : Int32) (ki : Option Nat), as = [sR 0, sR 17, sI 0] ∧ w = keW s q t im ke p0 tk ki ∧ (∀ p, p < 50 → im p = enc s0 p) ∧ ZB s ∧ ZB s0 ∧ K none (keW (rsS s0 s) q t im ke (nI 50) 0 (some 17))
def ctb_X6_carryAll_I0 : List (Nat × (List sv → List sc → (List sv → List sc → Prop) → Prop)) := [(21, cS (some 4) 2 F_X6_carryI0), (33, cS (some 4) 2 F_X6_carryI0), (45, cS (some 4) 2 F_X6_carryI0), (57, cS (some 4) 2 F_X6_carryI0), (69, cS (some 4) 2 F_X6_carryI0), (95, cS (some 4) 2 F_X6_carryI0), (125, cS (some 4) 2 F_X6_carryI0), (141, cS (some 4) 2 F_X6_carryI0), (157, cS (some 4) 2 F_X6_carryI0), (173, cS (some 4) 2 F_X6_carryI0), (189, cS (some 4) 2 F_X6_carryI0)]
theorem cok_X6_carryAll_I0 : CallOK cX6_carryAll 4 none RX6 2 ctb_X6_carryAll_I0 := CallOK_cons (site_same (rnV (pX6_carryAll_ok 21 _ rfl) ct_X6_carryI0 kX6_carry lRX6_208 (by decide))) (CallOK_cons (site_same (rnV (pX6_carryAll_ok 33 _ rfl) ct_X6_carryI0 kX6_carry lRX6_208 (by decide))) (CallOK_cons (site_same (rnV (pX6_carryAll_ok 45 _ rfl) ct_X6_carryI0 kX6_carry lRX6_208 (by decide))) (CallOK_cons (site_same (rnV (pX6_carryAll_ok 57 _ rfl) ct_X6_carryI0 kX6_carry lRX6_208 (by decide))) (CallOK_cons (site_same (rnV (pX6_carryAll_ok 69 _ rfl) ct_X6_carryI0 kX6_carry lRX6_208 (by decide))) (CallOK_cons (site_same (rnV (pX6_carryAll_ok 95 _ rfl) ct_X6_carryI0 kX6_carry lRX6_208 (by decide))) (CallOK_cons (site_same (rnV (pX6_carryAll_ok 125 _ rfl) ct_X6_carryI0 kX6_carry lRX6_208 (by decide))) (CallOK_cons (site_same (rnV (pX6_carryAll_ok 141 _ rfl) ct_X6_carryI0 kX6_carry lRX6_208 (by decide))) (CallOK_cons (site_same (rnV (pX6_carryAll_ok 157 _ rfl) ct_X6_carryI0 kX6_carry lRX6_208 (by decide))) (CallOK_cons (site_same (rnV (pX6_carryAll_ok 173 _ rfl) ct_X6_carryI0 kX6_carry lRX6_208 (by decide))) (CallOK_cons (site_same (rnV (pX6_carryAll_ok 189 _ rfl) ct_X6_carryI0 kX6_carry lRX6_208 (by decide))) (CallOK_nil)))))))))))
theorem ct_X6_carryAllI0 : Ct yX6_carryAll cX6_carryAll 4 none 2 F_X6_carryAllI0 := by
  intro l D σ cA sz as w K h
  obtain ⟨s, s0, q, t, im, ke, p0, tk, ki, rfl, rfl, hb, hZ, hZ0, h⟩ := h
  have b0 : im 0 = iG s0 := (hb 0 (by decide)).trans rfl
  have b1 : im 1 = iT s0 := (hb 1 (by decide)).trans rfl
  have b2 : im 2 = iS s0 := (hb 2 (by decide)).trans rfl
  have b3 : im 3 = iA s0 := (hb 3 (by decide)).trans rfl
  have b4 : im 4 = iN s0 := (hb 4 (by decide)).trans rfl
  have bP : ∀ k, k < 10 → im (5 + k) = iP s0 k := fun k hk => (hb _ (by omega)).trans (enc_P s0 hk)
  have bK : ∀ g, g < 7 → im (15 + 5 * g) = iK s0 g := fun g hg => (hb _ (by omega)).trans (enc_K s0 g)
  have bF : ∀ g, g < 7 → im (15 + 5 * g + 1) = iF s0 g := fun g hg => (hb _ (by omega)).trans (enc_F s0 g)
  have bW : ∀ g, g < 7 → im (15 + 5 * g + 2) = iW s0 g := fun g hg => (hb _ (by omega)).trans (enc_W s0 g)
  have bL : ∀ g, g < 7 → im (15 + 5 * g + 3) = iL s0 g := fun g hg => (hb _ (by omega)).trans (enc_L s0 g)
  have bH : ∀ g, g < 7 → im (15 + 5 * g + 4) = iH s0 g := fun g hg => (hb _ (by omega)).trans (enc_H s0 g)
  refine metL (pr := lkB pX6_carryAll) (rk := 0) (ct := ctb_X6_carryAll_I0) (fld := lkB flX6) (cst := lkB csX6) (cstL := lkB clX6) [(77, ([true, true, true, true], fun n lv st w => ∃ k, k ≤ 10 ∧ n = 100 - k ∧ lv = [some (sR 0), some (sR 17), some (sI 0), some (sI (nI k))] ∧ st = [] ∧ w = keW (iK s, iF s, iW s, iL s, iH s, mx (iP s0) (iP s) k, iG s0, iT s0, iN s0, iS s0, iA s0, iSn s, iLn s) q t im ke (nI (5 + k)) 0 (some 17))), (107, ([true, true, true, true], fun n lv st w => ∃ g, g ≤ 7 ∧ n = 50 - g ∧ lv = [some (sR 0), some (sR 17), some (sI 0), some (sI (nI g))] ∧ st = [] ∧ w = keW (mx (iK s0) (iK s) g, mx (iF s0) (iF s) g, mx (iW s0) (iW s) g, mx (iL s0) (iL s) g, mx (iH s0) (iH s) g, mx (iP s0) (iP s) 10, iG s0, iT s0, iN s0, iS s0, iA s0, iSn s, iLn s) q t im ke (nI (15 + 5 * g)) 0 (some 17)))] pX6_carryAll_ok kX6_carryAll.2.2.2.2.2.2.2 fdX6 cdX6 rto0 cok_X6_carryAll_I0 (Nat.le_of_ble_eq_true rfl) ?_ ?_ l D σ cA sz
  · refine List.forall_mem_cons.mpr ⟨?_, List.forall_mem_cons.mpr ⟨?_, cut0⟩⟩
    · rintro n lv st w ⟨k, hk, rfl, rfl, rfl, rfl⟩
      have ek : k < 10 → (nI k).toNatClampNeg = k := fun q => nI_clamp (by omega)
      conv => whnf
      refine ⟨fun hc => ?_, fun hc => ?_⟩
      · conv => whnf
        obtain rfl := lp_ge hk (by decide) hc
        exact ⟨50, by decide, 0, by decide, rfl, rfl, rfl, by rw [mx_0, mx_0, mx_0, mx_0, mx_0]⟩
      · have hlt := lp_lt hk (by decide) hc
        have hv : vp_in (nI k) 10 := vp_in_nI hlt (by decide)
        conv => whnf
        refine ⟨hv, ?_⟩
        conv => whnf
        refine ⟨(iK s, iF s, iW s, iL s, iH s, mx (iP s0) (iP s) k, iG s0, iT s0, iN s0, iS s0, iA s0, iSn s, iLn s), q, t, im, ke, 5 + k, mx (iP s0) (iP s) k (nI k).toNatClampNeg, rfl, rfl, by omega, ?_⟩
        rw [bP k hlt]
        conv => whnf
        refine ⟨hv, ?_⟩
        conv => whnf
        exact ⟨100 - (k + 1), by omega, k + 1, hlt, rfl, by rw [← nI_1]; rfl, rfl, by rw [ek hlt, ← mx_succ (iP s0) (iP s) k _ rfl]; rfl⟩
    · rintro n lv st w ⟨g, hg, rfl, rfl, rfl, rfl⟩
      have eg : g < 7 → (nI g).toNatClampNeg = g := fun q => nI_clamp (by omega)
      conv => whnf
      refine ⟨fun hc => ?_, fun hc => ?_⟩
      · conv => whnf
        obtain rfl := lp_ge hg (by decide) hc
        refine kW h ?_
        rw [mx_full (fun j hj => (hZ0.1 j hj).1) (fun j hj => (hZ.1 j hj).1), mx_full (fun j hj => (hZ0.1 j hj).2.1) (fun j hj => (hZ.1 j hj).2.1), mx_full (fun j hj => (hZ0.1 j hj).2.2.1) (fun j hj => (hZ.1 j hj).2.2.1), mx_full (fun j hj => (hZ0.1 j hj).2.2.2.1) (fun j hj => (hZ.1 j hj).2.2.2.1), mx_full (fun j hj => (hZ0.1 j hj).2.2.2.2) (fun j hj => (hZ.1 j hj).2.2.2.2), mx_full hZ0.2 hZ.2]
      · have hlt := lp_lt hg (by decide) hc
        have hv : vp_in (nI g) 7 := vp_in_nI hlt (by decide)
        conv => whnf
        refine ⟨hv, ?_⟩
        conv => whnf
        refine ⟨(mx (iK s0) (iK s) g, mx (iF s0) (iF s) g, mx (iW s0) (iW s) g, mx (iL s0) (iL s) g, mx (iH s0) (iH s) g, mx (iP s0) (iP s) 10, iG s0, iT s0, iN s0, iS s0, iA s0, iSn s, iLn s), q, t, im, ke, 15 + 5 * g, mx (iK s0) (iK s) g (nI g).toNatClampNeg, rfl, rfl, by omega, ?_⟩
        rw [bK g hlt]
        conv => whnf
        refine ⟨hv, ?_⟩
        conv => whnf
        refine ⟨hv, ?_⟩
        conv => whnf
        refine ⟨(mx (iK s0) (iK s) (g + 1), mx (iF s0) (iF s) g, mx (iW s0) (iW s) g, mx (iL s0) (iL s) g, mx (iH s0) (iH s) g, mx (iP s0) (iP s) 10, iG s0, iT s0, iN s0, iS s0, iA s0, iSn s, iLn s), q, t, im, ke, 15 + 5 * g + 1, mx (iF s0) (iF s) g (nI g).toNatClampNeg, rfl, (by rw [eg hlt, ← mx_succ (iK s0) (iK s) g _ rfl]; rfl), by omega, ?_⟩
        rw [bF g hlt]
        conv => whnf
        refine ⟨hv, ?_⟩
        conv => whnf
        refine ⟨hv, ?_⟩
        conv => whnf
        refine ⟨(mx (iK s0) (iK s) (g + 1), mx (iF s0) (iF s) (g + 1), mx (iW s0) (iW s) g, mx (iL s0) (iL s) g, mx (iH s0) (iH s) g, mx (iP s0) (iP s) 10, iG s0, iT s0, iN s0, iS s0, iA s0, iSn s, iLn s), q, t, im, ke, 15 + 5 * g + 2, mx (iW s0) (iW s) g (nI g).toNatClampNeg, rfl, (by rw [eg hlt, ← mx_succ (iF s0) (iF s) g _ rfl]; rfl), by omega, ?_⟩
        rw [bW g hlt]
        conv => whnf
        refine ⟨hv, ?_⟩
        conv => whnf
        refine ⟨hv, ?_⟩
        conv => whnf
        refine ⟨(mx (iK s0) (iK s) (g + 1), mx (iF s0) (iF s) (g + 1), mx (iW s0) (iW s) (g + 1), mx (iL s0) (iL s) g, mx (iH s0) (iH s) g, mx (iP s0) (iP s) 10, iG s0, iT s0, iN s0, iS s0, iA s0, iSn s, iLn s), q, t, im, ke, 15 + 5 * g + 3, mx (iL s0) (iL s) g (nI g).toNatClampNeg, rfl, (by rw [eg hlt, ← mx_succ (iW s0) (iW s) g _ rfl]; rfl), by omega, ?_⟩
        rw [bL g hlt]
        conv => whnf
        refine ⟨hv, ?_⟩
        conv => whnf
        refine ⟨hv, ?_⟩
        conv => whnf
        refine ⟨(mx (iK s0) (iK s) (g + 1), mx (iF s0) (iF s) (g + 1), mx (iW s0) (iW s) (g + 1), mx (iL s0) (iL s) (g + 1), mx (iH s0) (iH s) g, mx (iP s0) (iP s) 10, iG s0, iT s0, iN s0, iS s0, iA s0, iSn s, iLn s), q, t, im, ke, 15 + 5 * g + 4, mx (iH s0) (iH s) g (nI g).toNatClampNeg, rfl, (by rw [eg hlt, ← mx_succ (iL s0) (iL s) g _ rfl]; rfl), by omega, ?_⟩
        rw [bH g hlt]
        conv => whnf
        refine ⟨hv, ?_⟩
        conv => whnf
        exact ⟨50 - (g + 1), by omega, g + 1, hlt, rfl, by rw [← nI_1]; rfl, rfl, by rw [eg hlt, ← mx_succ (iH s0) (iH s) g _ rfl]; rfl⟩
  · conv => whnf
    refine ⟨Or.inl rfl, ?_⟩
    conv => whnf
    refine ⟨(iK s, iF s, iW s, iL s, iH s, iP s, iG s, iT s, iN s, iS s, iA s, iSn s, iLn s), q, t, im, ke, 0, iG s, rfl, rfl, by decide, ?_⟩
    rw [b0]
    conv => whnf
    refine ⟨(iK s, iF s, iW s, iL s, iH s, iP s, iG s0, iT s, iN s, iS s, iA s, iSn s, iLn s), q, t, im, ke, 1, iT s, rfl, rfl, by decide, ?_⟩
    rw [b1]
    conv => whnf
    refine ⟨(iK s, iF s, iW s, iL s, iH s, iP s, iG s0, iT s0, iN s, iS s, iA s, iSn s, iLn s), q, t, im, ke, 2, iS s, rfl, rfl, by decide, ?_⟩
    rw [b2]
    conv => whnf
    refine ⟨(iK s, iF s, iW s, iL s, iH s, iP s, iG s0, iT s0, iN s, iS s0, iA s, iSn s, iLn s), q, t, im, ke, 3, iA s, rfl, rfl, by decide, ?_⟩
    rw [b3]
    conv => whnf
    refine ⟨(iK s, iF s, iW s, iL s, iH s, iP s, iG s0, iT s0, iN s, iS s0, iA s0, iSn s, iLn s), q, t, im, ke, 4, iN s, rfl, rfl, by decide, ?_⟩
    rw [b4]
    conv => whnf
    exact ⟨100, 0, by decide, rfl, rfl, rfl, by rw [mx_0]; rfl⟩
end
section
/-! ===== the reference: looking ahead ===== -/
/-- the scratch is the same but for what is kept -/
def SK (t t' : Tm) : Prop := (tSy t' = tSy t ∧ tMr t' = tMr t ∧ tTh t' = tTh t) ∧ (tRd t' = tRd t ∧ tPl t' = tPl t ∧ tBd t' = tBd t ∧ tSt t' = tSt t) ∧ (tPi t' = tPi t ∧ tLo t' = tLo t ∧ tTo t' = tTo t) ∧ tDr t' = tDr t ∧ tCe t' = tCe t ∧ tGa t' = tGa t ∧ tSd t' = tSd t ∧ tBt t' = tBt t
theorem SK.rf (t : Tm) : SK t t := ⟨⟨rfl, rfl, rfl⟩, ⟨rfl, rfl, rfl, rfl⟩, ⟨rfl, rfl, rfl⟩, rfl, rfl, rfl, rfl, rfl⟩
theorem SK.tr {a b c : Tm} (h : SK a b) (g : SK b c) : SK a c := ⟨⟨g.1.1.trans h.1.1, g.1.2.1.trans h.1.2.1, g.1.2.2.trans h.1.2.2⟩, ⟨g.2.1.1.trans h.2.1.1, g.2.1.2.1.trans h.2.1.2.1, g.2.1.2.2.1.trans h.2.1.2.2.1, g.2.1.2.2.2.trans h.2.1.2.2.2⟩, ⟨g.2.2.1.1.trans h.2.2.1.1, g.2.2.1.2.1.trans h.2.2.1.2.1, g.2.2.1.2.2.trans h.2.2.1.2.2⟩, g.2.2.2.1.trans h.2.2.2.1, g.2.2.2.2.1.trans h.2.2.2.2.1, g.2.2.2.2.2.1.trans h.2.2.2.2.2.1, g.2.2.2.2.2.2.1.trans h.2.2.2.2.2.2.1, g.2.2.2.2.2.2.2.trans h.2.2.2.2.2.2.2⟩
/-- s is kept -/
def KP (s : InnS) (t : Tm) : Prop := ∀ p, p < 50 → tKe t p = enc s p
def F_X6_think : Fn := fun as w K => ∃ (s : InnS) (q : Pm) (t : Tm), as = [sR 0] ∧ w = modW s q t ∧ ∀ t', SK t t' → KP s t' → K none (modW s q t')
def ctb_X6_think : List (Nat × (List sv → List sc → (List sv → List sc → Prop) → Prop)) := [(6, cS (some 4) 3 F_X6_carryAllK1)]
theorem cok_X6_think : CallOK cX6_think 1 none RX6 3 ctb_X6_think := CallOK_cons (site_same (rnV (pX6_think_ok 6 _ rfl) ct_X6_carryAllK1 kX6_carryAll lRX6_211 (by decide))) (CallOK_nil)
theorem ct_X6_think : Ct yX6_think cX6_think 1 none 3 F_X6_think := by
  intro l D σ cA sz as w K h
  obtain ⟨s, q, t, rfl, rfl, h⟩ := h
  refine metL (pr := lkB pX6_think) (rk := 0) (ct := ctb_X6_think) (fld := lkB flX6) (cst := lkB csX6) (cstL := lkB clX6) [] pX6_think_ok kX6_think.2.2.2.2.2.2.2 fdX6 cdX6 rto0 cok_X6_think (Nat.le_of_ble_eq_true rfl) cut0 ?_ l D σ cA sz
  conv => whnf
  refine ⟨s, q, t, qI q, tKe t, tP0 t, tTk t, tKi t, rfl, rfl, ?_⟩
  conv => whnf
  exact h (tSy t, tMr t, tTh t, tRd t, tPl t, tBd t, tSt t, tPi t, tLo t, tTo t, mx (enc s) (tKe t) 50, nI 50, 1, some 16, tDr t, tCe t, tGa t, tSd t, tBt t) (SK.rf t) (fun p hp => by show mx (enc s) (tKe t) 50 p = enc s p; rw [mx, if_pos hp])
def F_X6_again : Fn := fun as w K => ∃ (s s0 : InnS) (q : Pm) (t : Tm), as = [sR 0] ∧ w = modW s q t ∧ KP s0 t ∧ ZB s ∧ ZB s0 ∧ ∀ t', SK t t' → KP s0 t' → K none (modW (rsS s0 s) q t')
def ctb_X6_again : List (Nat × (List sv → List sc → (List sv → List sc → Prop) → Prop)) := [(6, cS (some 4) 3 F_X6_carryAllK0)]
theorem cok_X6_again : CallOK cX6_again 1 none RX6 3 ctb_X6_again := CallOK_cons (site_same (rnV (pX6_again_ok 6 _ rfl) ct_X6_carryAllK0 kX6_carryAll lRX6_211 (by decide))) (CallOK_nil)
theorem ct_X6_again : Ct yX6_again cX6_again 1 none 3 F_X6_again := by
  intro l D σ cA sz as w K h
  obtain ⟨s, s0, q, t, rfl, rfl, hk, hz, hz0, h⟩ := h
  refine metL (pr := lkB pX6_again) (rk := 0) (ct := ctb_X6_again) (fld := lkB flX6) (cst := lkB csX6) (cstL := lkB clX6) [] pX6_again_ok kX6_again.2.2.2.2.2.2.2 fdX6 cdX6 rto0 cok_X6_again (Nat.le_of_ble_eq_true rfl) cut0 ?_ l D σ cA sz
  conv => whnf
  refine ⟨s, s0, q, t, qI q, tKe t, tP0 t, tTk t, tKi t, rfl, rfl, hk, hz, hz0, ?_⟩
  conv => whnf
  exact h (tSy t, tMr t, tTh t, tRd t, tPl t, tBd t, tSt t, tPi t, tLo t, tTo t, tKe t, nI 50, 0, some 16, tDr t, tCe t, tGa t, tSd t, tBt t) (SK.rf t) hk
/-- no night is under way -/
def TZ (t : Tm) : Prop := tSy t = 0 ∧ tMr t = 0
theorem SK.tz {t t' : Tm} (h : SK t t') (hz : TZ t) : TZ t' := ⟨h.1.1.trans hz.1, h.1.2.1.trans hz.2⟩
theorem t0_w (s : InnS) (q : Pm) {t : Tm} (h : TZ t) : modW s q (t0S t) = modW s q t := by
  show modX s _ _ _ _ _ _ _ _ 0 0 _ _ _ _ _ _ _ _ _ _ _ _ _ _ _ _ _ = _
  rw [modW, h.1, h.2]
  rfl
def F_X6_goNights : Fn := fun as w K => ∃ (s : InnS) (q : Pm) (t : Tm) (n N : Nat), as = [sR 0, sI (nI n)] ∧ w = modW s q t ∧ TZ t ∧ GS s ∧ iN s = nI N ∧ N + n < 90000 ∧ K none (modW (nightsS n s) q t)
def ctb_X6_goNights : List (Nat × (List sv → List sc → (List sv → List sc → Prop) → Prop)) := [(8, cS (some 4) 1 F_X6_nightOn)]
theorem cok_X6_goNights : CallOK cX6_goNights 3 none RX6 5 ctb_X6_goNights := CallOK_cons (site_same (rnV (pX6_goNights_ok 8 _ rfl) ct_X6_nightOn kX6_nightOn lRX6_132 (by decide))) (CallOK_nil)
theorem ct_X6_goNights : Ct yX6_goNights cX6_goNights 3 none 5 F_X6_goNights := by
  intro l D σ cA sz as w K h
  obtain ⟨s, q, t, m, N, rfl, rfl, hT, hGS, hN, hN2, h⟩ := h
  refine metL (pr := lkB pX6_goNights) (rk := 0) (ct := ctb_X6_goNights) (fld := lkB flX6) (cst := lkB csX6) (cstL := lkB clX6) [(2, ([true, true, true], fun n lv st w => ∃ j, j ≤ m ∧ n = m - j ∧ lv = [some (sR 0), some (sI (nI m)), some (sI (nI j))] ∧ st = [] ∧ w = modW (nightsS j s) q t))] pX6_goNights_ok kX6_goNights.2.2.2.2.2.2.2 fdX6 cdX6 rto0 cok_X6_goNights (Nat.le_of_ble_eq_true rfl) ?_ ?_ l D σ cA sz
  · refine List.forall_mem_cons.mpr ⟨?_, cut0⟩
    rintro n lv st w ⟨j, hj, rfl, rfl, rfl, rfl⟩
    obtain ⟨g1, g2⟩ := nights_keep hGS hN j (by omega)
    have hsuc : nightsS (j + 1) s = nightS 0 0 (nightsS j s) := rfl
    conv => whnf
    refine ⟨fun hc => ?_, fun hc => ?_⟩
    · conv => whnf
      obtain rfl := lp_ge hj (by omega) hc
      exact h
    · have hjm := lp_lt hj (by omega) hc
      conv => whnf
      refine ⟨nightsS j s, q, t, N + j, rfl, rfl, g1, g2, by omega, ?_⟩
      rw [t0_w _ _ hT, hT.1, hT.2, ← hsuc]
      conv => whnf
      exact ⟨m - (j + 1), by omega, j + 1, hjm, rfl, by rw [← nI_1]; rfl, rfl, rfl⟩
  · skip
    repeat' ((conv => whnf); (first | refine And.intro (by first | decide | with_reducible assumption) ?_ | with_reducible refine And.intro (fun hc => ?_) (fun hc => ?_) | with_reducible refine And.intro (fun hc => ?_) ?_ | fail))
    all_goals try (conv => whnf)
    exact ⟨m, 0, Nat.zero_le _, rfl, rfl, rfl, rfl⟩
def F_X6_allPlates : Fn := fun as w K => ∃ (s : InnS) (q : Pm) (t : Tm), as = [sR 0] ∧ w = modW s q t ∧ K (some (.inl (bx_sum (iP s) 10))) w
def ctb_X6_allPlates : List (Nat × (List sv → List sc → (List sv → List sc → Prop) → Prop)) := []
theorem cok_X6_allPlates : CallOK cX6_allPlates 3 (some .int) RX6 1 ctb_X6_allPlates := CallOK_nil
theorem ct_X6_allPlates : Ct yX6_allPlates cX6_allPlates 3 (some .int) 1 F_X6_allPlates := by
  intro l D σ cA sz as w K h
  obtain ⟨s, q, t, rfl, rfl, h⟩ := h
  refine metL (pr := lkB pX6_allPlates) (rk := 1) (ct := ctb_X6_allPlates) (fld := lkB flX6) (cst := lkB csX6) (cstL := lkB clX6) [(4, ([true, true, true], fun n lv st w => ∃ j, j ≤ 10 ∧ n = 10 - j ∧ lv = [some (sR 0), some (sI (bx_sum (iP s) j)), some (sI (nI j))] ∧ st = [] ∧ w = modW s q t))] pX6_allPlates_ok kX6_allPlates.2.2.2.2.2.2.2 fdX6 cdX6 rto1 cok_X6_allPlates (Nat.le_of_ble_eq_true rfl) ?_ ?_ l D σ cA sz
  · refine List.forall_mem_cons.mpr ⟨?_, cut0⟩
    rintro n lv st w ⟨j, hj, rfl, rfl, rfl, rfl⟩
    conv => whnf
    refine ⟨fun hc => ?_, fun hc => ?_⟩
    · conv => whnf
      obtain rfl := lp_ge hj (by decide) hc
      exact h
    · have hlt := lp_lt hj (by decide) hc
      have hv : vp_in (nI j) 10 := vp_in_nI hlt (by decide)
      repeat' ((conv => whnf); (first | refine And.intro (by first | decide | with_reducible assumption) ?_ | with_reducible refine And.intro (fun hc => ?_) (fun hc => ?_) | with_reducible refine And.intro (fun hc => ?_) ?_ | fail))
      all_goals try (conv => whnf)
      exact ⟨10 - (j + 1), by omega, j + 1, hlt, rfl, by rw [← nI_1, nI_clamp (n := j) (by omega)]; rfl, rfl, rfl⟩
  · skip
    repeat' ((conv => whnf); (first | refine And.intro (by first | decide | with_reducible assumption) ?_ | with_reducible refine And.intro (fun hc => ?_) (fun hc => ?_) | with_reducible refine And.intro (fun hc => ?_) ?_ | fail))
    all_goals try (conv => whnf)
    exact ⟨10, 0, Nat.zero_le _, rfl, rfl, rfl, rfl⟩
def F_X6_dreamsNext : Fn := fun as w K => ∃ (s : InnS) (q : Pm) (t : Tm) (g : Int32), as = [sR 0, sI g] ∧ w = modW s q t ∧ vp_in g 7 ∧ 0 < iF s (ix g) + 2 ∧ K (some (.inl (ndS s g))) w
def ctb_X6_dreamsNext : List (Nat × (List sv → List sc → (List sv → List sc → Prop) → Prop)) := [(5, cS none 2 F_X6_hasBit), (19, cS (some 4) 3 F_X6_dreamsOf)]
theorem cok_X6_dreamsNext : CallOK cX6_dreamsNext 2 (some .int) RX6 2 ctb_X6_dreamsNext := CallOK_cons (site_same (rnS (pX6_dreamsNext_ok 5 _ rfl) ct_X6_hasBit kX6_hasBit lRX6_105 (by decide))) (CallOK_cons (site_same (rnV (pX6_dreamsNext_ok 19 _ rfl) ct_X6_dreamsOf kX6_dreamsOf lRX6_95 (by decide))) (CallOK_nil))
theorem ct_X6_dreamsNext : Ct yX6_dreamsNext cX6_dreamsNext 2 (some .int) 2 F_X6_dreamsNext := by
  intro l D σ cA sz as w K h
  obtain ⟨s, q, t, g, rfl, rfl, hg, hf, h⟩ := h
  have hf0 : ¬ iF s (ix g) + 2 = 0 := fun q => by rw [q] at hf; exact absurd hf (by decide)
  refine metL (pr := lkB pX6_dreamsNext) (rk := 1) (ct := ctb_X6_dreamsNext) (fld := lkB flX6) (cst := lkB csX6) (cstL := lkB clX6) [] pX6_dreamsNext_ok kX6_dreamsNext.2.2.2.2.2.2.2 fdX6 cdX6 rto1 cok_X6_dreamsNext (Nat.le_of_ble_eq_true rfl) cut0 ?_ l D σ cA sz
  conv => whnf
  refine ⟨fun hc => ?_, fun hc => ?_⟩
  · conv => whnf
    exact kI h (by unfold ndS; rw [if_neg (bp_0.mp hc)])
  · conv => whnf
    refine ⟨s, q, t, g, iN s + 1, rfl, rfl, hg, hf0, ?_⟩
    conv => whnf
    exact kI h (by unfold ndS; rw [if_pos (Classical.not_not.mp (fun q => hc (bp_0.mpr q)))])
end
section
/-! ===== how many bits ===== -/
def popc (n : Nat) : Nat := n % 2 + n / 2 % 2 + n / 4 % 2 + n / 8 % 2 + n / 16 % 2 + n / 32 % 2 + n / 64 % 2
def pop (x : Int32) : Int32 := nI (popc (ix x))
theorem pop_step : ∀ r : Fin 128, r.val = 0 ∨ (ix (nI r.val &&& (nI r.val - 1)) < r.val ∧ popc (ix (nI r.val &&& (nI r.val - 1))) + 1 = popc r.val ∧ nI (ix (nI r.val &&& (nI r.val - 1))) = nI r.val &&& (nI r.val - 1)) := by decide +kernel
def F_X6_onesOf : Fn := fun as w K => match as with
  | [.inl x] => rng 128 x ∧ K (some (.inl (pop x))) w
  | _ => False
def ctb_X6_onesOf : List (Nat × (List sv → List sc → (List sv → List sc → Prop) → Prop)) := []
theorem cok_X6_onesOf : CallOK cX6_onesOf 3 (some .int) RX6 1 ctb_X6_onesOf := CallOK_nil
theorem ct_X6_onesOf : Ct yX6_onesOf cX6_onesOf 3 (some .int) 1 F_X6_onesOf := by
  intro l D σ cA sz as w K h
  unfold F_X6_onesOf at h
  split at h
  · rename_i x
    obtain ⟨⟨a, ha, rfl⟩, h⟩ := h
    have hp : pop (nI a) = nI (popc a) := by unfold pop; rw [show ix (nI a) = a from nI_clamp (by omega)]
    rw [hp] at h
    refine metL (pr := lkB pX6_onesOf) (rk := 1) (ct := ctb_X6_onesOf) (fld := lkB flX6) (cst := lkB csX6) (cstL := lkB clX6) [(4, ([true, true, true], fun n lv st w' => ∃ c r, r < 128 ∧ n = r ∧ c + popc r = popc a ∧ lv = [some (sI (nI a)), some (sI (nI c)), some (sI (nI r))] ∧ st = [] ∧ w' = w))] pX6_onesOf_ok kX6_onesOf.2.2.2.2.2 fdX6 cdX6 rto1 cok_X6_onesOf (Nat.le_of_ble_eq_true rfl) ?_ ?_ l D σ cA sz
    · refine List.forall_mem_cons.mpr ⟨?_, cut0⟩
      rintro n lv st w' ⟨c, r, hr, rfl, hcr, rfl, rfl, rfl⟩
      conv => whnf
      refine ⟨fun hc => ?_, fun hc => ?_⟩
      · conv => whnf
        have : n = 0 := (nI_eq (by omega) (by decide)).mp (show nI n = nI 0 from hc)
        subst this
        rw [show popc 0 = 0 from rfl, Nat.add_zero] at hcr
        rw [hcr]; exact h
      · have hn : ¬ n = 0 := fun q => hc (by rw [q]; exact nI_0)
        have hs := pop_step ⟨n, hr⟩
        dsimp only at hs
        obtain ⟨s1, s2, s3⟩ := hs.resolve_left hn
        repeat' ((conv => whnf); (first | refine And.intro (by first | decide | with_reducible assumption) ?_ | with_reducible refine And.intro (fun hc => ?_) (fun hc => ?_) | with_reducible refine And.intro (fun hc => ?_) ?_ | fail))
        all_goals try (conv => whnf)
        exact ⟨_, s1, c + 1, _, by omega, rfl, by omega, by rw [s3, ← nI_1]; rfl, rfl, rfl⟩
    · skip
      repeat' ((conv => whnf); (first | refine And.intro (by first | decide | with_reducible assumption) ?_ | with_reducible refine And.intro (fun hc => ?_) (fun hc => ?_) | with_reducible refine And.intro (fun hc => ?_) ?_ | fail))
      all_goals try (conv => whnf)
      exact ⟨a, 0, a, ha, rfl, by omega, by rw [nI_0]; rfl, rfl, rfl⟩
  · exact h.elim
def bcF (x : Int32) : Int32 := let x1 := x - (jushr x 1 &&& 1431655765); let x2 := (x1 &&& 858993459) + (jushr x1 2 &&& 858993459); let x3 := (x2 + jushr x2 4) &&& 252645135; let x4 := x3 + jushr x3 8; let x5 := x4 + jushr x4 16; x5 &&& 63
theorem bc_ok : ∀ a : Fin 128, pop (nI a.val) = bcF (nI a.val) := by decide +kernel
def F_J6_bitCount_0f7a4 : Fn := fun as w K => match as with
  | [.inl x] => rng 128 x ∧ K (some (.inl (pop x))) w
  | _ => False
def ctb_J6_bitCount_0f7a4 : List (Nat × (List sv → List sc → (List sv → List sc → Prop) → Prop)) := []
theorem cok_J6_bitCount_0f7a4 : CallOK cJ6_bitCount_0f7a4 1 (some .int) RJ6 1 ctb_J6_bitCount_0f7a4 := CallOK_nil
theorem ct_J6_bitCount_0f7a4 : Ct yJ6_bitCount_0f7a4 cJ6_bitCount_0f7a4 1 (some .int) 1 F_J6_bitCount_0f7a4 := by
  intro l D σ cA sz as w K h
  unfold F_J6_bitCount_0f7a4 at h
  split at h
  · rename_i x
    obtain ⟨hx, h⟩ := h
    refine metL (pr := lkB pJ6_bitCount_0f7a4) (rk := 1) (ct := ctb_J6_bitCount_0f7a4) (fld := lkB flJ6) (cst := lkB csJ6) (cstL := lkB clJ6) [] pJ6_bitCount_0f7a4_ok kJ6_bitCount_0f7a4.2.2.2.2.2 fdJ6 cdJ6 rto1 cok_J6_bitCount_0f7a4 (Nat.le_of_ble_eq_true rfl) cut0 ?_ l D σ cA sz
    repeat' ((conv => whnf); (first | refine And.intro (by first | decide | with_reducible assumption) ?_ | with_reducible refine And.intro (fun hc => ?_) (fun hc => ?_) | with_reducible refine And.intro (fun hc => ?_) ?_ | fail))
    all_goals try (conv => whnf)
    refine kI h ?_
    obtain ⟨a, ha, rfl⟩ := hx
    exact bc_ok ⟨a, ha⟩
  · exact h.elim
end
section
/-! ===== what holds between calls ===== -/
theorem bv_and (n : Nat) (y : Int32) (hn : n < 128) : ∃ j, j < 128 ∧ nI n &&& y = nI j := by
  refine ⟨n &&& y.toBitVec.toNat, Nat.lt_of_le_of_lt Nat.and_le_left hn, ?_⟩
  apply Int32.toBitVec_inj.mp
  apply BitVec.eq_of_toNat_eq
  have hlt : n &&& y.toBitVec.toNat < 2 ^ 32 := Nat.lt_of_le_of_lt Nat.and_le_left (by omega)
  rw [pk_tn hlt, Int32.toBitVec_and, BitVec.toNat_and, pk_tn (by omega)]
theorem rng_and {x : Int32} (h : rng 128 x) (y : Int32) : rng 128 (x &&& y) := by
  obtain ⟨n, hn, rfl⟩ := h
  exact bv_and n y hn
theorem TB_ch {s : InnS} {g d : Int32} (h : rng 128 (iT s)) : rng 128 (iT (chS s g d)) := by
  show rng 128 (chT _ _ _)
  unfold chT
  split
  · exact rng_and h _
  · exact h
theorem iT_la (s : InnS) (g : Int32) : iT (laS s g) = iT s := rfl
theorem iT_sv (s : InnS) (g k : Int32) : iT (svS s g k) = iT s := rfl
theorem iT_tk (s : InnS) (k e : Int32) : iT (tkS s k e) = iT s := rfl
theorem TB_bf {s : InnS} {g k : Int32} (h : rng 128 (iT s)) : rng 128 (iT (bfS s g k)) := by
  unfold bfS
  by_cases h4 : k = -4
  · rw [if_pos h4]; exact TB_ch h
  · rw [if_neg h4]
    by_cases he : eatsK (iK s (ix g)) ≤ iP s (ix k)
    · rw [if_pos he, iT_sv]
      exact TB_ch (by rw [iT_tk]; exact h)
    · rw [if_neg he, iT_la]
      exact TB_ch h
theorem TB_gf {s : InnS} {mare sil : Int32} (h : rng 128 (iT s)) : ∀ j, rng 128 (iT (gfS mare sil j s))
  | 0 => h
  | j + 1 => by
    show rng 128 (iT (gsS _ _ _ _))
    unfold gsS
    split
    · exact TB_bf (TB_gf h j)
    · exact TB_gf h j
theorem TB_night {s : InnS} {mare sil : Int32} (h : rng 128 (iT s)) : rng 128 (iT (nightS mare sil s)) := TB_gf (s := nbS s) h _
theorem TB_nights {s : InnS} (h : rng 128 (iT s)) : ∀ n, rng 128 (iT (nightsS n s))
  | 0 => h
  | n + 1 => TB_night (TB_nights h n)
/-- an inn between calls -/
def IV (s : InnS) (N : Nat) : Prop := ZB s ∧ GS s ∧ iN s = nI N ∧ N ≤ 999 ∧ rng 128 (iT s)
def snS (s : InnS) (a b : Int32) : InnS := (iK s, iF s, iW s, iL s, iH s, iP s, iG s, iT s, iN s, iS s, iA s, a, b)
def tq0 (t : Tm) : Tm := (tSy t, tMr t, 0, tRd t, tPl t, tBd t, tSt t, tPi t, tLo t, tTo t, tKe t, tP0 t, tTk t, tKi t, tDr t, tCe t, tGa t, tSd t, tBt t)
theorem kn {g : Int32} {G : Nat} (hG7 : G < 8) (h : 0 ≤ g ∧ g ≤ nI G - 1) : ∃ j, j < G ∧ g = nI j := by
  cases G with
  | zero =>
    have h1 := Int32.le_trans h.1 h.2
    exact absurd h1 (by decide)
  | succ G =>
    rw [nI_pred] at h
    obtain ⟨j, hj, hx⟩ := nI_of2 (M := nI G) (n := G) (nI_toInt (by omega)) (Int32.not_lt.mpr h.1) h.2
    exact ⟨j, by omega, hx⟩
theorem in_rng {x : Int32} {n : Nat} (hn : n < 2 ^ 31) (h : 0 ≤ x ∧ x ≤ nI n) : ∃ j, j ≤ n ∧ x = nI j := nI_of2 (nI_toInt hn) (Int32.not_lt.mpr h.1) h.2
theorem bp_n {P : Prop} (h : ¬ bp P = 0) : P := Classical.not_not.mp (fun q => h (bp_0.mpr q))
theorem plate_in {k : Int32} (h : 0 ≤ k ∧ k ≤ 9) : vp_in k 10 := by
  obtain ⟨j, hj, rfl⟩ := in_rng (n := 9) (by decide) h
  exact vp_in_nI (by omega) (by decide)
/-! the answers -/
noncomputable def laF (s : InnS) (k : Int32) : Int32 := if 0 ≤ k ∧ k ≤ 9 then iP s (ix k) else -1
noncomputable def gtF (s : InnS) (g n what : Int32) : Int32 := if (0 ≤ g ∧ g ≤ iG s - 1) ∧ (0 ≤ n ∧ n ≤ 60) ∧ (0 ≤ what ∧ what ≤ 1) then (if what = 0 then iH (nightsS (ix n) s) (ix g) else iL (nightsS (ix n) s) (ix g)) else -1
def F_X6_larder : Fn := fun as w K => ∃ (s : InnS) (q : Pm) (t : Tm) (k : Int32), as = [sR 0, sI k] ∧ w = modW s q t ∧ TZ t ∧ ∀ a b t', TZ t' → K (some (.inl (laF s k))) (modW (snS s a b) q t')
def ctb_X6_larder : List (Nat × (List sv → List sc → (List sv → List sc → Prop) → Prop)) := [(6, cS none 1 F_X6_isPlate)]
theorem cok_X6_larder : CallOK cX6_larder 2 (some .int) RX6 3 ctb_X6_larder := CallOK_cons (site_same (rnS (pX6_larder_ok 6 _ rfl) ct_X6_isPlate kX6_isPlate lRX6_220 (by decide))) (CallOK_nil)
theorem ct_X6_larder : Ct yX6_larder cX6_larder 2 (some .int) 3 F_X6_larder := by
  intro l D σ cA sz as w K h
  obtain ⟨s, q, t, k, rfl, rfl, hT, h⟩ := h
  have h := h (iSn s) (iLn s) (tq0 t) hT
  refine metL (pr := lkB pX6_larder) (rk := 1) (ct := ctb_X6_larder) (fld := lkB flX6) (cst := lkB csX6) (cstL := lkB clX6) [] pX6_larder_ok kX6_larder.2.2.2.2.2.2.2 fdX6 cdX6 rto1 cok_X6_larder (Nat.le_of_ble_eq_true rfl) cut0 ?_ l D σ cA sz
  conv => whnf
  refine ⟨fun hc => ?_, fun hc => ?_⟩
  · conv => whnf
    exact kI h (by unfold laF; rw [if_neg (bp_0.mp hc)])
  · conv => whnf
    refine ⟨plate_in (bp_n hc), ?_⟩
    conv => whnf
    exact kI h (by unfold laF; rw [if_pos (bp_n hc)])
def F_X6_guestThen : Fn := fun as w K => ∃ (s : InnS) (q : Pm) (t : Tm) (N : Nat) (g n what : Int32), as = [sR 0, sI g, sI n, sI what] ∧ w = modW s q t ∧ TZ t ∧ IV s N ∧ ∀ a b t', TZ t' → K (some (.inl (gtF s g n what))) (modW (snS s a b) q t')
def ctb_X6_guestThen : List (Nat × (List sv → List sc → (List sv → List sc → Prop) → Prop)) := [(7, cS (some 4) 2 F_X6_isOne), (19, cS none 3 F_X6_in), (29, cS none 3 F_X6_in), (38, cS (some 4) 1 F_X6_think), (43, cS (some 4) 2 F_X6_goNights), (68, cS (some 4) 1 F_X6_again)]
theorem cok_X6_guestThen : CallOK cX6_guestThen 5 (some .int) RX6 6 ctb_X6_guestThen := CallOK_cons (site_same (rnV (pX6_guestThen_ok 7 _ rfl) ct_X6_isOne kX6_isOne lRX6_171 (by decide))) (CallOK_cons (site_same (rnS (pX6_guestThen_ok 19 _ rfl) ct_X6_in kX6_in lRX6_81 (by decide))) (CallOK_cons (site_same (rnS (pX6_guestThen_ok 29 _ rfl) ct_X6_in kX6_in lRX6_81 (by decide))) (CallOK_cons (site_same (rnV (pX6_guestThen_ok 38 _ rfl) ct_X6_think kX6_think lRX6_190 (by decide))) (CallOK_cons (site_same (rnV (pX6_guestThen_ok 43 _ rfl) ct_X6_goNights kX6_goNights lRX6_168 (by decide))) (CallOK_cons (site_same (rnV (pX6_guestThen_ok 68 _ rfl) ct_X6_again kX6_again lRX6_196 (by decide))) (CallOK_nil))))))
theorem ct_X6_guestThen : Ct yX6_guestThen cX6_guestThen 5 (some .int) 6 F_X6_guestThen := by
  intro l D σ cA sz as w K h
  obtain ⟨s, q, t, N, g, n, what, rfl, rfl, hT, ⟨hZ, hG, hN, hN9, hB⟩, h⟩ := h
  have h0 := h (iSn s) (iLn s) (tq0 t) hT
  have hT0 : TZ (tq0 t) := hT
  refine metL (pr := lkB pX6_guestThen) (rk := 1) (ct := ctb_X6_guestThen) (fld := lkB flX6) (cst := lkB csX6) (cstL := lkB clX6) [] pX6_guestThen_ok kX6_guestThen.2.2.2.2.2.2.2 fdX6 cdX6 rto1 cok_X6_guestThen (Nat.le_of_ble_eq_true rfl) cut0 ?_ l D σ cA sz
  conv => whnf
  refine ⟨s, q, tq0 t, g, rfl, rfl, ?_⟩
  conv => whnf
  refine ⟨fun hc => ?_, fun hc1 => ?_⟩
  · conv => whnf
    exact kI h0 (by unfold gtF; rw [if_neg (fun q => bp_0.mp hc q.1)])
  conv => whnf
  refine ⟨fun hc => ?_, fun hc2 => ?_⟩
  · conv => whnf
    have hc := (in_ii 0 n 60).symm.trans hc
    exact kI h0 (by unfold gtF; rw [if_neg (fun q => bp_0.mp hc q.2.1)])
  conv => whnf
  refine ⟨fun hc3 => ?_, fun hc => ?_⟩
  rotate_left
  · conv => whnf
    have hc := (in_ii 0 what 1).symm.trans hc
    exact kI h0 (by unfold gtF; rw [if_neg (fun q => bp_0.mp hc q.2.2)])
  have c1 := bp_n hc1
  have c2 := bp_n (fun z => hc2 ((in_ii 0 n 60).trans z))
  have c3 := bp_n (fun z => hc3 ((in_ii 0 what 1).trans z))
  obtain ⟨G, hG7, hGG⟩ := hG.2.1
  obtain ⟨j, hj, ej⟩ := kn hG7 (by rw [← hGG]; exact c1)
  obtain ⟨n', hn', en⟩ := in_rng (n := 60) (by decide) c2
  have hv : vp_in g 7 := by rw [ej]; exact vp_in_nI (by omega) (by decide)
  have eix : ix n = n' := by rw [en]; exact nI_clamp (by omega)
  have hr : gtF s g n what = if what = 0 then iH (nightsS n' s) (ix g) else iL (nightsS n' s) (ix g) := by
    unfold gtF
    rw [if_pos ⟨c1, c2, c3⟩, eix]
  have hz := ZB_nights hZ hG hN n' (by omega)
  conv => whnf
  refine ⟨s, q, tq0 t, rfl, rfl, fun t1 hs1 hk1 => ?_⟩
  conv => whnf
  refine ⟨s, q, t1, n', N, by rw [en], rfl, hs1.tz hT0, hG, hN, by omega, ?_⟩
  conv => whnf
  refine ⟨fun hw => ?_, fun hw => ?_⟩
  · conv => whnf
    refine ⟨hv, ?_⟩
    conv => whnf
    refine ⟨nightsS n' s, s, q, t1, rfl, rfl, hk1, hz, hZ, fun t2 hs2 hk2 => ?_⟩
    conv => whnf
    exact kI (h (iSn (nightsS n' s)) (iLn (nightsS n' s)) t2 (hs2.tz (hs1.tz hT0))) (by rw [hr, if_neg hw])
  · conv => whnf
    refine ⟨hv, ?_⟩
    conv => whnf
    refine ⟨nightsS n' s, s, q, t1, rfl, rfl, hk1, hz, hZ, fun t2 hs2 hk2 => ?_⟩
    conv => whnf
    exact kI (h (iSn (nightsS n' s)) (iLn (nightsS n' s)) t2 (hs2.tz (hs1.tz hT0))) (by rw [hr, if_pos hw])
end
section
/-! ===== the class: its own cells ===== -/
def innB1 (s : InnS) : List sc := [oC 0 [sR 2, sR 3, sR 4, sR 5, sR 6, sR 7, sI (iG s), sI (iT s), sI (iN s), sI (iS s), sI (iA s), sI (iSn s), sI (iLn s)], aI 7 (iK s), aI 7 (iF s), aI 7 (iW s), aI 7 (iL s), aI 7 (iH s), aI 10 (iP s)]
def innB8 (s : InnS) : List sc := [oC 0 [sR 9, sR 10, sR 11, sR 12, sR 13, sR 14, sI (iG s), sI (iT s), sI (iN s), sI (iS s), sI (iA s), sI (iSn s), sI (iLn s)], aI 7 (iK s), aI 7 (iF s), aI 7 (iW s), aI 7 (iL s), aI 7 (iH s), aI 10 (iP s)]
/-- the object and the inn as it is; and the inn in mind -/
def x1W (r1 r2 r3 r4 r5 : sv) (hi : Int32) (s : InnS) : List sc := oC 3 [sR 1, r1, r2, sI hi, r3, r4, r5] :: innB1 s
def x2W (r2 r3 r4 r5 : sv) (hi : Int32) (s m : InnS) : List sc := oC 3 [sR 1, sR 8, r2, sI hi, r3, r4, r5] :: (innB1 s ++ innB8 m)
def F_X5_larder : Fn := fun as w K => ∃ (r1 r2 r3 r4 r5 : sv) (hi : Int32) (s : InnS) (k : Int32), as = [sR 0, sI k] ∧ w = x1W r1 r2 r3 r4 r5 hi s ∧ K (some (.inl (laF s k))) w
def ctb_X5_larder : List (Nat × (List sv → List sc → (List sv → List sc → Prop) → Prop)) := [(1, cS none 1 F_X5_isPlate)]
theorem cok_X5_larder : CallOK cX5_larder 2 (some .int) RX5 3 ctb_X5_larder := CallOK_cons (site_same (rnS (pX5_larder_ok 1 _ rfl) ct_X5_isPlate kX5_isPlate lRX5_110 (by decide))) (CallOK_nil)
theorem ct_X5_larder : Ct yX5_larder cX5_larder 2 (some .int) 3 F_X5_larder := by
  intro l D σ cA sz as w K h
  obtain ⟨r1, r2, r3, r4, r5, hi, s, k, rfl, rfl, h⟩ := h
  refine metL (pr := lkB pX5_larder) (rk := 1) (ct := ctb_X5_larder) (fld := lkB flX5) (cst := lkB csX5) (cstL := lkB clX5) [] pX5_larder_ok kX5_larder.2.2.2.2.2.2.2 fdX5 cdX5 rto1 cok_X5_larder (Nat.le_of_ble_eq_true rfl) cut0 ?_ l D σ cA sz
  conv => whnf
  refine ⟨fun hc => ?_, fun hc => ?_⟩
  · conv => whnf
    exact kI h (by unfold laF; rw [if_neg (bp_0.mp hc)])
  · conv => whnf
    refine ⟨plate_in (bp_n hc), ?_⟩
    conv => whnf
    exact kI h (by unfold laF; rw [if_pos (bp_n hc)])
def F_X5_inMind : Fn := fun as w K => ∃ (r2 r3 r4 r5 : sv) (hi : Int32) (s m : InnS), as = [sR 0] ∧ w = x2W r2 r3 r4 r5 hi s m ∧ ZB s ∧ ZB m ∧ K (some (sR 8)) (x2W r2 r3 r4 r5 hi s s)
def ctb_X5_inMind : List (Nat × (List sv → List sc → (List sv → List sc → Prop) → Prop)) := [(8, cG [8, 9, 10, 11, 12, 13, 14, 1, 2, 3, 4, 5, 6, 7] (some 0) 2 F_X0_become)]
theorem cok_X5_inMind : CallOK cX5_inMind 1 (some (.object "ServesWhatOneDreamt$Inn")) RX5 2 ctb_X5_inMind := CallOK_cons (site_gen [8, 9, 10, 11, 12, 13, 14, 1, 2, 3, 4, 5, 6, 7] (by decide) (rnV (pX5_inMind_ok 8 _ rfl) ct_X0_become kX0_become lRX5_76 (by decide))) (CallOK_nil)
theorem ct_X5_inMind : Ct yX5_inMind cX5_inMind 1 (some (.object "ServesWhatOneDreamt$Inn")) 2 F_X5_inMind := by
  intro l D σ cA sz as w K h
  obtain ⟨r2, r3, r4, r5, hi, s, m, rfl, rfl, hZ, hM, h⟩ := h
  refine metL (pr := lkB pX5_inMind) (rk := 4) (ct := ctb_X5_inMind) (fld := lkB flX5) (cst := lkB csX5) (cstL := lkB clX5) [] pX5_inMind_ok kX5_inMind.2.2.2.2.2.2.2 fdX5 cdX5 (rto4 _) cok_X5_inMind (Nat.le_of_ble_eq_true rfl) cut0 ?_ l D σ cA sz
  conv => whnf
  refine ⟨m, s, rfl, rfl, hM, hZ, ?_⟩
  conv => whnf
  exact h
def F_X5_guestThen : Fn := fun as w K => ∃ (r2 r3 r4 r5 : sv) (hi : Int32) (s m : InnS) (N : Nat) (g n what : Int32), as = [sR 0, sI g, sI n, sI what] ∧ w = x2W r2 r3 r4 r5 hi s m ∧ IV s N ∧ ZB m ∧ ∀ m', ZB m' → K (some (.inl (gtF s g n what))) (x2W r2 r3 r4 r5 hi s m')
def ctb_X5_guestThen : List (Nat × (List sv → List sc → (List sv → List sc → Prop) → Prop)) := [(5, cG [1, 2, 3, 4, 5, 6, 7] (some 0) 2 F_X0_knows), (12, cS none 1 F_X5_isWhile), (21, cS none 3 F_X5_within), (30, cS (some 3) 1 F_X5_inMind), (38, cG [8, 9, 10, 11, 12, 13, 14] (some 0) 2 F_X0_pass)]
theorem cok_X5_guestThen : CallOK cX5_guestThen 5 (some .int) RX5 6 ctb_X5_guestThen := CallOK_cons (site_gen [1, 2, 3, 4, 5, 6, 7] (by decide) (rnV (pX5_guestThen_ok 5 _ rfl) ct_X0_knows kX0_knows lRX5_80 (by decide))) (CallOK_cons (site_same (rnS (pX5_guestThen_ok 12 _ rfl) ct_X5_isWhile kX5_isWhile lRX5_148 (by decide))) (CallOK_cons (site_same (rnS (pX5_guestThen_ok 21 _ rfl) ct_X5_within kX5_within lRX5_129 (by decide))) (CallOK_cons (site_same (rnV (pX5_guestThen_ok 30 _ rfl) ct_X5_inMind kX5_inMind lRX5_58 (by decide))) (CallOK_cons (site_gen [8, 9, 10, 11, 12, 13, 14] (by decide) (rnV (pX5_guestThen_ok 38 _ rfl) ct_X0_pass kX0_pass lRX5_136 (by decide))) (CallOK_nil)))))
theorem ct_X5_guestThen : Ct yX5_guestThen cX5_guestThen 5 (some .int) 6 F_X5_guestThen := by
  intro l D σ cA sz as w K h
  obtain ⟨r2, r3, r4, r5, hi, s, m, N, g, n, what, rfl, rfl, ⟨hZ, hG, hN, hN9, hB⟩, hM, h⟩ := h
  have h0 := h m hM
  refine metL (pr := lkB pX5_guestThen) (rk := 1) (ct := ctb_X5_guestThen) (fld := lkB flX5) (cst := lkB csX5) (cstL := lkB clX5) [] pX5_guestThen_ok kX5_guestThen.2.2.2.2.2.2.2 fdX5 cdX5 rto1 cok_X5_guestThen (Nat.le_of_ble_eq_true rfl) cut0 ?_ l D σ cA sz
  conv => whnf
  refine ⟨s, g, rfl, rfl, ?_⟩
  conv => whnf
  refine ⟨fun hc => ?_, fun hc1 => ?_⟩
  · conv => whnf
    exact kI h0 (by unfold gtF; rw [if_neg (fun q => bp_0.mp hc q.1)])
  conv => whnf
  refine ⟨fun hc => ?_, fun hc2 => ?_⟩
  · conv => whnf
    exact kI h0 (by unfold gtF; rw [if_neg (fun q => bp_0.mp hc q.2.1)])
  conv => whnf
  refine ⟨fun hc3 => ?_, fun hc => ?_⟩
  rotate_left
  · conv => whnf
    exact kI h0 (by unfold gtF; rw [if_neg (fun q => bp_0.mp hc q.2.2)])
  have c1 := bp_n hc1
  have c2 := bp_n hc2
  have c3 := bp_n hc3
  obtain ⟨G, hG7, hGG⟩ := hG.2.1
  obtain ⟨j, hj, ej⟩ := kn hG7 (by rw [← hGG]; exact c1)
  obtain ⟨n', hn', en⟩ := in_rng (n := 60) (by decide) c2
  have hv : vp_in g 7 := by rw [ej]; exact vp_in_nI (by omega) (by decide)
  have eix : ix n = n' := by rw [en]; exact nI_clamp (by omega)
  have hr : gtF s g n what = if what = 0 then iH (nightsS n' s) (ix g) else iL (nightsS n' s) (ix g) := by
    unfold gtF
    rw [if_pos ⟨c1, c2, c3⟩, eix]
  have hz := ZB_nights hZ hG hN n' (by omega)
  conv => whnf
  refine ⟨r2, r3, r4, r5, hi, s, m, rfl, rfl, hZ, hM, ?_⟩
  conv => whnf
  refine ⟨s, n', N, by rw [en]; rfl, rfl, hG, hN, by omega, ?_⟩
  conv => whnf
  refine ⟨fun hw => ?_, fun hw => ?_⟩
  · conv => whnf
    refine ⟨hv, ?_⟩
    conv => whnf
    exact kI (h _ hz) (by rw [hr, if_neg hw])
  · conv => whnf
    refine ⟨hv, ?_⟩
    conv => whnf
    exact kI (h _ hz) (by rw [hr, if_pos hw])
end
section
/-! ===== larderThen, then ===== -/
noncomputable def ltF (s : InnS) (k n : Int32) : Int32 := if (0 ≤ k ∧ k ≤ 9) ∧ (0 ≤ n ∧ n ≤ 60) then iP (nightsS (ix n) s) (ix k) else -1
noncomputable def thF (s : InnS) (n what : Int32) : Int32 := if (0 ≤ n ∧ n ≤ 60) ∧ (0 ≤ what ∧ what ≤ 2) then (if what = 0 then iT (nightsS (ix n) s) else if what = 1 then iS (nightsS (ix n) s) else iA (nightsS (ix n) s)) else -1
def F_X6_larderThen : Fn := fun as w K => ∃ (s : InnS) (q : Pm) (t : Tm) (N : Nat) (k n : Int32), as = [sR 0, sI k, sI n] ∧ w = modW s q t ∧ TZ t ∧ IV s N ∧ ∀ a b t', TZ t' → K (some (.inl (ltF s k n))) (modW (snS s a b) q t')
def ctb_X6_larderThen : List (Nat × (List sv → List sc → (List sv → List sc → Prop) → Prop)) := [(6, cS none 1 F_X6_isPlate), (18, cS none 3 F_X6_in), (27, cS (some 4) 1 F_X6_think), (32, cS (some 4) 2 F_X6_goNights), (43, cS (some 4) 1 F_X6_again)]
theorem cok_X6_larderThen : CallOK cX6_larderThen 4 (some .int) RX6 6 ctb_X6_larderThen := CallOK_cons (site_same (rnS (pX6_larderThen_ok 6 _ rfl) ct_X6_isPlate kX6_isPlate lRX6_220 (by decide))) (CallOK_cons (site_same (rnS (pX6_larderThen_ok 18 _ rfl) ct_X6_in kX6_in lRX6_81 (by decide))) (CallOK_cons (site_same (rnV (pX6_larderThen_ok 27 _ rfl) ct_X6_think kX6_think lRX6_190 (by decide))) (CallOK_cons (site_same (rnV (pX6_larderThen_ok 32 _ rfl) ct_X6_goNights kX6_goNights lRX6_168 (by decide))) (CallOK_cons (site_same (rnV (pX6_larderThen_ok 43 _ rfl) ct_X6_again kX6_again lRX6_196 (by decide))) (CallOK_nil)))))
theorem ct_X6_larderThen : Ct yX6_larderThen cX6_larderThen 4 (some .int) 6 F_X6_larderThen := by
  intro l D σ cA sz as w K h
  obtain ⟨s, q, t, N, k, n, rfl, rfl, hT, ⟨hZ, hG, hN, hN9, hB⟩, h⟩ := h
  have h0 := h (iSn s) (iLn s) (tq0 t) hT
  have hT0 : TZ (tq0 t) := hT
  refine metL (pr := lkB pX6_larderThen) (rk := 1) (ct := ctb_X6_larderThen) (fld := lkB flX6) (cst := lkB csX6) (cstL := lkB clX6) [] pX6_larderThen_ok kX6_larderThen.2.2.2.2.2.2.2 fdX6 cdX6 rto1 cok_X6_larderThen (Nat.le_of_ble_eq_true rfl) cut0 ?_ l D σ cA sz
  conv => whnf
  refine ⟨fun hc => ?_, fun hc1 => ?_⟩
  · conv => whnf
    exact kI h0 (by unfold ltF; rw [if_neg (fun q => bp_0.mp hc q.1)])
  conv => whnf
  refine ⟨fun hc2 => ?_, fun hc => ?_⟩
  rotate_left
  · conv => whnf
    have hc := (in_ii 0 n 60).symm.trans hc
    exact kI h0 (by unfold ltF; rw [if_neg (fun q => bp_0.mp hc q.2)])
  have c1 := bp_n hc1
  have c2 := bp_n (fun z => hc2 ((in_ii 0 n 60).trans z))
  obtain ⟨n', hn', en⟩ := in_rng (n := 60) (by decide) c2
  have eix : ix n = n' := by rw [en]; exact nI_clamp (by omega)
  have hr : ltF s k n = iP (nightsS n' s) (ix k) := by
    unfold ltF
    rw [if_pos ⟨c1, c2⟩, eix]
  have hz := ZB_nights hZ hG hN n' (by omega)
  conv => whnf
  refine ⟨s, q, tq0 t, rfl, rfl, fun t1 hs1 hk1 => ?_⟩
  conv => whnf
  refine ⟨s, q, t1, n', N, by rw [en], rfl, hs1.tz hT0, hG, hN, by omega, ?_⟩
  conv => whnf
  refine ⟨plate_in c1, ?_⟩
  conv => whnf
  refine ⟨nightsS n' s, s, q, t1, rfl, rfl, hk1, hz, hZ, fun t2 hs2 hk2 => ?_⟩
  conv => whnf
  exact kI (h (iSn (nightsS n' s)) (iLn (nightsS n' s)) t2 (hs2.tz (hs1.tz hT0))) hr
def F_X5_larderThen : Fn := fun as w K => ∃ (r2 r3 r4 r5 : sv) (hi : Int32) (s m : InnS) (N : Nat) (k n : Int32), as = [sR 0, sI k, sI n] ∧ w = x2W r2 r3 r4 r5 hi s m ∧ IV s N ∧ ZB m ∧ ∀ m', ZB m' → K (some (.inl (ltF s k n))) (x2W r2 r3 r4 r5 hi s m')
def ctb_X5_larderThen : List (Nat × (List sv → List sc → (List sv → List sc → Prop) → Prop)) := [(1, cS none 1 F_X5_isPlate), (8, cS none 1 F_X5_isWhile), (17, cS (some 3) 1 F_X5_inMind), (23, cG [8, 9, 10, 11, 12, 13, 14] (some 0) 2 F_X0_pass)]
theorem cok_X5_larderThen : CallOK cX5_larderThen 4 (some .int) RX5 6 ctb_X5_larderThen := CallOK_cons (site_same (rnS (pX5_larderThen_ok 1 _ rfl) ct_X5_isPlate kX5_isPlate lRX5_110 (by decide))) (CallOK_cons (site_same (rnS (pX5_larderThen_ok 8 _ rfl) ct_X5_isWhile kX5_isWhile lRX5_148 (by decide))) (CallOK_cons (site_same (rnV (pX5_larderThen_ok 17 _ rfl) ct_X5_inMind kX5_inMind lRX5_58 (by decide))) (CallOK_cons (site_gen [8, 9, 10, 11, 12, 13, 14] (by decide) (rnV (pX5_larderThen_ok 23 _ rfl) ct_X0_pass kX0_pass lRX5_136 (by decide))) (CallOK_nil))))
theorem ct_X5_larderThen : Ct yX5_larderThen cX5_larderThen 4 (some .int) 6 F_X5_larderThen := by
  intro l D σ cA sz as w K h
  obtain ⟨r2, r3, r4, r5, hi, s, m, N, k, n, rfl, rfl, ⟨hZ, hG, hN, hN9, hB⟩, hM, h⟩ := h
  have h0 := h m hM
  refine metL (pr := lkB pX5_larderThen) (rk := 1) (ct := ctb_X5_larderThen) (fld := lkB flX5) (cst := lkB csX5) (cstL := lkB clX5) [] pX5_larderThen_ok kX5_larderThen.2.2.2.2.2.2.2 fdX5 cdX5 rto1 cok_X5_larderThen (Nat.le_of_ble_eq_true rfl) cut0 ?_ l D σ cA sz
  conv => whnf
  refine ⟨fun hc => ?_, fun hc1 => ?_⟩
  · conv => whnf
    exact kI h0 (by unfold ltF; rw [if_neg (fun q => bp_0.mp hc q.1)])
  conv => whnf
  refine ⟨fun hc2 => ?_, fun hc => ?_⟩
  rotate_left
  · conv => whnf
    exact kI h0 (by unfold ltF; rw [if_neg (fun q => bp_0.mp hc q.2)])
  have c1 := bp_n hc1
  have c2 := bp_n hc2
  obtain ⟨n', hn', en⟩ := in_rng (n := 60) (by decide) c2
  have eix : ix n = n' := by rw [en]; exact nI_clamp (by omega)
  have hr : ltF s k n = iP (nightsS n' s) (ix k) := by
    unfold ltF
    rw [if_pos ⟨c1, c2⟩, eix]
  have hz := ZB_nights hZ hG hN n' (by omega)
  conv => whnf
  refine ⟨r2, r3, r4, r5, hi, s, m, rfl, rfl, hZ, hM, ?_⟩
  conv => whnf
  refine ⟨s, n', N, by rw [en]; rfl, rfl, hG, hN, by omega, ?_⟩
  conv => whnf
  refine ⟨plate_in c1, ?_⟩
  conv => whnf
  exact kI (h _ hz) hr
def F_X6_then : Fn := fun as w K => ∃ (s : InnS) (q : Pm) (t : Tm) (N : Nat) (n what : Int32), as = [sR 0, sI n, sI what] ∧ w = modW s q t ∧ TZ t ∧ IV s N ∧ ∀ a b t', TZ t' → K (some (.inl (thF s n what))) (modW (snS s a b) q t')
def ctb_X6_then : List (Nat × (List sv → List sc → (List sv → List sc → Prop) → Prop)) := [(11, cS none 3 F_X6_in), (23, cS none 3 F_X6_in), (32, cS (some 4) 1 F_X6_think), (37, cS (some 4) 2 F_X6_goNights), (69, cS (some 4) 1 F_X6_again)]
theorem cok_X6_then : CallOK cX6_then 4 (some .int) RX6 6 ctb_X6_then := CallOK_cons (site_same (rnS (pX6_then_ok 11 _ rfl) ct_X6_in kX6_in lRX6_81 (by decide))) (CallOK_cons (site_same (rnS (pX6_then_ok 23 _ rfl) ct_X6_in kX6_in lRX6_81 (by decide))) (CallOK_cons (site_same (rnV (pX6_then_ok 32 _ rfl) ct_X6_think kX6_think lRX6_190 (by decide))) (CallOK_cons (site_same (rnV (pX6_then_ok 37 _ rfl) ct_X6_goNights kX6_goNights lRX6_168 (by decide))) (CallOK_cons (site_same (rnV (pX6_then_ok 69 _ rfl) ct_X6_again kX6_again lRX6_196 (by decide))) (CallOK_nil)))))
theorem ct_X6_then : Ct yX6_then cX6_then 4 (some .int) 6 F_X6_then := by
  intro l D σ cA sz as w K h
  obtain ⟨s, q, t, N, n, what, rfl, rfl, hT, ⟨hZ, hG, hN, hN9, hB⟩, h⟩ := h
  have h0 := h (iSn s) (iLn s) (tq0 t) hT
  have hT0 : TZ (tq0 t) := hT
  refine metL (pr := lkB pX6_then) (rk := 1) (ct := ctb_X6_then) (fld := lkB flX6) (cst := lkB csX6) (cstL := lkB clX6) [] pX6_then_ok kX6_then.2.2.2.2.2.2.2 fdX6 cdX6 rto1 cok_X6_then (Nat.le_of_ble_eq_true rfl) cut0 ?_ l D σ cA sz
  conv => whnf
  refine ⟨fun hc => ?_, fun hc1 => ?_⟩
  · conv => whnf
    have hc := (in_ii 0 n 60).symm.trans hc
    exact kI h0 (by unfold thF; rw [if_neg (fun q => bp_0.mp hc q.1)])
  conv => whnf
  refine ⟨fun hc2 => ?_, fun hc => ?_⟩
  rotate_left
  · conv => whnf
    have hc := (in_ii 0 what 2).symm.trans hc
    exact kI h0 (by unfold thF; rw [if_neg (fun q => bp_0.mp hc q.2)])
  have c1 := bp_n (fun z => hc1 ((in_ii 0 n 60).trans z))
  have c2 := bp_n (fun z => hc2 ((in_ii 0 what 2).trans z))
  obtain ⟨n', hn', en⟩ := in_rng (n := 60) (by decide) c1
  have eix : ix n = n' := by rw [en]; exact nI_clamp (by omega)
  have hr : thF s n what = if what = 0 then iT (nightsS n' s) else if what = 1 then iS (nightsS n' s) else iA (nightsS n' s) := by
    unfold thF
    rw [if_pos ⟨c1, c2⟩, eix]
  have hz := ZB_nights hZ hG hN n' (by omega)
  conv => whnf
  refine ⟨s, q, tq0 t, rfl, rfl, fun t1 hs1 hk1 => ?_⟩
  conv => whnf
  refine ⟨s, q, t1, n', N, by rw [en], rfl, hs1.tz hT0, hG, hN, by omega, ?_⟩
  repeat' ((conv => whnf); (first | refine And.intro (by first | decide | with_reducible assumption) ?_ | with_reducible refine And.intro (fun hc => ?_) (fun hc => ?_) | with_reducible refine And.intro (fun hc => ?_) ?_ | fail))
  all_goals try (conv => whnf)
  · refine ⟨nightsS n' s, s, q, t1, rfl, rfl, hk1, hz, hZ, fun t2 hs2 hk2 => ?_⟩
    conv => whnf
    exact kI (h (iSn (nightsS n' s)) (iLn (nightsS n' s)) t2 (hs2.tz (hs1.tz hT0))) (by rw [hr, if_neg (by assumption), if_neg (by assumption)])
  · refine ⟨nightsS n' s, s, q, t1, rfl, rfl, hk1, hz, hZ, fun t2 hs2 hk2 => ?_⟩
    conv => whnf
    exact kI (h (iSn (nightsS n' s)) (iLn (nightsS n' s)) t2 (hs2.tz (hs1.tz hT0))) (by rw [hr, if_neg (by assumption), if_pos (by assumption)])
  · refine ⟨nightsS n' s, s, q, t1, rfl, rfl, hk1, hz, hZ, fun t2 hs2 hk2 => ?_⟩
    conv => whnf
    exact kI (h (iSn (nightsS n' s)) (iLn (nightsS n' s)) t2 (hs2.tz (hs1.tz hT0))) (by rw [hr, if_pos (by assumption)])
def F_X5_then : Fn := fun as w K => ∃ (r2 r3 r4 r5 : sv) (hi : Int32) (s m : InnS) (N : Nat) (n what : Int32), as = [sR 0, sI n, sI what] ∧ w = x2W r2 r3 r4 r5 hi s m ∧ IV s N ∧ ZB m ∧ ∀ m', ZB m' → K (some (.inl (thF s n what))) (x2W r2 r3 r4 r5 hi s m')
def ctb_X5_then : List (Nat × (List sv → List sc → (List sv → List sc → Prop) → Prop)) := [(1, cS none 1 F_X5_isWhile), (10, cS none 3 F_X5_within), (19, cS (some 3) 1 F_X5_inMind), (25, cG [8, 9, 10, 11, 12, 13, 14] (some 0) 2 F_X0_pass)]
theorem cok_X5_then : CallOK cX5_then 4 (some .int) RX5 6 ctb_X5_then := CallOK_cons (site_same (rnS (pX5_then_ok 1 _ rfl) ct_X5_isWhile kX5_isWhile lRX5_148 (by decide))) (CallOK_cons (site_same (rnS (pX5_then_ok 10 _ rfl) ct_X5_within kX5_within lRX5_129 (by decide))) (CallOK_cons (site_same (rnV (pX5_then_ok 19 _ rfl) ct_X5_inMind kX5_inMind lRX5_58 (by decide))) (CallOK_cons (site_gen [8, 9, 10, 11, 12, 13, 14] (by decide) (rnV (pX5_then_ok 25 _ rfl) ct_X0_pass kX0_pass lRX5_136 (by decide))) (CallOK_nil))))
theorem ct_X5_then : Ct yX5_then cX5_then 4 (some .int) 6 F_X5_then := by
  intro l D σ cA sz as w K h
  obtain ⟨r2, r3, r4, r5, hi, s, m, N, n, what, rfl, rfl, ⟨hZ, hG, hN, hN9, hB⟩, hM, h⟩ := h
  have h0 := h m hM
  refine metL (pr := lkB pX5_then) (rk := 1) (ct := ctb_X5_then) (fld := lkB flX5) (cst := lkB csX5) (cstL := lkB clX5) [] pX5_then_ok kX5_then.2.2.2.2.2.2.2 fdX5 cdX5 rto1 cok_X5_then (Nat.le_of_ble_eq_true rfl) cut0 ?_ l D σ cA sz
  conv => whnf
  refine ⟨fun hc => ?_, fun hc1 => ?_⟩
  · conv => whnf
    exact kI h0 (by unfold thF; rw [if_neg (fun q => bp_0.mp hc q.1)])
  conv => whnf
  refine ⟨fun hc2 => ?_, fun hc => ?_⟩
  rotate_left
  · conv => whnf
    exact kI h0 (by unfold thF; rw [if_neg (fun q => bp_0.mp hc q.2)])
  have c1 := bp_n hc1
  have c2 := bp_n hc2
  obtain ⟨n', hn', en⟩ := in_rng (n := 60) (by decide) c1
  have eix : ix n = n' := by rw [en]; exact nI_clamp (by omega)
  have hr : thF s n what = if what = 0 then iT (nightsS n' s) else if what = 1 then iS (nightsS n' s) else iA (nightsS n' s) := by
    unfold thF
    rw [if_pos ⟨c1, c2⟩, eix]
  have hz := ZB_nights hZ hG hN n' (by omega)
  conv => whnf
  refine ⟨r2, r3, r4, r5, hi, s, m, rfl, rfl, hZ, hM, ?_⟩
  conv => whnf
  refine ⟨s, n', N, by rw [en]; rfl, rfl, hG, hN, by omega, ?_⟩
  repeat' ((conv => whnf); (first | refine And.intro (by first | decide | with_reducible assumption) ?_ | with_reducible refine And.intro (fun hc => ?_) (fun hc => ?_) | with_reducible refine And.intro (fun hc => ?_) ?_ | fail))
  all_goals try (conv => whnf)
  · exact kI (h _ hz) (by rw [hr, if_neg (by assumption), if_neg (by assumption)])
  · exact kI (h _ hz) (by rw [hr, if_neg (by assumption), if_pos (by assumption)])
  · exact kI (h _ hz) (by rw [hr, if_pos (by assumption)])
end
section
/-! ===== guest, wishes, heals, fills, count ===== -/
theorem ofI0 : Int32.ofInt 0 = 0 ∧ Int32.ofInt (0 + 1) = 1 ∧ Int32.ofInt (0 + 1 + 1) = 2 ∧ Int32.ofInt (0 + 1 + 1 + 1) = 3 ∧ Int32.ofInt (0 + 1 + 1 + 1 + 1) = 4 ∧ Int32.ofInt (0 + 1 + 1 + 1 + 1 + 1) = 5 ∧ Int32.ofInt (0 + 1 + 1 + 1 + 1 + 1 + 1) = 6 ∧ Int32.ofInt (0 + 1 + 1 + 1 + 1 + 1 + 1 + 1) = 7 := by decide
theorem out07 {k : Int32} (h : k.toInt < 0 ∨ 7 < k.toInt) : k ≠ 0 ∧ k ≠ 1 ∧ k ≠ 2 ∧ k ≠ 3 ∧ k ≠ 4 ∧ k ≠ 5 ∧ k ≠ 6 ∧ k ≠ 7 := by
  refine ⟨?_, ?_, ?_, ?_, ?_, ?_, ?_, ?_⟩ <;> (rintro rfl; revert h; decide)
theorem out06 {k : Int32} (h : k.toInt < 0 ∨ 6 < k.toInt) (h7 : 0 ≤ k ∧ k ≤ 7) : k = 7 := by
  rw [i32_le, i32_le] at h7
  rw [i32_eq]
  have e0 : (0 : Int32).toInt = 0 := rfl
  have e7 : (7 : Int32).toInt = 7 := rfl
  rw [e0, e7] at h7
  rw [e7]; omega
theorem out05 {k : Int32} (h : k.toInt < 0 ∨ 5 < k.toInt) : k ≠ 0 ∧ k ≠ 1 ∧ k ≠ 2 ∧ k ≠ 3 ∧ k ≠ 4 ∧ k ≠ 5 := by
  refine ⟨?_, ?_, ?_, ?_, ?_, ?_⟩ <;> (rintro rfl; revert h; decide)
noncomputable def guW (s : InnS) (g what : Int32) : Int32 := if what = 0 then iK s (ix g) else if what = 1 then iF s (ix g) else if what = 2 then iW s (ix g) else if what = 3 then iL s (ix g) else if what = 4 then iH s (ix g) else if what = 5 then bp (tb (iT s) g) else if what = 6 then eatsK (iK s (ix g)) else if what = 7 then gainK (iK s (ix g)) (iF s (ix g)) (iW s (ix g)) (iL s (ix g)) + 10 else -1
noncomputable def guF (s : InnS) (g what : Int32) : Int32 := if 0 ≤ g ∧ g ≤ iG s - 1 then guW s g what else -1
def F_X6_guest : Fn := fun as w K => ∃ (s : InnS) (q : Pm) (t : Tm) (N : Nat) (g what : Int32), as = [sR 0, sI g, sI what] ∧ w = modW s q t ∧ TZ t ∧ IV s N ∧ ∀ a b t', TZ t' → K (some (.inl (guF s g what))) (modW (snS s a b) q t')
def ctb_X6_guest : List (Nat × (List sv → List sc → (List sv → List sc → Prop) → Prop)) := [(7, cS (some 4) 2 F_X6_isOne), (19, cS none 3 F_X6_in), (112, cS none 2 F_X6_hasBit), (126, cS (some 4) 2 F_X6_eatsOf), (138, cS (some 4) 3 F_X6_gainsOf)]
theorem cok_X6_guest : CallOK cX6_guest 3 (some .int) RX6 3 ctb_X6_guest := CallOK_cons (site_same (rnV (pX6_guest_ok 7 _ rfl) ct_X6_isOne kX6_isOne lRX6_171 (by decide))) (CallOK_cons (site_same (rnS (pX6_guest_ok 19 _ rfl) ct_X6_in kX6_in lRX6_81 (by decide))) (CallOK_cons (site_same (rnS (pX6_guest_ok 112 _ rfl) ct_X6_hasBit kX6_hasBit lRX6_105 (by decide))) (CallOK_cons (site_same (rnV (pX6_guest_ok 126 _ rfl) ct_X6_eatsOf kX6_eatsOf lRX6_109 (by decide))) (CallOK_cons (site_same (rnV (pX6_guest_ok 138 _ rfl) ct_X6_gainsOf kX6_gainsOf lRX6_113 (by decide))) (CallOK_nil)))))
theorem ct_X6_guest : Ct yX6_guest cX6_guest 3 (some .int) 3 F_X6_guest := by
  intro l D σ cA sz as w K h
  obtain ⟨s, q, t, N, g, what, rfl, rfl, hT, ⟨hZ, hG, hN, hN9, hB⟩, h⟩ := h
  have h0 := h (iSn s) (iLn s) (tq0 t) hT
  clear h
  refine metL (pr := lkB pX6_guest) (rk := 1) (ct := ctb_X6_guest) (fld := lkB flX6) (cst := lkB csX6) (cstL := lkB clX6) [] pX6_guest_ok kX6_guest.2.2.2.2.2.2.2 fdX6 cdX6 rto1 cok_X6_guest (Nat.le_of_ble_eq_true rfl) cut0 ?_ l D σ cA sz
  conv => whnf
  refine ⟨s, q, tq0 t, g, rfl, rfl, ?_⟩
  conv => whnf
  refine ⟨fun hc => ?_, fun hc1 => ?_⟩
  · conv => whnf
    exact kI h0 (by unfold guF; rw [if_neg (bp_0.mp hc)])
  have c1 := bp_n hc1
  obtain ⟨G, hG7, hGG⟩ := hG.2.1
  obtain ⟨j, hj, ej⟩ := kn hG7 (by rw [← hGG]; exact c1)
  have hv : vp_in g 7 := by rw [ej]; exact vp_in_nI (by omega) (by decide)
  have hr : guF s g what = guW s g what := by unfold guF; rw [if_pos c1]
  rw [hr] at h0
  clear hr
  conv => whnf
  refine ⟨fun hc2 => ?_, fun hc => ?_⟩
  rotate_left
  · conv => whnf
    have hc := bp_0.mp ((in_ii 0 what 7).symm.trans hc)
    refine kI h0 ?_
    clear h0
    unfold guW
    rw [if_neg (fun q => hc (by rw [q]; decide)), if_neg (fun q => hc (by rw [q]; decide)), if_neg (fun q => hc (by rw [q]; decide)), if_neg (fun q => hc (by rw [q]; decide)), if_neg (fun q => hc (by rw [q]; decide)), if_neg (fun q => hc (by rw [q]; decide)), if_neg (fun q => hc (by rw [q]; decide)), if_neg (fun q => hc (by rw [q]; decide))]
  have c2 := bp_n (fun z => hc2 ((in_ii 0 what 7).trans z))
  conv => whnf
  refine ⟨fun hc => ?_, ?_⟩
  · obtain rfl := out06 hc c2
    conv => whnf
    refine ⟨hv, ?_⟩
    conv => whnf
    refine ⟨s, q, tq0 t, g, iW s (ix g), rfl, rfl, hv, ?_⟩
    conv => whnf
    exact h0
  repeat' ((conv => whnf); (first | refine And.intro (by first | decide | with_reducible assumption) ?_ | with_reducible refine And.intro (fun hc => ?_) (fun hc => ?_) | with_reducible refine And.intro (fun hc => ?_) ?_ | fail))
  all_goals try (conv => whnf)
  all_goals first | trivial | (refine kI h0 ?_; clear h0; simp_all [guW, ofI0, bp_t, bp_f]; done) | skip
  · refine kI h0 ?_
    have h5 := bp_t (bp_n hc)
    clear h0
    simp_all [guW, ofI0]
  · refine ⟨s, q, tq0 t, g, rfl, rfl, hv, ?_⟩
    conv => whnf
    refine kI h0 ?_
    clear h0
    simp_all [guW, ofI0]
def F_X5_guest : Fn := fun as w K => ∃ (r1 r2 r3 r4 r5 : sv) (hi : Int32) (s : InnS) (N : Nat) (g what : Int32), as = [sR 0, sI g, sI what] ∧ w = x1W r1 r2 r3 r4 r5 hi s ∧ IV s N ∧ K (some (.inl (guF s g what))) w
def ctb_X5_guest : List (Nat × (List sv → List sc → (List sv → List sc → Prop) → Prop)) := [(5, cG [1, 2, 3, 4, 5, 6, 7] (some 0) 2 F_X0_knows), (115, cG [1, 2, 3, 4, 5, 6, 7] (some 0) 2 F_X0_isThere), (136, cS none 1 F_X1_eats), (178, cS none 4 F_X1_gain)]
theorem cok_X5_guest : CallOK cX5_guest 3 (some .int) RX5 3 ctb_X5_guest := CallOK_cons (site_gen [1, 2, 3, 4, 5, 6, 7] (by decide) (rnV (pX5_guest_ok 5 _ rfl) ct_X0_knows kX0_knows lRX5_80 (by decide))) (CallOK_cons (site_gen [1, 2, 3, 4, 5, 6, 7] (by decide) (rnV (pX5_guest_ok 115 _ rfl) ct_X0_isThere kX0_isThere lRX5_98 (by decide))) (CallOK_cons (site_same (rnS (pX5_guest_ok 136 _ rfl) ct_X1_eats kX1_eats lRX5_101 (by decide))) (CallOK_cons (site_same (rnS (pX5_guest_ok 178 _ rfl) ct_X1_gain kX1_gain lRX5_106 (by decide))) (CallOK_nil))))
theorem ct_X5_guest : Ct yX5_guest cX5_guest 3 (some .int) 3 F_X5_guest := by
  intro l D σ cA sz as w K h
  obtain ⟨r1, r2, r3, r4, r5, hi, s, N, g, what, rfl, rfl, ⟨hZ, hG, hN, hN9, hB⟩, h0⟩ := h
  refine metL (pr := lkB pX5_guest) (rk := 1) (ct := ctb_X5_guest) (fld := lkB flX5) (cst := lkB csX5) (cstL := lkB clX5) [] pX5_guest_ok kX5_guest.2.2.2.2.2.2.2 fdX5 cdX5 rto1 cok_X5_guest (Nat.le_of_ble_eq_true rfl) cut0 ?_ l D σ cA sz
  conv => whnf
  refine ⟨s, g, rfl, rfl, ?_⟩
  conv => whnf
  refine ⟨fun hc1 => ?_, fun hc => ?_⟩
  rotate_left
  · conv => whnf
    exact kI h0 (by unfold guF; rw [if_neg (bp_0.mp hc)])
  have c1 := bp_n hc1
  obtain ⟨G, hG7, hGG⟩ := hG.2.1
  obtain ⟨j, hj, ej⟩ := kn hG7 (by rw [← hGG]; exact c1)
  have hv : vp_in g 7 := by rw [ej]; exact vp_in_nI (by omega) (by decide)
  have hwi : rng 10 (iW s (ix g)) := by
    rw [ej, show ix (nI j) = j from nI_clamp (by omega)]
    exact (hG.1 j (by omega)).2.1
  have hr : guF s g what = guW s g what := by unfold guF; rw [if_pos c1]
  rw [hr] at h0
  clear hr
  repeat' ((conv => whnf); (first | refine And.intro (by first | decide | with_reducible assumption) ?_ | with_reducible refine And.intro (fun hc => ?_) (fun hc => ?_) | with_reducible refine And.intro (fun hc => ?_) ?_ | fail))
  all_goals try (conv => whnf)
  all_goals first | trivial | (refine kI h0 ?_; clear h0; simp_all [guW, ofI0, bp_t, bp_f]; done) | skip
  · refine kI h0 ?_
    have a := out07 hc
    clear h0
    simp_all [guW]
  · refine ⟨s, g, rfl, rfl, ?_⟩
    repeat' ((conv => whnf); (first | refine And.intro (by first | decide | with_reducible assumption) ?_ | with_reducible refine And.intro (fun hc => ?_) (fun hc => ?_) | with_reducible refine And.intro (fun hc => ?_) ?_ | fail))
    all_goals try (conv => whnf)
    · refine kI h0 ?_
      have h5 := bp_f (bp_0.mp hc)
      clear h0
      simp_all [guW, ofI0]
    · refine kI h0 ?_
      have h5 := bp_t (bp_n hc)
      clear h0
      simp_all [guW, ofI0]
  · refine kI h0 ?_
    clear h0
    simp_all [guW, ofI0, Int32.add_comm]
end
section
/-! ===== wishes, heals, fills, nights, count ===== -/
def wiC (s : InnS) (g k : Int32) : Prop := (0 ≤ g ∧ g ≤ iG s - 1) ∧ (0 ≤ k ∧ k ≤ 9)
noncomputable def wiR (s : InnS) (g k : Int32) : Int32 := @ite _ (wiC s g k) (Classical.propDecidable _) (iW s (ix g)) (-1)
noncomputable def wiS (s : InnS) (g k : Int32) : InnS := @ite _ (wiC s g k) (Classical.propDecidable _) (iK s, iF s, upd (iW s) (ix g) k, iL s, iH s, iP s, iG s, iT s, iN s, iS s, iA s, iSn s, iLn s) s
def heC (s : InnS) (g v : Int32) : Prop := (0 ≤ g ∧ g ≤ iG s - 1) ∧ (1 ≤ v ∧ v ≤ 99)
noncomputable def heR (s : InnS) (g v : Int32) : Int32 := @ite _ (heC s g v) (Classical.propDecidable _) (@ite _ (tb (iT s) g) (Classical.propDecidable _) (iH s (ix g)) (-3)) (-1)
noncomputable def heS (s : InnS) (g v : Int32) : InnS := @ite _ (heC s g v ∧ tb (iT s) g) (Classical.propDecidable _) (iK s, iF s, iW s, iL s, upd (iH s) (ix g) v, iP s, iG s, iT s, iN s, iS s, iA s, iSn s, iLn s) s
def fiC (k v : Int32) : Prop := (0 ≤ k ∧ k ≤ 9) ∧ (0 ≤ v ∧ v ≤ 99)
noncomputable def fiR (s : InnS) (k v : Int32) : Int32 := @ite _ (fiC k v) (Classical.propDecidable _) (iP s (ix k)) (-1)
noncomputable def fiS (s : InnS) (k v : Int32) : InnS := @ite _ (fiC k v) (Classical.propDecidable _) (iK s, iF s, iW s, iL s, iH s, upd (iP s) (ix k) v, iG s, iT s, iN s, iS s, iA s, iSn s, iLn s) s
noncomputable def niR (s : InnS) (n : Int32) : Int32 := if 1 ≤ n ∧ n ≤ 60 then (if 999 < iN s + n then -3 else pop (iT (nightsS (ix n) s))) else -1
noncomputable def niS (s : InnS) (n : Int32) : InnS := if (1 ≤ n ∧ n ≤ 60) ∧ ¬ 999 < iN s + n then nightsS (ix n) s else s
def coF (s : InnS) (what : Int32) : Int32 := if what = 0 then iG s else if what = 1 then iN s else if what = 2 then iS s else if what = 3 then iA s else if what = 4 then iT s else if what = 5 then bx_sum (iP s) 10 else -1
theorem kn_in {s : InnS} {g : Int32} (hG : GS s) (h : 0 ≤ g ∧ g ≤ iG s - 1) : vp_in g 7 := by
  obtain ⟨G, hG7, hGG⟩ := hG.2.1
  obtain ⟨j, hj, ej⟩ := kn hG7 (by rw [← hGG]; exact h)
  rw [ej]; exact vp_in_nI (by omega) (by decide)
def F_X6_wishes : Fn := fun as w K => ∃ (s : InnS) (q : Pm) (t : Tm) (g k : Int32), as = [sR 0, sI g, sI k] ∧ w = modW s q t ∧ TZ t ∧ GS s ∧ ∀ a b t', TZ t' → K (some (.inl (wiR s g k))) (modW (snS (wiS s g k) a b) q t')
def ctb_X6_wishes : List (Nat × (List sv → List sc → (List sv → List sc → Prop) → Prop)) := [(7, cS (some 4) 2 F_X6_isOne), (14, cS none 1 F_X6_isPlate)]
theorem cok_X6_wishes : CallOK cX6_wishes 4 (some .int) RX6 3 ctb_X6_wishes := CallOK_cons (site_same (rnV (pX6_wishes_ok 7 _ rfl) ct_X6_isOne kX6_isOne lRX6_171 (by decide))) (CallOK_cons (site_same (rnS (pX6_wishes_ok 14 _ rfl) ct_X6_isPlate kX6_isPlate lRX6_220 (by decide))) (CallOK_nil))
theorem ct_X6_wishes : Ct yX6_wishes cX6_wishes 4 (some .int) 3 F_X6_wishes := by
  intro l D σ cA sz as w K h
  obtain ⟨s, q, t, g, k, rfl, rfl, hT, hG, h⟩ := h
  refine metL (pr := lkB pX6_wishes) (rk := 1) (ct := ctb_X6_wishes) (fld := lkB flX6) (cst := lkB csX6) (cstL := lkB clX6) [] pX6_wishes_ok kX6_wishes.2.2.2.2.2.2.2 fdX6 cdX6 rto1 cok_X6_wishes (Nat.le_of_ble_eq_true rfl) cut0 ?_ l D σ cA sz
  conv => whnf
  refine ⟨s, q, tq0 t, g, rfl, rfl, ?_⟩
  conv => whnf
  refine ⟨fun hc => ?_, fun hc1 => ?_⟩
  · conv => whnf
    have hn : ¬ wiC s g k := fun q => bp_0.mp hc q.1
    rw [wiR, wiS, if_neg hn, if_neg hn] at h
    exact h (iSn s) (iLn s) (tq0 t) hT
  conv => whnf
  refine ⟨fun hc2 => ?_, fun hc => ?_⟩
  rotate_left
  · conv => whnf
    have hn : ¬ wiC s g k := fun q => bp_0.mp hc q.2
    rw [wiR, wiS, if_neg hn, if_neg hn] at h
    exact h (iSn s) (iLn s) (tq0 t) hT
  have hn : wiC s g k := ⟨bp_n hc1, bp_n hc2⟩
  have hv := kn_in hG hn.1
  rw [wiR, wiS, if_pos hn, if_pos hn] at h
  repeat' ((conv => whnf); (first | refine And.intro (by first | decide | with_reducible assumption) ?_ | with_reducible refine And.intro (fun hc => ?_) (fun hc => ?_) | with_reducible refine And.intro (fun hc => ?_) ?_ | fail))
  all_goals try (conv => whnf)
  exact h (iSn s) (iLn s) (tq0 t) hT
def F_X5_wishes : Fn := fun as w K => ∃ (r1 r2 r3 r4 r5 : sv) (hi : Int32) (s : InnS) (g k : Int32), as = [sR 0, sI g, sI k] ∧ w = x1W r1 r2 r3 r4 r5 hi s ∧ GS s ∧ K (some (.inl (wiR s g k))) (x1W r1 r2 r3 r4 r5 hi (wiS s g k))
def ctb_X5_wishes : List (Nat × (List sv → List sc → (List sv → List sc → Prop) → Prop)) := [(5, cG [1, 2, 3, 4, 5, 6, 7] (some 0) 2 F_X0_knows), (12, cS none 1 F_X5_isPlate)]
theorem cok_X5_wishes : CallOK cX5_wishes 4 (some .int) RX5 3 ctb_X5_wishes := CallOK_cons (site_gen [1, 2, 3, 4, 5, 6, 7] (by decide) (rnV (pX5_wishes_ok 5 _ rfl) ct_X0_knows kX0_knows lRX5_80 (by decide))) (CallOK_cons (site_same (rnS (pX5_wishes_ok 12 _ rfl) ct_X5_isPlate kX5_isPlate lRX5_110 (by decide))) (CallOK_nil))
theorem ct_X5_wishes : Ct yX5_wishes cX5_wishes 4 (some .int) 3 F_X5_wishes := by
  intro l D σ cA sz as w K h
  obtain ⟨r1, r2, r3, r4, r5, hi, s, g, k, rfl, rfl, hG, h⟩ := h
  refine metL (pr := lkB pX5_wishes) (rk := 1) (ct := ctb_X5_wishes) (fld := lkB flX5) (cst := lkB csX5) (cstL := lkB clX5) [] pX5_wishes_ok kX5_wishes.2.2.2.2.2.2.2 fdX5 cdX5 rto1 cok_X5_wishes (Nat.le_of_ble_eq_true rfl) cut0 ?_ l D σ cA sz
  conv => whnf
  refine ⟨s, g, rfl, rfl, ?_⟩
  conv => whnf
  refine ⟨fun hc => ?_, fun hc1 => ?_⟩
  · conv => whnf
    have hn : ¬ wiC s g k := fun q => bp_0.mp hc q.1
    rw [wiR, wiS, if_neg hn, if_neg hn] at h
    exact h
  conv => whnf
  refine ⟨fun hc2 => ?_, fun hc => ?_⟩
  rotate_left
  · conv => whnf
    have hn : ¬ wiC s g k := fun q => bp_0.mp hc q.2
    rw [wiR, wiS, if_neg hn, if_neg hn] at h
    exact h
  have hn : wiC s g k := ⟨bp_n hc1, bp_n hc2⟩
  have hv := kn_in hG hn.1
  rw [wiR, wiS, if_pos hn, if_pos hn] at h
  repeat' ((conv => whnf); (first | refine And.intro (by first | decide | with_reducible assumption) ?_ | with_reducible refine And.intro (fun hc => ?_) (fun hc => ?_) | with_reducible refine And.intro (fun hc => ?_) ?_ | fail))
  all_goals try (conv => whnf)
  exact h
def F_X6_heals : Fn := fun as w K => ∃ (s : InnS) (q : Pm) (t : Tm) (g v : Int32), as = [sR 0, sI g, sI v] ∧ w = modW s q t ∧ TZ t ∧ GS s ∧ ∀ a b t', TZ t' → K (some (.inl (heR s g v))) (modW (snS (heS s g v) a b) q t')
def ctb_X6_heals : List (Nat × (List sv → List sc → (List sv → List sc → Prop) → Prop)) := [(7, cS (some 4) 2 F_X6_isOne), (19, cS none 3 F_X6_in), (32, cS none 2 F_X6_hasBit)]
theorem cok_X6_heals : CallOK cX6_heals 4 (some .int) RX6 3 ctb_X6_heals := CallOK_cons (site_same (rnV (pX6_heals_ok 7 _ rfl) ct_X6_isOne kX6_isOne lRX6_171 (by decide))) (CallOK_cons (site_same (rnS (pX6_heals_ok 19 _ rfl) ct_X6_in kX6_in lRX6_81 (by decide))) (CallOK_cons (site_same (rnS (pX6_heals_ok 32 _ rfl) ct_X6_hasBit kX6_hasBit lRX6_105 (by decide))) (CallOK_nil)))
theorem ct_X6_heals : Ct yX6_heals cX6_heals 4 (some .int) 3 F_X6_heals := by
  intro l D σ cA sz as w K h
  obtain ⟨s, q, t, g, v, rfl, rfl, hT, hG, h⟩ := h
  refine metL (pr := lkB pX6_heals) (rk := 1) (ct := ctb_X6_heals) (fld := lkB flX6) (cst := lkB csX6) (cstL := lkB clX6) [] pX6_heals_ok kX6_heals.2.2.2.2.2.2.2 fdX6 cdX6 rto1 cok_X6_heals (Nat.le_of_ble_eq_true rfl) cut0 ?_ l D σ cA sz
  conv => whnf
  refine ⟨s, q, tq0 t, g, rfl, rfl, ?_⟩
  conv => whnf
  refine ⟨fun hc => ?_, fun hc1 => ?_⟩
  · conv => whnf
    have hn : ¬ heC s g v := fun q => bp_0.mp hc q.1
    rw [heR, heS, if_neg hn, if_neg (fun q => hn q.1)] at h
    exact h (iSn s) (iLn s) (tq0 t) hT
  conv => whnf
  refine ⟨fun hc2 => ?_, fun hc => ?_⟩
  rotate_left
  · conv => whnf
    have hc := bp_0.mp ((in_ii 1 v 99).symm.trans hc)
    have hn : ¬ heC s g v := fun q => hc q.2
    rw [heR, heS, if_neg hn, if_neg (fun q => hn q.1)] at h
    exact h (iSn s) (iLn s) (tq0 t) hT
  have hn : heC s g v := ⟨bp_n hc1, bp_n (fun z => hc2 ((in_ii 1 v 99).trans z))⟩
  have hv := kn_in hG hn.1
  rw [heR, if_pos hn] at h
  conv => whnf
  refine ⟨fun hb => ?_, fun hb => ?_⟩
  · have hb := bp_n hb
    rw [heS, if_pos hb, if_pos ⟨hn, hb⟩] at h
    repeat' ((conv => whnf); (first | refine And.intro (by first | decide | with_reducible assumption) ?_ | with_reducible refine And.intro (fun hc => ?_) (fun hc => ?_) | with_reducible refine And.intro (fun hc => ?_) ?_ | fail))
    all_goals try (conv => whnf)
    exact h (iSn s) (iLn s) (tq0 t) hT
  · have hb := bp_0.mp hb
    rw [heS, if_neg hb, if_neg (fun q => hb q.2)] at h
    conv => whnf
    exact h (iSn s) (iLn s) (tq0 t) hT
def F_X5_heals : Fn := fun as w K => ∃ (r1 r2 r3 r4 r5 : sv) (hi : Int32) (s : InnS) (g v : Int32), as = [sR 0, sI g, sI v] ∧ w = x1W r1 r2 r3 r4 r5 hi s ∧ GS s ∧ K (some (.inl (heR s g v))) (x1W r1 r2 r3 r4 r5 hi (heS s g v))
def ctb_X5_heals : List (Nat × (List sv → List sc → (List sv → List sc → Prop) → Prop)) := [(5, cG [1, 2, 3, 4, 5, 6, 7] (some 0) 2 F_X0_knows), (15, cS none 3 F_X5_within), (28, cG [1, 2, 3, 4, 5, 6, 7] (some 0) 2 F_X0_isThere)]
theorem cok_X5_heals : CallOK cX5_heals 4 (some .int) RX5 3 ctb_X5_heals := CallOK_cons (site_gen [1, 2, 3, 4, 5, 6, 7] (by decide) (rnV (pX5_heals_ok 5 _ rfl) ct_X0_knows kX0_knows lRX5_80 (by decide))) (CallOK_cons (site_same (rnS (pX5_heals_ok 15 _ rfl) ct_X5_within kX5_within lRX5_129 (by decide))) (CallOK_cons (site_gen [1, 2, 3, 4, 5, 6, 7] (by decide) (rnV (pX5_heals_ok 28 _ rfl) ct_X0_isThere kX0_isThere lRX5_98 (by decide))) (CallOK_nil)))
theorem ct_X5_heals : Ct yX5_heals cX5_heals 4 (some .int) 3 F_X5_heals := by
  intro l D σ cA sz as w K h
  obtain ⟨r1, r2, r3, r4, r5, hi, s, g, v, rfl, rfl, hG, h⟩ := h
  refine metL (pr := lkB pX5_heals) (rk := 1) (ct := ctb_X5_heals) (fld := lkB flX5) (cst := lkB csX5) (cstL := lkB clX5) [] pX5_heals_ok kX5_heals.2.2.2.2.2.2.2 fdX5 cdX5 rto1 cok_X5_heals (Nat.le_of_ble_eq_true rfl) cut0 ?_ l D σ cA sz
  conv => whnf
  refine ⟨s, g, rfl, rfl, ?_⟩
  conv => whnf
  refine ⟨fun hc => ?_, fun hc1 => ?_⟩
  · conv => whnf
    have hn : ¬ heC s g v := fun q => bp_0.mp hc q.1
    rw [heR, heS, if_neg hn, if_neg (fun q => hn q.1)] at h
    exact h
  conv => whnf
  refine ⟨fun hc2 => ?_, fun hc => ?_⟩
  rotate_left
  · conv => whnf
    have hn : ¬ heC s g v := fun q => bp_0.mp hc q.2
    rw [heR, heS, if_neg hn, if_neg (fun q => hn q.1)] at h
    exact h
  have hn : heC s g v := ⟨bp_n hc1, bp_n hc2⟩
  have hv := kn_in hG hn.1
  rw [heR, if_pos hn] at h
  conv => whnf
  refine ⟨s, g, rfl, rfl, ?_⟩
  conv => whnf
  refine ⟨fun hb => ?_, fun hb => ?_⟩
  · have hb := bp_n hb
    rw [heS, if_pos hb, if_pos ⟨hn, hb⟩] at h
    repeat' ((conv => whnf); (first | refine And.intro (by first | decide | with_reducible assumption) ?_ | with_reducible refine And.intro (fun hc => ?_) (fun hc => ?_) | with_reducible refine And.intro (fun hc => ?_) ?_ | fail))
    all_goals try (conv => whnf)
    exact h
  · have hb := bp_0.mp hb
    rw [heS, if_neg hb, if_neg (fun q => hb q.2)] at h
    conv => whnf
    exact h
def F_X6_fills : Fn := fun as w K => ∃ (s : InnS) (q : Pm) (t : Tm) (k v : Int32), as = [sR 0, sI k, sI v] ∧ w = modW s q t ∧ TZ t ∧ ∀ a b t', TZ t' → K (some (.inl (fiR s k v))) (modW (snS (fiS s k v) a b) q t')
def ctb_X6_fills : List (Nat × (List sv → List sc → (List sv → List sc → Prop) → Prop)) := [(6, cS none 1 F_X6_isPlate), (18, cS none 3 F_X6_in)]
theorem cok_X6_fills : CallOK cX6_fills 4 (some .int) RX6 3 ctb_X6_fills := CallOK_cons (site_same (rnS (pX6_fills_ok 6 _ rfl) ct_X6_isPlate kX6_isPlate lRX6_220 (by decide))) (CallOK_cons (site_same (rnS (pX6_fills_ok 18 _ rfl) ct_X6_in kX6_in lRX6_81 (by decide))) (CallOK_nil))
theorem ct_X6_fills : Ct yX6_fills cX6_fills 4 (some .int) 3 F_X6_fills := by
  intro l D σ cA sz as w K h
  obtain ⟨s, q, t, k, v, rfl, rfl, hT, h⟩ := h
  refine metL (pr := lkB pX6_fills) (rk := 1) (ct := ctb_X6_fills) (fld := lkB flX6) (cst := lkB csX6) (cstL := lkB clX6) [] pX6_fills_ok kX6_fills.2.2.2.2.2.2.2 fdX6 cdX6 rto1 cok_X6_fills (Nat.le_of_ble_eq_true rfl) cut0 ?_ l D σ cA sz
  conv => whnf
  refine ⟨fun hc => ?_, fun hc1 => ?_⟩
  · conv => whnf
    have hn : ¬ fiC k v := fun q => bp_0.mp hc q.1
    rw [fiR, fiS, if_neg hn, if_neg hn] at h
    exact h (iSn s) (iLn s) (tq0 t) hT
  conv => whnf
  refine ⟨fun hc2 => ?_, fun hc => ?_⟩
  rotate_left
  · conv => whnf
    have hc := bp_0.mp ((in_ii 0 v 99).symm.trans hc)
    have hn : ¬ fiC k v := fun q => hc q.2
    rw [fiR, fiS, if_neg hn, if_neg hn] at h
    exact h (iSn s) (iLn s) (tq0 t) hT
  have hn : fiC k v := ⟨bp_n hc1, bp_n (fun z => hc2 ((in_ii 0 v 99).trans z))⟩
  have hv := plate_in hn.1
  rw [fiR, fiS, if_pos hn, if_pos hn] at h
  repeat' ((conv => whnf); (first | refine And.intro (by first | decide | with_reducible assumption) ?_ | with_reducible refine And.intro (fun hc => ?_) (fun hc => ?_) | with_reducible refine And.intro (fun hc => ?_) ?_ | fail))
  all_goals try (conv => whnf)
  exact h (iSn s) (iLn s) (tq0 t) hT
def F_X5_fills : Fn := fun as w K => ∃ (r1 r2 r3 r4 r5 : sv) (hi : Int32) (s : InnS) (k v : Int32), as = [sR 0, sI k, sI v] ∧ w = x1W r1 r2 r3 r4 r5 hi s ∧ K (some (.inl (fiR s k v))) (x1W r1 r2 r3 r4 r5 hi (fiS s k v))
def ctb_X5_fills : List (Nat × (List sv → List sc → (List sv → List sc → Prop) → Prop)) := [(1, cS none 1 F_X5_isPlate), (11, cS none 3 F_X5_within)]
theorem cok_X5_fills : CallOK cX5_fills 4 (some .int) RX5 3 ctb_X5_fills := CallOK_cons (site_same (rnS (pX5_fills_ok 1 _ rfl) ct_X5_isPlate kX5_isPlate lRX5_110 (by decide))) (CallOK_cons (site_same (rnS (pX5_fills_ok 11 _ rfl) ct_X5_within kX5_within lRX5_129 (by decide))) (CallOK_nil))
theorem ct_X5_fills : Ct yX5_fills cX5_fills 4 (some .int) 3 F_X5_fills := by
  intro l D σ cA sz as w K h
  obtain ⟨r1, r2, r3, r4, r5, hi, s, k, v, rfl, rfl, h⟩ := h
  refine metL (pr := lkB pX5_fills) (rk := 1) (ct := ctb_X5_fills) (fld := lkB flX5) (cst := lkB csX5) (cstL := lkB clX5) [] pX5_fills_ok kX5_fills.2.2.2.2.2.2.2 fdX5 cdX5 rto1 cok_X5_fills (Nat.le_of_ble_eq_true rfl) cut0 ?_ l D σ cA sz
  conv => whnf
  refine ⟨fun hc => ?_, fun hc1 => ?_⟩
  · conv => whnf
    have hn : ¬ fiC k v := fun q => bp_0.mp hc q.1
    rw [fiR, fiS, if_neg hn, if_neg hn] at h
    exact h
  conv => whnf
  refine ⟨fun hc2 => ?_, fun hc => ?_⟩
  rotate_left
  · conv => whnf
    have hn : ¬ fiC k v := fun q => bp_0.mp hc q.2
    rw [fiR, fiS, if_neg hn, if_neg hn] at h
    exact h
  have hn : fiC k v := ⟨bp_n hc1, bp_n hc2⟩
  have hv := plate_in hn.1
  rw [fiR, fiS, if_pos hn, if_pos hn] at h
  repeat' ((conv => whnf); (first | refine And.intro (by first | decide | with_reducible assumption) ?_ | with_reducible refine And.intro (fun hc => ?_) (fun hc => ?_) | with_reducible refine And.intro (fun hc => ?_) ?_ | fail))
  all_goals try (conv => whnf)
  exact h
def F_X6_count : Fn := fun as w K => ∃ (s : InnS) (q : Pm) (t : Tm) (what : Int32), as = [sR 0, sI what] ∧ w = modW s q t ∧ TZ t ∧ ∀ a b t', TZ t' → K (some (.inl (coF s what))) (modW (snS s a b) q t')
def ctb_X6_count : List (Nat × (List sv → List sc → (List sv → List sc → Prop) → Prop)) := [(70, cS (some 4) 1 F_X6_allPlates)]
theorem cok_X6_count : CallOK cX6_count 2 (some .int) RX6 2 ctb_X6_count := CallOK_cons (site_same (rnV (pX6_count_ok 70 _ rfl) ct_X6_allPlates kX6_allPlates lRX6_264 (by decide))) (CallOK_nil)
theorem ct_X6_count : Ct yX6_count cX6_count 2 (some .int) 2 F_X6_count := by
  intro l D σ cA sz as w K h
  obtain ⟨s, q, t, what, rfl, rfl, hT, h⟩ := h
  have h0 := h (iSn s) (iLn s) (tq0 t) hT
  clear h
  refine metL (pr := lkB pX6_count) (rk := 1) (ct := ctb_X6_count) (fld := lkB flX6) (cst := lkB csX6) (cstL := lkB clX6) [] pX6_count_ok kX6_count.2.2.2.2.2.2.2 fdX6 cdX6 rto1 cok_X6_count (Nat.le_of_ble_eq_true rfl) cut0 ?_ l D σ cA sz
  repeat' ((conv => whnf); (first | refine And.intro (by first | decide | with_reducible assumption) ?_ | with_reducible refine And.intro (fun hc => ?_) (fun hc => ?_) | with_reducible refine And.intro (fun hc => ?_) ?_ | fail))
  all_goals try (conv => whnf)
  all_goals first | trivial | (refine kI h0 ?_; clear h0; simp_all [coF, ofI0]; done) | skip
  · have a := out05 hc
    refine kI h0 ?_
    clear h0
    simp_all [coF]
  · refine ⟨s, q, tq0 t, rfl, rfl, ?_⟩
    conv => whnf
    refine kI h0 ?_
    clear h0
    simp_all [coF, ofI0]
def F_X5_count : Fn := fun as w K => ∃ (r1 r2 r3 r4 r5 : sv) (hi : Int32) (s : InnS) (what : Int32), as = [sR 0, sI what] ∧ w = x1W r1 r2 r3 r4 r5 hi s ∧ K (some (.inl (coF s what))) w
def ctb_X5_count : List (Nat × (List sv → List sc → (List sv → List sc → Prop) → Prop)) := [(84, cG [1, 2, 3, 4, 5, 6, 7] (some 0) 1 F_X0_platesInAll)]
theorem cok_X5_count : CallOK cX5_count 2 (some .int) RX5 2 ctb_X5_count := CallOK_cons (site_gen [1, 2, 3, 4, 5, 6, 7] (by decide) (rnV (pX5_count_ok 84 _ rfl) ct_X0_platesInAll kX0_platesInAll lRX5_202 (by decide))) (CallOK_nil)
theorem ct_X5_count : Ct yX5_count cX5_count 2 (some .int) 2 F_X5_count := by
  intro l D σ cA sz as w K h
  obtain ⟨r1, r2, r3, r4, r5, hi, s, what, rfl, rfl, h0⟩ := h
  refine metL (pr := lkB pX5_count) (rk := 1) (ct := ctb_X5_count) (fld := lkB flX5) (cst := lkB csX5) (cstL := lkB clX5) [] pX5_count_ok kX5_count.2.2.2.2.2.2.2 fdX5 cdX5 rto1 cok_X5_count (Nat.le_of_ble_eq_true rfl) cut0 ?_ l D σ cA sz
  repeat' ((conv => whnf); (first | refine And.intro (by first | decide | with_reducible assumption) ?_ | with_reducible refine And.intro (fun hc => ?_) (fun hc => ?_) | with_reducible refine And.intro (fun hc => ?_) ?_ | fail))
  all_goals try (conv => whnf)
  all_goals first | trivial | (refine kI h0 ?_; clear h0; simp_all [coF, ofI0]; done) | skip
  · have a := out05 hc
    refine kI h0 ?_
    clear h0
    simp_all [coF]
  · refine ⟨s, rfl, rfl, ?_⟩
    conv => whnf
    refine kI h0 ?_
    clear h0
    simp_all [coF, ofI0]
end
section
/-! ===== nights, image, restore ===== -/
theorem n60 {n : Int32} (h : 1 ≤ n ∧ n ≤ 60) : ∃ j, 1 ≤ j ∧ j ≤ 60 ∧ n = nI j := by
  have h0 : ¬ n < 0 := fun q => absurd (Int32.lt_of_lt_of_le q (by decide : (0 : Int32) ≤ 1)) (Int32.not_lt.mpr h.1)
  obtain ⟨j, hj, hx⟩ := nI_of2 (M := 60) (n := 60) rfl h0 h.2
  refine ⟨j, ?_, hj, hx⟩
  rw [hx] at h
  exact (nI_leI (by decide) (by omega)).mp (show nI 1 ≤ nI j from h.1)
def F_X6_nights : Fn := fun as w K => ∃ (s : InnS) (q : Pm) (t : Tm) (N : Nat) (n : Int32), as = [sR 0, sI n] ∧ w = modW s q t ∧ TZ t ∧ IV s N ∧ ∀ a b t', TZ t' → K (some (.inl (niR s n))) (modW (snS (niS s n) a b) q t')
def ctb_X6_nights : List (Nat × (List sv → List sc → (List sv → List sc → Prop) → Prop)) := [(11, cS none 3 F_X6_in), (36, cS (some 4) 2 F_X6_goNights), (43, cS none 1 F_X6_onesOf)]
theorem cok_X6_nights : CallOK cX6_nights 2 (some .int) RX6 6 ctb_X6_nights := CallOK_cons (site_same (rnS (pX6_nights_ok 11 _ rfl) ct_X6_in kX6_in lRX6_81 (by decide))) (CallOK_cons (site_same (rnV (pX6_nights_ok 36 _ rfl) ct_X6_goNights kX6_goNights lRX6_168 (by decide))) (CallOK_cons (site_same (rnS (pX6_nights_ok 43 _ rfl) ct_X6_onesOf kX6_onesOf lRX6_228 (by decide))) (CallOK_nil)))
theorem ct_X6_nights : Ct yX6_nights cX6_nights 2 (some .int) 6 F_X6_nights := by
  intro l D σ cA sz as w K h
  obtain ⟨s, q, t, N, n, rfl, rfl, hT, ⟨hZ, hG, hN, hN9, hB⟩, h⟩ := h
  refine metL (pr := lkB pX6_nights) (rk := 1) (ct := ctb_X6_nights) (fld := lkB flX6) (cst := lkB csX6) (cstL := lkB clX6) [] pX6_nights_ok kX6_nights.2.2.2.2.2.2.2 fdX6 cdX6 rto1 cok_X6_nights (Nat.le_of_ble_eq_true rfl) cut0 ?_ l D σ cA sz
  conv => whnf
  refine ⟨fun hc1 => ?_, fun hc => ?_⟩
  rotate_left
  · conv => whnf
    have hc := bp_0.mp ((in_ii 1 n 60).symm.trans hc)
    rw [niR, niS, if_neg hc, if_neg (fun q => hc q.1)] at h
    exact h (iSn s) (iLn s) (tq0 t) hT
  have c1 := bp_n (fun z => hc1 ((in_ii 1 n 60).trans z))
  obtain ⟨n', hn1, hn6, en⟩ := n60 c1
  rw [niR, if_pos c1] at h
  conv => whnf
  refine ⟨fun hc => ?_, fun hc => ?_⟩
  · have hlt : ¬ 999 < iN s + n := Int32.not_lt.mpr hc
    rw [niS, if_neg hlt, if_pos ⟨c1, hlt⟩, show ix n = n' by rw [en]; exact nI_clamp (by omega)] at h
    conv => whnf
    refine ⟨s, q, tq0 t, n', N, by rw [en], rfl, hT, hG, hN, by omega, ?_⟩
    conv => whnf
    refine ⟨TB_nights hB n', ?_⟩
    conv => whnf
    exact h (iSn (nightsS n' s)) (iLn (nightsS n' s)) (tq0 t) hT
  · have hlt : 999 < iN s + n := Int32.not_le.mp hc
    rw [niS, if_pos hlt, if_neg (fun q => q.2 hlt)] at h
    conv => whnf
    exact h (iSn s) (iLn s) (tq0 t) hT
def F_X5_nights : Fn := fun as w K => ∃ (r1 r2 r3 r4 r5 : sv) (hi : Int32) (s : InnS) (N : Nat) (n : Int32), as = [sR 0, sI n] ∧ w = x1W r1 r2 r3 r4 r5 hi s ∧ IV s N ∧ K (some (.inl (niR s n))) (x1W r1 r2 r3 r4 r5 hi (niS s n))
def ctb_X5_nights : List (Nat × (List sv → List sc → (List sv → List sc → Prop) → Prop)) := [(4, cS none 3 F_X5_within), (35, cG [1, 2, 3, 4, 5, 6, 7] (some 0) 2 F_X0_pass), (45, cS none 1 F_J6_bitCount_0f7a4)]
theorem cok_X5_nights : CallOK cX5_nights 2 (some .int) RX5 6 ctb_X5_nights := CallOK_cons (site_same (rnS (pX5_nights_ok 4 _ rfl) ct_X5_within kX5_within lRX5_129 (by decide))) (CallOK_cons (site_gen [1, 2, 3, 4, 5, 6, 7] (by decide) (rnV (pX5_nights_ok 35 _ rfl) ct_X0_pass kX0_pass lRX5_136 (by decide))) (CallOK_cons (site_same (rnS (pX5_nights_ok 45 _ rfl) ct_J6_bitCount_0f7a4 kJ6_bitCount_0f7a4 lRX5_143 (by decide))) (CallOK_nil)))
theorem ct_X5_nights : Ct yX5_nights cX5_nights 2 (some .int) 6 F_X5_nights := by
  intro l D σ cA sz as w K h
  obtain ⟨r1, r2, r3, r4, r5, hi, s, N, n, rfl, rfl, ⟨hZ, hG, hN, hN9, hB⟩, h⟩ := h
  refine metL (pr := lkB pX5_nights) (rk := 1) (ct := ctb_X5_nights) (fld := lkB flX5) (cst := lkB csX5) (cstL := lkB clX5) [] pX5_nights_ok kX5_nights.2.2.2.2.2.2.2 fdX5 cdX5 rto1 cok_X5_nights (Nat.le_of_ble_eq_true rfl) cut0 ?_ l D σ cA sz
  conv => whnf
  refine ⟨fun hc1 => ?_, fun hc => ?_⟩
  rotate_left
  · conv => whnf
    have hc := bp_0.mp hc
    rw [niR, niS, if_neg hc, if_neg (fun q => hc q.1)] at h
    exact h
  have c1 := bp_n hc1
  obtain ⟨n', hn1, hn6, en⟩ := n60 c1
  rw [niR, if_pos c1] at h
  conv => whnf
  refine ⟨fun hc => ?_, fun hc => ?_⟩
  · have hlt : ¬ 999 < iN s + n := Int32.not_lt.mpr hc
    rw [niS, if_neg hlt, if_pos ⟨c1, hlt⟩, show ix n = n' by rw [en]; exact nI_clamp (by omega)] at h
    conv => whnf
    refine ⟨s, n', N, by rw [en]; rfl, rfl, hG, hN, by omega, ?_⟩
    conv => whnf
    refine ⟨TB_nights hB n', ?_⟩
    conv => whnf
    exact h
  · have hlt : 999 < iN s + n := Int32.not_le.mp hc
    rw [niS, if_pos hlt, if_neg (fun q => q.2 hlt)] at h
    conv => whnf
    exact h
/-- the object, the inn as it is, the image -/
def x3W (r1 r3 r4 r5 : sv) (hi : Int32) (s k : InnS) : List sc := oC 3 [sR 1, r1, sR 8, sI hi, r3, r4, r5] :: (innB1 s ++ innB8 k)
def F_X5_image : Fn := fun as w K => ∃ (r1 r3 r4 r5 : sv) (hi : Int32) (s k : InnS), as = [sR 0] ∧ w = x3W r1 r3 r4 r5 hi s k ∧ ZB s ∧ ZB k ∧ K (some (.inl (iN s))) (x3W r1 r3 r4 r5 1 s s)
def ctb_X5_image : List (Nat × (List sv → List sc → (List sv → List sc → Prop) → Prop)) := [(8, cG [8, 9, 10, 11, 12, 13, 14, 1, 2, 3, 4, 5, 6, 7] (some 0) 2 F_X0_become)]
theorem cok_X5_image : CallOK cX5_image 1 (some .int) RX5 2 ctb_X5_image := CallOK_cons (site_gen [8, 9, 10, 11, 12, 13, 14, 1, 2, 3, 4, 5, 6, 7] (by decide) (rnV (pX5_image_ok 8 _ rfl) ct_X0_become kX0_become lRX5_76 (by decide))) (CallOK_nil)
theorem ct_X5_image : Ct yX5_image cX5_image 1 (some .int) 2 F_X5_image := by
  intro l D σ cA sz as w K h
  obtain ⟨r1, r3, r4, r5, hi, s, k, rfl, rfl, hZ, hK, h⟩ := h
  refine metL (pr := lkB pX5_image) (rk := 1) (ct := ctb_X5_image) (fld := lkB flX5) (cst := lkB csX5) (cstL := lkB clX5) [] pX5_image_ok kX5_image.2.2.2.2.2.2.2 fdX5 cdX5 rto1 cok_X5_image (Nat.le_of_ble_eq_true rfl) cut0 ?_ l D σ cA sz
  conv => whnf
  refine ⟨k, s, rfl, rfl, hK, hZ, ?_⟩
  repeat' ((conv => whnf); (first | refine And.intro (by first | decide | with_reducible assumption) ?_ | with_reducible refine And.intro (fun hc => ?_) (fun hc => ?_) | with_reducible refine And.intro (fun hc => ?_) ?_ | fail))
  all_goals try (conv => whnf)
  exact h
def F_X5_restore : Fn := fun as w K => ∃ (r1 r3 r4 r5 : sv) (hi : Int32) (s k : InnS), as = [sR 0] ∧ w = x3W r1 r3 r4 r5 hi s k ∧ ZB s ∧ ZB k ∧ (hi = 0 → K (some (.inl (-3))) w) ∧ (¬ hi = 0 → K (some (.inl (iN k))) (x3W r1 r3 r4 r5 hi k k))
def ctb_X5_restore : List (Nat × (List sv → List sc → (List sv → List sc → Prop) → Prop)) := [(18, cG [1, 2, 3, 4, 5, 6, 7, 8, 9, 10, 11, 12, 13, 14] (some 0) 2 F_X0_become)]
theorem cok_X5_restore : CallOK cX5_restore 1 (some .int) RX5 2 ctb_X5_restore := CallOK_cons (site_gen [1, 2, 3, 4, 5, 6, 7, 8, 9, 10, 11, 12, 13, 14] (by decide) (rnV (pX5_restore_ok 18 _ rfl) ct_X0_become kX0_become lRX5_76 (by decide))) (CallOK_nil)
theorem ct_X5_restore : Ct yX5_restore cX5_restore 1 (some .int) 2 F_X5_restore := by
  intro l D σ cA sz as w K h
  obtain ⟨r1, r3, r4, r5, hi, s, k, rfl, rfl, hZ, hK, h1, h2⟩ := h
  refine metL (pr := lkB pX5_restore) (rk := 1) (ct := ctb_X5_restore) (fld := lkB flX5) (cst := lkB csX5) (cstL := lkB clX5) [] pX5_restore_ok kX5_restore.2.2.2.2.2.2.2 fdX5 cdX5 rto1 cok_X5_restore (Nat.le_of_ble_eq_true rfl) cut0 ?_ l D σ cA sz
  conv => whnf
  refine ⟨fun hc => ?_, fun hc => ?_⟩
  · conv => whnf
    refine ⟨s, k, rfl, rfl, hZ, hK, ?_⟩
    conv => whnf
    exact h2 hc
  · conv => whnf
    exact h1 hc
def F_X6_image : Fn := fun as w K => ∃ (s : InnS) (q : Pm) (t : Tm), as = [sR 0] ∧ w = modW s q t ∧ TZ t ∧ ∀ im' t', (∀ p, p < 50 → im' p = enc s p) → TZ t' → K (some (.inl (iN s))) (modW s (qH q, qK q, qF q, qS q, qM q, qR q, im', 1) t')
def ctb_X6_image : List (Nat × (List sv → List sc → (List sv → List sc → Prop) → Prop)) := [(16, cS (some 4) 3 F_X6_carryAllI1)]
theorem cok_X6_image : CallOK cX6_image 1 (some .int) RX6 3 ctb_X6_image := CallOK_cons (site_same (rnV (pX6_image_ok 16 _ rfl) ct_X6_carryAllI1 kX6_carryAll lRX6_211 (by decide))) (CallOK_nil)
theorem ct_X6_image : Ct yX6_image cX6_image 1 (some .int) 3 F_X6_image := by
  intro l D σ cA sz as w K h
  obtain ⟨s, q, t, rfl, rfl, hT, h⟩ := h
  refine metL (pr := lkB pX6_image) (rk := 1) (ct := ctb_X6_image) (fld := lkB flX6) (cst := lkB csX6) (cstL := lkB clX6) [] pX6_image_ok kX6_image.2.2.2.2.2.2.2 fdX6 cdX6 rto1 cok_X6_image (Nat.le_of_ble_eq_true rfl) cut0 ?_ l D σ cA sz
  repeat' ((conv => whnf); (first | refine And.intro (by first | decide | with_reducible assumption) ?_ | with_reducible refine And.intro (fun hc => ?_) (fun hc => ?_) | with_reducible refine And.intro (fun hc => ?_) ?_ | fail))
  all_goals try (conv => whnf)
  refine ⟨s, (qH q, qK q, qF q, qS q, qM q, qR q, qI q, 1), tq0 t, qI q, tKe t, tP0 t, tTk t, tKi t, rfl, rfl, ?_⟩
  conv => whnf
  exact h (mx (enc s) (qI q) 50) (tSy t, tMr t, 0, tRd t, tPl t, tBd t, tSt t, tPi t, tLo t, tTo t, tKe t, nI 50, 1, some 17, tDr t, tCe t, tGa t, tSd t, tBt t) (fun p hp => by rw [mx, if_pos hp]) hT
def F_X6_restore : Fn := fun as w K => ∃ (s s0 : InnS) (q : Pm) (t : Tm), as = [sR 0] ∧ w = modW s q t ∧ TZ t ∧ ZB s ∧ ZB s0 ∧ (¬ qB q = 0 → ∀ p, p < 50 → qI q p = enc s0 p) ∧ (qB q = 0 → ∀ a b t', TZ t' → K (some (.inl (-3))) (modW (snS s a b) q t')) ∧ (¬ qB q = 0 → ∀ a b t', TZ t' → K (some (.inl (iN s0))) (modW (snS s0 a b) q t'))
def ctb_X6_restore : List (Nat × (List sv → List sc → (List sv → List sc → Prop) → Prop)) := [(21, cS (some 4) 3 F_X6_carryAllI0)]
theorem cok_X6_restore : CallOK cX6_restore 1 (some .int) RX6 3 ctb_X6_restore := CallOK_cons (site_same (rnV (pX6_restore_ok 21 _ rfl) ct_X6_carryAllI0 kX6_carryAll lRX6_211 (by decide))) (CallOK_nil)
theorem ct_X6_restore : Ct yX6_restore cX6_restore 1 (some .int) 3 F_X6_restore := by
  intro l D σ cA sz as w K h
  obtain ⟨s, s0, q, t, rfl, rfl, hT, hZ, hZ0, hI, h1, h2⟩ := h
  refine metL (pr := lkB pX6_restore) (rk := 1) (ct := ctb_X6_restore) (fld := lkB flX6) (cst := lkB csX6) (cstL := lkB clX6) [] pX6_restore_ok kX6_restore.2.2.2.2.2.2.2 fdX6 cdX6 rto1 cok_X6_restore (Nat.le_of_ble_eq_true rfl) cut0 ?_ l D σ cA sz
  conv => whnf
  refine ⟨fun hc => ?_, fun hc => ?_⟩
  · conv => whnf
    refine ⟨s, s0, q, tq0 t, qI q, tKe t, tP0 t, tTk t, tKi t, rfl, rfl, hI hc, hZ, hZ0, ?_⟩
    conv => whnf
    exact h2 hc (iSn s) (iLn s) (tSy t, tMr t, 0, tRd t, tPl t, tBd t, tSt t, tPi t, tLo t, tTo t, tKe t, nI 50, 0, some 17, tDr t, tCe t, tGa t, tSd t, tBt t) hT
  · conv => whnf
    exact h1 hc (iSn s) (iLn s) (tq0 t) hT
end
section
/-! ===== out, table ===== -/
/-- the first below m, or m -/
noncomputable def fst (P : Nat → Prop) : Nat → Nat
  | 0 => 0
  | m + 1 => @ite _ (fst P m < m) (Classical.propDecidable _) (fst P m) (@ite _ (P m) (Classical.propDecidable _) m (m + 1))
theorem fst_none {P : Nat → Prop} : ∀ {m : Nat}, (∀ i, i < m → ¬ P i) → fst P m = m
  | 0, _ => rfl
  | m + 1, h => by
    have e := fst_none (m := m) (fun i hi => h i (by omega))
    unfold fst
    rw [if_neg (by omega), if_neg (h m (by omega))]
theorem fst_some {P : Nat → Prop} {j : Nat} (hp : P j) (hb : ∀ i, i < j → ¬ P i) : ∀ {m : Nat}, j < m → fst P m = j
  | 0, h => by omega
  | m + 1, h => by
    unfold fst
    by_cases e : j < m
    · rw [fst_some hp hb e, if_pos e]
    · have e2 : j = m := by omega
      subst e2
      rw [fst_none hb, if_neg (by omega), if_pos hp]
noncomputable def fsA (P : Nat → Prop) : Int32 := if fst P 61 = 61 then -4 else nI (fst P 61)
theorem fsA_none {P : Nat → Prop} (h : ∀ i, i < 61 → ¬ P i) : fsA P = -4 := by unfold fsA; rw [fst_none h, if_pos rfl]
theorem fsA_some {P : Nat → Prop} {j : Nat} (hj : j < 61) (hp : P j) (hb : ∀ i, i < j → ¬ P i) : fsA P = nI j := by
  unfold fsA
  rw [fst_some hp hb hj, if_neg (by omega)]
noncomputable def ouF (s : InnS) (k : Int32) : Int32 := if 0 ≤ k ∧ k ≤ 9 then fsA (fun n => iP (nightsS n s) (ix k) = 0) else -1
def F_X5_out : Fn := fun as w K => ∃ (r2 r3 r4 r5 : sv) (hi : Int32) (s m : InnS) (N : Nat) (k : Int32), as = [sR 0, sI k] ∧ w = x2W r2 r3 r4 r5 hi s m ∧ IV s N ∧ ZB m ∧ ∀ m', ZB m' → K (some (.inl (ouF s k))) (x2W r2 r3 r4 r5 hi s m')
def ctb_X5_out : List (Nat × (List sv → List sc → (List sv → List sc → Prop) → Prop)) := [(1, cS none 1 F_X5_isPlate), (10, cS (some 3) 1 F_X5_inMind), (35, cG [8, 9, 10, 11, 12, 13, 14] (some 0) 2 F_X0_pass)]
theorem cok_X5_out : CallOK cX5_out 4 (some .int) RX5 6 ctb_X5_out := CallOK_cons (site_same (rnS (pX5_out_ok 1 _ rfl) ct_X5_isPlate kX5_isPlate lRX5_110 (by decide))) (CallOK_cons (site_same (rnV (pX5_out_ok 10 _ rfl) ct_X5_inMind kX5_inMind lRX5_58 (by decide))) (CallOK_cons (site_gen [8, 9, 10, 11, 12, 13, 14] (by decide) (rnV (pX5_out_ok 35 _ rfl) ct_X0_pass kX0_pass lRX5_136 (by decide))) (CallOK_nil)))
theorem ct_X5_out : Ct yX5_out cX5_out 4 (some .int) 6 F_X5_out := by
  intro l D σ cA sz as w K h
  obtain ⟨r2, r3, r4, r5, hi, s, m, N, k, rfl, rfl, ⟨hZ, hG, hN, hN9, hB⟩, hM, h⟩ := h
  have h0 := h m hM
  refine metL (pr := lkB pX5_out) (rk := 1) (ct := ctb_X5_out) (fld := lkB flX5) (cst := lkB csX5) (cstL := lkB clX5) [(16, ([true, true, true, true], fun n lv st w => ∃ j, j ≤ 61 ∧ n = 61 - j ∧ (0 ≤ k ∧ k ≤ 9) ∧ (∀ i, i < j → ¬ iP (nightsS i s) (ix k) = 0) ∧ lv = [some (sR 0), some (sI k), some (sR 8), some (sI (nI j))] ∧ st = [] ∧ w = x2W r2 r3 r4 r5 hi s (nightsS j s)))] pX5_out_ok kX5_out.2.2.2.2.2.2.2 fdX5 cdX5 rto1 cok_X5_out (Nat.le_of_ble_eq_true rfl) ?_ ?_ l D σ cA sz
  · refine List.forall_mem_cons.mpr ⟨?_, cut0⟩
    rintro n lv st w ⟨j, hj, rfl, hk, hall, rfl, rfl, rfl⟩
    have hz := ZB_nights hZ hG hN j (by omega)
    obtain ⟨g1, g2⟩ := nights_keep hG hN j (by omega)
    conv => whnf
    refine ⟨fun hc => ?_, fun hc => ?_⟩
    · conv => whnf
      have hj : j = 61 := by
        rcases Nat.lt_or_ge j 61 with q | q
        · exact absurd (show nI 60 < nI j from hc) (nI_nlt (by omega) (by decide))
        · omega
      subst hj
      exact kI (h _ hz) (by unfold ouF; rw [if_pos hk, fsA_none hall])
    · have hlt : j < 61 := by
        rcases Nat.lt_or_ge j 61 with q | q
        · exact q
        · exact absurd (show nI 60 < nI j from nI_lt (by omega) (by omega)) hc
      conv => whnf
      refine ⟨plate_in hk, ?_⟩
      conv => whnf
      refine ⟨fun h1 => ?_, fun h1 => ?_⟩
      · conv => whnf
        refine ⟨nightsS j s, 1, N + j, rfl, rfl, g1, g2, by omega, ?_⟩
        conv => whnf
        exact ⟨61 - (j + 1), by omega, j + 1, hlt, rfl, hk, lt_s hall h1, by rw [← nI_1]; rfl, rfl, rfl⟩
      · conv => whnf
        exact kI (h _ hz) (by unfold ouF; rw [if_pos hk, fsA_some hlt h1 hall])
  · conv => whnf
    refine ⟨fun hc1 => ?_, fun hc => ?_⟩
    rotate_left
    · conv => whnf
      exact kI h0 (by unfold ouF; rw [if_neg (bp_0.mp hc)])
    conv => whnf
    refine ⟨r2, r3, r4, r5, hi, s, m, rfl, rfl, hZ, hM, ?_⟩
    conv => whnf
    exact ⟨61, 0, by decide, rfl, bp_n hc1, lt_0, rfl, rfl, rfl⟩
def F_X6_out : Fn := fun as w K => ∃ (s : InnS) (q : Pm) (t : Tm) (N : Nat) (k : Int32), as = [sR 0, sI k] ∧ w = modW s q t ∧ TZ t ∧ IV s N ∧ ∀ a b t', TZ t' → K (some (.inl (ouF s k))) (modW (snS s a b) q t')
def ctb_X6_out : List (Nat × (List sv → List sc → (List sv → List sc → Prop) → Prop)) := [(6, cS none 1 F_X6_isPlate), (18, cS (some 4) 1 F_X6_think), (50, cS (some 4) 1 F_X6_nightOn), (60, cS (some 4) 1 F_X6_again)]
theorem cok_X6_out : CallOK cX6_out 4 (some .int) RX6 5 ctb_X6_out := CallOK_cons (site_same (rnS (pX6_out_ok 6 _ rfl) ct_X6_isPlate kX6_isPlate lRX6_220 (by decide))) (CallOK_cons (site_same (rnV (pX6_out_ok 18 _ rfl) ct_X6_think kX6_think lRX6_190 (by decide))) (CallOK_cons (site_same (rnV (pX6_out_ok 50 _ rfl) ct_X6_nightOn kX6_nightOn lRX6_132 (by decide))) (CallOK_cons (site_same (rnV (pX6_out_ok 60 _ rfl) ct_X6_again kX6_again lRX6_196 (by decide))) (CallOK_nil))))
theorem ct_X6_out : Ct yX6_out cX6_out 4 (some .int) 5 F_X6_out := by
  intro l D σ cA sz as w K h
  obtain ⟨s, q, t, N, k, rfl, rfl, hT, ⟨hZ, hG, hN, hN9, hB⟩, h⟩ := h
  have h0 := h (iSn s) (iLn s) (tq0 t) hT
  have hT0 : TZ (tq0 t) := hT
  refine metL (pr := lkB pX6_out) (rk := 1) (ct := ctb_X6_out) (fld := lkB flX6) (cst := lkB csX6) (cstL := lkB clX6) [(23, ([true, true, true, true], fun n lv st w => ∃ (j : Nat) (f : Int32) (t1 : Tm), j ≤ 61 ∧ n = 61 - j ∧ (0 ≤ k ∧ k ≤ 9) ∧ SK (tq0 t) t1 ∧ KP s t1 ∧ ((f = -4 ∧ ∀ i, i < j → ¬ iP (nightsS i s) (ix k) = 0) ∨ (0 ≤ f ∧ f = ouF s k)) ∧ lv = [some (sR 0), some (sI k), some (sI f), some (sI (nI j))] ∧ st = [] ∧ w = modW (nightsS j s) q t1))] pX6_out_ok kX6_out.2.2.2.2.2.2.2 fdX6 cdX6 rto1 cok_X6_out (Nat.le_of_ble_eq_true rfl) ?_ ?_ l D σ cA sz
  · refine List.forall_mem_cons.mpr ⟨?_, cut0⟩
    rintro n lv st w ⟨j, f, t1, hj, rfl, hk, hs1, hk1, hf, rfl, rfl, rfl⟩
    have hz := ZB_nights hZ hG hN j (by omega)
    obtain ⟨g1, g2⟩ := nights_keep hG hN j (by omega)
    have hT1 := hs1.tz hT0
    have hsuc : nightsS (j + 1) s = nightS 0 0 (nightsS j s) := rfl
    conv => whnf
    refine ⟨fun hc => ?_, fun hc => ?_⟩
    · have hj : j = 61 := by
        rcases Nat.lt_or_ge j 61 with q | q
        · exact absurd (show nI 60 < nI j from hc) (nI_nlt (by omega) (by decide))
        · omega
      have hr : ouF s k = f := by
        rcases hf with ⟨e, hall⟩ | e
        · rw [hj] at hall
          rw [e]
          unfold ouF
          rw [if_pos hk, fsA_none hall]
        · exact e.2.symm
      conv => whnf
      refine ⟨nightsS j s, s, q, t1, rfl, rfl, hk1, hz, hZ, fun t2 hs2 hk2 => ?_⟩
      conv => whnf
      exact kI (h (iSn (nightsS j s)) (iLn (nightsS j s)) t2 (hs2.tz hT1)) hr
    · have hlt : j < 61 := by
        rcases Nat.lt_or_ge j 61 with q | q
        · exact q
        · exact absurd (show nI 60 < nI j from nI_lt (by omega) (by omega)) hc
      conv => whnf
      refine ⟨fun h1 => ?_, fun h1 => ?_⟩
      · have hr : ouF s k = f := by
          rcases hf with ⟨e, -⟩ | e
          · rw [e] at h1; exact absurd h1 (by decide)
          · exact e.2.symm
        conv => whnf
        refine ⟨nightsS j s, s, q, t1, rfl, rfl, hk1, hz, hZ, fun t2 hs2 hk2 => ?_⟩
        conv => whnf
        exact kI (h (iSn (nightsS j s)) (iLn (nightsS j s)) t2 (hs2.tz hT1)) hr
      · have hall : ∀ i, i < j → ¬ iP (nightsS i s) (ix k) = 0 := by
          rcases hf with ⟨-, e⟩ | e
          · exact e
          · exact absurd e.1 h1
        conv => whnf
        refine ⟨plate_in hk, ?_⟩
        conv => whnf
        refine ⟨fun h2 => ?_, fun h2 => ?_⟩
        · conv => whnf
          refine ⟨nightsS j s, q, t1, N + j, rfl, rfl, g1, g2, by omega, ?_⟩
          rw [t0_w _ _ hT1, hT1.1, hT1.2, ← hsuc]
          conv => whnf
          exact ⟨61 - (j + 1), by omega, j + 1, -4, t1, hlt, rfl, hk, hs1, hk1, Or.inl ⟨rfl, lt_s hall h2⟩, by rw [← nI_1]; rfl, rfl, rfl⟩
        · conv => whnf
          refine ⟨nightsS j s, q, t1, N + j, rfl, rfl, g1, g2, by omega, ?_⟩
          rw [t0_w _ _ hT1, hT1.1, hT1.2, ← hsuc]
          conv => whnf
          exact ⟨61 - (j + 1), by omega, j + 1, nI j, t1, hlt, rfl, hk, hs1, hk1, Or.inr ⟨nI_pos' (by omega), by unfold ouF; rw [if_pos hk, fsA_some hlt h2 hall]⟩, by rw [← nI_1]; rfl, rfl, rfl⟩
  · conv => whnf
    refine ⟨fun hc1 => ?_, fun hc => ?_⟩
    rotate_left
    · conv => whnf
      exact kI h0 (by unfold ouF; rw [if_neg (bp_0.mp hc)])
    conv => whnf
    refine ⟨s, q, tq0 t, rfl, rfl, fun t1 hs1 hk1 => ?_⟩
    conv => whnf
    exact ⟨61, 0, -4, t1, by decide, rfl, bp_n hc1, hs1, hk1, Or.inl ⟨rfl, lt_0⟩, rfl, rfl, rfl⟩
noncomputable def taF (s : InnS) (g what : Int32) : Int32 := if (0 ≤ g ∧ g ≤ iG s - 1) ∧ (0 ≤ what ∧ what ≤ 1) then (if what = 0 then ndS s g else bp (tb (iSn (nightsS 1 s)) g)) else -1
theorem bp_tb (t g : Int32) : bp (tb t g) = jshr t g &&& 1 := by
  rcases and1_01 (jshr t g) with e | e
  · rw [bp_f (fun q => q e), e]
  · rw [bp_t (show tb t g from fun q => by rw [e] at q; exact absurd q (by decide)), e]
def F_X5_table : Fn := fun as w K => ∃ (r2 r3 r4 r5 : sv) (hi : Int32) (s m : InnS) (N : Nat) (g what : Int32), as = [sR 0, sI g, sI what] ∧ w = x2W r2 r3 r4 r5 hi s m ∧ IV s N ∧ ZB m ∧ ∀ m', ZB m' → K (some (.inl (taF s g what))) (x2W r2 r3 r4 r5 hi s m')
theorem kn_f2 {s : InnS} {g : Int32} (hG : GS s) (h : 0 ≤ g ∧ g ≤ iG s - 1) : 0 < iF s (ix g) + 2 := by
  obtain ⟨G, hG7, hGG⟩ := hG.2.1
  obtain ⟨j, hj, ej⟩ := kn hG7 (by rw [← hGG]; exact h)
  rw [ej, show ix (nI j) = j from nI_clamp (by omega)]
  exact rng_f2 (hG.1 j (by omega)).1
def ctb_X5_table : List (Nat × (List sv → List sc → (List sv → List sc → Prop) → Prop)) := [(5, cG [1, 2, 3, 4, 5, 6, 7] (some 0) 2 F_X0_knows), (14, cS none 3 F_X5_within), (31, cG [1, 2, 3, 4, 5, 6, 7] (some 0) 2 F_X0_nextDream), (36, cS (some 3) 1 F_X5_inMind), (42, cG [8, 9, 10, 11, 12, 13, 14] (some 0) 2 F_X0_pass)]
theorem cok_X5_table : CallOK cX5_table 4 (some .int) RX5 6 ctb_X5_table := CallOK_cons (site_gen [1, 2, 3, 4, 5, 6, 7] (by decide) (rnV (pX5_table_ok 5 _ rfl) ct_X0_knows kX0_knows lRX5_80 (by decide))) (CallOK_cons (site_same (rnS (pX5_table_ok 14 _ rfl) ct_X5_within kX5_within lRX5_129 (by decide))) (CallOK_cons (site_gen [1, 2, 3, 4, 5, 6, 7] (by decide) (rnV (pX5_table_ok 31 _ rfl) ct_X0_nextDream kX0_nextDream lRX5_164 (by decide))) (CallOK_cons (site_same (rnV (pX5_table_ok 36 _ rfl) ct_X5_inMind kX5_inMind lRX5_58 (by decide))) (CallOK_cons (site_gen [8, 9, 10, 11, 12, 13, 14] (by decide) (rnV (pX5_table_ok 42 _ rfl) ct_X0_pass kX0_pass lRX5_136 (by decide))) (CallOK_nil)))))
theorem ct_X5_table : Ct yX5_table cX5_table 4 (some .int) 6 F_X5_table := by
  intro l D σ cA sz as w K h
  obtain ⟨r2, r3, r4, r5, hi, s, m, N, g, what, rfl, rfl, ⟨hZ, hG, hN, hN9, hB⟩, hM, h⟩ := h
  have h0 := h m hM
  refine metL (pr := lkB pX5_table) (rk := 1) (ct := ctb_X5_table) (fld := lkB flX5) (cst := lkB csX5) (cstL := lkB clX5) [] pX5_table_ok kX5_table.2.2.2.2.2.2.2 fdX5 cdX5 rto1 cok_X5_table (Nat.le_of_ble_eq_true rfl) cut0 ?_ l D σ cA sz
  conv => whnf
  refine ⟨s, g, rfl, rfl, ?_⟩
  conv => whnf
  refine ⟨fun hc => ?_, fun hc1 => ?_⟩
  · conv => whnf
    exact kI h0 (by unfold taF; rw [if_neg (fun q => bp_0.mp hc q.1)])
  conv => whnf
  refine ⟨fun hc2 => ?_, fun hc => ?_⟩
  rotate_left
  · conv => whnf
    exact kI h0 (by unfold taF; rw [if_neg (fun q => bp_0.mp hc q.2)])
  have c1 := bp_n hc1
  have c2 := bp_n hc2
  have hv := kn_in hG c1
  have hr : taF s g what = if what = 0 then ndS s g else bp (tb (iSn (nightsS 1 s)) g) := by unfold taF; rw [if_pos ⟨c1, c2⟩]
  conv => whnf
  refine ⟨fun hw => ?_, fun hw => ?_⟩
  · conv => whnf
    refine ⟨r2, r3, r4, r5, hi, s, m, rfl, rfl, hZ, hM, ?_⟩
    conv => whnf
    refine ⟨s, 1, N, rfl, rfl, hG, hN, by omega, ?_⟩
    conv => whnf
    exact kI (h _ (ZB_nights hZ hG hN 1 (by omega))) (by rw [hr, if_neg hw, bp_tb])
  · conv => whnf
    refine ⟨s, g, rfl, rfl, hv, kn_f2 hG c1, ?_⟩
    conv => whnf
    exact kI h0 (by rw [hr, if_pos hw])
def F_X6_table : Fn := fun as w K => ∃ (s : InnS) (q : Pm) (t : Tm) (N : Nat) (g what : Int32), as = [sR 0, sI g, sI what] ∧ w = modW s q t ∧ TZ t ∧ IV s N ∧ ∀ a b t', TZ t' → K (some (.inl (taF s g what))) (modW (snS s a b) q t')
def ctb_X6_table : List (Nat × (List sv → List sc → (List sv → List sc → Prop) → Prop)) := [(7, cS (some 4) 2 F_X6_isOne), (17, cS none 3 F_X6_in), (31, cS (some 4) 2 F_X6_dreamsNext), (36, cS (some 4) 1 F_X6_think), (40, cS (some 4) 1 F_X6_nightOn), (48, cS none 2 F_X6_hasBit), (61, cS (some 4) 1 F_X6_again)]
theorem cok_X6_table : CallOK cX6_table 4 (some .int) RX6 5 ctb_X6_table := CallOK_cons (site_same (rnV (pX6_table_ok 7 _ rfl) ct_X6_isOne kX6_isOne lRX6_171 (by decide))) (CallOK_cons (site_same (rnS (pX6_table_ok 17 _ rfl) ct_X6_in kX6_in lRX6_81 (by decide))) (CallOK_cons (site_same (rnV (pX6_table_ok 31 _ rfl) ct_X6_dreamsNext kX6_dreamsNext lRX6_238 (by decide))) (CallOK_cons (site_same (rnV (pX6_table_ok 36 _ rfl) ct_X6_think kX6_think lRX6_190 (by decide))) (CallOK_cons (site_same (rnV (pX6_table_ok 40 _ rfl) ct_X6_nightOn kX6_nightOn lRX6_132 (by decide))) (CallOK_cons (site_same (rnS (pX6_table_ok 48 _ rfl) ct_X6_hasBit kX6_hasBit lRX6_105 (by decide))) (CallOK_cons (site_same (rnV (pX6_table_ok 61 _ rfl) ct_X6_again kX6_again lRX6_196 (by decide))) (CallOK_nil)))))))
theorem ct_X6_table : Ct yX6_table cX6_table 4 (some .int) 5 F_X6_table := by
  intro l D σ cA sz as w K h
  obtain ⟨s, q, t, N, g, what, rfl, rfl, hT, ⟨hZ, hG, hN, hN9, hB⟩, h⟩ := h
  have h0 := h (iSn s) (iLn s) (tq0 t) hT
  have hT0 : TZ (tq0 t) := hT
  refine metL (pr := lkB pX6_table) (rk := 1) (ct := ctb_X6_table) (fld := lkB flX6) (cst := lkB csX6) (cstL := lkB clX6) [] pX6_table_ok kX6_table.2.2.2.2.2.2.2 fdX6 cdX6 rto1 cok_X6_table (Nat.le_of_ble_eq_true rfl) cut0 ?_ l D σ cA sz
  conv => whnf
  refine ⟨s, q, tq0 t, g, rfl, rfl, ?_⟩
  conv => whnf
  refine ⟨fun hc => ?_, fun hc1 => ?_⟩
  · conv => whnf
    exact kI h0 (by unfold taF; rw [if_neg (fun q => bp_0.mp hc q.1)])
  conv => whnf
  refine ⟨fun hc2 => ?_, fun hc => ?_⟩
  rotate_left
  · conv => whnf
    have hc := bp_0.mp ((in_ii 0 what 1).symm.trans hc)
    exact kI h0 (by unfold taF; rw [if_neg (fun q => hc q.2)])
  have c1 := bp_n hc1
  have c2 := bp_n (fun z => hc2 ((in_ii 0 what 1).trans z))
  have hv := kn_in hG c1
  have hr : taF s g what = if what = 0 then ndS s g else bp (tb (iSn (nightsS 1 s)) g) := by unfold taF; rw [if_pos ⟨c1, c2⟩]
  have hz := ZB_nights hZ hG hN 1 (by omega)
  conv => whnf
  refine ⟨fun hw => ?_, fun hw => ?_⟩
  · conv => whnf
    refine ⟨s, q, tq0 t, rfl, rfl, fun t1 hs1 hk1 => ?_⟩
    have hT1 := hs1.tz hT0
    conv => whnf
    refine ⟨s, q, t1, N, rfl, rfl, hG, hN, by omega, ?_⟩
    rw [t0_w _ _ hT1, hT1.1, hT1.2, show nightS 0 0 s = nightsS 1 s from rfl]
    repeat' ((conv => whnf); (first | refine And.intro (by first | decide | with_reducible assumption) ?_ | with_reducible refine And.intro (fun hc => ?_) (fun hc => ?_) | with_reducible refine And.intro (fun hc => ?_) ?_ | fail))
    all_goals try (conv => whnf)
    · refine ⟨nightsS 1 s, s, q, t1, rfl, rfl, hk1, hz, hZ, fun t2 hs2 hk2 => ?_⟩
      conv => whnf
      exact kI (h (iSn (nightsS 1 s)) (iLn (nightsS 1 s)) t2 (hs2.tz hT1)) (by rw [hr, if_neg hw, hc])
    · refine ⟨nightsS 1 s, s, q, t1, rfl, rfl, hk1, hz, hZ, fun t2 hs2 hk2 => ?_⟩
      conv => whnf
      exact kI (h (iSn (nightsS 1 s)) (iLn (nightsS 1 s)) t2 (hs2.tz hT1)) (by rw [hr, if_neg hw, bp_t (bp_n hc)])
  · conv => whnf
    refine ⟨s, q, tq0 t, g, rfl, rfl, hv, kn_f2 hG c1, ?_⟩
    conv => whnf
    exact kI h0 (by rw [hr, if_pos hw])
end
section
/-! ===== bestWish ===== -/
theorem nb_sn (s : InnS) (a b : Int32) : nbS (snS s a b) = nbS s := rfl
theorem iG_sn (s : InnS) (a b : Int32) : iG (snS s a b) = iG s := rfl
theorem night_sn (mare sil : Int32) (s : InnS) (a b : Int32) : nightS mare sil (snS s a b) = nightS mare sil s := by
  unfold nightS
  rw [nb_sn, iG_sn]
theorem nights_sn (s : InnS) (a b : Int32) : ∀ n, ∃ a' b', nightsS n (snS s a b) = snS (nightsS n s) a' b'
  | 0 => ⟨a, b, rfl⟩
  | n + 1 => by
    obtain ⟨a', b', e⟩ := nights_sn s a b n
    refine ⟨iSn (nightsS (n + 1) s), iLn (nightsS (n + 1) s), ?_⟩
    show nightS 0 0 (nightsS n (snS s a b)) = _
    rw [e, night_sn]
    rfl
/-- another wish -/
abbrev wbS (s : InnS) (g k : Int32) : InnS := (iK s, iF s, upd (iW s) (ix g) k, iL s, iH s, iP s, iG s, iT s, iN s, iS s, iA s, iSn s, iLn s)
theorem GS_ws {s : InnS} {g k : Int32} (h : GS s) (hk : rng 10 k) : GS (wbS s g k) := by
  refine ⟨fun j hj => ⟨(h.1 j hj).1, ?_, (h.1 j hj).2.2⟩, h.2⟩
  show rng 10 (upd (iW s) (ix g) k j)
  by_cases e : j = ix g
  · rw [e, pk_us]; exact hk
  · rw [pk_un e]; exact (h.1 j hj).2.1
theorem ZB_ws {s : InnS} {g k : Int32} (h : ZB s) (hg : ix g < 7) : ZB (wbS s g k) := by
  refine ⟨fun j hj => ⟨(h.1 j hj).1, (h.1 j hj).2.1, ?_, (h.1 j hj).2.2.2⟩, h.2⟩
  show upd (iW s) (ix g) k j = 0
  rw [pk_un (by omega)]; exact (h.1 j hj).2.2.1
noncomputable def bwV (s : InnS) (g : Int32) (n k : Nat) : Int32 := iH (nightsS n (wbS s g (nI k))) (ix g)
noncomputable def bwF (s : InnS) (g : Int32) (n : Nat) : Nat → Int32 × Int32
  | 0 => (0, -1)
  | k + 1 => if (bwF s g n k).2 < bwV s g n k then (nI k, bwV s g n k) else bwF s g n k
noncomputable def bwR (s : InnS) (g n what : Int32) : Int32 := if (0 ≤ g ∧ g ≤ iG s - 1) ∧ (0 ≤ n ∧ n ≤ 60) ∧ (0 ≤ what ∧ what ≤ 1) then (if what = 0 then (bwF s g (ix n) 10).1 else (bwF s g (ix n) 10).2) else -1
theorem ix_g {g : Int32} (h : vp_in g 7) : ix g < 7 := Nat.not_le.mp (fun q => h (Or.inr q))
def F_X5_bestWish : Fn := fun as w K => ∃ (r2 r3 r4 r5 : sv) (hi : Int32) (s m : InnS) (N : Nat) (g n what : Int32), as = [sR 0, sI g, sI n, sI what] ∧ w = x2W r2 r3 r4 r5 hi s m ∧ IV s N ∧ ZB m ∧ ∀ m', ZB m' → K (some (.inl (bwR s g n what))) (x2W r2 r3 r4 r5 hi s m')
def ctb_X5_bestWish : List (Nat × (List sv → List sc → (List sv → List sc → Prop) → Prop)) := [(5, cG [1, 2, 3, 4, 5, 6, 7] (some 0) 2 F_X0_knows), (12, cS none 1 F_X5_isWhile), (21, cS none 3 F_X5_within), (46, cS (some 3) 1 F_X5_inMind), (63, cG [8, 9, 10, 11, 12, 13, 14] (some 0) 2 F_X0_pass)]
theorem cok_X5_bestWish : CallOK cX5_bestWish 8 (some .int) RX5 6 ctb_X5_bestWish := CallOK_cons (site_gen [1, 2, 3, 4, 5, 6, 7] (by decide) (rnV (pX5_bestWish_ok 5 _ rfl) ct_X0_knows kX0_knows lRX5_80 (by decide))) (CallOK_cons (site_same (rnS (pX5_bestWish_ok 12 _ rfl) ct_X5_isWhile kX5_isWhile lRX5_148 (by decide))) (CallOK_cons (site_same (rnS (pX5_bestWish_ok 21 _ rfl) ct_X5_within kX5_within lRX5_129 (by decide))) (CallOK_cons (site_same (rnV (pX5_bestWish_ok 46 _ rfl) ct_X5_inMind kX5_inMind lRX5_58 (by decide))) (CallOK_cons (site_gen [8, 9, 10, 11, 12, 13, 14] (by decide) (rnV (pX5_bestWish_ok 63 _ rfl) ct_X0_pass kX0_pass lRX5_136 (by decide))) (CallOK_nil)))))
theorem ct_X5_bestWish : Ct yX5_bestWish cX5_bestWish 8 (some .int) 6 F_X5_bestWish := by
  intro l D σ cA sz as w K h
  obtain ⟨r2, r3, r4, r5, hi, s, m, N, g, n, what, rfl, rfl, ⟨hZ, hG, hN, hN9, hB⟩, hM, h⟩ := h
  have h0 := h m hM
  refine metL (pr := lkB pX5_bestWish) (rk := 1) (ct := ctb_X5_bestWish) (fld := lkB flX5) (cst := lkB csX5) (cstL := lkB clX5) [(38, ([true, true, true, true, true, true, true, false], fun x lv st w => ∃ (k : Nat) (m' : InnS), k ≤ 10 ∧ x = 10 - k ∧ ZB m' ∧ ((0 ≤ g ∧ g ≤ iG s - 1) ∧ (0 ≤ n ∧ n ≤ 60) ∧ (0 ≤ what ∧ what ≤ 1)) ∧ lv = [some (sR 0), some (sI g), some (sI n), some (sI what), some (sI (bwF s g (ix n) k).1), some (sI (bwF s g (ix n) k).2), some (sI (nI k)), none] ∧ st = [] ∧ w = x2W r2 r3 r4 r5 hi s m'))] pX5_bestWish_ok kX5_bestWish.2.2.2.2.2.2.2 fdX5 cdX5 rto1 cok_X5_bestWish (Nat.le_of_ble_eq_true rfl) ?_ ?_ l D σ cA sz
  · refine List.forall_mem_cons.mpr ⟨?_, cut0⟩
    rintro x lv st w ⟨k, m', hk, rfl, hM', hC, rfl, rfl, rfl⟩
    have hv := kn_in hG hC.1
    obtain ⟨n', hn', en⟩ := in_rng (n := 60) (by decide) hC.2.1
    have eix : ix n = n' := by rw [en]; exact nI_clamp (by omega)
    have hr : bwR s g n what = if what = 0 then (bwF s g n' 10).1 else (bwF s g n' 10).2 := by
      unfold bwR
      rw [if_pos hC, eix]
    rw [eix]
    conv => whnf
    refine ⟨fun hc => ?_, fun hc => ?_⟩
    · obtain rfl := lp_ge hk (by decide) hc
      repeat' ((conv => whnf); (first | refine And.intro (by first | decide | with_reducible assumption) ?_ | with_reducible refine And.intro (fun hc => ?_) (fun hc => ?_) | with_reducible refine And.intro (fun hc => ?_) ?_ | fail))
      all_goals try (conv => whnf)
      · exact kI (h _ hM') (by rw [hr, if_neg hc])
      · exact kI (h _ hM') (by rw [hr, if_pos hc])
    · have hlt := lp_lt hk (by decide) hc
      have hkr : rng 10 (nI k) := ⟨k, hlt, rfl⟩
      have hz := ZB_nights (ZB_ws (k := nI k) hZ (ix_g hv)) (GS_ws (g := g) hG hkr) (show iN (wbS s g (nI k)) = nI N from hN) n' (by omega)
      conv => whnf
      refine ⟨r2, r3, r4, r5, hi, s, m', rfl, rfl, hZ, hM', ?_⟩
      conv => whnf
      refine ⟨hv, ?_⟩
      conv => whnf
      refine ⟨wbS s g (nI k), n', N, by rw [en]; rfl, rfl, GS_ws hG hkr, hN, by omega, ?_⟩
      conv => whnf
      refine ⟨hv, ?_⟩
      conv => whnf
      refine ⟨fun h1 => ?_, fun h1 => ?_⟩
      · conv => whnf
        exact ⟨10 - (k + 1), by omega, k + 1, _, hlt, rfl, hz, hC, by rw [← nI_1, bwF, if_neg (show ¬ (bwF s g n' k).2 < bwV s g n' k from Int32.not_lt.mpr h1)]; rfl, rfl, rfl⟩
      · conv => whnf
        refine ⟨hv, ?_⟩
        conv => whnf
        exact ⟨10 - (k + 1), by omega, k + 1, _, hlt, rfl, hz, hC, by rw [← nI_1, bwF, if_pos (show (bwF s g n' k).2 < bwV s g n' k from Int32.not_le.mp h1)]; rfl, rfl, rfl⟩
  · conv => whnf
    refine ⟨s, g, rfl, rfl, ?_⟩
    conv => whnf
    refine ⟨fun hc => ?_, fun hc1 => ?_⟩
    · conv => whnf
      exact kI h0 (by unfold bwR; rw [if_neg (fun q => bp_0.mp hc q.1)])
    conv => whnf
    refine ⟨fun hc => ?_, fun hc2 => ?_⟩
    · conv => whnf
      exact kI h0 (by unfold bwR; rw [if_neg (fun q => bp_0.mp hc q.2.1)])
    conv => whnf
    refine ⟨fun hc3 => ?_, fun hc => ?_⟩
    rotate_left
    · conv => whnf
      exact kI h0 (by unfold bwR; rw [if_neg (fun q => bp_0.mp hc q.2.2)])
    conv => whnf
    exact ⟨10, 0, m, by decide, rfl, hM, ⟨bp_n hc1, bp_n hc2, bp_n hc3⟩, rfl, rfl, rfl⟩
def F_X6_bestWish : Fn := fun as w K => ∃ (s : InnS) (q : Pm) (t : Tm) (N : Nat) (g n what : Int32), as = [sR 0, sI g, sI n, sI what] ∧ w = modW s q t ∧ TZ t ∧ IV s N ∧ ∀ a b t', TZ t' → K (some (.inl (bwR s g n what))) (modW (snS s a b) q t')
def ctb_X6_bestWish : List (Nat × (List sv → List sc → (List sv → List sc → Prop) → Prop)) := [(7, cS (some 4) 2 F_X6_isOne), (19, cS none 3 F_X6_in), (29, cS none 3 F_X6_in), (44, cS (some 4) 1 F_X6_think), (67, cS (some 4) 2 F_X6_goNights), (79, cS (some 4) 1 F_X6_again)]
theorem cok_X6_bestWish : CallOK cX6_bestWish 8 (some .int) RX6 6 ctb_X6_bestWish := CallOK_cons (site_same (rnV (pX6_bestWish_ok 7 _ rfl) ct_X6_isOne kX6_isOne lRX6_171 (by decide))) (CallOK_cons (site_same (rnS (pX6_bestWish_ok 19 _ rfl) ct_X6_in kX6_in lRX6_81 (by decide))) (CallOK_cons (site_same (rnS (pX6_bestWish_ok 29 _ rfl) ct_X6_in kX6_in lRX6_81 (by decide))) (CallOK_cons (site_same (rnV (pX6_bestWish_ok 44 _ rfl) ct_X6_think kX6_think lRX6_190 (by decide))) (CallOK_cons (site_same (rnV (pX6_bestWish_ok 67 _ rfl) ct_X6_goNights kX6_goNights lRX6_168 (by decide))) (CallOK_cons (site_same (rnV (pX6_bestWish_ok 79 _ rfl) ct_X6_again kX6_again lRX6_196 (by decide))) (CallOK_nil))))))
theorem ct_X6_bestWish : Ct yX6_bestWish cX6_bestWish 8 (some .int) 6 F_X6_bestWish := by
  intro l D σ cA sz as w K h
  obtain ⟨s, q, t, N, g, n, what, rfl, rfl, hT, ⟨hZ, hG, hN, hN9, hB⟩, h⟩ := h
  have h0 := h (iSn s) (iLn s) (tq0 t) hT
  have hT0 : TZ (tq0 t) := hT
  refine metL (pr := lkB pX6_bestWish) (rk := 1) (ct := ctb_X6_bestWish) (fld := lkB flX6) (cst := lkB csX6) (cstL := lkB clX6) [(50, ([true, true, true, true, true, true, true, false], fun x lv st w => ∃ (k : Nat) (a b : Int32) (t1 : Tm), k ≤ 10 ∧ x = 10 - k ∧ ((0 ≤ g ∧ g ≤ iG s - 1) ∧ (0 ≤ n ∧ n ≤ 60) ∧ (0 ≤ what ∧ what ≤ 1)) ∧ TZ t1 ∧ KP s t1 ∧ lv = [some (sR 0), some (sI g), some (sI n), some (sI what), some (sI (bwF s g (ix n) k).1), some (sI (bwF s g (ix n) k).2), some (sI (nI k)), none] ∧ st = [] ∧ w = modW (snS s a b) q t1))] pX6_bestWish_ok kX6_bestWish.2.2.2.2.2.2.2 fdX6 cdX6 rto1 cok_X6_bestWish (Nat.le_of_ble_eq_true rfl) ?_ ?_ l D σ cA sz
  · refine List.forall_mem_cons.mpr ⟨?_, cut0⟩
    rintro x lv st w ⟨k, a, b, t1, hk, rfl, hC, hT1, hk1, rfl, rfl, rfl⟩
    have hv := kn_in hG hC.1
    obtain ⟨n', hn', en⟩ := in_rng (n := 60) (by decide) hC.2.1
    have eix : ix n = n' := by rw [en]; exact nI_clamp (by omega)
    have hr : bwR s g n what = if what = 0 then (bwF s g n' 10).1 else (bwF s g n' 10).2 := by
      unfold bwR
      rw [if_pos hC, eix]
    rw [eix]
    conv => whnf
    refine ⟨fun hc => ?_, fun hc => ?_⟩
    · obtain rfl := lp_ge hk (by decide) hc
      repeat' ((conv => whnf); (first | refine And.intro (by first | decide | with_reducible assumption) ?_ | with_reducible refine And.intro (fun hc => ?_) (fun hc => ?_) | with_reducible refine And.intro (fun hc => ?_) ?_ | fail))
      all_goals try (conv => whnf)
      · exact kI (h a b t1 hT1) (by rw [hr, if_neg hc])
      · exact kI (h a b t1 hT1) (by rw [hr, if_pos hc])
    · have hlt := lp_lt hk (by decide) hc
      have hkr : rng 10 (nI k) := ⟨k, hlt, rfl⟩
      obtain ⟨a', b', e1⟩ := nights_sn (wbS s g (nI k)) a b n'
      have hz : ZB (snS (nightsS n' (wbS s g (nI k))) a' b') := ZB_nights (ZB_ws (k := nI k) hZ (ix_g hv)) (GS_ws (g := g) hG hkr) (show iN (wbS s g (nI k)) = nI N from hN) n' (by omega)
      have hV : iH (snS (nightsS n' (wbS s g (nI k))) a' b') (ix g) = bwV s g n' k := rfl
      conv => whnf
      refine ⟨hv, ?_⟩
      conv => whnf
      refine ⟨snS (wbS s g (nI k)) a b, q, t1, n', N, by rw [en], rfl, hT1, GS_ws (g := g) hG hkr, hN, by omega, ?_⟩
      rw [e1]
      generalize hu : snS (nightsS n' (wbS s g (nI k))) a' b' = u at hz hV ⊢
      conv => whnf
      refine ⟨hv, ?_⟩
      conv => whnf
      refine ⟨u, s, q, t1, rfl, rfl, hk1, hz, hZ, fun t2 hs2 hk2 => ?_⟩
      rw [hV]
      conv => whnf
      refine ⟨fun h1 => ?_, fun h1 => ?_⟩
      · skip
        repeat' ((conv => whnf); (first | refine And.intro (by first | decide | with_reducible assumption) ?_ | with_reducible refine And.intro (fun hc => ?_) (fun hc => ?_) | with_reducible refine And.intro (fun hc => ?_) ?_ | fail))
        all_goals try (conv => whnf)
        · exact ⟨10 - (k + 1), by omega, k + 1, iSn u, iLn u, t2, hlt, rfl, hC, hs2.tz hT1, hk2, by rw [← nI_1, bwF, if_neg (show ¬ (bwF s g n' k).2 < bwV s g n' k from Int32.not_lt.mpr h1)]; rfl, rfl, rfl⟩
        · exact absurd h1 (by assumption)
      · skip
        repeat' ((conv => whnf); (first | refine And.intro (by first | decide | with_reducible assumption) ?_ | with_reducible refine And.intro (fun hc => ?_) (fun hc => ?_) | with_reducible refine And.intro (fun hc => ?_) ?_ | fail))
        all_goals try (conv => whnf)
        · exact absurd (by assumption) h1
        · exact ⟨10 - (k + 1), by omega, k + 1, iSn u, iLn u, t2, hlt, rfl, hC, hs2.tz hT1, hk2, by rw [← nI_1, bwF, if_pos (Int32.not_le.mp h1)]; rfl, rfl, rfl⟩
  · conv => whnf
    refine ⟨s, q, tq0 t, g, rfl, rfl, ?_⟩
    conv => whnf
    refine ⟨fun hc => ?_, fun hc1 => ?_⟩
    · conv => whnf
      exact kI h0 (by unfold bwR; rw [if_neg (fun q => bp_0.mp hc q.1)])
    conv => whnf
    refine ⟨fun hc => ?_, fun hc2 => ?_⟩
    · conv => whnf
      have hc := bp_0.mp ((in_ii 0 n 60).symm.trans hc)
      exact kI h0 (by unfold bwR; rw [if_neg (fun q => hc q.2.1)])
    conv => whnf
    refine ⟨fun hc3 => ?_, fun hc => ?_⟩
    rotate_left
    · conv => whnf
      have hc := bp_0.mp ((in_ii 0 what 1).symm.trans hc)
      exact kI h0 (by unfold bwR; rw [if_neg (fun q => hc q.2.2)])
    conv => whnf
    refine ⟨s, q, tq0 t, rfl, rfl, fun t1 hs1 hk1 => ?_⟩
    conv => whnf
    exact ⟨10, 0, iSn s, iLn s, t1, by decide, rfl, ⟨bp_n hc1, bp_n (fun z => hc2 ((in_ii 0 n 60).trans z)), bp_n (fun z => hc3 ((in_ii 0 what 1).trans z))⟩, hs1.tz hT0, hk1, rfl, rfl, rfl⟩
end
section
/-! ===== buy ===== -/
theorem st_held {s : InnS} {k : Nat} (h : GS s) (hk : k < 10) : jmin 99 (iP s k + 5) = heldI (iP s k + 5) 99 := by
  obtain ⟨a, ha, hp⟩ := h.2.2.2.2.1 k hk
  rw [hp, show (5 : Int32) = nI 5 by decide, nI_add]
  exact (held_m9 _ (nI_pos (by omega))).symm
theorem GS_st {s : InnS} {k : Nat} (h : GS s) (hk : k < 10) : GS (stS s (nI k) 5) := by
  refine ⟨h.1, h.2.1, h.2.2.1, h.2.2.2.1, fun q hq => ?_, h.2.2.2.2.2⟩
  have ek : ix (nI k) = k := nI_clamp (by omega)
  show rng 100 (upd (iP s) (ix (nI k)) (jmin 99 (iP s (ix (nI k)) + 5)) q)
  rw [ek]
  by_cases e : q = k
  · rw [e, pk_us, st_held h hk]; exact rng_held _
  · rw [pk_un e]; exact h.2.2.2.2.1 q hq
theorem ZB_st {s : InnS} {k : Nat} (h : ZB s) (hk : k < 10) : ZB (stS s (nI k) 5) := by
  refine ⟨h.1, fun q hq => ?_⟩
  have ek : ix (nI k) = k := nI_clamp (by omega)
  show upd (iP s) (ix (nI k)) _ q = 0
  rw [ek, pk_un (by omega)]; exact h.2 q hq
noncomputable def buV (s : InnS) (n k : Nat) : Int32 := iA (nightsS n (stS s (nI k) 5))
noncomputable def buF (s : InnS) (n : Nat) : Nat → Int32 × Int32
  | 0 => (-4, iA (nightsS n s))
  | k + 1 => if buV s n k < (buF s n k).2 then (nI k, buV s n k) else buF s n k
noncomputable def buR (s : InnS) (n : Int32) : Int32 := if 0 ≤ n ∧ n ≤ 60 then (buF s (ix n) 10).1 else -1
def F_X5_buy : Fn := fun as w K => ∃ (r2 r3 r4 r5 : sv) (hi : Int32) (s m : InnS) (N : Nat) (n : Int32), as = [sR 0, sI n] ∧ w = x2W r2 r3 r4 r5 hi s m ∧ IV s N ∧ ZB m ∧ ∀ m', ZB m' → K (some (.inl (buR s n))) (x2W r2 r3 r4 r5 hi s m')
def ctb_X5_buy : List (Nat × (List sv → List sc → (List sv → List sc → Prop) → Prop)) := [(1, cS none 1 F_X5_isWhile), (10, cS (some 3) 1 F_X5_inMind), (16, cG [8, 9, 10, 11, 12, 13, 14] (some 0) 2 F_X0_pass), (39, cS (some 3) 1 F_X5_inMind), (47, cG [8, 9, 10, 11, 12, 13, 14] (some 0) 3 F_X0_stock), (52, cG [8, 9, 10, 11, 12, 13, 14] (some 0) 2 F_X0_pass)]
theorem cok_X5_buy : CallOK cX5_buy 6 (some .int) RX5 6 ctb_X5_buy := CallOK_cons (site_same (rnS (pX5_buy_ok 1 _ rfl) ct_X5_isWhile kX5_isWhile lRX5_148 (by decide))) (CallOK_cons (site_same (rnV (pX5_buy_ok 10 _ rfl) ct_X5_inMind kX5_inMind lRX5_58 (by decide))) (CallOK_cons (site_gen [8, 9, 10, 11, 12, 13, 14] (by decide) (rnV (pX5_buy_ok 16 _ rfl) ct_X0_pass kX0_pass lRX5_136 (by decide))) (CallOK_cons (site_same (rnV (pX5_buy_ok 39 _ rfl) ct_X5_inMind kX5_inMind lRX5_58 (by decide))) (CallOK_cons (site_gen [8, 9, 10, 11, 12, 13, 14] (by decide) (rnV (pX5_buy_ok 47 _ rfl) ct_X0_stock kX0_stock lRX5_170 (by decide))) (CallOK_cons (site_gen [8, 9, 10, 11, 12, 13, 14] (by decide) (rnV (pX5_buy_ok 52 _ rfl) ct_X0_pass kX0_pass lRX5_136 (by decide))) (CallOK_nil))))))
theorem ct_X5_buy : Ct yX5_buy cX5_buy 6 (some .int) 6 F_X5_buy := by
  intro l D σ cA sz as w K h
  obtain ⟨r2, r3, r4, r5, hi, s, m, N, n, rfl, rfl, ⟨hZ, hG, hN, hN9, hB⟩, hM, h⟩ := h
  have h0 := h m hM
  refine metL (pr := lkB pX5_buy) (rk := 1) (ct := ctb_X5_buy) (fld := lkB flX5) (cst := lkB csX5) (cstL := lkB clX5) [(31, ([true, true, false, true, true, true], fun x lv st w => ∃ (k : Nat) (m' : InnS), k ≤ 10 ∧ x = 10 - k ∧ ZB m' ∧ (0 ≤ n ∧ n ≤ 60) ∧ lv = [some (sR 0), some (sI n), none, some (sI (buF s (ix n) k).2), some (sI (buF s (ix n) k).1), some (sI (nI k))] ∧ st = [] ∧ w = x2W r2 r3 r4 r5 hi s m'))] pX5_buy_ok kX5_buy.2.2.2.2.2.2.2 fdX5 cdX5 rto1 cok_X5_buy (Nat.le_of_ble_eq_true rfl) ?_ ?_ l D σ cA sz
  · refine List.forall_mem_cons.mpr ⟨?_, cut0⟩
    rintro x lv st w ⟨k, m', hk, rfl, hM', hC, rfl, rfl, rfl⟩
    obtain ⟨n', hn', en⟩ := in_rng (n := 60) (by decide) hC
    have eix : ix n = n' := by rw [en]; exact nI_clamp (by omega)
    have hr : buR s n = (buF s n' 10).1 := by
      unfold buR
      rw [if_pos hC, eix]
    rw [eix]
    conv => whnf
    refine ⟨fun hc => ?_, fun hc => ?_⟩
    · obtain rfl := lp_ge hk (by decide) hc
      conv => whnf
      exact kI (h _ hM') hr
    · have hlt := lp_lt hk (by decide) hc
      have hz := ZB_nights (ZB_st hZ hlt) (GS_st hG hlt) (show iN (stS s (nI k) 5) = nI N from hN) n' (by omega)
      conv => whnf
      refine ⟨r2, r3, r4, r5, hi, s, m', rfl, rfl, hZ, hM', ?_⟩
      conv => whnf
      refine ⟨s, nI k, 5, rfl, rfl, vp_in_nI hlt (by decide), ?_⟩
      conv => whnf
      refine ⟨stS s (nI k) 5, n', N, by rw [en]; rfl, rfl, GS_st hG hlt, hN, by omega, ?_⟩
      conv => whnf
      refine ⟨fun h1 => ?_, fun h1 => ?_⟩
      · conv => whnf
        exact ⟨10 - (k + 1), by omega, k + 1, _, hlt, rfl, hz, hC, by rw [← nI_1, buF, if_neg (show ¬ buV s n' k < (buF s n' k).2 from Int32.not_lt.mpr h1)]; rfl, rfl, rfl⟩
      · conv => whnf
        exact ⟨10 - (k + 1), by omega, k + 1, _, hlt, rfl, hz, hC, by rw [← nI_1, buF, if_pos (show buV s n' k < (buF s n' k).2 from Int32.not_le.mp h1)]; rfl, rfl, rfl⟩
  · conv => whnf
    refine ⟨fun hc1 => ?_, fun hc => ?_⟩
    rotate_left
    · conv => whnf
      exact kI h0 (by unfold buR; rw [if_neg (bp_0.mp hc)])
    have hC := bp_n hc1
    obtain ⟨n', hn', en⟩ := in_rng (n := 60) (by decide) hC
    have eix : ix n = n' := by rw [en]; exact nI_clamp (by omega)
    rw [eix]
    conv => whnf
    refine ⟨r2, r3, r4, r5, hi, s, m, rfl, rfl, hZ, hM, ?_⟩
    conv => whnf
    refine ⟨s, n', N, by rw [en]; rfl, rfl, hG, hN, by omega, ?_⟩
    conv => whnf
    exact ⟨10, 0, nightsS n' s, by decide, rfl, ZB_nights hZ hG hN n' (by omega), hC, rfl, rfl, rfl⟩
def F_X6_lackingThen : Fn := fun as w K => ∃ (s s0 : InnS) (q : Pm) (t : Tm) (N n : Nat), as = [sR 0, sI (nI n)] ∧ w = modW s q t ∧ TZ t ∧ KP s0 t ∧ ZB s ∧ ZB s0 ∧ GS s ∧ iN s = nI N ∧ N + n < 90000 ∧ ∀ a b t', SK t t' → KP s0 t' → K (some (.inl (iA (nightsS n s)))) (modW (snS s0 a b) q t')
def ctb_X6_lackingThen : List (Nat × (List sv → List sc → (List sv → List sc → Prop) → Prop)) := [(2, cS (some 4) 2 F_X6_goNights), (11, cS (some 4) 1 F_X6_again)]
theorem cok_X6_lackingThen : CallOK cX6_lackingThen 3 (some .int) RX6 6 ctb_X6_lackingThen := CallOK_cons (site_same (rnV (pX6_lackingThen_ok 2 _ rfl) ct_X6_goNights kX6_goNights lRX6_168 (by decide))) (CallOK_cons (site_same (rnV (pX6_lackingThen_ok 11 _ rfl) ct_X6_again kX6_again lRX6_196 (by decide))) (CallOK_nil))
theorem ct_X6_lackingThen : Ct yX6_lackingThen cX6_lackingThen 3 (some .int) 6 F_X6_lackingThen := by
  intro l D σ cA sz as w K h
  obtain ⟨s, s0, q, t, N, n, rfl, rfl, hT, hk, hZ, hZ0, hG, hN, hN2, h⟩ := h
  refine metL (pr := lkB pX6_lackingThen) (rk := 1) (ct := ctb_X6_lackingThen) (fld := lkB flX6) (cst := lkB csX6) (cstL := lkB clX6) [] pX6_lackingThen_ok kX6_lackingThen.2.2.2.2.2.2.2 fdX6 cdX6 rto1 cok_X6_lackingThen (Nat.le_of_ble_eq_true rfl) cut0 ?_ l D σ cA sz
  conv => whnf
  refine ⟨s, q, t, n, N, rfl, rfl, hT, hG, hN, hN2, ?_⟩
  conv => whnf
  refine ⟨nightsS n s, s0, q, t, rfl, rfl, hk, ZB_nights hZ hG hN n (by omega), hZ0, fun t2 hs2 hk2 => ?_⟩
  conv => whnf
  exact h (iSn (nightsS n s)) (iLn (nightsS n s)) t2 hs2 hk2
def F_X6_buy : Fn := fun as w K => ∃ (s : InnS) (q : Pm) (t : Tm) (N : Nat) (n : Int32), as = [sR 0, sI n] ∧ w = modW s q t ∧ TZ t ∧ IV s N ∧ ∀ a b t', TZ t' → K (some (.inl (buR s n))) (modW (snS s a b) q t')
def ctb_X6_buy : List (Nat × (List sv → List sc → (List sv → List sc → Prop) → Prop)) := [(11, cS none 3 F_X6_in), (23, cS (some 4) 1 F_X6_think), (28, cS (some 4) 2 F_X6_lackingThen), (59, cS none 2 F_X6_held), (65, cS (some 4) 2 F_X6_lackingThen)]
theorem cok_X6_buy : CallOK cX6_buy 6 (some .int) RX6 7 ctb_X6_buy := CallOK_cons (site_same (rnS (pX6_buy_ok 11 _ rfl) ct_X6_in kX6_in lRX6_81 (by decide))) (CallOK_cons (site_same (rnV (pX6_buy_ok 23 _ rfl) ct_X6_think kX6_think lRX6_190 (by decide))) (CallOK_cons (site_same (rnV (pX6_buy_ok 28 _ rfl) ct_X6_lackingThen kX6_lackingThen lRX6_241 (by decide))) (CallOK_cons (site_same (rnS (pX6_buy_ok 59 _ rfl) ct_X6_held kX6_held lRX6_88 (by decide))) (CallOK_cons (site_same (rnV (pX6_buy_ok 65 _ rfl) ct_X6_lackingThen kX6_lackingThen lRX6_241 (by decide))) (CallOK_nil)))))
theorem ct_X6_buy : Ct yX6_buy cX6_buy 6 (some .int) 7 F_X6_buy := by
  intro l D σ cA sz as w K h
  obtain ⟨s, q, t, N, n, rfl, rfl, hT, ⟨hZ, hG, hN, hN9, hB⟩, h⟩ := h
  have h0 := h (iSn s) (iLn s) (tq0 t) hT
  have hT0 : TZ (tq0 t) := hT
  refine metL (pr := lkB pX6_buy) (rk := 1) (ct := ctb_X6_buy) (fld := lkB flX6) (cst := lkB csX6) (cstL := lkB clX6) [(35, ([true, true, true, true, true, false], fun x lv st w => ∃ (k : Nat) (a b : Int32) (t1 : Tm), k ≤ 10 ∧ x = 10 - k ∧ (0 ≤ n ∧ n ≤ 60) ∧ TZ t1 ∧ KP s t1 ∧ lv = [some (sR 0), some (sI n), some (sI (buF s (ix n) k).1), some (sI (buF s (ix n) k).2), some (sI (nI k)), none] ∧ st = [] ∧ w = modW (snS s a b) q t1))] pX6_buy_ok kX6_buy.2.2.2.2.2.2.2 fdX6 cdX6 rto1 cok_X6_buy (Nat.le_of_ble_eq_true rfl) ?_ ?_ l D σ cA sz
  · refine List.forall_mem_cons.mpr ⟨?_, cut0⟩
    rintro x lv st w ⟨k, a, b, t1, hk, rfl, hC, hT1, hk1, rfl, rfl, rfl⟩
    obtain ⟨n', hn', en⟩ := in_rng (n := 60) (by decide) hC
    have eix : ix n = n' := by rw [en]; exact nI_clamp (by omega)
    have hr : buR s n = (buF s n' 10).1 := by
      unfold buR
      rw [if_pos hC, eix]
    rw [eix]
    conv => whnf
    refine ⟨fun hc => ?_, fun hc => ?_⟩
    · obtain rfl := lp_ge hk (by decide) hc
      conv => whnf
      exact kI (h a b t1 hT1) hr
    · have hlt := lp_lt hk (by decide) hc
      have hv : vp_in (nI k) 10 := vp_in_nI hlt (by decide)
      obtain ⟨a', b', e1⟩ := nights_sn (stS s (nI k) 5) a b n'
      have hV : iA (nightsS n' (snS (stS s (nI k) 5) a b)) = buV s n' k := by rw [e1]; rfl
      have ek : (nI k).toNatClampNeg = k := nI_clamp (by omega)
      have hw : modW (snS (stS s (nI k) 5) a b) q t1 = modW (iK s, iF s, iW s, iL s, iH s, upd (iP s) (nI k).toNatClampNeg (heldI (iP s (nI k).toNatClampNeg + 5) 99), iG s, iT s, iN s, iS s, iA s, a, b) q t1 := by
        rw [ek, ← st_held hG hlt]
        show modW (iK s, iF s, iW s, iL s, iH s, upd (iP s) (nI k).toNatClampNeg (jmin 99 (iP s (nI k).toNatClampNeg + 5)), iG s, iT s, iN s, iS s, iA s, a, b) q t1 = _
        rw [ek]
      repeat' ((conv => whnf); (first | refine And.intro (by first | decide | with_reducible assumption) ?_ | with_reducible refine And.intro (fun hc => ?_) (fun hc => ?_) | with_reducible refine And.intro (fun hc => ?_) ?_ | fail))
      all_goals try (conv => whnf)
      refine ⟨snS (stS s (nI k) 5) a b, s, q, t1, N, n', by rw [en], ?_, hT1, hk1, ZB_st hZ hlt, hZ, GS_st hG hlt, hN, by omega, fun a2 b2 t2 hs2 hk2 => ?_⟩
      · rw [hw]; rfl
      rw [hV]
      conv => whnf
      refine ⟨fun h1 => ?_, fun h1 => ?_⟩
      · skip
        repeat' ((conv => whnf); (first | refine And.intro (by first | decide | with_reducible assumption) ?_ | with_reducible refine And.intro (fun hc => ?_) (fun hc => ?_) | with_reducible refine And.intro (fun hc => ?_) ?_ | fail))
        all_goals try (conv => whnf)
        · exact ⟨10 - (k + 1), by omega, k + 1, a2, b2, t2, hlt, rfl, hC, hs2.tz hT1, hk2, by rw [← nI_1, buF, if_neg (Int32.not_lt.mpr h1)]; rfl, rfl, rfl⟩
        · exact absurd h1 (by assumption)
      · skip
        repeat' ((conv => whnf); (first | refine And.intro (by first | decide | with_reducible assumption) ?_ | with_reducible refine And.intro (fun hc => ?_) (fun hc => ?_) | with_reducible refine And.intro (fun hc => ?_) ?_ | fail))
        all_goals try (conv => whnf)
        · exact absurd (by assumption) h1
        · exact ⟨10 - (k + 1), by omega, k + 1, a2, b2, t2, hlt, rfl, hC, hs2.tz hT1, hk2, by rw [← nI_1, buF, if_pos (Int32.not_le.mp h1)]; rfl, rfl, rfl⟩
  · conv => whnf
    refine ⟨fun hc1 => ?_, fun hc => ?_⟩
    rotate_left
    · conv => whnf
      have hc := bp_0.mp ((in_ii 0 n 60).symm.trans hc)
      exact kI h0 (by unfold buR; rw [if_neg hc])
    have hC := bp_n (fun z => hc1 ((in_ii 0 n 60).trans z))
    obtain ⟨n', hn', en⟩ := in_rng (n := 60) (by decide) hC
    have eix : ix n = n' := by rw [en]; exact nI_clamp (by omega)
    rw [eix]
    conv => whnf
    refine ⟨s, q, tq0 t, rfl, rfl, fun t1 hs1 hk1 => ?_⟩
    conv => whnf
    refine ⟨s, s, q, t1, N, n', by rw [en], rfl, hs1.tz hT0, hk1, hZ, hZ, hG, hN, by omega, fun a2 b2 t2 hs2 hk2 => ?_⟩
    conv => whnf
    exact ⟨10, 0, a2, b2, t2, by decide, rfl, hC, hs2.tz (hs1.tz hT0), hk2, rfl, rfl, rfl⟩
end
section
/-! ===== the reference's questions ===== -/
def F_X6_emptyPlates : Fn := fun as w K => ∃ (s : InnS) (q : Pm) (t : Tm), as = [sR 0] ∧ w = modW s q t ∧ K (some (.inl (beF (iP s) 10))) w
def ctb_X6_emptyPlates : List (Nat × (List sv → List sc → (List sv → List sc → Prop) → Prop)) := []
theorem cok_X6_emptyPlates : CallOK cX6_emptyPlates 3 (some .int) RX6 1 ctb_X6_emptyPlates := CallOK_nil
theorem ct_X6_emptyPlates : Ct yX6_emptyPlates cX6_emptyPlates 3 (some .int) 1 F_X6_emptyPlates := by
  intro l D σ cA sz as w K h
  obtain ⟨s, q, t, rfl, rfl, h⟩ := h
  refine metL (pr := lkB pX6_emptyPlates) (rk := 1) (ct := ctb_X6_emptyPlates) (fld := lkB flX6) (cst := lkB csX6) (cstL := lkB clX6) [(4, ([true, true, true], fun n lv st w => ∃ j, j ≤ 10 ∧ n = 10 - j ∧ lv = [some (sR 0), some (sI (beF (iP s) j)), some (sI (nI j))] ∧ st = [] ∧ w = modW s q t))] pX6_emptyPlates_ok kX6_emptyPlates.2.2.2.2.2.2.2 fdX6 cdX6 rto1 cok_X6_emptyPlates (Nat.le_of_ble_eq_true rfl) ?_ ?_ l D σ cA sz
  · refine List.forall_mem_cons.mpr ⟨?_, cut0⟩
    rintro n lv st w ⟨j, hj, rfl, rfl, rfl, rfl⟩
    conv => whnf
    refine ⟨fun hc => ?_, fun hc => ?_⟩
    · conv => whnf
      obtain rfl := lp_ge hj (by decide) hc
      exact h
    · have hlt := lp_lt hj (by decide) hc
      have hv : vp_in (nI j) 10 := vp_in_nI hlt (by decide)
      repeat' ((conv => whnf); (first | refine And.intro (by first | decide | with_reducible assumption) ?_ | with_reducible refine And.intro (fun hc => ?_) (fun hc => ?_) | with_reducible refine And.intro (fun hc => ?_) ?_ | fail))
      all_goals try (conv => whnf)
      · rw [nI_clamp (n := j) (by omega)] at hc
        exact ⟨10 - (j + 1), by omega, j + 1, hlt, rfl, by rw [← nI_1, beF, if_neg hc]; rfl, rfl, rfl⟩
      · rw [nI_clamp (n := j) (by omega)] at hc
        exact ⟨10 - (j + 1), by omega, j + 1, hlt, rfl, by rw [← nI_1, beF, if_pos hc]; rfl, rfl, rfl⟩
  · skip
    repeat' ((conv => whnf); (first | refine And.intro (by first | decide | with_reducible assumption) ?_ | with_reducible refine And.intro (fun hc => ?_) (fun hc => ?_) | with_reducible refine And.intro (fun hc => ?_) ?_ | fail))
    all_goals try (conv => whnf)
    exact ⟨10, 0, Nat.zero_le _, rfl, rfl, rfl, rfl⟩
def F_X6_fullestPlate : Fn := fun as w K => ∃ (s : InnS) (q : Pm) (t : Tm), as = [sR 0] ∧ w = modW s q t ∧ K (some (.inl (flF (iP s) 9))) w
def ctb_X6_fullestPlate : List (Nat × (List sv → List sc → (List sv → List sc → Prop) → Prop)) := []
theorem cok_X6_fullestPlate : CallOK cX6_fullestPlate 3 (some .int) RX6 1 ctb_X6_fullestPlate := CallOK_nil
theorem ct_X6_fullestPlate : Ct yX6_fullestPlate cX6_fullestPlate 3 (some .int) 1 F_X6_fullestPlate := by
  intro l D σ cA sz as w K h
  obtain ⟨s, q, t, rfl, rfl, h⟩ := h
  refine metL (pr := lkB pX6_fullestPlate) (rk := 1) (ct := ctb_X6_fullestPlate) (fld := lkB flX6) (cst := lkB csX6) (cstL := lkB clX6) [(4, ([true, true, true], fun n lv st w => ∃ j, j ≤ 9 ∧ n = 9 - j ∧ lv = [some (sR 0), some (sI (flF (iP s) j)), some (sI (nI (j + 1)))] ∧ st = [] ∧ w = modW s q t))] pX6_fullestPlate_ok kX6_fullestPlate.2.2.2.2.2.2.2 fdX6 cdX6 rto1 cok_X6_fullestPlate (Nat.le_of_ble_eq_true rfl) ?_ ?_ l D σ cA sz
  · refine List.forall_mem_cons.mpr ⟨?_, cut0⟩
    rintro n lv st w ⟨j, hj, rfl, rfl, rfl, rfl⟩
    have hfl := rng_in (fl_in (iP s) j (by omega)) (by decide)
    conv => whnf
    refine ⟨fun hc => ?_, fun hc => ?_⟩
    · conv => whnf
      have := lp_ge (j := j + 1) (M := 10) (by omega) (by decide) hc
      obtain rfl : j = 9 := by omega
      exact h
    · have hlt := lp_lt (j := j + 1) (M := 10) (by omega) (by decide) hc
      have hv1 : vp_in (nI (j + 1)) 10 := vp_in_nI hlt (by decide)
      repeat' ((conv => whnf); (first | refine And.intro (by first | decide | with_reducible assumption) ?_ | with_reducible refine And.intro (fun hc => ?_) (fun hc => ?_) | with_reducible refine And.intro (fun hc => ?_) ?_ | fail))
      all_goals try (conv => whnf)
      · rw [nI_clamp (n := j + 1) (by omega)] at hc
        exact ⟨9 - (j + 1), by omega, j + 1, by omega, rfl, by rw [← nI_1 (j + 1), flF, if_neg (Int32.not_lt.mpr hc)]; rfl, rfl, rfl⟩
      · rw [nI_clamp (n := j + 1) (by omega)] at hc
        exact ⟨9 - (j + 1), by omega, j + 1, by omega, rfl, by rw [← nI_1 (j + 1), flF, if_pos (Int32.not_le.mp hc)]; rfl, rfl, rfl⟩
  · skip
    repeat' ((conv => whnf); (first | refine And.intro (by first | decide | with_reducible assumption) ?_ | with_reducible refine And.intro (fun hc => ?_) (fun hc => ?_) | with_reducible refine And.intro (fun hc => ?_) ?_ | fail))
    all_goals try (conv => whnf)
    exact ⟨9, 0, Nat.zero_le _, rfl, rfl, rfl, rfl⟩
def F_X6_platesOf1 : Fn := fun as w K => ∃ (s : InnS) (q : Pm) (t : Tm) (G : Nat), as = [sR 0, sI 1] ∧ w = modW s q t ∧ iG s = nI G ∧ G < 8 ∧ K (some (.inl (boF (iT s) (iW s) G))) w
def F_X6_platesOf0 : Fn := fun as w K => ∃ (s : InnS) (q : Pm) (t : Tm) (G : Nat), as = [sR 0, sI 0] ∧ w = modW s q t ∧ iG s = nI G ∧ G < 8 ∧ K (some (.inl (boF (iT s) (iL s) G))) w
def ctb_X6_platesOf : List (Nat × (List sv → List sc → (List sv → List sc → Prop) → Prop)) := [(18, cS none 2 F_X6_hasBit)]
theorem cok_X6_platesOf : CallOK cX6_platesOf 4 (some .int) RX6 2 ctb_X6_platesOf := CallOK_cons (site_same (rnS (pX6_platesOf_ok 18 _ rfl) ct_X6_hasBit kX6_hasBit lRX6_105 (by decide))) (CallOK_nil)
theorem ct_X6_platesOf1 : Ct yX6_platesOf cX6_platesOf 4 (some .int) 2 F_X6_platesOf1 := by
  intro l D σ cA sz as w K h
  obtain ⟨s, q, t, G, rfl, rfl, hG, hG7, h⟩ := h
  refine metL (pr := lkB pX6_platesOf) (rk := 1) (ct := ctb_X6_platesOf) (fld := lkB flX6) (cst := lkB csX6) (cstL := lkB clX6) [(4, ([true, true, true, true], fun n lv st w => ∃ j, j ≤ G ∧ n = G - j ∧ lv = [some (sR 0), some (sI 1), some (sI (boF (iT s) (iW s) j)), some (sI (nI j))] ∧ st = [] ∧ w = modW s q t))] pX6_platesOf_ok kX6_platesOf.2.2.2.2.2.2.2 fdX6 cdX6 rto1 cok_X6_platesOf (Nat.le_of_ble_eq_true rfl) ?_ ?_ l D σ cA sz
  · refine List.forall_mem_cons.mpr ⟨?_, cut0⟩
    rintro n lv st w ⟨j, hj, rfl, rfl, rfl, rfl⟩
    conv => whnf
    refine ⟨fun hc => ?_, fun hc => ?_⟩
    · conv => whnf
      rw [hG] at hc
      obtain rfl := lp_ge hj (by omega) hc
      exact h
    · rw [hG] at hc
      have hlt := lp_lt hj (by omega) hc
      have hv : vp_in (nI j) 7 := vp_in_nI (by omega) (by decide)
      conv => whnf
      refine ⟨fun hb => ?_, fun hb => ?_⟩
      · conv => whnf
        exact ⟨G - (j + 1), by omega, j + 1, hlt, rfl, by rw [← nI_1, boF, if_neg (bp_0.mp hb)]; rfl, rfl, rfl⟩
      · conv => whnf
        refine ⟨fun h1 => absurd h1 (by decide), fun _ => ?_⟩
        repeat' ((conv => whnf); (first | refine And.intro (by first | decide | with_reducible assumption) ?_ | with_reducible refine And.intro (fun hc => ?_) (fun hc => ?_) | with_reducible refine And.intro (fun hc => ?_) ?_ | fail))
        all_goals try (conv => whnf)
        exact ⟨G - (j + 1), by omega, j + 1, hlt, rfl, by rw [← nI_1, boF, if_pos (bp_n hb), nI_clamp (n := j) (by omega)]; rfl, rfl, rfl⟩
  · skip
    repeat' ((conv => whnf); (first | refine And.intro (by first | decide | with_reducible assumption) ?_ | with_reducible refine And.intro (fun hc => ?_) (fun hc => ?_) | with_reducible refine And.intro (fun hc => ?_) ?_ | fail))
    all_goals try (conv => whnf)
    exact ⟨G, 0, Nat.zero_le _, rfl, rfl, rfl, rfl⟩
theorem ct_X6_platesOf0 : Ct yX6_platesOf cX6_platesOf 4 (some .int) 2 F_X6_platesOf0 := by
  intro l D σ cA sz as w K h
  obtain ⟨s, q, t, G, rfl, rfl, hG, hG7, h⟩ := h
  refine metL (pr := lkB pX6_platesOf) (rk := 1) (ct := ctb_X6_platesOf) (fld := lkB flX6) (cst := lkB csX6) (cstL := lkB clX6) [(4, ([true, true, true, true], fun n lv st w => ∃ j, j ≤ G ∧ n = G - j ∧ lv = [some (sR 0), some (sI 0), some (sI (boF (iT s) (iL s) j)), some (sI (nI j))] ∧ st = [] ∧ w = modW s q t))] pX6_platesOf_ok kX6_platesOf.2.2.2.2.2.2.2 fdX6 cdX6 rto1 cok_X6_platesOf (Nat.le_of_ble_eq_true rfl) ?_ ?_ l D σ cA sz
  · refine List.forall_mem_cons.mpr ⟨?_, cut0⟩
    rintro n lv st w ⟨j, hj, rfl, rfl, rfl, rfl⟩
    conv => whnf
    refine ⟨fun hc => ?_, fun hc => ?_⟩
    · conv => whnf
      rw [hG] at hc
      obtain rfl := lp_ge hj (by omega) hc
      exact h
    · rw [hG] at hc
      have hlt := lp_lt hj (by omega) hc
      have hv : vp_in (nI j) 7 := vp_in_nI (by omega) (by decide)
      conv => whnf
      refine ⟨fun hb => ?_, fun hb => ?_⟩
      · conv => whnf
        exact ⟨G - (j + 1), by omega, j + 1, hlt, rfl, by rw [← nI_1, boF, if_neg (bp_0.mp hb)]; rfl, rfl, rfl⟩
      · conv => whnf
        refine ⟨fun _ => ?_, fun h1 => absurd rfl h1⟩
        repeat' ((conv => whnf); (first | refine And.intro (by first | decide | with_reducible assumption) ?_ | with_reducible refine And.intro (fun hc => ?_) (fun hc => ?_) | with_reducible refine And.intro (fun hc => ?_) ?_ | fail))
        all_goals try (conv => whnf)
        exact ⟨G - (j + 1), by omega, j + 1, hlt, rfl, by rw [← nI_1, boF, if_pos (bp_n hb), nI_clamp (n := j) (by omega)]; rfl, rfl, rfl⟩
  · skip
    repeat' ((conv => whnf); (first | refine And.intro (by first | decide | with_reducible assumption) ?_ | with_reducible refine And.intro (fun hc => ?_) (fun hc => ?_) | with_reducible refine And.intro (fun hc => ?_) ?_ | fail))
    all_goals try (conv => whnf)
    exact ⟨G, 0, Nat.zero_le _, rfl, rfl, rfl, rfl⟩
theorem wl_inv (t : Int32) (h : PA) : ∀ j, j ≤ 7 → ((wlF t h j).1 = -4 ∧ (wlF t h j).2 = -1) ∨ ∃ i, i < j ∧ (wlF t h j).1 = nI i ∧ (wlF t h j).2 = h i
  | 0, _ => Or.inl ⟨rfl, rfl⟩
  | j + 1, hj => by
    unfold wlF
    split
    · exact Or.inr ⟨j, by omega, rfl, rfl⟩
    · rcases wl_inv t h j (by omega) with e | ⟨i, hi, e⟩
      · exact Or.inl e
      · exact Or.inr ⟨i, by omega, e⟩
def F_X6_wellest : Fn := fun as w K => ∃ (s : InnS) (q : Pm) (t : Tm) (G : Nat), as = [sR 0] ∧ w = modW s q t ∧ iG s = nI G ∧ G < 8 ∧ GS s ∧ K (some (.inl (wlF (iT s) (iH s) G).1)) w
def ctb_X6_wellest : List (Nat × (List sv → List sc → (List sv → List sc → Prop) → Prop)) := [(18, cS none 2 F_X6_hasBit)]
theorem cok_X6_wellest : CallOK cX6_wellest 3 (some .int) RX6 2 ctb_X6_wellest := CallOK_cons (site_same (rnS (pX6_wellest_ok 18 _ rfl) ct_X6_hasBit kX6_hasBit lRX6_105 (by decide))) (CallOK_nil)
theorem ct_X6_wellest : Ct yX6_wellest cX6_wellest 3 (some .int) 2 F_X6_wellest := by
  intro l D σ cA sz as w K h
  obtain ⟨s, q, t, G, rfl, rfl, hG, hG7, hGS, h⟩ := h
  refine metL (pr := lkB pX6_wellest) (rk := 1) (ct := ctb_X6_wellest) (fld := lkB flX6) (cst := lkB csX6) (cstL := lkB clX6) [(5, ([true, true, true], fun n lv st w => ∃ j, j ≤ G ∧ n = G - j ∧ lv = [some (sR 0), some (sI (wlF (iT s) (iH s) j).1), some (sI (nI j))] ∧ st = [] ∧ w = modW s q t))] pX6_wellest_ok kX6_wellest.2.2.2.2.2.2.2 fdX6 cdX6 rto1 cok_X6_wellest (Nat.le_of_ble_eq_true rfl) ?_ ?_ l D σ cA sz
  · refine List.forall_mem_cons.mpr ⟨?_, cut0⟩
    rintro n lv st w ⟨j, hj, rfl, rfl, rfl, rfl⟩
    have hinv := wl_inv (iT s) (iH s) j (by omega)
    conv => whnf
    refine ⟨fun hc => ?_, fun hc => ?_⟩
    · conv => whnf
      rw [hG] at hc
      obtain rfl := lp_ge hj (by omega) hc
      exact h
    · rw [hG] at hc
      have hlt := lp_lt hj (by omega) hc
      have hv : vp_in (nI j) 7 := vp_in_nI (by omega) (by decide)
      have ej : (nI j).toNatClampNeg = j := nI_clamp (by omega)
      conv => whnf
      refine ⟨fun hb => ?_, fun hb => ?_⟩
      · conv => whnf
        exact ⟨G - (j + 1), by omega, j + 1, hlt, rfl, by rw [← nI_1, wlF, if_neg (fun q => bp_0.mp hb q.1)]; rfl, rfl, rfl⟩
      · have hb := bp_n hb
        conv => whnf
        refine ⟨fun h1 => ?_, fun h1 => ?_⟩
        · have e2 : (wlF (iT s) (iH s) j).2 = -1 := by
            rcases hinv with e | ⟨i, hi, e, -⟩
            · exact e.2
            · rw [e] at h1; exact absurd h1 (nI_pos (by omega))
          have h2 : (wlF (iT s) (iH s) j).2 < iH s j := by
            rw [e2]
            obtain ⟨a, ha, e⟩ := hGS.2.2.2.2.2 j (by omega)
            rw [e]
            exact Int32.lt_of_lt_of_le (by decide : (-1 : Int32) < 0) (nI_pos' (by omega))
          conv => whnf
          exact ⟨G - (j + 1), by omega, j + 1, hlt, rfl, by rw [← nI_1, wlF, if_pos ⟨hb, h2⟩]; rfl, rfl, rfl⟩
        · obtain ⟨i, hi, e1, e2⟩ := hinv.resolve_left (fun e => h1 (by rw [e.1]; decide))
          have ei : (nI i).toNatClampNeg = i := nI_clamp (by omega)
          have hv2 : vp_in (wlF (iT s) (iH s) j).1 7 := by rw [e1]; exact vp_in_nI (by omega) (by decide)
          conv => whnf
          refine ⟨hv, ?_⟩
          conv => whnf
          refine ⟨hv2, ?_⟩
          conv => whnf
          refine ⟨fun h3 => ?_, fun h3 => ?_⟩
          · rw [e1, ei, ej, ← e2] at h3
            conv => whnf
            exact ⟨G - (j + 1), by omega, j + 1, hlt, rfl, by rw [← nI_1, wlF, if_neg (fun q => absurd q.2 (Int32.not_lt.mpr h3))]; rfl, rfl, rfl⟩
          · rw [e1, ei, ej, ← e2] at h3
            conv => whnf
            exact ⟨G - (j + 1), by omega, j + 1, hlt, rfl, by rw [← nI_1, wlF, if_pos ⟨hb, Int32.not_le.mp h3⟩]; rfl, rfl, rfl⟩
  · skip
    repeat' ((conv => whnf); (first | refine And.intro (by first | decide | with_reducible assumption) ?_ | with_reducible refine And.intro (fun hc => ?_) (fun hc => ?_) | with_reducible refine And.intro (fun hc => ?_) ?_ | fail))
    all_goals try (conv => whnf)
    exact ⟨G, 0, Nat.zero_le _, rfl, rfl, rfl, rfl⟩
end
section
/-! ===== same ===== -/
def sumI (f : Nat → Int32) : Nat → Int32
  | 0 => 0
  | n + 1 => sumI f n + f n
theorem sumI_add (f g : Nat → Int32) : ∀ n, sumI (fun i => f i + g i) n = sumI f n + sumI g n
  | 0 => by show (0 : Int32) = 0 + 0; decide
  | n + 1 => by
    simp only [sumI]
    rw [sumI_add f g n]
    ac_rfl
theorem sumI_congr {f g : Nat → Int32} : ∀ n, (∀ i, i < n → f i = g i) → sumI f n = sumI g n
  | 0, _ => rfl
  | n + 1, h => by
    simp only [sumI]
    rw [sumI_congr n (fun i hi => h i (by omega)), h n (by omega)]
theorem sumI_zero {f : Nat → Int32} : ∀ n, (∀ i, i < n → f i = 0) → sumI f n = 0
  | 0, _ => rfl
  | n + 1, h => by
    simp only [sumI]
    rw [sumI_zero n (fun i hi => h i (by omega)), h n (by omega)]
    decide
def dcI (d : Nat → Int32) (o g : Nat) : Int32 := if ¬ d g = -4 ∧ d g = d o then 1 else 0
def twM (d : Nat → Int32) (G a : Nat) : Int32 := sumI (fun b => if a < b then dcI d a b else 0) G
theorem tw_R (b : Int32) (d : Nat → Int32) (g : Nat) : ∀ o, twR b d g o = b + sumI (fun i => dcI d i g) o
  | 0 => by simp [twR, sumI]
  | o + 1 => by
    simp only [twR, sumI]
    rw [tw_R b d g o, Int32.add_assoc]
    rfl
theorem tw_M (d : Nat → Int32) : ∀ G, sumI (twM d G) G = twF d G
  | 0 => rfl
  | G + 1 => by
    have ih := tw_M d G
    have e1 : sumI (twM d (G + 1)) G = sumI (twM d G) G + sumI (fun i => dcI d i G) G := by
      rw [← sumI_add]
      refine sumI_congr G (fun i hi => ?_)
      show sumI _ (G + 1) = _
      simp only [sumI]
      rw [if_pos hi]
      rfl
    have e2 : twM d (G + 1) G = 0 := sumI_zero _ (fun i hi => by rw [if_neg (by omega)])
    show sumI (twM d (G + 1)) G + twM d (G + 1) G = _
    rw [e1, e2, ih, Int32.add_zero]
    exact (tw_R _ d G G).symm
theorem nd_ok {s : InnS} {j N : Nat} (h : GS s) (hj : j < 7) (hN : iN s = nI N) (hN2 : N < 90000) : ndS s (nI j) = -4 ∨ rng 10 (ndS s (nI j)) := by
  unfold ndS
  split
  · unfold dmS
    rw [show ix (nI j) = j from nI_clamp (by omega), hN, nI_1]
    exact dream_ok (by omega) (h.1 j hj).1 (h.1 j hj).2.1 (h.1 j hj).2.2
  · exact Or.inl rfl
theorem rng_ge {n : Nat} {x : Int32} (hn : n < 2 ^ 31) (h : x = -4 ∨ rng n x) : x < 0 ↔ x = -4 := by
  rcases h with e | ⟨j, hj, e⟩
  · rw [e]; decide
  · rw [e]
    exact ⟨fun q => absurd q (nI_pos (by omega)), fun q => by rw [q]; decide⟩
def F_X6_sameTwos : Fn := fun as w K => ∃ (s : InnS) (q : Pm) (t : Tm) (G N : Nat), as = [sR 0] ∧ w = modW s q t ∧ iG s = nI G ∧ G < 8 ∧ GS s ∧ iN s = nI N ∧ N < 90000 ∧ K (some (.inl (twF (fun g => ndS s (nI g)) G))) w
def ctb_X6_sameTwos : List (Nat × (List sv → List sc → (List sv → List sc → Prop) → Prop)) := [(27, cS (some 4) 2 F_X6_dreamsNext), (35, cS (some 4) 2 F_X6_dreamsNext), (40, cS (some 4) 2 F_X6_dreamsNext)]
theorem cok_X6_sameTwos : CallOK cX6_sameTwos 4 (some .int) RX6 3 ctb_X6_sameTwos := CallOK_cons (site_same (rnV (pX6_sameTwos_ok 27 _ rfl) ct_X6_dreamsNext kX6_dreamsNext lRX6_238 (by decide))) (CallOK_cons (site_same (rnV (pX6_sameTwos_ok 35 _ rfl) ct_X6_dreamsNext kX6_dreamsNext lRX6_238 (by decide))) (CallOK_cons (site_same (rnV (pX6_sameTwos_ok 40 _ rfl) ct_X6_dreamsNext kX6_dreamsNext lRX6_238 (by decide))) (CallOK_nil)))
theorem ct_X6_sameTwos : Ct yX6_sameTwos cX6_sameTwos 4 (some .int) 3 F_X6_sameTwos := by
  intro l D σ cA sz as w K h
  obtain ⟨s, q, t, G, N, rfl, rfl, hG, hG7, hGS, hN, hN2, h⟩ := h
  have hf2 : ∀ j, j < 7 → 0 < iF s (ix (nI j)) + 2 := fun j hj => by
    rw [show ix (nI j) = j from nI_clamp (by omega)]
    exact rng_f2 (hGS.1 j hj).1
  have hd : ∀ j, j < 7 → (ndS s (nI j) < 0 ↔ ndS s (nI j) = -4) := fun j hj => rng_ge (by decide) (nd_ok hGS hj hN hN2)
  rw [← tw_M] at h
  generalize hdd : (fun g => ndS s (nI g)) = d at h
  have hde : ∀ j, ndS s (nI j) = d j := fun j => by rw [← hdd]
  refine metL (pr := lkB pX6_sameTwos) (rk := 1) (ct := ctb_X6_sameTwos) (fld := lkB flX6) (cst := lkB csX6) (cstL := lkB clX6) [(4, ([true, true, true, false], fun n lv st w => ∃ g, g ≤ G ∧ n = (G - g) * 20 + 19 ∧ lv = [some (sR 0), some (sI (sumI (twM d G) g)), some (sI (nI g)), none] ∧ st = [] ∧ w = modW s q t)), (16, ([true, true, true, true], fun n lv st w => ∃ g o, g < G ∧ g < o ∧ o ≤ G ∧ n = (G - g) * 20 + (G - o) ∧ lv = [some (sR 0), some (sI (sumI (twM d G) g + sumI (fun b => if g < b then dcI d g b else 0) o)), some (sI (nI g)), some (sI (nI o))] ∧ st = [] ∧ w = modW s q t))] pX6_sameTwos_ok kX6_sameTwos.2.2.2.2.2.2.2 fdX6 cdX6 rto1 cok_X6_sameTwos (Nat.le_of_ble_eq_true rfl) ?_ ?_ l D σ cA sz
  · refine List.forall_mem_cons.mpr ⟨?_, List.forall_mem_cons.mpr ⟨?_, cut0⟩⟩
    · rintro n lv st w ⟨g, hg, rfl, rfl, rfl, rfl⟩
      conv => whnf
      refine ⟨fun hc => ?_, fun hc => ?_⟩
      · conv => whnf
        rw [hG] at hc
        obtain rfl := lp_ge hg (by omega) hc
        exact h
      · rw [hG] at hc
        have hlt := lp_lt hg (by omega) hc
        repeat' ((conv => whnf); (first | refine And.intro (by first | decide | with_reducible assumption) ?_ | with_reducible refine And.intro (fun hc => ?_) (fun hc => ?_) | with_reducible refine And.intro (fun hc => ?_) ?_ | fail))
        all_goals try (conv => whnf)
        refine ⟨(G - g) * 20 + (G - (g + 1)), by omega, g, g + 1, hlt, by omega, hlt, rfl, ?_, rfl, rfl⟩
        rw [sumI_zero (g + 1) (fun i hi => by rw [if_neg (by omega)]), Int32.add_zero, ← nI_1]
        rfl
    · rintro n lv st w ⟨g, o, hg, hgo, ho, rfl, rfl, rfl, rfl⟩
      have e1 : sumI (twM d G) g + sumI (fun b => if g < b then dcI d g b else 0) (o + 1) = sumI (twM d G) g + sumI (fun b => if g < b then dcI d g b else 0) o + dcI d g o := by
        simp only [sumI]
        rw [if_pos hgo, Int32.add_assoc]
      conv => whnf
      refine ⟨fun hc => ?_, fun hc => ?_⟩
      · conv => whnf
        rw [hG] at hc
        obtain rfl := lp_ge ho (by omega) hc
        exact ⟨(o - (g + 1)) * 20 + 19, by omega, g + 1, by omega, rfl, by rw [← nI_1]; rfl, rfl, rfl⟩
      · rw [hG] at hc
        have hlt := lp_lt ho (by omega) hc
        have fin : ∀ x, x = dcI d g o → ∃ n', n' < (G - g) * 20 + (G - o) ∧ ∃ g_1 o_1, g_1 < G ∧ g_1 < o_1 ∧ o_1 ≤ G ∧ n' = (G - g_1) * 20 + (G - o_1) ∧ [some (sR 0), some (sI (sumI (twM d G) g + sumI (fun b => if g < b then dcI d g b else 0) o + x)), some (sI (nI g)), some (sI (nI o + 1))] = [some (sR 0), some (sI (sumI (twM d G) g_1 + sumI (fun b => if g_1 < b then dcI d g_1 b else 0) o_1)), some (sI (nI g_1)), some (sI (nI o_1))] ∧ ([] : List sv) = [] ∧ modW s q t = modW s q t := fun x hx =>
          ⟨(G - g) * 20 + (G - (o + 1)), by omega, g, o + 1, hg, by omega, hlt, rfl, by rw [hx, nI_1, e1], rfl, rfl⟩
        conv => whnf
        refine ⟨s, q, t, nI g, rfl, rfl, vp_in_nI (by omega) (by decide), hf2 g (by omega), ?_⟩
        conv => whnf
        refine ⟨fun h4 => ?_, fun h4 => ?_⟩
        · have h4 : d g = -4 := (hde g) ▸ (hd g (by omega)).mp h4
          conv => whnf
          exact fin 0 (by rw [dcI, if_neg (fun q => q.1 (q.2.trans h4))])
        · have h4 : ¬ d g = -4 := fun z => h4 ((hd g (by omega)).mpr ((hde g).trans z))
          conv => whnf
          refine ⟨s, q, t, nI g, rfl, rfl, vp_in_nI (by omega) (by decide), hf2 g (by omega), ?_⟩
          conv => whnf
          refine ⟨s, q, t, nI o, rfl, rfl, vp_in_nI (by omega) (by decide), hf2 o (by omega), ?_⟩
          rw [hde, hde]
          conv => whnf
          refine ⟨fun h5 => ?_, fun h5 => ?_⟩
          · conv => whnf
            exact fin 0 (by rw [dcI, if_neg (fun q => h5 q.2.symm)])
          · conv => whnf
            exact fin 1 (by rw [dcI, if_pos ⟨fun z => h4 (h5.trans z), h5.symm⟩])
  · skip
    repeat' ((conv => whnf); (first | refine And.intro (by first | decide | with_reducible assumption) ?_ | with_reducible refine And.intro (fun hc => ?_) (fun hc => ?_) | with_reducible refine And.intro (fun hc => ?_) ?_ | fail))
    all_goals try (conv => whnf)
    exact ⟨(G - 0) * 20 + 19, 0, Nat.zero_le _, rfl, rfl, rfl, rfl⟩
noncomputable def saF (s : InnS) (what : Int32) : Int32 := if what = 0 then twF (fun g => ndS s (nI g)) (ix (iG s)) else if what = 1 then (wlF (iT s) (iH s) (ix (iG s))).1 else if what = 2 then flF (iP s) 9 else if what = 3 then bx_sum (iP s) 10 else if what = 4 then beF (iP s) 10 else if what = 5 then boF (iT s) (iW s) (ix (iG s)) else if what = 6 then boF (iT s) (iL s) (ix (iG s)) else -1
theorem out66 {k : Int32} (h : k.toInt < 0 ∨ 6 < k.toInt) : k ≠ 0 ∧ k ≠ 1 ∧ k ≠ 2 ∧ k ≠ 3 ∧ k ≠ 4 ∧ k ≠ 5 ∧ k ≠ 6 := by
  refine ⟨?_, ?_, ?_, ?_, ?_, ?_, ?_⟩ <;> (rintro rfl; revert h; decide)
theorem sa_0 (s : InnS) : saF s 0 = twF (fun g => ndS s (nI g)) (ix (iG s)) ∧ saF s 1 = (wlF (iT s) (iH s) (ix (iG s))).1 ∧ saF s 2 = flF (iP s) 9 ∧ saF s 3 = bx_sum (iP s) 10 ∧ saF s 4 = beF (iP s) 10 ∧ saF s 5 = boF (iT s) (iW s) (ix (iG s)) ∧ saF s 6 = boF (iT s) (iL s) (ix (iG s)) := by
  refine ⟨?_, ?_, ?_, ?_, ?_, ?_, ?_⟩ <;> (unfold saF; simp (decide := true) only [if_true, if_false])
theorem sa_out {s : InnS} {what : Int32} (h : what.toInt < 0 ∨ 6 < what.toInt) : saF s what = -1 := by
  obtain ⟨a0, a1, a2, a3, a4, a5, a6⟩ := out66 h
  unfold saF
  rw [if_neg a0, if_neg a1, if_neg a2, if_neg a3, if_neg a4, if_neg a5, if_neg a6]
def F_X6_same : Fn := fun as w K => ∃ (s : InnS) (q : Pm) (t : Tm) (N : Nat) (what : Int32), as = [sR 0, sI what] ∧ w = modW s q t ∧ TZ t ∧ IV s N ∧ ∀ a b t', TZ t' → K (some (.inl (saF s what))) (modW (snS s a b) q t')
def ctb_X6_same : List (Nat × (List sv → List sc → (List sv → List sc → Prop) → Prop)) := [(49, cS (some 4) 1 F_X6_sameTwos), (54, cS (some 4) 1 F_X6_wellest), (59, cS (some 4) 1 F_X6_fullestPlate), (64, cS (some 4) 1 F_X6_allPlates), (69, cS (some 4) 1 F_X6_emptyPlates), (75, cS (some 4) 2 F_X6_platesOf1), (81, cS (some 4) 2 F_X6_platesOf0)]
theorem cok_X6_same : CallOK cX6_same 2 (some .int) RX6 4 ctb_X6_same := CallOK_cons (site_same (rnV (pX6_same_ok 49 _ rfl) ct_X6_sameTwos kX6_sameTwos lRX6_255 (by decide))) (CallOK_cons (site_same (rnV (pX6_same_ok 54 _ rfl) ct_X6_wellest kX6_wellest lRX6_258 (by decide))) (CallOK_cons (site_same (rnV (pX6_same_ok 59 _ rfl) ct_X6_fullestPlate kX6_fullestPlate lRX6_261 (by decide))) (CallOK_cons (site_same (rnV (pX6_same_ok 64 _ rfl) ct_X6_allPlates kX6_allPlates lRX6_264 (by decide))) (CallOK_cons (site_same (rnV (pX6_same_ok 69 _ rfl) ct_X6_emptyPlates kX6_emptyPlates lRX6_267 (by decide))) (CallOK_cons (site_same (rnV (pX6_same_ok 75 _ rfl) ct_X6_platesOf1 kX6_platesOf lRX6_270 (by decide))) (CallOK_cons (site_same (rnV (pX6_same_ok 81 _ rfl) ct_X6_platesOf0 kX6_platesOf lRX6_270 (by decide))) (CallOK_nil)))))))
theorem ct_X6_same : Ct yX6_same cX6_same 2 (some .int) 4 F_X6_same := by
  intro l D σ cA sz as w K h
  obtain ⟨s, q, t, N, what, rfl, rfl, hT, ⟨hZ, hG, hN, hN9, hB⟩, h⟩ := h
  have h0 := h (iSn s) (iLn s) (tq0 t) hT
  clear h
  obtain ⟨G, hG7, hGG⟩ := hG.2.1
  have eG : ix (iG s) = G := by rw [hGG]; exact nI_clamp (by omega)
  have hs := sa_0 s
  rw [eG] at hs
  refine metL (pr := lkB pX6_same) (rk := 1) (ct := ctb_X6_same) (fld := lkB flX6) (cst := lkB csX6) (cstL := lkB clX6) [] pX6_same_ok kX6_same.2.2.2.2.2.2.2 fdX6 cdX6 rto1 cok_X6_same (Nat.le_of_ble_eq_true rfl) cut0 ?_ l D σ cA sz
  conv => whnf
  refine ⟨fun hc => ?_, fun e => ?_, fun e => ?_, fun e => ?_, fun e => ?_, fun e => ?_, fun e => ?_, fun e => ?_, trivial⟩
  · conv => whnf
    exact kI h0 (sa_out hc)
  · obtain rfl := e
    conv => whnf
    refine ⟨s, q, tq0 t, G, N, rfl, rfl, hGG, hG7, hG, hN, by omega, ?_⟩
    conv => whnf
    exact kI h0 hs.1
  · obtain rfl := e
    conv => whnf
    refine ⟨s, q, tq0 t, G, rfl, rfl, hGG, hG7, hG, ?_⟩
    conv => whnf
    exact kI h0 hs.2.1
  · obtain rfl := e
    conv => whnf
    refine ⟨s, q, tq0 t, rfl, rfl, ?_⟩
    conv => whnf
    exact kI h0 hs.2.2.1
  · obtain rfl := e
    conv => whnf
    refine ⟨s, q, tq0 t, rfl, rfl, ?_⟩
    conv => whnf
    exact kI h0 hs.2.2.2.1
  · obtain rfl := e
    conv => whnf
    refine ⟨s, q, tq0 t, rfl, rfl, ?_⟩
    conv => whnf
    exact kI h0 hs.2.2.2.2.1
  · obtain rfl := e
    conv => whnf
    refine ⟨s, q, tq0 t, G, rfl, rfl, hGG, hG7, ?_⟩
    conv => whnf
    exact kI h0 hs.2.2.2.2.2.1
  · obtain rfl := e
    conv => whnf
    refine ⟨s, q, tq0 t, G, rfl, rfl, hGG, hG7, ?_⟩
    conv => whnf
    exact kI h0 hs.2.2.2.2.2.2
def F_X5_same : Fn := fun as w K => ∃ (r1 r2 r3 r4 r5 : sv) (hi : Int32) (s : InnS) (N : Nat) (what : Int32), as = [sR 0, sI what] ∧ w = x1W r1 r2 r3 r4 r5 hi s ∧ IV s N ∧ K (some (.inl (saF s what))) w
def ctb_X5_same : List (Nat × (List sv → List sc → (List sv → List sc → Prop) → Prop)) := [(48, cG [1, 2, 3, 4, 5, 6, 7] (some 0) 1 F_X0_twosOfOneDream), (56, cG [1, 2, 3, 4, 5, 6, 7] (some 0) 1 F_X0_wellest), (64, cG [1, 2, 3, 4, 5, 6, 7] (some 0) 1 F_X0_fullest), (72, cG [1, 2, 3, 4, 5, 6, 7] (some 0) 1 F_X0_platesInAll), (80, cG [1, 2, 3, 4, 5, 6, 7] (some 0) 1 F_X0_emptyPlates), (95, cG [1, 2, 3, 4, 5, 6, 7] (some 0) 2 F_X0_platesOf3), (110, cG [1, 2, 3, 4, 5, 6, 7] (some 0) 2 F_X0_platesOf4)]
theorem cok_X5_same : CallOK cX5_same 2 (some .int) RX5 6 ctb_X5_same := CallOK_cons (site_gen [1, 2, 3, 4, 5, 6, 7] (by decide) (rnV (pX5_same_ok 48 _ rfl) ct_X0_twosOfOneDream kX0_twosOfOneDream lRX5_193 (by decide))) (CallOK_cons (site_gen [1, 2, 3, 4, 5, 6, 7] (by decide) (rnV (pX5_same_ok 56 _ rfl) ct_X0_wellest kX0_wellest lRX5_196 (by decide))) (CallOK_cons (site_gen [1, 2, 3, 4, 5, 6, 7] (by decide) (rnV (pX5_same_ok 64 _ rfl) ct_X0_fullest kX0_fullest lRX5_199 (by decide))) (CallOK_cons (site_gen [1, 2, 3, 4, 5, 6, 7] (by decide) (rnV (pX5_same_ok 72 _ rfl) ct_X0_platesInAll kX0_platesInAll lRX5_202 (by decide))) (CallOK_cons (site_gen [1, 2, 3, 4, 5, 6, 7] (by decide) (rnV (pX5_same_ok 80 _ rfl) ct_X0_emptyPlates kX0_emptyPlates lRX5_205 (by decide))) (CallOK_cons (site_gen [1, 2, 3, 4, 5, 6, 7] (by decide) (rnV (pX5_same_ok 95 _ rfl) ct_X0_platesOf3 kX0_platesOf lRX5_208 (by decide))) (CallOK_cons (site_gen [1, 2, 3, 4, 5, 6, 7] (by decide) (rnV (pX5_same_ok 110 _ rfl) ct_X0_platesOf4 kX0_platesOf lRX5_208 (by decide))) (CallOK_nil)))))))
theorem ct_X5_same : Ct yX5_same cX5_same 2 (some .int) 6 F_X5_same := by
  intro l D σ cA sz as w K h
  obtain ⟨r1, r2, r3, r4, r5, hi, s, N, what, rfl, rfl, ⟨hZ, hG, hN, hN9, hB⟩, h0⟩ := h
  obtain ⟨G, hG7, hGG⟩ := hG.2.1
  have eG : ix (iG s) = G := by rw [hGG]; exact nI_clamp (by omega)
  have hs := sa_0 s
  rw [eG] at hs
  refine metL (pr := lkB pX5_same) (rk := 1) (ct := ctb_X5_same) (fld := lkB flX5) (cst := lkB csX5) (cstL := lkB clX5) [] pX5_same_ok kX5_same.2.2.2.2.2.2.2 fdX5 cdX5 rto1 cok_X5_same (Nat.le_of_ble_eq_true rfl) cut0 ?_ l D σ cA sz
  conv => whnf
  refine ⟨fun hc => ?_, fun e => ?_, fun e => ?_, fun e => ?_, fun e => ?_, fun e => ?_, fun e => ?_, fun e => ?_, trivial⟩
  · conv => whnf
    exact kI h0 (sa_out hc)
  · obtain rfl := e
    conv => whnf
    refine ⟨s, G, rfl, rfl, hGG, hG7, hG, ?_⟩
    conv => whnf
    exact kI h0 hs.1
  · obtain rfl := e
    conv => whnf
    refine ⟨s, G, rfl, rfl, hGG, hG7, ?_⟩
    conv => whnf
    exact kI h0 hs.2.1
  · obtain rfl := e
    conv => whnf
    refine ⟨s, rfl, rfl, ?_⟩
    conv => whnf
    exact kI h0 hs.2.2.1
  · obtain rfl := e
    conv => whnf
    refine ⟨s, rfl, rfl, ?_⟩
    conv => whnf
    exact kI h0 hs.2.2.2.1
  · obtain rfl := e
    conv => whnf
    refine ⟨s, rfl, rfl, ?_⟩
    conv => whnf
    exact kI h0 hs.2.2.2.2.1
  · obtain rfl := e
    conv => whnf
    refine ⟨s, G, rfl, rfl, hGG, hG7, ?_⟩
    conv => whnf
    exact kI h0 hs.2.2.2.2.2.1
  · obtain rfl := e
    conv => whnf
    refine ⟨s, G, rfl, rfl, hGG, hG7, ?_⟩
    conv => whnf
    exact kI h0 hs.2.2.2.2.2.2
end
section
/-! ===== Int32 by its bits: bt x i ===== -/
def bt (x : Int32) (i : Nat) : Bool := x.toBitVec.getLsbD i
theorem b_ext {x y : Int32} (h : ∀ i, i < 32 → bt x i = bt y i) : x = y := Int32.toBitVec_inj.mp (BitVec.eq_of_getLsbD_eq (fun i hi => h i hi))
theorem b_or (x y : Int32) (i : Nat) : bt (x ||| y) i = (bt x i || bt y i) := by unfold bt; rw [Int32.toBitVec_or, BitVec.getLsbD_or]
theorem b_and (x y : Int32) (i : Nat) : bt (x &&& y) i = (bt x i && bt y i) := by unfold bt; rw [Int32.toBitVec_and, BitVec.getLsbD_and]
theorem b_xor (x y : Int32) (i : Nat) : bt (x ^^^ y) i = (bt x i ^^ bt y i) := by unfold bt; rw [Int32.toBitVec_xor, BitVec.getLsbD_xor]
theorem b_big {x : Int32} {i : Nat} (h : 32 ≤ i) : bt x i = false := BitVec.getLsbD_of_ge _ _ h
theorem b_m1 : ∀ i, i < 32 → bt (-1) i = true := by decide +kernel
theorem b_0 (i : Nat) : bt 0 i = false := BitVec.getLsbD_zero
theorem s_l : ∀ n, n < 32 → ((nI n &&& 31).toBitVec.smod 32).toNat = n := by decide +kernel
theorem s_u : ∀ n, n < 32 → (((nI n).toUInt32 &&& Int32.toUInt32 31).toBitVec % 32).toNat = n := by decide +kernel
theorem b_shl (n : Nat) (hn : n < 32) (x : Int32) {i : Nat} (hi : i < 32) : bt (x <<< (nI n &&& 31)) i = (decide (n ≤ i) && bt x (i - n)) := by
  unfold bt
  rw [Int32.toBitVec_shiftLeft]
  show (x.toBitVec <<< ((nI n &&& 31).toBitVec.smod 32).toNat).getLsbD i = _
  rw [s_l n hn, BitVec.getLsbD_shiftLeft]
  rcases Nat.lt_or_ge i n with h | h
  · simp [h, Nat.not_le.mpr h]
  · simp [hi, h, Nat.not_lt.mpr h]
theorem b_sshr (n : Nat) (hn : n < 32) (x : Int32) {i : Nat} (hi : i < 32) : bt (x >>> (nI n &&& 31)) i = if n + i < 32 then bt x (n + i) else bt x 31 := by
  unfold bt
  rw [Int32.toBitVec_shiftRight]
  show (x.toBitVec.sshiftRight ((nI n &&& 31).toBitVec.smod 32).toNat).getLsbD i = _
  rw [s_l n hn, BitVec.getLsbD_sshiftRight, BitVec.msb_eq_getLsbD_last]
  simp [hi]
end
section
/-! ===== leaves ===== -/
theorem tb_bt (x : Int32) {i : Nat} (hi : i < 32) : tb x (nI i) ↔ bt x i = true := by
  have h1 : bt (jshr x (nI i)) 0 = bt x i := by
    unfold jshr
    rw [b_sshr i hi x (by decide), if_pos (by omega), Nat.add_zero]
  have h2 : bt (jshr x (nI i) &&& 1) 0 = bt x i := by
    rw [b_and, h1, show bt 1 0 = true by decide, Bool.and_true]
  unfold tb
  rcases and1_01 (jshr x (nI i)) with e | e
  · rw [e, b_0] at h2
    rw [e, ← h2]
    simp
  · rw [e] at h2
    rw [e, ← h2]
    decide
theorem bt_one {j i : Nat} (hj : j < 32) (hi : i < 32) : bt (jshl 1 (nI j)) i = decide (j = i) := by
  unfold jshl
  rw [b_shl j hj 1 hi]
  by_cases h : j ≤ i
  · by_cases e : j = i
    · rw [e]; simp; decide
    · have : bt 1 (i - j) = false := (by decide +kernel : ∀ n, n < 32 → n = 0 ∨ bt 1 n = false) (i - j) (by omega) |>.resolve_left (by omega)
      simp [h, e, this]
  · have e : ¬ j = i := by omega
    simp [h, e]
theorem least_ex {P : Nat → Prop} : ∀ {n : Nat}, P n → ∃ m, m ≤ n ∧ P m ∧ ∀ i, i < m → ¬ P i := by
  intro n
  induction n using Nat.strongRecOn with
  | ind n ih =>
    intro hp
    by_cases h : ∃ i, i < n ∧ P i
    · obtain ⟨i, hi, hpi⟩ := h
      obtain ⟨m, h1, h2, h3⟩ := ih i hi hpi
      exact ⟨m, by omega, h2, h3⟩
    · exact ⟨n, Nat.le_refl _, hp, fun i hi hpi => h ⟨i, hi, hpi⟩⟩
theorem bits_ex {x : Int32} (h : ¬ x = 0) : ∃ i, i < 32 ∧ bt x i = true ∧ ∀ j, j < i → bt x j = false := by
  by_cases hx : ∃ i, i < 32 ∧ bt x i = true
  · obtain ⟨i, hi, hb⟩ := hx
    obtain ⟨m, h1, h2, h3⟩ := least_ex (P := fun i => bt x i = true) hb
    exact ⟨m, by omega, h2, fun j hj => by simpa using h3 j hj⟩
  · refine absurd (b_ext (fun i hi => ?_)) h
    rw [b_0]
    cases hb : bt x i with
    | false => rfl
    | true => exact absurd ⟨i, hi, hb⟩ hx
/-- only the guests are there -/
def TG (s : InnS) : Prop := ∀ i, ix (iG s) ≤ i → bt (iT s) i = false
def F_X5_leastOf : Fn := fun as w K => ∃ (x : Int32) (i : Nat), as = [sI x] ∧ i < 32 ∧ bt x i = true ∧ (∀ j, j < i → bt x j = false) ∧ K (some (.inl (nI i))) w
def ctb_X5_leastOf : List (Nat × (List sv → List sc → (List sv → List sc → Prop) → Prop)) := []
theorem cok_X5_leastOf : CallOK cX5_leastOf 2 (some .int) RX5 1 ctb_X5_leastOf := CallOK_nil
theorem ct_X5_leastOf : Ct yX5_leastOf cX5_leastOf 2 (some .int) 1 F_X5_leastOf := by
  intro l D σ cA sz as w K h
  obtain ⟨x, i, rfl, hi, hb, hl, h⟩ := h
  refine metL (pr := lkB pX5_leastOf) (rk := 1) (ct := ctb_X5_leastOf) (fld := lkB flX5) (cst := lkB csX5) (cstL := lkB clX5) [(2, ([true, true], fun n lv st w' => ∃ j, j ≤ i ∧ n = i - j ∧ lv = [some (sI x), some (sI (nI j))] ∧ st = [] ∧ w' = w))] pX5_leastOf_ok kX5_leastOf.2.2.2.2.2 fdX5 cdX5 rto1 cok_X5_leastOf (Nat.le_of_ble_eq_true rfl) ?_ ?_ l D σ cA sz
  · refine List.forall_mem_cons.mpr ⟨?_, cut0⟩
    rintro n lv st w' ⟨j, hj, rfl, rfl, rfl, rfl⟩
    conv => whnf
    refine ⟨fun hc => ?_, fun hc => ?_⟩
    · exact absurd (show nI 32 ≤ nI j from hc) (nI_ge (by omega) (by omega))
    conv => whnf
    refine ⟨fun hc => ?_, fun hc => ?_⟩
    · have hne : j < i := by
        rcases Nat.lt_or_ge j i with q | q
        · exact q
        · have : j = i := by omega
          subst this
          exact absurd hc ((tb_bt x hi).mpr hb)
      conv => whnf
      exact ⟨i - (j + 1), by omega, j + 1, hne, rfl, by rw [← nI_1]; rfl, rfl, rfl⟩
    · have hji : j = i := by
        rcases Nat.lt_or_ge j i with q | q
        · have := (tb_bt x (by omega)).mp (show tb x (nI j) from hc)
          rw [hl j q] at this; cases this
        · omega
      conv => whnf
      exact kI h (by rw [hji])
  · skip
    repeat' ((conv => whnf); (first | refine And.intro (by first | decide | with_reducible assumption) ?_ | with_reducible refine And.intro (fun hc => ?_) (fun hc => ?_) | with_reducible refine And.intro (fun hc => ?_) ?_ | fail))
    all_goals try (conv => whnf)
    exact ⟨i, 0, Nat.zero_le _, rfl, rfl, rfl, rfl⟩
/-- when one goes: 61 is never -/
noncomputable def gone (s : InnS) (g : Int32) : Nat := fst (fun n => ¬ tb (iT (nightsS n s)) g) 61
noncomputable def lvN (s : InnS) (o : Nat) : Nat := @ite _ (tb (iT s) (nI o)) (Classical.propDecidable _) (gone s (nI o)) 61
noncomputable def lvF (s : InnS) : Nat → Int32 × Nat
  | 0 => (-4, 61)
  | o + 1 => if lvN s o < (lvF s o).2 then (nI o, lvN s o) else lvF s o
noncomputable def lvR (s : InnS) (g : Int32) : Int32 := if g = -1 then (lvF s (ix (iG s))).1 else if 0 ≤ g ∧ g ≤ iG s - 1 then fsA (fun n => ¬ tb (iT (nightsS n s)) g) else -1
theorem fst_le (P : Nat → Prop) : ∀ m, fst P m ≤ m
  | 0 => Nat.le_refl _
  | m + 1 => by
    have := fst_le P m
    unfold fst
    split
    · omega
    · split <;> omega
theorem lvN_le (s : InnS) (o : Nat) : lvN s o ≤ 61 := by
  unfold lvN
  split
  · exact fst_le _ _
  · exact Nat.le_refl _
theorem lv_inv (s : InnS) : ∀ j, (lvF s j).2 ≤ 61 ∧ (∀ o, o < j → (lvF s j).2 ≤ lvN s o) ∧ (((lvF s j).2 = 61 ∧ (lvF s j).1 = -4) ∨ ∃ o, o < j ∧ (lvF s j).1 = nI o ∧ lvN s o = (lvF s j).2 ∧ (lvF s j).2 < 61 ∧ ∀ o', o' < o → (lvF s j).2 < lvN s o')
  | 0 => ⟨Nat.le_refl _, fun o h => absurd h (Nat.not_lt_zero _), Or.inl ⟨rfl, rfl⟩⟩
  | j + 1 => by
    obtain ⟨h1, h2, h3⟩ := lv_inv s j
    unfold lvF
    by_cases h : lvN s j < (lvF s j).2
    · rw [if_pos h]
      refine ⟨by show lvN s j ≤ 61; omega, fun o ho => ?_, Or.inr ⟨j, by omega, rfl, rfl, by show lvN s j < 61; omega, fun o' ho' => Nat.lt_of_lt_of_le h (h2 o' ho')⟩⟩
      show lvN s j ≤ lvN s o
      rcases Nat.lt_or_ge o j with q | q
      · have := h2 o q; omega
      · have : o = j := by omega
        rw [this]; exact Nat.le_refl _
    · rw [if_neg h]
      refine ⟨h1, fun o ho => ?_, ?_⟩
      · rcases Nat.lt_or_ge o j with q | q
        · exact h2 o q
        · have : o = j := by omega
          rw [this]; omega
      · rcases h3 with h3 | ⟨o, ho, h3⟩
        · exact Or.inl h3
        · exact Or.inr ⟨o, by omega, h3⟩
/-- the bits of those who have gone by n -/
noncomputable def lfB (s : InnS) (n : Nat) : Int32 := iT s &&& (iT (nightsS n s) ^^^ (-1))
theorem lf_bt (s : InnS) (n : Nat) {i : Nat} (hi : i < 32) : bt (lfB s n) i = (bt (iT s) i && !bt (iT (nightsS n s)) i) := by
  unfold lfB
  rw [b_and, b_xor, b_m1 i hi, Bool.xor_true]
theorem lv_none {s : InnS} {G : Nat} (hG : G < 8) (h : ∀ n, n < 60 → lfB s (n + 1) = 0) : (lvF s G).1 = -4 := by
  have hN : ∀ o, o < G → lvN s o = 61 := fun o ho => by
    unfold lvN
    split
    · rename_i hb
      have hb' := (tb_bt _ (by omega)).mp hb
      refine fst_none (fun n hn => fun q => ?_)
      cases n with
      | zero => exact q hb
      | succ n =>
        have e := lf_bt s (n + 1) (i := o) (by omega)
        rw [h n (by omega), b_0, hb'] at e
        refine q ((tb_bt _ (by omega)).mpr ?_)
        simpa using e.symm
    · rfl
  obtain ⟨h1, h2, h3⟩ := lv_inv s G
  rcases h3 with h3 | ⟨o, ho, -, h4, h5, -⟩
  · exact h3.2
  · rw [hN o ho] at h4; omega
theorem lv_some {s : InnS} {G n i : Nat} (hG : G < 8) (hT : ∀ i, G ≤ i → bt (iT s) i = false) (hn : n < 60) (h : ∀ k, k < n → lfB s (k + 1) = 0) (hi : i < 32) (hb : bt (lfB s (n + 1)) i = true) (hl : ∀ j, j < i → bt (lfB s (n + 1)) j = false) : (lvF s G).1 = nI i := by
  have hb2 := hb
  rw [lf_bt s (n + 1) hi, Bool.and_eq_true, Bool.not_eq_true'] at hb2
  have hiG : i < G := by
    rcases Nat.lt_or_ge i G with q | q
    · exact q
    · rw [hT i q] at hb2; cases hb2.1
  have stay : ∀ o k, o < 32 → bt (iT s) o = true → k ≤ n → tb (iT (nightsS k s)) (nI o) := fun o k ho hbo hk => by
    cases k with
    | zero => exact (tb_bt _ ho).mpr hbo
    | succ k =>
      have e := lf_bt s (k + 1) (i := o) ho
      rw [h k (by omega), b_0, hbo] at e
      refine (tb_bt _ ho).mpr ?_
      simpa using e.symm
  have lo : ∀ o, o < G → n + 1 ≤ lvN s o := fun o ho => by
    unfold lvN
    split
    · rename_i hbo
      have hbo := (tb_bt _ (by omega)).mp hbo
      refine Nat.not_lt.mp (fun q => ?_)
      have hp : ¬ tb (iT (nightsS (gone s (nI o)) s)) (nI o) := by
        obtain ⟨j, hj⟩ : ∃ j, j < 61 ∧ ¬ tb (iT (nightsS j s)) (nI o) := Classical.byContradiction (fun z => by
          have := fst_none (P := fun n => ¬ tb (iT (nightsS n s)) (nI o)) (m := 61) (fun i hi hp => z ⟨i, hi, hp⟩)
          unfold gone at q
          omega)
        obtain ⟨m, hm1, hm2, hm3⟩ := least_ex (P := fun n => ¬ tb (iT (nightsS n s)) (nI o)) hj.2
        have := fst_some hm2 hm3 (m := 61) (by omega)
        unfold gone
        rw [this]; exact hm2
      exact hp (stay o _ (by omega) hbo (by omega))
    · omega
  have ei : lvN s i = n + 1 := by
    unfold lvN
    rw [if_pos ((tb_bt _ hi).mpr hb2.1)]
    refine fst_some ?_ (fun k hk => fun z => z (stay i k hi hb2.1 (by omega))) (by omega)
    intro z
    have := (tb_bt _ hi).mp z
    rw [hb2.2] at this; cases this
  obtain ⟨h1, h2, h3⟩ := lv_inv s G
  have hm := h2 i hiG
  rw [ei] at hm
  rcases h3 with h3 | ⟨o, ho, h4, h5, h6, h7⟩
  · omega
  · have ho1 := lo o ho
    rw [h4]
    have hoi : ¬ i < o := fun q => by have := h7 i q; omega
    have hio : ¬ o < i := fun q => by
      have hbo := hl o q
      rw [lf_bt s (n + 1) (by omega)] at hbo
      have hto : tb (iT s) (nI o) := Classical.byContradiction (fun z => by
        have : lvN s o = 61 := by unfold lvN; rw [if_neg z]
        omega)
      have hto' := (tb_bt _ (by omega)).mp hto
      rw [hto', Bool.true_and, Bool.not_eq_false'] at hbo
      have hgo : gone s (nI o) = n + 1 := by
        have : lvN s o = gone s (nI o) := by unfold lvN; rw [if_pos hto]
        omega
      obtain ⟨j, hj⟩ : ∃ j, j < 61 ∧ ¬ tb (iT (nightsS j s)) (nI o) := Classical.byContradiction (fun z => by
        have := fst_none (P := fun n => ¬ tb (iT (nightsS n s)) (nI o)) (m := 61) (fun i hi hp => z ⟨i, hi, hp⟩)
        unfold gone at hgo
        omega)
      obtain ⟨m, hm1, hm2, hm3⟩ := least_ex (P := fun n => ¬ tb (iT (nightsS n s)) (nI o)) hj.2
      have e := fst_some hm2 hm3 (m := 61) (by omega)
      have hmn : m = n + 1 := by unfold gone at hgo; omega
      subst hmn
      exact hm2 ((tb_bt _ (by omega)).mpr hbo)
    have : o = i := by omega
    rw [this]
def F_X5_firstToLeave : Fn := fun as w K => ∃ (r2 r3 r4 r5 : sv) (hi : Int32) (s m : InnS) (N : Nat), as = [sR 0] ∧ w = x2W r2 r3 r4 r5 hi s m ∧ IV s N ∧ TG s ∧ ZB m ∧ ∀ m', ZB m' → K (some (.inl (lvF s (ix (iG s))).1)) (x2W r2 r3 r4 r5 hi s m')
def ctb_X5_firstToLeave : List (Nat × (List sv → List sc → (List sv → List sc → Prop) → Prop)) := [(1, cS (some 3) 1 F_X5_inMind), (15, cG [8, 9, 10, 11, 12, 13, 14] (some 0) 2 F_X0_pass), (38, cS none 1 F_X5_leastOf)]
theorem cok_X5_firstToLeave : CallOK cX5_firstToLeave 4 (some .int) RX5 6 ctb_X5_firstToLeave := CallOK_cons (site_same (rnV (pX5_firstToLeave_ok 1 _ rfl) ct_X5_inMind kX5_inMind lRX5_58 (by decide))) (CallOK_cons (site_gen [8, 9, 10, 11, 12, 13, 14] (by decide) (rnV (pX5_firstToLeave_ok 15 _ rfl) ct_X0_pass kX0_pass lRX5_136 (by decide))) (CallOK_cons (site_same (rnS (pX5_firstToLeave_ok 38 _ rfl) ct_X5_leastOf kX5_leastOf lRX5_161 (by decide))) (CallOK_nil)))
theorem ct_X5_firstToLeave : Ct yX5_firstToLeave cX5_firstToLeave 4 (some .int) 6 F_X5_firstToLeave := by
  intro l D σ cA sz as w K h
  obtain ⟨r2, r3, r4, r5, hi, s, m, N, rfl, rfl, ⟨hZ, hG, hN, hN9, hB⟩, hTG, hM, h⟩ := h
  obtain ⟨G, hG7, hGG⟩ := hG.2.1
  have eG : ix (iG s) = G := by rw [hGG]; exact nI_clamp (by omega)
  unfold TG at hTG
  rw [eG] at h hTG
  refine metL (pr := lkB pX5_firstToLeave) (rk := 1) (ct := ctb_X5_firstToLeave) (fld := lkB flX5) (cst := lkB csX5) (cstL := lkB clX5) [(7, ([true, true, true, false], fun n lv st w => ∃ j, j ≤ 60 ∧ n = 60 - j ∧ (∀ k, k < j → lfB s (k + 1) = 0) ∧ lv = [some (sR 0), some (sR 8), some (sI (nI j)), none] ∧ st = [] ∧ w = x2W r2 r3 r4 r5 hi s (nightsS j s)))] pX5_firstToLeave_ok kX5_firstToLeave.2.2.2.2.2.2.2 fdX5 cdX5 rto1 cok_X5_firstToLeave (Nat.le_of_ble_eq_true rfl) ?_ ?_ l D σ cA sz
  · refine List.forall_mem_cons.mpr ⟨?_, cut0⟩
    rintro n lv st w ⟨j, hj, rfl, hall, rfl, rfl, rfl⟩
    have hz := ZB_nights hZ hG hN j (by omega)
    have hz1 := ZB_nights hZ hG hN (j + 1) (by omega)
    obtain ⟨g1, g2⟩ := nights_keep hG hN j (by omega)
    have hsuc : nightsS 1 (nightsS j s) = nightsS (j + 1) s := rfl
    conv => whnf
    refine ⟨fun hc => ?_, fun hc => ?_⟩
    · conv => whnf
      obtain rfl := lp_ge hj (by decide) hc
      exact kI (h _ hz) (lv_none hG7 hall)
    · have hlt := lp_lt hj (by decide) hc
      conv => whnf
      refine ⟨nightsS j s, 1, N + j, rfl, rfl, g1, g2, by omega, ?_⟩
      rw [hsuc]
      conv => whnf
      refine ⟨fun h0 => ?_, fun h0 => ?_⟩
      · conv => whnf
        exact ⟨60 - (j + 1), by omega, j + 1, hlt, rfl, lt_s hall h0, by rw [← nI_1]; rfl, rfl, rfl⟩
      · obtain ⟨i, hi32, hb, hl⟩ := bits_ex h0
        conv => whnf
        refine ⟨_, i, rfl, hi32, hb, hl, ?_⟩
        conv => whnf
        exact kI (h _ hz1) (lv_some hG7 hTG hlt hall hi32 hb hl)
  · conv => whnf
    refine ⟨r2, r3, r4, r5, hi, s, m, rfl, rfl, hZ, hM, ?_⟩
    conv => whnf
    exact ⟨60, 0, by decide, rfl, lt_0, rfl, rfl, rfl⟩
def F_X5_leaves : Fn := fun as w K => ∃ (r2 r3 r4 r5 : sv) (hi : Int32) (s m : InnS) (N : Nat) (g : Int32), as = [sR 0, sI g] ∧ w = x2W r2 r3 r4 r5 hi s m ∧ IV s N ∧ TG s ∧ ZB m ∧ ∀ m', ZB m' → K (some (.inl (lvR s g))) (x2W r2 r3 r4 r5 hi s m')
def ctb_X5_leaves : List (Nat × (List sv → List sc → (List sv → List sc → Prop) → Prop)) := [(6, cS (some 3) 1 F_X5_firstToLeave), (15, cG [1, 2, 3, 4, 5, 6, 7] (some 0) 2 F_X0_knows), (24, cS (some 3) 1 F_X5_inMind), (38, cG [8, 9, 10, 11, 12, 13, 14] (some 0) 2 F_X0_isThere), (48, cG [8, 9, 10, 11, 12, 13, 14] (some 0) 2 F_X0_pass)]
theorem cok_X5_leaves : CallOK cX5_leaves 4 (some .int) RX5 7 ctb_X5_leaves := CallOK_cons (site_same (rnV (pX5_leaves_ok 6 _ rfl) ct_X5_firstToLeave kX5_firstToLeave lRX5_157 (by decide))) (CallOK_cons (site_gen [1, 2, 3, 4, 5, 6, 7] (by decide) (rnV (pX5_leaves_ok 15 _ rfl) ct_X0_knows kX0_knows lRX5_80 (by decide))) (CallOK_cons (site_same (rnV (pX5_leaves_ok 24 _ rfl) ct_X5_inMind kX5_inMind lRX5_58 (by decide))) (CallOK_cons (site_gen [8, 9, 10, 11, 12, 13, 14] (by decide) (rnV (pX5_leaves_ok 38 _ rfl) ct_X0_isThere kX0_isThere lRX5_98 (by decide))) (CallOK_cons (site_gen [8, 9, 10, 11, 12, 13, 14] (by decide) (rnV (pX5_leaves_ok 48 _ rfl) ct_X0_pass kX0_pass lRX5_136 (by decide))) (CallOK_nil)))))
theorem ct_X5_leaves : Ct yX5_leaves cX5_leaves 4 (some .int) 7 F_X5_leaves := by
  intro l D σ cA sz as w K h
  obtain ⟨r2, r3, r4, r5, hi, s, m, N, g, rfl, rfl, hIV, hTG, hM, h⟩ := h
  have hIV' := hIV
  obtain ⟨hZ, hG, hN, hN9, hB⟩ := hIV'
  have h0 := h m hM
  refine metL (pr := lkB pX5_leaves) (rk := 1) (ct := ctb_X5_leaves) (fld := lkB flX5) (cst := lkB csX5) (cstL := lkB clX5) [(30, ([true, true, true, true], fun n lv st w => ∃ j, j ≤ 61 ∧ n = 61 - j ∧ lvR s g = fsA (fun n => ¬ tb (iT (nightsS n s)) g) ∧ (∀ i, i < j → ¬ ¬ tb (iT (nightsS i s)) g) ∧ lv = [some (sR 0), some (sI g), some (sR 8), some (sI (nI j))] ∧ st = [] ∧ w = x2W r2 r3 r4 r5 hi s (nightsS j s)))] pX5_leaves_ok kX5_leaves.2.2.2.2.2.2.2 fdX5 cdX5 rto1 cok_X5_leaves (Nat.le_of_ble_eq_true rfl) ?_ ?_ l D σ cA sz
  · refine List.forall_mem_cons.mpr ⟨?_, cut0⟩
    rintro n lv st w ⟨j, hj, rfl, hr, hall, rfl, rfl, rfl⟩
    have hz := ZB_nights hZ hG hN j (by omega)
    obtain ⟨g1, g2⟩ := nights_keep hG hN j (by omega)
    conv => whnf
    refine ⟨fun hc => ?_, fun hc => ?_⟩
    · conv => whnf
      have hj : j = 61 := by
        rcases Nat.lt_or_ge j 61 with q | q
        · exact absurd (show nI 60 < nI j from hc) (nI_nlt (by omega) (by decide))
        · omega
      subst hj
      exact kI (h _ hz) (by rw [hr, fsA_none hall])
    · have hlt : j < 61 := by
        rcases Nat.lt_or_ge j 61 with q | q
        · exact q
        · exact absurd (show nI 60 < nI j from nI_lt (by omega) (by omega)) hc
      conv => whnf
      refine ⟨nightsS j s, g, rfl, rfl, ?_⟩
      conv => whnf
      refine ⟨fun h1 => ?_, fun h1 => ?_⟩
      · conv => whnf
        refine ⟨nightsS j s, 1, N + j, rfl, rfl, g1, g2, by omega, ?_⟩
        conv => whnf
        exact ⟨61 - (j + 1), by omega, j + 1, hlt, rfl, hr, lt_s hall (fun z => z (bp_n h1)), by rw [← nI_1]; rfl, rfl, rfl⟩
      · conv => whnf
        exact kI (h _ hz) (by rw [hr, fsA_some hlt (bp_0.mp h1) hall])
  · conv => whnf
    refine ⟨fun hc => ?_, fun hc => ?_⟩
    · conv => whnf
      refine ⟨s, g, rfl, rfl, ?_⟩
      conv => whnf
      refine ⟨fun hc1 => ?_, fun hc1 => ?_⟩
      · conv => whnf
        refine ⟨r2, r3, r4, r5, hi, s, m, rfl, rfl, hZ, hM, ?_⟩
        conv => whnf
        exact ⟨61, 0, by decide, rfl, by rw [lvR, if_neg hc, if_pos (bp_n hc1)], lt_0, rfl, rfl, rfl⟩
      · conv => whnf
        exact kI h0 (by rw [lvR, if_neg hc, if_neg (bp_0.mp hc1)])
    · conv => whnf
      refine ⟨r2, r3, r4, r5, hi, s, m, N, rfl, rfl, hIV, hTG, hM, fun m' hm' => ?_⟩
      conv => whnf
      exact kI (h m' hm') (by rw [lvR, if_pos hc])
end
section
/-! ===== leaves, the reference ===== -/
def F_X6_leavesIn : Fn := fun as w K => ∃ (s : InnS) (q : Pm) (t : Tm) (N : Nat) (g : Int32), as = [sR 0, sI g] ∧ w = modW s q t ∧ TZ t ∧ IV s N ∧ ∀ a b t', TZ t' → K (some (.inl (nI (gone s g)))) (modW (snS s a b) q t')
def ctb_X6_leavesIn : List (Nat × (List sv → List sc → (List sv → List sc → Prop) → Prop)) := [(4, cS (some 4) 1 F_X6_think), (26, cS none 2 F_X6_hasBit), (40, cS (some 4) 1 F_X6_nightOn), (50, cS (some 4) 1 F_X6_again)]
theorem cok_X6_leavesIn : CallOK cX6_leavesIn 4 (some .int) RX6 5 ctb_X6_leavesIn := CallOK_cons (site_same (rnV (pX6_leavesIn_ok 4 _ rfl) ct_X6_think kX6_think lRX6_190 (by decide))) (CallOK_cons (site_same (rnS (pX6_leavesIn_ok 26 _ rfl) ct_X6_hasBit kX6_hasBit lRX6_105 (by decide))) (CallOK_cons (site_same (rnV (pX6_leavesIn_ok 40 _ rfl) ct_X6_nightOn kX6_nightOn lRX6_132 (by decide))) (CallOK_cons (site_same (rnV (pX6_leavesIn_ok 50 _ rfl) ct_X6_again kX6_again lRX6_196 (by decide))) (CallOK_nil))))
theorem ct_X6_leavesIn : Ct yX6_leavesIn cX6_leavesIn 4 (some .int) 5 F_X6_leavesIn := by
  intro l D σ cA sz as w K h
  obtain ⟨s, q, t, N, g, rfl, rfl, hT0, ⟨hZ, hG, hN, hN9, hB⟩, h⟩ := h
  refine metL (pr := lkB pX6_leavesIn) (rk := 1) (ct := ctb_X6_leavesIn) (fld := lkB flX6) (cst := lkB csX6) (cstL := lkB clX6) [(9, ([true, true, true, true], fun n lv st w => ∃ (j f : Nat) (t1 : Tm), j ≤ 61 ∧ n = 61 - j ∧ SK t t1 ∧ KP s t1 ∧ ((f = 61 ∧ ∀ i, i < j → ¬ ¬ tb (iT (nightsS i s)) g) ∨ (f < 61 ∧ f = gone s g)) ∧ lv = [some (sR 0), some (sI g), some (sI (nI f)), some (sI (nI j))] ∧ st = [] ∧ w = modW (nightsS j s) q t1))] pX6_leavesIn_ok kX6_leavesIn.2.2.2.2.2.2.2 fdX6 cdX6 rto1 cok_X6_leavesIn (Nat.le_of_ble_eq_true rfl) ?_ ?_ l D σ cA sz
  · refine List.forall_mem_cons.mpr ⟨?_, cut0⟩
    rintro n lv st w ⟨j, f, t1, hj, rfl, hs1, hk1, hf, rfl, rfl, rfl⟩
    have hz := ZB_nights hZ hG hN j (by omega)
    obtain ⟨g1, g2⟩ := nights_keep hG hN j (by omega)
    have hT1 := hs1.tz hT0
    have hsuc : nightsS (j + 1) s = nightS 0 0 (nightsS j s) := rfl
    have hf61 : f ≤ 61 := by rcases hf with e | e <;> omega
    conv => whnf
    refine ⟨fun hc => ?_, fun hc => ?_⟩
    · have hj : j = 61 := by
        rcases Nat.lt_or_ge j 61 with q | q
        · exact absurd (show nI 60 < nI j from hc) (nI_nlt (by omega) (by decide))
        · omega
      have hr : gone s g = f := by
        rcases hf with ⟨e, hall⟩ | e
        · rw [hj] at hall
          rw [e]
          exact fst_none hall
        · exact e.2.symm
      rw [hr] at h
      conv => whnf
      refine ⟨nightsS j s, s, q, t1, rfl, rfl, hk1, hz, hZ, fun t2 hs2 hk2 => ?_⟩
      conv => whnf
      exact h (iSn (nightsS j s)) (iLn (nightsS j s)) t2 (hs2.tz hT1)
    · have hlt : j < 61 := by
        rcases Nat.lt_or_ge j 61 with q | q
        · exact q
        · exact absurd (show nI 60 < nI j from nI_lt (by omega) (by omega)) hc
      conv => whnf
      refine ⟨fun h1 => ?_, fun h1 => ?_⟩
      rotate_left
      · have h1 : f = 61 := (nI_eq (by omega) (by decide)).mp (show nI f = nI 61 from h1)
        have hall : ∀ i, i < j → ¬ ¬ tb (iT (nightsS i s)) g := by
          rcases hf with ⟨-, e⟩ | e
          · exact e
          · omega
        conv => whnf
        refine ⟨fun h2 => ?_, fun h2 => ?_⟩
        · have h2 := bp_0.mp h2
          conv => whnf
          refine ⟨nightsS j s, q, t1, N + j, rfl, rfl, g1, g2, by omega, ?_⟩
          rw [t0_w _ _ hT1, hT1.1, hT1.2, ← hsuc]
          conv => whnf
          exact ⟨61 - (j + 1), by omega, j + 1, j, t1, hlt, rfl, hs1, hk1, Or.inr ⟨hlt, (fst_some h2 hall hlt).symm⟩, by rw [← nI_1]; rfl, rfl, rfl⟩
        · have h2 := bp_n h2
          conv => whnf
          refine ⟨nightsS j s, q, t1, N + j, rfl, rfl, g1, g2, by omega, ?_⟩
          rw [t0_w _ _ hT1, hT1.1, hT1.2, ← hsuc]
          conv => whnf
          exact ⟨61 - (j + 1), by omega, j + 1, 61, t1, hlt, rfl, hs1, hk1, Or.inl ⟨rfl, lt_s hall (fun z => z h2)⟩, by rw [← nI_1 j]; rfl, rfl, rfl⟩
      · have h1 : ¬ f = 61 := fun z => h1 (by rw [z]; rfl)
        have hr : gone s g = f := by
          rcases hf with ⟨e, -⟩ | e
          · exact absurd e h1
          · exact e.2.symm
        rw [hr] at h
        conv => whnf
        refine ⟨nightsS j s, s, q, t1, rfl, rfl, hk1, hz, hZ, fun t2 hs2 hk2 => ?_⟩
        conv => whnf
        exact h (iSn (nightsS j s)) (iLn (nightsS j s)) t2 (hs2.tz hT1)
  · skip
    repeat' ((conv => whnf); (first | refine And.intro (by first | decide | with_reducible assumption) ?_ | with_reducible refine And.intro (fun hc => ?_) (fun hc => ?_) | with_reducible refine And.intro (fun hc => ?_) ?_ | fail))
    all_goals try (conv => whnf)
    refine ⟨s, q, t, rfl, rfl, fun t1 hs1 hk1 => ?_⟩
    conv => whnf
    exact ⟨61, 0, 61, t1, by decide, rfl, hs1, hk1, Or.inl ⟨rfl, lt_0⟩, rfl, rfl, rfl⟩
theorem gone_sn (s : InnS) (a b g : Int32) : gone (snS s a b) g = gone s g := by
  have e : (fun n => ¬ tb (iT (nightsS n (snS s a b))) g) = fun n => ¬ tb (iT (nightsS n s)) g := by
    funext n
    obtain ⟨a', b', e⟩ := nights_sn s a b n
    rw [e]
    rfl
  unfold gone
  rw [e]
theorem fsA_gone (s : InnS) (g : Int32) : fsA (fun n => ¬ tb (iT (nightsS n s)) g) = if nI (gone s g) = 61 then -4 else nI (gone s g) := by
  have h := fst_le (fun n => ¬ tb (iT (nightsS n s)) g) 61
  unfold fsA gone at *
  by_cases e : fst (fun n => ¬ tb (iT (nightsS n s)) g) 61 = 61
  · rw [if_pos e, e]; rfl
  · rw [if_neg e, if_neg (show ¬ nI (fst (fun n => ¬ tb (iT (nightsS n s)) g) 61) = 61 from fun z => e ((nI_eq (by omega) (by decide)).mp (show nI _ = nI 61 from z)))]
def F_X6_leaves : Fn := fun as w K => ∃ (s : InnS) (q : Pm) (t : Tm) (N : Nat) (g : Int32), as = [sR 0, sI g] ∧ w = modW s q t ∧ TZ t ∧ IV s N ∧ ∀ a b t', TZ t' → K (some (.inl (lvR s g))) (modW (snS s a b) q t')
theorem lt_m1 {g : Int32} (h1 : -1 ≤ g) (h2 : g < 0) : g = -1 := by
  rw [i32_le] at h1
  rw [i32_lt] at h2
  rw [i32_eq]
  have e1 : (-1 : Int32).toInt = -1 := rfl
  have e0 : (0 : Int32).toInt = 0 := rfl
  rw [e1] at h1 ⊢
  rw [e0] at h2
  omega
theorem m1_le {G : Nat} (hG : G < 8) : (-1 : Int32) ≤ nI G - 1 := (by decide : ∀ G : Fin 8, (-1 : Int32) ≤ nI G.val - 1) ⟨G, hG⟩
theorem ge0_ne {g : Int32} (h : ¬ g < 0) : ¬ g = -1 := fun e => h (by rw [e]; decide)
def ctb_X6_leaves : List (Nat × (List sv → List sc → (List sv → List sc → Prop) → Prop)) := [(17, cS none 3 F_X6_in), (31, cS (some 4) 2 F_X6_leavesIn), (72, cS none 2 F_X6_hasBit), (81, cS (some 4) 2 F_X6_leavesIn)]
theorem cok_X6_leaves : CallOK cX6_leaves 6 (some .int) RX6 6 ctb_X6_leaves := CallOK_cons (site_same (rnS (pX6_leaves_ok 17 _ rfl) ct_X6_in kX6_in lRX6_81 (by decide))) (CallOK_cons (site_same (rnV (pX6_leaves_ok 31 _ rfl) ct_X6_leavesIn kX6_leavesIn lRX6_235 (by decide))) (CallOK_cons (site_same (rnS (pX6_leaves_ok 72 _ rfl) ct_X6_hasBit kX6_hasBit lRX6_105 (by decide))) (CallOK_cons (site_same (rnV (pX6_leaves_ok 81 _ rfl) ct_X6_leavesIn kX6_leavesIn lRX6_235 (by decide))) (CallOK_nil))))
theorem ct_X6_leaves : Ct yX6_leaves cX6_leaves 6 (some .int) 6 F_X6_leaves := by
  intro l D σ cA sz as w K h
  obtain ⟨s, q, t, N, g, rfl, rfl, hT, hIV, h⟩ := h
  have hIV' := hIV
  obtain ⟨hZ, hG, hN, hN9, hB⟩ := hIV'
  have h0 := h (iSn s) (iLn s) (tq0 t) hT
  have hT0 : TZ (tq0 t) := hT
  obtain ⟨G, hG7, hGG⟩ := hG.2.1
  have eG : ix (iG s) = G := by rw [hGG]; exact nI_clamp (by omega)
  refine metL (pr := lkB pX6_leaves) (rk := 1) (ct := ctb_X6_leaves) (fld := lkB flX6) (cst := lkB csX6) (cstL := lkB clX6) [(57, ([true, true, true, true, true, false], fun n lv st w => ∃ (o : Nat) (a b : Int32) (t1 : Tm), o ≤ G ∧ n = G - o ∧ g = -1 ∧ TZ t1 ∧ lv = [some (sR 0), some (sI g), some (sI (lvF s o).1), some (sI (nI (lvF s o).2)), some (sI (nI o)), none] ∧ st = [] ∧ w = modW (snS s a b) q t1))] pX6_leaves_ok kX6_leaves.2.2.2.2.2.2.2 fdX6 cdX6 rto1 cok_X6_leaves (Nat.le_of_ble_eq_true rfl) ?_ ?_ l D σ cA sz
  · refine List.forall_mem_cons.mpr ⟨?_, cut0⟩
    rintro n lv st w ⟨o, a, b, t1, ho, rfl, hg, hT1, rfl, rfl, rfl⟩
    have hle : (lvF s o).2 ≤ 61 := (lv_inv s o).1
    have hle2 := lvN_le s o
    have fin : ∀ (x : Int32) (a' b' : Int32) (t2 : Tm), o < G → TZ t2 → x = nI (lvN s o) → ∃ n', n' < G - o ∧ ∃ (o' : Nat) (a b : Int32) (t1 : Tm), o' ≤ G ∧ n' = G - o' ∧ g = -1 ∧ TZ t1 ∧ [some (sR 0), some (sI g), some (sI (if x < nI (lvF s o).2 then nI o else (lvF s o).1)), some (sI (if x < nI (lvF s o).2 then x else nI (lvF s o).2)), some (sI (nI o + 1)), none] = [some (sR 0), some (sI g), some (sI (lvF s o').1), some (sI (nI (lvF s o').2)), some (sI (nI o')), none] ∧ ([] : List sv) = [] ∧ modW (snS s a' b') q t2 = modW (snS s a b) q t1 := by
      intro x a' b' t2 hlt hT2 hx
      refine ⟨G - (o + 1), by omega, o + 1, a', b', t2, hlt, rfl, hg, hT2, ?_, rfl, rfl⟩
      rw [hx, nI_1, lvF]
      by_cases hc : lvN s o < (lvF s o).2
      · rw [if_pos (nI_lt hc (by omega)), if_pos (nI_lt hc (by omega)), if_pos hc]
      · rw [if_neg (nI_nlt (by omega) (by omega)), if_neg (nI_nlt (by omega) (by omega)), if_neg hc]
    generalize hF : lvF s o = F at hle fin ⊢
    conv => whnf
    refine ⟨fun hc => ?_, fun hc => ?_⟩
    · rw [show iG (snS s a b) = nI G from hGG] at hc
      obtain rfl := lp_ge ho (by omega) hc
      conv => whnf
      exact kI (h a b t1 hT1) (by rw [lvR, if_pos hg, eG, hF])
    · rw [show iG (snS s a b) = nI G from hGG] at hc
      have hlt := lp_lt ho (by omega) hc
      conv => whnf
      refine ⟨fun hb => ?_, fun hb => ?_⟩
      · have hx : (61 : Int32) = nI (lvN s o) := by unfold lvN; rw [if_neg (show ¬ tb (iT s) (nI o) from bp_0.mp hb)]; rfl
        have fin := fin 61 a b t1 hlt hT1 hx
        conv => whnf
        refine ⟨fun h1 => ?_, fun h1 => ?_⟩
        · rw [if_neg (Int32.not_lt.mpr h1), if_neg (Int32.not_lt.mpr h1)] at fin
          conv => whnf
          refine ⟨fun _ => ?_, fun z => absurd h1 z⟩
          conv => whnf
          exact fin
        · rw [if_pos (Int32.not_le.mp h1), if_pos (Int32.not_le.mp h1)] at fin
          conv => whnf
          refine ⟨fun z => absurd z h1, fun _ => ?_⟩
          conv => whnf
          exact fin
      · have hb : tb (iT s) (nI o) := bp_n hb
        have hx : nI (gone s (nI o)) = nI (lvN s o) := by unfold lvN; rw [if_pos hb]
        conv => whnf
        refine ⟨snS s a b, q, t1, N, nI o, rfl, rfl, hT1, hIV, fun a2 b2 t2 hT2 => ?_⟩
        rw [gone_sn]
        have fin := fin _ a2 b2 t2 hlt hT2 hx
        conv => whnf
        refine ⟨fun h1 => ?_, fun h1 => ?_⟩
        · rw [if_neg (Int32.not_lt.mpr h1), if_neg (Int32.not_lt.mpr h1)] at fin
          conv => whnf
          refine ⟨fun _ => ?_, fun z => absurd h1 z⟩
          conv => whnf
          exact fin
        · rw [if_pos (Int32.not_le.mp h1), if_pos (Int32.not_le.mp h1)] at fin
          conv => whnf
          refine ⟨fun z => absurd z h1, fun _ => ?_⟩
          conv => whnf
          exact fin
  · conv => whnf
    refine ⟨fun hc1 => ?_, fun hc => ?_⟩
    rotate_left
    · conv => whnf
      have hc := bp_0.mp ((in_ii (-1) g (iG s - 1)).symm.trans hc)
      exact kI h0 (by
        rw [lvR, if_neg (fun z => hc ⟨by rw [z]; decide, by rw [z, hGG]; exact m1_le hG7⟩), if_neg (fun z => hc ⟨Int32.le_trans (by decide) z.1, z.2⟩)])
    have c1 := bp_n (fun z => hc1 ((in_ii (-1) g (iG s - 1)).trans z))
    conv => whnf
    refine ⟨fun hc => ?_, fun hc => ?_⟩
    · skip
      repeat' ((conv => whnf); (first | refine And.intro (by first | decide | with_reducible assumption) ?_ | with_reducible refine And.intro (fun hc => ?_) (fun hc => ?_) | with_reducible refine And.intro (fun hc => ?_) ?_ | fail))
      all_goals try (conv => whnf)
      exact ⟨G, 0, iSn s, iLn s, tq0 t, Nat.zero_le _, rfl, lt_m1 c1.1 hc, hT0, rfl, rfl, rfl⟩
    · have hr : lvR s g = if nI (gone s g) = 61 then -4 else nI (gone s g) := by
        rw [lvR, if_neg (ge0_ne hc), if_pos ⟨Int32.not_lt.mp hc, c1.2⟩, fsA_gone]
      conv => whnf
      refine ⟨s, q, tq0 t, N, g, rfl, rfl, hT0, hIV, fun a2 b2 t2 hT2 => ?_⟩
      conv => whnf
      refine ⟨fun h1 => ?_, fun h1 => ?_⟩
      · conv => whnf
        exact kI (h a2 b2 t2 hT2) (by rw [hr, if_neg h1])
      · conv => whnf
        exact kI (h a2 b2 t2 hT2) (by rw [hr, if_pos h1])
end
section
/-! ===== least: what lacks, and more stock is no worse ===== -/
theorem or_ne (x : Int32) {j : Nat} (hj : j < 32) : ¬ (x ||| jshl 1 (nI j)) = 0 := fun h => by
  have e : bt (x ||| jshl 1 (nI j)) j = true := by rw [b_or, bt_one hj hj]; simp
  rw [h, b_0] at e; cases e
theorem lch_A (s : InnS) (g d : Int32) : iA (laS (chS s g d) g) = heldI (iA s + 1) 9999 ∧ iLn (laS (chS s g d) g) = iLn s ||| jshl 1 g := ⟨rfl, rfl⟩
theorem ch_A (s : InnS) (g d : Int32) : iA (chS s g d) = iA s ∧ iLn (chS s g d) = iLn s := ⟨rfl, rfl⟩
theorem sv_A (s : InnS) (g k e d : Int32) : iA (svS (chS (tkS s k e) g d) g k) = iA s ∧ iLn (svS (chS (tkS s k e) g d) g k) = iLn s := ⟨rfl, rfl⟩
/-- one lacks his breakfast -/
def lackP (s : InnS) (g k : Int32) : Prop := ¬ k = -4 ∧ ¬ eatsK (iK s (ix g)) ≤ iP s (ix k)
theorem bf_la {s : InnS} {g k : Int32} : (¬ lackP s g k ∧ iA (bfS s g k) = iA s ∧ iLn (bfS s g k) = iLn s) ∨ (lackP s g k ∧ iA (bfS s g k) = heldI (iA s + 1) 9999 ∧ iLn (bfS s g k) = iLn s ||| jshl 1 g) := by
  unfold bfS
  by_cases h4 : k = -4
  · rw [if_pos h4]; exact Or.inl ⟨fun z => z.1 h4, ch_A s g _⟩
  · rw [if_neg h4]
    by_cases he : eatsK (iK s (ix g)) ≤ iP s (ix k)
    · rw [if_pos he]; exact Or.inl ⟨fun z => z.2 he, sv_A ..⟩
    · rw [if_neg he]; exact Or.inr ⟨⟨h4, he⟩, lch_A s g _⟩
theorem held_inc {a : Nat} (h : a < 9999) : heldI (nI a + 1) 9999 = nI (a + 1) := by
  rw [nI_1]
  unfold heldI
  rw [if_neg (nI_pos (by omega)), if_neg (show ¬ (9999 : Int32) < nI (a + 1) from nI_nlt (a := 9999) (by omega) (by decide))]
theorem gf_la {s : InnS} {mare sil : Int32} {a : Nat} (hA : iA s = nI a) (hL : iLn s = 0) (ha : a + 7 < 9999) : ∀ j, j ≤ 7 → ∃ c, c ≤ j ∧ iA (gfS mare sil j s) = nI (a + c) ∧ (c = 0 ↔ iLn (gfS mare sil j s) = 0)
  | 0, _ => ⟨0, Nat.le_refl _, hA, fun _ => hL, fun _ => rfl⟩
  | j + 1, hj => by
    obtain ⟨c, h1, h2, h3⟩ := gf_la (mare := mare) (sil := sil) hA hL ha j (by omega)
    show ∃ c, c ≤ j + 1 ∧ iA (gsS (gfS mare sil j s) mare sil (nI j)) = _ ∧ (_ ↔ iLn (gsS (gfS mare sil j s) mare sil (nI j)) = 0)
    generalize gfS mare sil j s = t at h2 h3 ⊢
    unfold gsS
    split
    · rcases bf_la (s := t) (g := nI j) (k := pkS t mare sil (nI j)) with ⟨-, e1, e2⟩ | ⟨-, e1, e2⟩
      · rw [e1, e2]; exact ⟨c, by omega, h2, h3⟩
      · rw [e1, e2, h2, held_inc (by omega)]
        exact ⟨c + 1, by omega, rfl, fun z => by omega, fun z => absurd z (or_ne _ (by omega))⟩
    · exact ⟨c, by omega, h2, h3⟩
theorem night_la {s : InnS} {mare sil : Int32} {a : Nat} (hG : GS s) (hA : iA s = nI a) (ha : a + 7 < 9999) : ∃ c, c ≤ 7 ∧ iA (nightS mare sil s) = nI (a + c) ∧ (c = 0 ↔ iLn (nightS mare sil s) = 0) := by
  obtain ⟨G, hG7, hGG⟩ := hG.2.1
  unfold nightS
  rw [hGG, show ix (nI G) = G from nI_clamp (by omega)]
  obtain ⟨c, h1, h2⟩ := gf_la (s := nbS s) (mare := mare) (sil := sil) (show iA (nbS s) = nI a from hA) rfl ha G (by omega)
  exact ⟨c, by omega, h2⟩
theorem nights_la {s : InnS} {N a : Nat} (hG : GS s) (hN : iN s = nI N) (hA : iA s = nI a) : ∀ n, N + n < 90000 → a + 7 * n < 9999 → ∃ c, c ≤ 7 * n ∧ iA (nightsS n s) = nI (a + c) ∧ (c = 0 ↔ ∀ j, j < n → iLn (nightsS (j + 1) s) = 0)
  | 0, _, _ => ⟨0, Nat.le_refl _, hA, fun _ => lt_0, fun _ => rfl⟩
  | n + 1, hn, hn2 => by
    obtain ⟨c, h1, h2, h3⟩ := nights_la hG hN hA n (by omega) (by omega)
    obtain ⟨g1, g2⟩ := nights_keep hG hN n (by omega)
    obtain ⟨c', h4, h5, h6⟩ := night_la (mare := 0) (sil := 0) g1 h2 (by omega)
    refine ⟨c + c', by omega, by rw [← Nat.add_assoc]; exact h5, fun z => ?_, fun z => ?_⟩
    · have z1 : c = 0 := by omega
      have z2 : c' = 0 := by omega
      exact lt_s (h3.mp z1) (h6.mp z2)
    · have z1 := h3.mpr (fun j hj => z j (by omega))
      have z2 := h6.mpr (z n (by omega))
      omega
/-- the same inn with other plates -/
abbrev ptS (s : InnS) (P : PA) : InnS := (iK s, iF s, iW s, iL s, iH s, P, iG s, iT s, iN s, iS s, iA s, iSn s, iLn s)
/-- no plate is less -/
def ML (s : InnS) (P : PA) : Prop := ∀ k, k < 10 → iP s k ≤ P k ∧ rng 100 (P k)
theorem ch_pt (s : InnS) (P : PA) (g d : Int32) : chS (ptS s P) g d = ptS (chS s g d) P := rfl
theorem sv_pt (s : InnS) (P : PA) (g k e d : Int32) : svS (chS (tkS (ptS s P) k e) g d) g k = ptS (svS (chS (tkS s k e) g d) g k) (upd P (ix k) (P (ix k) - e)) := rfl
theorem sv_iP (s : InnS) (g k e d : Int32) : iP (svS (chS (tkS s k e) g d) g k) = upd (iP s) (ix k) (iP s (ix k) - e) := rfl
theorem ch_iP (s : InnS) (g d : Int32) : iP (chS s g d) = iP s := rfl
theorem rng_subs {x y e : Int32} (hx : rng 100 x) (hy : rng 100 y) (he : e = nI 2 ∨ e = nI 1) (h1 : e ≤ x) (h2 : x ≤ y) : x - e ≤ y - e ∧ rng 100 (y - e) := by
  obtain ⟨a, ha, rfl⟩ := hx
  obtain ⟨b, hb, rfl⟩ := hy
  have hab := (nI_leI (by omega) (by omega)).mp h2
  rcases he with rfl | rfl
  · have hea := (nI_leI (by omega) (by omega)).mp h1
    rw [pk_sub hea, pk_sub (by omega)]
    exact ⟨nI_le (by omega) (by omega), b - 2, by omega, rfl⟩
  · have hea := (nI_leI (by omega) (by omega)).mp h1
    rw [pk_sub hea, pk_sub (by omega)]
    exact ⟨nI_le (by omega) (by omega), b - 1, by omega, rfl⟩
theorem bf_ml {s : InnS} {P : PA} {g k : Int32} (hG : GS s) (h : ML s P) (hk : k = -4 ∨ rng 10 k) (hn : ¬ lackP s g k) : ∃ P', bfS (ptS s P) g k = ptS (bfS s g k) P' ∧ ML (bfS s g k) P' := by
  unfold bfS
  by_cases h4 : k = -4
  · rw [if_pos h4, if_pos h4, ch_pt]
    exact ⟨P, rfl, by unfold ML; rw [ch_iP]; exact h⟩
  · rw [if_neg h4, if_neg h4]
    obtain ⟨i, hi, ek⟩ := hk.resolve_left h4
    have eix : ix k = i := by rw [ek]; exact nI_clamp (by omega)
    have he : eatsK (iK s (ix g)) ≤ iP s (ix k) := Classical.not_not.mp (fun z => hn ⟨h4, z⟩)
    have hi10 : ix k < 10 := by rw [eix]; exact hi
    have he2 : eatsK (iK s (ix g)) ≤ P (ix k) := Int32.le_trans he (h (ix k) hi10).1
    rw [if_pos he, if_pos (show eatsK (iK (ptS s P) (ix g)) ≤ iP (ptS s P) (ix k) from he2), sv_pt]
    refine ⟨_, rfl, fun q hq => ?_⟩
    rw [sv_iP]
    by_cases e : q = ix k
    · rw [e, pk_us, pk_us]
      exact rng_subs (hG.2.2.2.2.1 _ hi10) (h _ hi10).2 (eats_12 _) he (h _ hi10).1
    · rw [pk_un e, pk_un e]; exact h q hq
theorem gf_ml {s : InnS} {P : PA} {mare sil : Int32} {N : Nat} (hG : GS s) (hN : iN s = nI N) (hN2 : N < 100000) (h : ML s P) : ∀ j, j ≤ 7 → iLn (gfS mare sil j s) = 0 → ∃ P', gfS mare sil j (ptS s P) = ptS (gfS mare sil j s) P' ∧ ML (gfS mare sil j s) P'
  | 0, _, _ => ⟨P, rfl, h⟩
  | j + 1, hj, hL => by
    have hL' : iLn (gsS (gfS mare sil j s) mare sil (nI j)) = 0 := hL
    have hg := GS_gf (mare := mare) (sil := sil) hG hN hN2 j (by omega)
    have hk := gf_keep (s := s) (mare := mare) (sil := sil) j
    have ih := gf_ml (mare := mare) (sil := sil) hG hN hN2 h j (by omega)
    show ∃ P', gsS (gfS mare sil j (ptS s P)) mare sil (nI j) = ptS (gsS (gfS mare sil j s) mare sil (nI j)) P' ∧ ML (gsS (gfS mare sil j s) mare sil (nI j)) P'
    have hNt := hk.1.trans hN
    generalize gfS mare sil j (ptS s P) = u at ih ⊢
    generalize gfS mare sil j s = t at ih hL' hg hNt ⊢
    by_cases hb : tb (iT t) (nI j)
    · rw [gs_t hb] at hL' ⊢
      rcases bf_la (s := t) (g := nI j) (k := pkS t mare sil (nI j)) with ⟨e0, e1, e2⟩ | ⟨-, e1, e2⟩
      · rw [e2] at hL'
        obtain ⟨P', rfl, hml⟩ := ih hL'
        rw [gs_t (show tb (iT (ptS t P')) (nI j) from hb)]
        have epk : pkS (ptS t P') mare sil (nI j) = pkS t mare sil (nI j) := rfl
        rw [epk]
        exact bf_ml hg hml (pick_ok hg (by omega) hNt hN2) e0
      · rw [e2] at hL'
        exact absurd hL' (or_ne _ (by omega))
    · rw [gs_f hb] at hL' ⊢
      obtain ⟨P', rfl, hml⟩ := ih hL'
      rw [gs_f (show ¬ tb (iT (ptS t P')) (nI j) from hb)]
      exact ⟨P', rfl, hml⟩
theorem held2 : ∀ a : Fin 100, heldI (nI a.val + 2) 99 = nI (min 99 (a.val + 2)) := by decide +kernel
theorem nb_pt (s : InnS) (P : PA) : nbS (ptS s P) = ptS (nbS s) (upd P (ix (jrem (iN s + 1) 10)) (heldI (P (ix (jrem (iN s + 1) 10)) + 2) 99)) := rfl
theorem nb_iP (s : InnS) : iP (nbS s) = upd (iP s) (ix (jrem (iN s + 1) 10)) (heldI (iP s (ix (jrem (iN s + 1) 10)) + 2) 99) := rfl
theorem night_ml {s : InnS} {P : PA} {mare sil : Int32} {N : Nat} (hG : GS s) (hN : iN s = nI N) (hN2 : N < 90000) (h : ML s P) (hL : iLn (nightS mare sil s) = 0) : ∃ P', nightS mare sil (ptS s P) = ptS (nightS mare sil s) P' ∧ ML (nightS mare sil s) P' := by
  obtain ⟨G, hG7, hGG⟩ := hG.2.1
  have hN1 : iN s + 1 = nI (N + 1) := by rw [hN, nI_1]
  have ek : ix (jrem (iN s + 1) 10) = (N + 1) % 10 := by
    rw [hN1, show jrem (nI (N + 1)) 10 = nI ((N + 1) % 10) from jrem_nI (d := 10) (by omega) (by decide) (by decide)]
    exact nI_clamp (by omega)
  unfold nightS at hL ⊢
  rw [show iG (ptS s P) = iG s from rfl, nb_pt]
  rw [hGG, show ix (nI G) = G from nI_clamp (by omega)] at hL ⊢
  refine gf_ml (GS_nb hG) hN1 (by omega) (fun k hk => ?_) G (by omega) hL
  rw [nb_iP, ek]
  by_cases e : k = (N + 1) % 10
  · rw [← e, pk_us, pk_us]
    obtain ⟨a, ha, e1⟩ := hG.2.2.2.2.1 k hk
    obtain ⟨b, hb, e2⟩ := (h k hk).2
    have hab := (h k hk).1
    rw [e1, e2] at hab
    rw [e1, e2]
    have hab := (nI_leI (by omega) (by omega)).mp hab
    rw [held2 ⟨a, ha⟩, held2 ⟨b, hb⟩]
    exact ⟨nI_le (by show min 99 (a + 2) ≤ min 99 (b + 2); omega) (by show min 99 (b + 2) < _; omega), min 99 (b + 2), by omega, rfl⟩
  · rw [pk_un e, pk_un e]; exact h k hk
theorem nights_ml {s : InnS} {P : PA} {N : Nat} (hG : GS s) (hN : iN s = nI N) (h : ML s P) : ∀ n, N + n < 90000 → (∀ j, j < n → iLn (nightsS (j + 1) s) = 0) → (∃ P', nightsS n (ptS s P) = ptS (nightsS n s) P' ∧ ML (nightsS n s) P') ∧ ∀ j, j < n → iLn (nightsS (j + 1) (ptS s P)) = 0
  | 0, _, _ => ⟨⟨P, rfl, h⟩, lt_0⟩
  | n + 1, hn, hL => by
    obtain ⟨⟨P1, e1, h1⟩, h2⟩ := nights_ml hG hN h n (by omega) (fun j hj => hL j (by omega))
    obtain ⟨g1, g2⟩ := nights_keep hG hN n (by omega)
    obtain ⟨P2, e2, h3⟩ := night_ml (mare := 0) (sil := 0) g1 g2 (by omega) h1 (hL n (by omega))
    have e3 : nightsS (n + 1) (ptS s P) = ptS (nightsS (n + 1) s) P2 := by
      show nightS 0 0 (nightsS n (ptS s P)) = _
      rw [e1, e2]
      rfl
    refine ⟨⟨P2, e3, h3⟩, lt_s h2 ?_⟩
    rw [e3]
    exact hL n (by omega)
/-- another stock -/
abbrev pbS (s : InnS) (k v : Int32) : InnS := (iK s, iF s, iW s, iL s, iH s, upd (iP s) (ix k) v, iG s, iT s, iN s, iS s, iA s, iSn s, iLn s)
theorem GS_pb {s : InnS} {k v : Int32} (h : GS s) (hv : rng 100 v) : GS (pbS s k v) := by
  refine ⟨h.1, h.2.1, h.2.2.1, h.2.2.2.1, fun q hq => ?_, h.2.2.2.2.2⟩
  show rng 100 (upd (iP s) (ix k) v q)
  by_cases e : q = ix k
  · rw [e, pk_us]; exact hv
  · rw [pk_un e]; exact h.2.2.2.2.1 q hq
theorem ZB_pb {s : InnS} {k v : Int32} (h : ZB s) (hk : ix k < 10) : ZB (pbS s k v) := by
  refine ⟨h.1, fun q hq => ?_⟩
  show upd (iP s) (ix k) _ q = 0
  rw [pk_un (by omega)]; exact h.2 q hq
def SU (s : InnS) (k : Int32) (n v : Nat) : Prop := ∀ j, j < n → iLn (nightsS (j + 1) (pbS s k (nI v))) = 0
theorem SU_up {s : InnS} {k : Int32} {N n v v' : Nat} (hG : GS s) (hN : iN s = nI N) (hn : N + n < 90000) (hv : v ≤ v') (hv' : v' < 100) (h : SU s k n v) : SU s k n v' := by
  have hg := GS_pb (k := k) hG ⟨v, by omega, rfl⟩
  have e : pbS s k (nI v') = ptS (pbS s k (nI v)) (upd (iP s) (ix k) (nI v')) := rfl
  have hml : ML (pbS s k (nI v)) (upd (iP s) (ix k) (nI v')) := fun q hq => by
    show upd (iP s) (ix k) (nI v) q ≤ _ ∧ _
    by_cases e : q = ix k
    · rw [e, pk_us, pk_us]; exact ⟨nI_le hv (by omega), v', hv', rfl⟩
    · rw [pk_un e, pk_un e]; exact ⟨Int32.le_refl _, hG.2.2.2.2.1 q hq⟩
  have := (nights_ml hg (show iN (pbS s k (nI v)) = nI N from hN) hml n hn h).2
  unfold SU
  rw [e]
  exact this
/-- what lacks is no more than the nights tell -/
def LB (s : InnS) (N : Nat) : Prop := ∃ a, iA s = nI a ∧ a ≤ 7 * N
theorem SU_la {s : InnS} {k : Int32} {N n v : Nat} (hG : GS s) (hN : iN s = nI N) (hN9 : N ≤ 999) (hn : n ≤ 20) (hv : v < 100) (hL : LB s N) : SU s k n v ↔ iA (nightsS n (pbS s k (nI v))) = iA s := by
  obtain ⟨a, ha, ha2⟩ := hL
  obtain ⟨c, h1, h2, h3⟩ := nights_la (GS_pb (k := k) hG ⟨v, hv, rfl⟩) (show iN (pbS s k (nI v)) = nI N from hN) (show iA (pbS s k (nI v)) = nI a from ha) n (by omega) (by omega)
  unfold SU
  rw [← h3, h2, ha]
  rw [nI_eq (by omega) (by omega)]
  omega
noncomputable def leN (s : InnS) (k : Int32) (n : Nat) : Nat := fst (SU s k n) 100
noncomputable def leR (s : InnS) (k n : Int32) : Int32 := if (0 ≤ k ∧ k ≤ 9) ∧ (1 ≤ n ∧ n ≤ 20) then (if leN s k (ix n) = 100 then -4 else nI (leN s k (ix n))) else -1
theorem n20 {n : Int32} (h : 1 ≤ n ∧ n ≤ 20) : ∃ j, 1 ≤ j ∧ j ≤ 20 ∧ n = nI j := by
  have h0 : ¬ n < 0 := fun q => absurd (Int32.lt_of_lt_of_le q (by decide : (0 : Int32) ≤ 1)) (Int32.not_lt.mpr h.1)
  obtain ⟨j, hj, hx⟩ := nI_of2 (M := 20) (n := 20) rfl h0 h.2
  refine ⟨j, ?_, hj, hx⟩
  rw [hx] at h
  exact (nI_leI (by decide) (by omega)).mp (show nI 1 ≤ nI j from h.1)
theorem ix_k {k : Int32} (h : vp_in k 10) : ix k < 10 := Nat.not_le.mp (fun q => h (Or.inr q))
def F_X5_suffices : Fn := fun as w K => ∃ (r2 r3 r4 r5 : sv) (hi : Int32) (s m : InnS) (N n v : Nat) (k : Int32), as = [sR 0, sI k, sI (nI v), sI (nI n)] ∧ w = x2W r2 r3 r4 r5 hi s m ∧ ZB s ∧ GS s ∧ iN s = nI N ∧ N + n < 90000 ∧ v < 100 ∧ vp_in k 10 ∧ ZB m ∧ ∀ m', ZB m' → K (some (.inl (bp (SU s k n v)))) (x2W r2 r3 r4 r5 hi s m')
def ctb_X5_suffices : List (Nat × (List sv → List sc → (List sv → List sc → Prop) → Prop)) := [(1, cS (some 3) 1 F_X5_inMind), (17, cG [8, 9, 10, 11, 12, 13, 14] (some 0) 2 F_X0_passUnlacking)]
theorem cok_X5_suffices : CallOK cX5_suffices 5 (some .boolean) RX5 6 ctb_X5_suffices := CallOK_cons (site_same (rnV (pX5_suffices_ok 1 _ rfl) ct_X5_inMind kX5_inMind lRX5_58 (by decide))) (CallOK_cons (site_gen [8, 9, 10, 11, 12, 13, 14] (by decide) (rnV (pX5_suffices_ok 17 _ rfl) ct_X0_passUnlacking kX0_passUnlacking lRX5_177 (by decide))) (CallOK_nil))
theorem ct_X5_suffices : Ct yX5_suffices cX5_suffices 5 (some .boolean) 6 F_X5_suffices := by
  intro l D σ cA sz as w K h
  obtain ⟨r2, r3, r4, r5, hi, s, m, N, n, v, k, rfl, rfl, hZ, hG, hN, hN2, hv, hk, hM, h⟩ := h
  refine metL (pr := lkB pX5_suffices) (rk := 2) (ct := ctb_X5_suffices) (fld := lkB flX5) (cst := lkB csX5) (cstL := lkB clX5) [] pX5_suffices_ok kX5_suffices.2.2.2.2.2.2.2 fdX5 cdX5 rto2 cok_X5_suffices (Nat.le_of_ble_eq_true rfl) cut0 ?_ l D σ cA sz
  conv => whnf
  refine ⟨r2, r3, r4, r5, hi, s, m, rfl, rfl, hZ, hM, ?_⟩
  conv => whnf
  refine ⟨hk, ?_⟩
  conv => whnf
  refine ⟨pbS s k (nI v), n, N, rfl, rfl, ZB_pb hZ (ix_k hk), GS_pb hG ⟨v, hv, rfl⟩, hN, hN2, fun s' hs' => ?_⟩
  conv => whnf
  exact ⟨bp_01 _, h s' hs'⟩
def F_X5_least : Fn := fun as w K => ∃ (r2 r3 r4 r5 : sv) (hi : Int32) (s m : InnS) (N : Nat) (k n : Int32), as = [sR 0, sI k, sI n] ∧ w = x2W r2 r3 r4 r5 hi s m ∧ IV s N ∧ ZB m ∧ ∀ m', ZB m' → K (some (.inl (leR s k n))) (x2W r2 r3 r4 r5 hi s m')
def ctb_X5_least : List (Nat × (List sv → List sc → (List sv → List sc → Prop) → Prop)) := [(1, cS none 1 F_X5_isPlate), (11, cS none 3 F_X5_within), (54, cS (some 3) 4 F_X5_suffices)]
theorem cok_X5_least : CallOK cX5_least 7 (some .int) RX5 7 ctb_X5_least := CallOK_cons (site_same (rnS (pX5_least_ok 1 _ rfl) ct_X5_isPlate kX5_isPlate lRX5_110 (by decide))) (CallOK_cons (site_same (rnS (pX5_least_ok 11 _ rfl) ct_X5_within kX5_within lRX5_129 (by decide))) (CallOK_cons (site_same (rnV (pX5_least_ok 54 _ rfl) ct_X5_suffices kX5_suffices lRX5_174 (by decide))) (CallOK_nil)))
theorem ct_X5_least : Ct yX5_least cX5_least 7 (some .int) 7 F_X5_least := by
  intro l D σ cA sz as w K h
  obtain ⟨r2, r3, r4, r5, hi, s, m, N, k, n, rfl, rfl, ⟨hZ, hG, hN, hN9, hB⟩, hM, h⟩ := h
  have h0 := h m hM
  refine metL (pr := lkB pX5_least) (rk := 1) (ct := ctb_X5_least) (fld := lkB flX5) (cst := lkB csX5) (cstL := lkB clX5) [(28, ([true, true, true, true, true, true, false], fun x lv st w => ∃ (lo up stp : Nat) (m' : InnS), x = 101 - stp ∧ lo ≤ up ∧ up ≤ 100 ∧ stp + (up - lo) ≤ 100 ∧ ((0 ≤ k ∧ k ≤ 9) ∧ (1 ≤ n ∧ n ≤ 20)) ∧ (∀ v, v < lo → ¬ SU s k (ix n) v) ∧ (∀ v, up ≤ v → v < 100 → SU s k (ix n) v) ∧ ZB m' ∧ lv = [some (sR 0), some (sI k), some (sI n), some (sI (nI lo)), some (sI (nI up)), some (sI (nI stp)), none] ∧ st = [] ∧ w = x2W r2 r3 r4 r5 hi s m'))] pX5_least_ok kX5_least.2.2.2.2.2.2.2 fdX5 cdX5 rto1 cok_X5_least (Nat.le_of_ble_eq_true rfl) ?_ ?_ l D σ cA sz
  · refine List.forall_mem_cons.mpr ⟨?_, cut0⟩
    rintro x lv st w ⟨lo, up, stp, m', rfl, h1, h2, h3, hC, hlo, hup, hM', rfl, rfl, rfl⟩
    obtain ⟨n', hn1, hn', en⟩ := n20 hC.2
    have eix : ix n = n' := by rw [en]; exact nI_clamp (by omega)
    have hr : leR s k n = if leN s k n' = 100 then -4 else nI (leN s k n') := by
      unfold leR
      rw [if_pos hC, eix]
    rw [eix] at hlo hup
    have done : up ≤ lo → leN s k n' = lo := fun hle => by
      unfold leN
      rcases Nat.lt_or_ge lo 100 with q | q
      · exact fst_some (hup lo hle q) hlo q
      · have : lo = 100 := by omega
        rw [this]
        exact fst_none (fun i hi => hlo i (by omega))
    have hv := plate_in hC.1
    have fin : up ≤ lo → (nI lo ≤ 99 → K (some (.inl (nI lo))) (x2W r2 r3 r4 r5 hi s m')) ∧ (¬ nI lo ≤ 99 → K (some (.inl (-4))) (x2W r2 r3 r4 r5 hi s m')) := fun hle => by
      have hr2 := hr
      rw [done hle] at hr2
      refine ⟨fun z => kI (h _ hM') ?_, fun z => kI (h _ hM') ?_⟩
      · have := (nI_leI (by omega) (by decide)).mp (show nI lo ≤ nI 99 from z)
        rw [hr2, if_neg (by omega)]
      · rw [hr2, if_pos]
        have : ¬ lo ≤ 99 := fun q => z (nI_le q (by decide))
        omega
    conv => whnf
    refine ⟨fun hc => ?_, fun hc => ?_⟩
    · have hs : stp = 100 := by
        have := (nI_ltI (by decide) (by omega)).mp (show nI 99 < nI stp from hc)
        omega
      have fin := fin (by omega)
      conv => whnf
      refine ⟨fun hz => ?_, fun hz => ?_⟩
      · conv => whnf
        exact fin.1 hz
      · conv => whnf
        exact fin.2 hz
    · have hs : stp ≤ 99 := Nat.not_lt.mp (fun z => hc (show nI 99 < nI stp from nI_lt z (by omega)))
      conv => whnf
      refine ⟨fun hc2 => ?_, fun hc2 => ?_⟩
      · have fin := fin ((nI_leI (by omega) (by omega)).mp hc2)
        conv => whnf
        refine ⟨fun hz => ?_, fun hz => ?_⟩
        · conv => whnf
          exact fin.1 hz
        · conv => whnf
          exact fin.2 hz
      · have hlt : lo < up := Nat.not_le.mp (fun z => hc2 (nI_le z (by omega)))
        have ev : (nI lo + nI up) / 2 = nI ((lo + up) / 2) := by rw [nI_add]; exact pk_div (d := 2) (by omega) (by decide) (by decide)
        conv => whnf
        refine ⟨by decide, ?_⟩
        rw [ev]
        generalize hvv : (lo + up) / 2 = v
        have hv1 : lo ≤ v := by omega
        have hv2 : v < up := by omega
        conv => whnf
        refine ⟨r2, r3, r4, r5, hi, s, m', N, n', v, k, by rw [en], rfl, hZ, hG, hN, by omega, by omega, hv, hM', fun m2 hm2 => ?_⟩
        conv => whnf
        refine ⟨fun hb => ?_, fun hb => ?_⟩
        · have hb := bp_0.mp hb
          conv => whnf
          refine ⟨101 - (stp + 1), by omega, v + 1, up, stp + 1, m2, rfl, hv2, h2, by omega, hC, ?_, ?_, hm2, by rw [← nI_1 v, ← nI_1 stp]; rfl, rfl, rfl⟩
          · rw [eix]
            exact fun w hw hsu => hb (SU_up hG hN (by omega) (show w ≤ v by omega) (by omega) hsu)
          · rw [eix]; exact hup
        · have hb := bp_n hb
          conv => whnf
          refine ⟨101 - (stp + 1), by omega, lo, v, stp + 1, m2, rfl, hv1, by omega, by omega, hC, by rw [eix]; exact hlo, ?_, hm2, by rw [← nI_1 stp]; rfl, rfl, rfl⟩
          rw [eix]
          exact fun w hw hw2 => SU_up hG hN (by omega) hw hw2 hb
  · conv => whnf
    refine ⟨fun hc => ?_, fun hc1 => ?_⟩
    · conv => whnf
      exact kI h0 (by unfold leR; rw [if_neg (fun q => bp_0.mp hc q.1)])
    conv => whnf
    refine ⟨fun hc2 => ?_, fun hc => ?_⟩
    rotate_left
    · conv => whnf
      exact kI h0 (by unfold leR; rw [if_neg (fun q => bp_0.mp hc q.2)])
    conv => whnf
    exact ⟨101, 0, 100, 0, m, rfl, by decide, by decide, by decide, ⟨bp_n hc1, bp_n hc2⟩, lt_0, fun v h1 h2 => by omega, hM, rfl, rfl, rfl⟩
def F_X6_least : Fn := fun as w K => ∃ (s : InnS) (q : Pm) (t : Tm) (N : Nat) (k n : Int32), as = [sR 0, sI k, sI n] ∧ w = modW s q t ∧ TZ t ∧ IV s N ∧ LB s N ∧ ∀ a b t', TZ t' → K (some (.inl (leR s k n))) (modW (snS s a b) q t')
def ctb_X6_least : List (Nat × (List sv → List sc → (List sv → List sc → Prop) → Prop)) := [(6, cS none 1 F_X6_isPlate), (18, cS none 3 F_X6_in), (36, cS (some 4) 1 F_X6_think), (63, cS (some 4) 2 F_X6_lackingThen)]
theorem cok_X6_least : CallOK cX6_least 6 (some .int) RX6 7 ctb_X6_least := CallOK_cons (site_same (rnS (pX6_least_ok 6 _ rfl) ct_X6_isPlate kX6_isPlate lRX6_220 (by decide))) (CallOK_cons (site_same (rnS (pX6_least_ok 18 _ rfl) ct_X6_in kX6_in lRX6_81 (by decide))) (CallOK_cons (site_same (rnV (pX6_least_ok 36 _ rfl) ct_X6_think kX6_think lRX6_190 (by decide))) (CallOK_cons (site_same (rnV (pX6_least_ok 63 _ rfl) ct_X6_lackingThen kX6_lackingThen lRX6_241 (by decide))) (CallOK_nil))))
theorem ct_X6_least : Ct yX6_least cX6_least 6 (some .int) 7 F_X6_least := by
  intro l D σ cA sz as w K h
  obtain ⟨s, q, t, N, k, n, rfl, rfl, hT, ⟨hZ, hG, hN, hN9, hB⟩, hL, h⟩ := h
  have h0 := h (iSn s) (iLn s) (tq0 t) hT
  have hT0 : TZ (tq0 t) := hT
  refine metL (pr := lkB pX6_least) (rk := 1) (ct := ctb_X6_least) (fld := lkB flX6) (cst := lkB csX6) (cstL := lkB clX6) [(42, ([true, true, true, true, true, true], fun x lv st w => ∃ (v : Nat) (f a b : Int32) (t1 : Tm), v ≤ 100 ∧ x = 100 - v ∧ ((0 ≤ k ∧ k ≤ 9) ∧ (1 ≤ n ∧ n ≤ 20)) ∧ TZ t1 ∧ KP s t1 ∧ ((f = -4 ∧ ∀ i, i < v → ¬ SU s k (ix n) i) ∨ (0 ≤ f ∧ f = leR s k n)) ∧ lv = [some (sR 0), some (sI k), some (sI n), some (sI f), some (sI (iA s)), some (sI (nI v))] ∧ st = [] ∧ w = modW (snS s a b) q t1))] pX6_least_ok kX6_least.2.2.2.2.2.2.2 fdX6 cdX6 rto1 cok_X6_least (Nat.le_of_ble_eq_true rfl) ?_ ?_ l D σ cA sz
  · refine List.forall_mem_cons.mpr ⟨?_, cut0⟩
    rintro x lv st w ⟨v, f, a, b, t1, hv, rfl, hC, hT1, hk1, hf, rfl, rfl, rfl⟩
    obtain ⟨n', hn1, hn', en⟩ := n20 hC.2
    have eix : ix n = n' := by rw [en]; exact nI_clamp (by omega)
    have hr : leR s k n = if leN s k n' = 100 then -4 else nI (leN s k n') := by
      unfold leR
      rw [if_pos hC, eix]
    rw [eix] at hf
    have hki := plate_in hC.1
    conv => whnf
    refine ⟨fun hc => ?_, fun hc => ?_⟩
    · obtain rfl := lp_ge hv (by decide) hc
      conv => whnf
      refine kI (h a b t1 hT1) ?_
      rcases hf with ⟨e, hall⟩ | e
      · have : leN s k n' = 100 := fst_none hall
        rw [hr, this, if_pos rfl, e]
      · exact e.2.symm
    · have hlt := lp_lt hv (by decide) hc
      conv => whnf
      refine ⟨fun h1 => ?_, fun h1 => ?_⟩
      · conv => whnf
        refine kI (h a b t1 hT1) ?_
        rcases hf with ⟨e, -⟩ | e
        · rw [e] at h1; exact absurd h1 (by decide)
        · exact e.2.symm
      · have hall : ∀ i, i < v → ¬ SU s k n' i := by
          rcases hf with ⟨-, e⟩ | e
          · exact e
          · exact absurd e.1 h1
        have hsu := SU_la (k := k) (v := v) hG hN hN9 hn' hlt hL
        obtain ⟨a', b', e1⟩ := nights_sn (pbS s k (nI v)) a b n'
        have eA : iA (nightsS n' (snS (pbS s k (nI v)) a b)) = iA (nightsS n' (pbS s k (nI v))) := by rw [e1]; rfl
        repeat' ((conv => whnf); (first | refine And.intro (by first | decide | with_reducible assumption) ?_ | with_reducible refine And.intro (fun hc => ?_) (fun hc => ?_) | with_reducible refine And.intro (fun hc => ?_) ?_ | fail))
        all_goals try (conv => whnf)
        refine ⟨snS (pbS s k (nI v)) a b, s, q, t1, N, n', by rw [en], rfl, hT1, hk1, ZB_pb hZ (ix_k hki), hZ, GS_pb (k := k) hG ⟨v, hlt, rfl⟩, hN, by omega, fun a2 b2 t2 hs2 hk2 => ?_⟩
        rw [eA]
        conv => whnf
        refine ⟨fun h2 => ?_, fun h2 => ?_⟩
        · conv => whnf
          exact ⟨100 - (v + 1), by omega, v + 1, -4, a2, b2, t2, hlt, rfl, hC, hs2.tz hT1, hk2, Or.inl ⟨rfl, by rw [eix]; exact lt_s hall (fun z => h2 (hsu.mp z))⟩, by rw [← nI_1 v]; rfl, rfl, rfl⟩
        · conv => whnf
          exact ⟨100 - (v + 1), by omega, v + 1, nI v, a2, b2, t2, hlt, rfl, hC, hs2.tz hT1, hk2, Or.inr ⟨nI_pos' (by omega), by
            have : leN s k n' = v := fst_some (hsu.mpr h2) hall hlt
            rw [hr, this, if_neg (by omega)]⟩, by rw [← nI_1 v]; rfl, rfl, rfl⟩
  · conv => whnf
    refine ⟨fun hc => ?_, fun hc1 => ?_⟩
    · conv => whnf
      exact kI h0 (by unfold leR; rw [if_neg (fun q => bp_0.mp hc q.1)])
    conv => whnf
    refine ⟨fun hc2 => ?_, fun hc => ?_⟩
    rotate_left
    · conv => whnf
      have hc := bp_0.mp ((in_ii 1 n 20).symm.trans hc)
      exact kI h0 (by unfold leR; rw [if_neg (fun q => hc q.2)])
    conv => whnf
    refine ⟨s, q, tq0 t, rfl, rfl, fun t1 hs1 hk1 => ?_⟩
    conv => whnf
    exact ⟨100, 0, -4, iSn s, iLn s, t1, by decide, rfl, ⟨bp_n hc1, bp_n (fun z => hc2 ((in_ii 1 n 20).trans z))⟩, hs1.tz hT0, hk1, Or.inl ⟨rfl, lt_0⟩, rfl, rfl, rfl⟩
end
section
/-! ===== send ===== -/
abbrev thS (s : InnS) (x : Int32) : InnS := (iK s, iF s, iW s, iL s, iH s, iP s, iG s, x, iN s, iS s, iA s, iSn s, iLn s)
theorem nights_G (s : InnS) : ∀ n, iG (nightsS n s) = iG s
  | 0 => rfl
  | n + 1 => (night_keep (s := nightsS n s) (mare := 0) (sil := 0)).2.1.trans (nights_G s n)
def mkB (g : Int32) : Int32 := jshl 1 g ^^^ (-1)
noncomputable def hbV (s : InnS) (x who : Int32) (n G : Nat) : Int32 := hsF (iH (nightsS n (thS s x))) (who &&& iT (nightsS n (thS s x))) G
noncomputable def seA (s : InnS) (n G g : Nat) : Int32 := hbV s (iT s) (iT s &&& mkB (nI g)) n G
noncomputable def seB (s : InnS) (n G g : Nat) : Int32 := hbV s (iT s &&& mkB (nI g)) (iT s &&& mkB (nI g)) n G
noncomputable def seF (s : InnS) (n G : Nat) : Nat → Int32 × Int32
  | 0 => (-4, -1)
  | g + 1 => @ite _ (tb (iT s) (nI g) ∧ seA s n G g < seB s n G g ∧ (seF s n G g).2 < seB s n G g) (Classical.propDecidable _) (nI g, seB s n G g) (seF s n G g)
noncomputable def seR (s : InnS) (n : Int32) : Int32 := if 0 ≤ n ∧ n ≤ 60 then (seF s (ix n) (ix (iG s)) (ix (iG s))).1 else -1
def F_X5_healthThen : Fn := fun as w K => ∃ (r2 r3 r4 r5 : sv) (hi : Int32) (s m : InnS) (N n G : Nat) (who x : Int32), as = [sR 0, sI who, sI x, sI (nI n)] ∧ w = x2W r2 r3 r4 r5 hi s m ∧ ZB s ∧ GS s ∧ iG s = nI G ∧ G < 8 ∧ iN s = nI N ∧ N + n < 90000 ∧ ZB m ∧ ∀ m', ZB m' → K (some (.inl (hbV s x who n G))) (x2W r2 r3 r4 r5 hi s m')
def ctb_X5_healthThen : List (Nat × (List sv → List sc → (List sv → List sc → Prop) → Prop)) := [(1, cS (some 3) 1 F_X5_inMind), (15, cG [8, 9, 10, 11, 12, 13, 14] (some 0) 2 F_X0_pass), (27, cG [8, 9, 10, 11, 12, 13, 14] (some 0) 2 F_X0_healthOf)]
theorem cok_X5_healthThen : CallOK cX5_healthThen 5 (some .int) RX5 6 ctb_X5_healthThen := CallOK_cons (site_same (rnV (pX5_healthThen_ok 1 _ rfl) ct_X5_inMind kX5_inMind lRX5_58 (by decide))) (CallOK_cons (site_gen [8, 9, 10, 11, 12, 13, 14] (by decide) (rnV (pX5_healthThen_ok 15 _ rfl) ct_X0_pass kX0_pass lRX5_136 (by decide))) (CallOK_cons (site_gen [8, 9, 10, 11, 12, 13, 14] (by decide) (rnV (pX5_healthThen_ok 27 _ rfl) ct_X0_healthOf kX0_healthOf lRX5_186 (by decide))) (CallOK_nil)))
theorem ct_X5_healthThen : Ct yX5_healthThen cX5_healthThen 5 (some .int) 6 F_X5_healthThen := by
  intro l D σ cA sz as w K h
  obtain ⟨r2, r3, r4, r5, hi, s, m, N, n, G, who, x, rfl, rfl, hZ, hG, hGG, hG8, hN, hN2, hM, h⟩ := h
  have hgt : GS (thS s x) := hG
  have hzt : ZB (thS s x) := hZ
  have hz := ZB_nights hzt hgt (show iN (thS s x) = nI N from hN) n (by omega)
  refine metL (pr := lkB pX5_healthThen) (rk := 1) (ct := ctb_X5_healthThen) (fld := lkB flX5) (cst := lkB csX5) (cstL := lkB clX5) [] pX5_healthThen_ok kX5_healthThen.2.2.2.2.2.2.2 fdX5 cdX5 rto1 cok_X5_healthThen (Nat.le_of_ble_eq_true rfl) cut0 ?_ l D σ cA sz
  conv => whnf
  refine ⟨r2, r3, r4, r5, hi, s, m, rfl, rfl, hZ, hM, ?_⟩
  conv => whnf
  refine ⟨thS s x, n, N, rfl, rfl, hgt, hN, hN2, ?_⟩
  conv => whnf
  refine ⟨nightsS n (thS s x), _, G, rfl, rfl, (nights_G (thS s x) n).trans hGG, hG8, ?_⟩
  conv => whnf
  exact h _ hz
theorem tb_mk {x y : Int32} {g o : Nat} (hg : g < 32) (ho : o < 32) : tb ((x &&& mkB (nI g)) &&& y) (nI o) ↔ (¬ o = g ∧ tb (x &&& y) (nI o)) := by
  rw [tb_bt _ ho, tb_bt _ ho, b_and, b_and, b_and, mkB, b_xor, bt_one hg ho, b_m1 o ho]
  by_cases e : g = o
  · subst e; simp
  · have e' : ¬ o = g := fun z => e z.symm
    simp [e, e']
theorem and_mk (x m : Int32) : (x &&& m) &&& m = x &&& m := by
  apply b_ext
  intro i _
  rw [b_and, b_and]
  cases bt x i <;> cases bt m i <;> rfl
def F_X6_healthBut : Fn := fun as w K => ∃ (s s0 : InnS) (q : Pm) (t : Tm) (N n G g : Nat), as = [sR 0, sI (nI g), sI (nI n)] ∧ w = modW s q t ∧ TZ t ∧ KP s0 t ∧ ZB s ∧ ZB s0 ∧ GS s ∧ iG s = nI G ∧ G < 8 ∧ g < 7 ∧ iN s = nI N ∧ N + n < 90000 ∧ ∀ a b t', SK t t' → KP s0 t' → K (some (.inl (hsF (iH (nightsS n s)) ((iT s &&& mkB (nI g)) &&& iT (nightsS n s)) G))) (modW (snS s0 a b) q t')
def ctb_X6_healthBut : List (Nat × (List sv → List sc → (List sv → List sc → Prop) → Prop)) := [(7, cS (some 4) 2 F_X6_goNights), (41, cS none 2 F_X6_hasBit), (68, cS (some 4) 1 F_X6_again)]
theorem cok_X6_healthBut : CallOK cX6_healthBut 6 (some .int) RX6 6 ctb_X6_healthBut := CallOK_cons (site_same (rnV (pX6_healthBut_ok 7 _ rfl) ct_X6_goNights kX6_goNights lRX6_168 (by decide))) (CallOK_cons (site_same (rnS (pX6_healthBut_ok 41 _ rfl) ct_X6_hasBit kX6_hasBit lRX6_105 (by decide))) (CallOK_cons (site_same (rnV (pX6_healthBut_ok 68 _ rfl) ct_X6_again kX6_again lRX6_196 (by decide))) (CallOK_nil)))
theorem ct_X6_healthBut : Ct yX6_healthBut cX6_healthBut 6 (some .int) 6 F_X6_healthBut := by
  intro l D σ cA sz as w K h
  obtain ⟨s, s0, q, t, N, n, G, g, rfl, rfl, hT, hk, hZ, hZ0, hGS, hG, hG8, hg, hN, hN2, h⟩ := h
  have hz := ZB_nights hZ hGS hN n (by omega)
  have hGu : iG (nightsS n s) = nI G := (nights_G s n).trans hG
  generalize hu : nightsS n s = u at h hz hGu
  refine metL (pr := lkB pX6_healthBut) (rk := 1) (ct := ctb_X6_healthBut) (fld := lkB flX6) (cst := lkB csX6) (cstL := lkB clX6) [(16, ([true, true, true, true, true, true], fun x lv st w => ∃ j, j ≤ G ∧ x = G - j ∧ lv = [some (sR 0), some (sI (nI g)), some (sI (nI n)), some (sI (iT s)), some (sI (hsF (iH u) ((iT s &&& mkB (nI g)) &&& iT u) j)), some (sI (nI j))] ∧ st = [] ∧ w = modW u q t))] pX6_healthBut_ok kX6_healthBut.2.2.2.2.2.2.2 fdX6 cdX6 rto1 cok_X6_healthBut (Nat.le_of_ble_eq_true rfl) ?_ ?_ l D σ cA sz
  · refine List.forall_mem_cons.mpr ⟨?_, cut0⟩
    rintro x lv st w ⟨j, hj, rfl, rfl, rfl, rfl⟩
    conv => whnf
    refine ⟨fun hc => ?_, fun hc => ?_⟩
    · rw [hGu] at hc
      obtain rfl := lp_ge hj (by omega) hc
      conv => whnf
      refine ⟨u, s0, q, t, rfl, rfl, hk, hz, hZ0, fun t2 hs2 hk2 => ?_⟩
      conv => whnf
      exact h (iSn u) (iLn u) t2 hs2 hk2
    · rw [hGu] at hc
      have hlt := lp_lt hj (by omega) hc
      have hv : vp_in (nI j) 7 := vp_in_nI (by omega) (by decide)
      have hm := tb_mk (x := iT s) (y := iT u) (g := g) (o := j) (by omega) (by omega)
      conv => whnf
      refine ⟨fun h1 => ?_, fun h1 => ?_⟩
      · have h1 := (nI_eq (by omega) (by omega)).mp h1
        conv => whnf
        exact ⟨G - (j + 1), by omega, j + 1, hlt, rfl, by rw [← nI_1 j, hsF, if_neg (fun z => (hm.mp z).1 h1)]; rfl, rfl, rfl⟩
      · have h1 : ¬ j = g := fun z => h1 (by rw [z])
        conv => whnf
        refine ⟨fun h2 => ?_, fun h2 => ?_⟩
        · conv => whnf
          exact ⟨G - (j + 1), by omega, j + 1, hlt, rfl, by rw [← nI_1 j, hsF, if_neg (fun z => bp_0.mp h2 (hm.mp z).2)]; rfl, rfl, rfl⟩
        · skip
          repeat' ((conv => whnf); (first | refine And.intro (by first | decide | with_reducible assumption) ?_ | with_reducible refine And.intro (fun hc => ?_) (fun hc => ?_) | with_reducible refine And.intro (fun hc => ?_) ?_ | fail))
          all_goals try (conv => whnf)
          exact ⟨G - (j + 1), by omega, j + 1, hlt, rfl, by rw [← nI_1 j, hsF, if_pos (hm.mpr ⟨h1, bp_n h2⟩), nI_clamp (n := j) (by omega)]; rfl, rfl, rfl⟩
  · conv => whnf
    refine ⟨s, q, t, n, N, rfl, rfl, hT, hGS, hN, hN2, ?_⟩
    rw [hu]
    conv => whnf
    exact ⟨G, 0, Nat.zero_le _, rfl, rfl, rfl, rfl⟩
def F_X5_send : Fn := fun as w K => ∃ (r2 r3 r4 r5 : sv) (hi : Int32) (s m : InnS) (N : Nat) (n : Int32), as = [sR 0, sI n] ∧ w = x2W r2 r3 r4 r5 hi s m ∧ IV s N ∧ ZB m ∧ ∀ m', ZB m' → K (some (.inl (seR s n))) (x2W r2 r3 r4 r5 hi s m')
def ctb_X5_send : List (Nat × (List sv → List sc → (List sv → List sc → Prop) → Prop)) := [(1, cS none 1 F_X5_isWhile), (35, cG [1, 2, 3, 4, 5, 6, 7] (some 0) 2 F_X0_isThere), (63, cS (some 3) 4 F_X5_healthThen), (87, cS (some 3) 4 F_X5_healthThen)]
theorem cok_X5_send : CallOK cX5_send 7 (some .int) RX5 7 ctb_X5_send := CallOK_cons (site_same (rnS (pX5_send_ok 1 _ rfl) ct_X5_isWhile kX5_isWhile lRX5_148 (by decide))) (CallOK_cons (site_gen [1, 2, 3, 4, 5, 6, 7] (by decide) (rnV (pX5_send_ok 35 _ rfl) ct_X0_isThere kX0_isThere lRX5_98 (by decide))) (CallOK_cons (site_same (rnV (pX5_send_ok 63 _ rfl) ct_X5_healthThen kX5_healthThen lRX5_183 (by decide))) (CallOK_cons (site_same (rnV (pX5_send_ok 87 _ rfl) ct_X5_healthThen kX5_healthThen lRX5_183 (by decide))) (CallOK_nil))))
theorem ct_X5_send : Ct yX5_send cX5_send 7 (some .int) 7 F_X5_send := by
  intro l D σ cA sz as w K h
  obtain ⟨r2, r3, r4, r5, hi, s, m, N, n, rfl, rfl, ⟨hZ, hG, hN, hN9, hB⟩, hM, h⟩ := h
  have h0 := h m hM
  obtain ⟨G, hG7, hGG⟩ := hG.2.1
  have eG : ix (iG s) = G := by rw [hGG]; exact nI_clamp (by omega)
  refine metL (pr := lkB pX5_send) (rk := 1) (ct := ctb_X5_send) (fld := lkB flX5) (cst := lkB csX5) (cstL := lkB clX5) [(17, ([true, true, true, true, true, false, false], fun x lv st w => ∃ (g : Nat) (m' : InnS), g ≤ G ∧ x = G - g ∧ (0 ≤ n ∧ n ≤ 60) ∧ ZB m' ∧ lv = [some (sR 0), some (sI n), some (sI (seF s (ix n) G g).2), some (sI (seF s (ix n) G g).1), some (sI (nI g)), none, none] ∧ st = [] ∧ w = x2W r2 r3 r4 r5 hi s m'))] pX5_send_ok kX5_send.2.2.2.2.2.2.2 fdX5 cdX5 rto1 cok_X5_send (Nat.le_of_ble_eq_true rfl) ?_ ?_ l D σ cA sz
  · refine List.forall_mem_cons.mpr ⟨?_, cut0⟩
    rintro x lv st w ⟨g, m', hg, rfl, hC, hM', rfl, rfl, rfl⟩
    obtain ⟨n', hn', en⟩ := in_rng (n := 60) (by decide) hC
    have eix : ix n = n' := by rw [en]; exact nI_clamp (by omega)
    have hr : seR s n = (seF s n' G G).1 := by
      unfold seR
      rw [if_pos hC, eix, eG]
    rw [eix]
    conv => whnf
    refine ⟨fun hc => ?_, fun hc => ?_⟩
    · rw [hGG] at hc
      obtain rfl := lp_ge hg (by omega) hc
      conv => whnf
      exact kI (h _ hM') hr
    · rw [hGG] at hc
      have hlt := lp_lt hg (by omega) hc
      have neg : ∀ m2, ZB m2 → ¬ (tb (iT s) (nI g) ∧ seA s n' G g < seB s n' G g ∧ (seF s n' G g).2 < seB s n' G g) → ∃ n_1, n_1 < G - g ∧ ∃ (g_1 : Nat) (m' : InnS), g_1 ≤ G ∧ n_1 = G - g_1 ∧ (0 ≤ n ∧ n ≤ 60) ∧ ZB m' ∧ [some (sR 0), some (sI n), some (sI (seF s n' G g).2), some (sI (seF s n' G g).1), some (sI (nI g + 1)), none, none] = [some (sR 0), some (sI n), some (sI (seF s n' G g_1).2), some (sI (seF s n' G g_1).1), some (sI (nI g_1)), none, none] ∧ ([] : List sv) = [] ∧ x2W r2 r3 r4 r5 hi s m2 = x2W r2 r3 r4 r5 hi s m' :=
        fun m2 hm2 hneg => ⟨G - (g + 1), by omega, g + 1, m2, hlt, rfl, hC, hm2, by rw [nI_1, seF, if_neg hneg], rfl, rfl⟩
      conv => whnf
      refine ⟨s, nI g, rfl, rfl, ?_⟩
      conv => whnf
      refine ⟨fun hb => ?_, fun hb => ?_⟩
      · have hb := bp_0.mp hb
        conv => whnf
        exact neg m' hM' (fun z => hb z.1)
      · have hb := bp_n hb
        conv => whnf
        refine ⟨r2, r3, r4, r5, hi, s, m', N, n', G, iT s &&& mkB (nI g), iT s &&& mkB (nI g), by rw [en]; rfl, rfl, hZ, hG, hGG, hG7, hN, by omega, hM', fun m2 hm2 => ?_⟩
        conv => whnf
        refine ⟨fun h1 => ?_, fun h1 => ?_⟩
        · conv => whnf
          exact neg m2 hm2 (fun z => absurd z.2.2 (Int32.not_lt.mpr h1))
        · conv => whnf
          refine ⟨r2, r3, r4, r5, hi, s, m2, N, n', G, iT s &&& mkB (nI g), iT s, by rw [en]; rfl, rfl, hZ, hG, hGG, hG7, hN, by omega, hm2, fun m3 hm3 => ?_⟩
          conv => whnf
          refine ⟨fun h2 => ?_, fun h2 => ?_⟩
          · conv => whnf
            exact neg m3 hm3 (fun z => absurd z.2.1 (Int32.not_lt.mpr h2))
          · conv => whnf
            exact ⟨G - (g + 1), by omega, g + 1, m3, hlt, rfl, hC, hm3, by rw [← nI_1, seF, if_pos ⟨hb, Int32.not_le.mp h2, Int32.not_le.mp h1⟩]; rfl, rfl, rfl⟩
  · conv => whnf
    refine ⟨fun hc1 => ?_, fun hc => ?_⟩
    rotate_left
    · conv => whnf
      exact kI h0 (by unfold seR; rw [if_neg (bp_0.mp hc)])
    conv => whnf
    exact ⟨G, 0, m, Nat.zero_le _, rfl, bp_n hc1, hM, rfl, rfl, rfl⟩
def F_X6_send : Fn := fun as w K => ∃ (s : InnS) (q : Pm) (t : Tm) (N : Nat) (n : Int32), as = [sR 0, sI n] ∧ w = modW s q t ∧ TZ t ∧ IV s N ∧ ∀ a b t', TZ t' → K (some (.inl (seR s n))) (modW (snS s a b) q t')
theorem hb_sn (s : InnS) (a b : Int32) (n G : Nat) (who : Int32) : hsF (iH (nightsS n (snS s a b))) (who &&& iT (nightsS n (snS s a b))) G = hsF (iH (nightsS n s)) (who &&& iT (nightsS n s)) G := by
  obtain ⟨a', b', e⟩ := nights_sn s a b n
  rw [e]
  rfl
def ctb_X6_send : List (Nat × (List sv → List sc → (List sv → List sc → Prop) → Prop)) := [(11, cS none 3 F_X6_in), (25, cS (some 4) 1 F_X6_think), (46, cS none 2 F_X6_hasBit), (56, cS (some 4) 3 F_X6_healthBut), (80, cS (some 4) 3 F_X6_healthBut)]
theorem cok_X6_send : CallOK cX6_send 7 (some .int) RX6 7 ctb_X6_send := CallOK_cons (site_same (rnS (pX6_send_ok 11 _ rfl) ct_X6_in kX6_in lRX6_81 (by decide))) (CallOK_cons (site_same (rnV (pX6_send_ok 25 _ rfl) ct_X6_think kX6_think lRX6_190 (by decide))) (CallOK_cons (site_same (rnS (pX6_send_ok 46 _ rfl) ct_X6_hasBit kX6_hasBit lRX6_105 (by decide))) (CallOK_cons (site_same (rnV (pX6_send_ok 56 _ rfl) ct_X6_healthBut kX6_healthBut lRX6_246 (by decide))) (CallOK_cons (site_same (rnV (pX6_send_ok 80 _ rfl) ct_X6_healthBut kX6_healthBut lRX6_246 (by decide))) (CallOK_nil)))))
theorem ct_X6_send : Ct yX6_send cX6_send 7 (some .int) 7 F_X6_send := by
  intro l D σ cA sz as w K h
  obtain ⟨s, q, t, N, n, rfl, rfl, hT, ⟨hZ, hG, hN, hN9, hB⟩, h⟩ := h
  have h0 := h (iSn s) (iLn s) (tq0 t) hT
  have hT0 : TZ (tq0 t) := hT
  obtain ⟨G, hG7, hGG⟩ := hG.2.1
  have eG : ix (iG s) = G := by rw [hGG]; exact nI_clamp (by omega)
  refine metL (pr := lkB pX6_send) (rk := 1) (ct := ctb_X6_send) (fld := lkB flX6) (cst := lkB csX6) (cstL := lkB clX6) [(31, ([true, true, true, true, true, false, false], fun x lv st w => ∃ (g : Nat) (a b : Int32) (t1 : Tm), g ≤ G ∧ x = G - g ∧ (0 ≤ n ∧ n ≤ 60) ∧ TZ t1 ∧ KP s t1 ∧ lv = [some (sR 0), some (sI n), some (sI (seF s (ix n) G g).1), some (sI (seF s (ix n) G g).2), some (sI (nI g)), none, none] ∧ st = [] ∧ w = modW (snS s a b) q t1))] pX6_send_ok kX6_send.2.2.2.2.2.2.2 fdX6 cdX6 rto1 cok_X6_send (Nat.le_of_ble_eq_true rfl) ?_ ?_ l D σ cA sz
  · refine List.forall_mem_cons.mpr ⟨?_, cut0⟩
    rintro x lv st w ⟨g, a, b, t1, hg, rfl, hC, hT1, hk1, rfl, rfl, rfl⟩
    obtain ⟨n', hn', en⟩ := in_rng (n := 60) (by decide) hC
    have eix : ix n = n' := by rw [en]; exact nI_clamp (by omega)
    have hr : seR s n = (seF s n' G G).1 := by
      unfold seR
      rw [if_pos hC, eix, eG]
    rw [eix]
    conv => whnf
    refine ⟨fun hc => ?_, fun hc => ?_⟩
    · rw [show iG (snS s a b) = nI G from hGG] at hc
      obtain rfl := lp_ge hg (by omega) hc
      conv => whnf
      exact kI (h a b t1 hT1) hr
    · rw [show iG (snS s a b) = nI G from hGG] at hc
      have hlt := lp_lt hg (by omega) hc
      have fin : ∀ (a2 b2 : Int32) (t2 : Tm), TZ t2 → KP s t2 → ∀ y z : Int32, y = (seF s n' G (g + 1)).1 → z = (seF s n' G (g + 1)).2 → ∃ n_1, n_1 < G - g ∧ ∃ (g_1 : Nat) (a b : Int32) (t1 : Tm), g_1 ≤ G ∧ n_1 = G - g_1 ∧ (0 ≤ n ∧ n ≤ 60) ∧ TZ t1 ∧ KP s t1 ∧ [some (sR 0), some (sI n), some (sI y), some (sI z), some (sI (nI g + 1)), none, none] = [some (sR 0), some (sI n), some (sI (seF s n' G g_1).1), some (sI (seF s n' G g_1).2), some (sI (nI g_1)), none, none] ∧ ([] : List sv) = [] ∧ modW (snS s a2 b2) q t2 = modW (snS s a b) q t1 :=
        fun a2 b2 t2 hT2 hk2 y z hy hz => ⟨G - (g + 1), by omega, g + 1, a2, b2, t2, hlt, rfl, hC, hT2, hk2, by rw [nI_1, hy, hz], rfl, rfl⟩
      have hF : seF s n' G (g + 1) = @ite _ (tb (iT s) (nI g) ∧ seA s n' G g < seB s n' G g ∧ (seF s n' G g).2 < seB s n' G g) (Classical.propDecidable _) (nI g, seB s n' G g) (seF s n' G g) := rfl
      conv => whnf
      refine ⟨fun hb => ?_, fun hb => ?_⟩
      · have hb : ¬ tb (iT s) (nI g) := bp_0.mp hb
        rw [if_neg (fun z => hb z.1)] at hF
        conv => whnf
        exact fin a b t1 hT1 hk1 _ _ (by rw [hF]) (by rw [hF])
      · have hb : tb (iT s) (nI g) := bp_n hb
        conv => whnf
        refine ⟨snS s a b, s, q, t1, N, n', G, g, by rw [en], rfl, hT1, hk1, hZ, hZ, hG, hGG, hG7, by omega, hN, by omega, fun a2 b2 t2 hs2 hk2 => ?_⟩
        rw [hb_sn]
        have eA : hsF (iH (nightsS n' s)) ((iT (snS s a b) &&& mkB (nI g)) &&& iT (nightsS n' s)) G = seA s n' G g := rfl
        rw [eA]
        have hT2 := hs2.tz hT1
        repeat' ((conv => whnf); (first | refine And.intro (by first | decide | with_reducible assumption) ?_ | with_reducible refine And.intro (fun hc => ?_) (fun hc => ?_) | with_reducible refine And.intro (fun hc => ?_) ?_ | fail))
        all_goals try (conv => whnf)
        refine ⟨snS (thS s (iT s &&& mkB (nI g))) a2 b2, s, q, t2, N, n', G, g, by rw [en], rfl, hT2, hk2, hZ, hZ, hG, hGG, hG7, by omega, hN, by omega, fun a3 b3 t3 hs3 hk3 => ?_⟩
        rw [hb_sn]
        have eB : hsF (iH (nightsS n' (thS s (iT s &&& mkB (nI g))))) ((iT (snS (thS s (iT s &&& mkB (nI g))) a2 b2) &&& mkB (nI g)) &&& iT (nightsS n' (thS s (iT s &&& mkB (nI g))))) G = seB s n' G g := by
          show hsF _ (((iT s &&& mkB (nI g)) &&& mkB (nI g)) &&& _) G = _
          rw [and_mk]
          rfl
        rw [eB]
        have hT3 := hs3.tz hT2
        have fin := fin a3 b3 t3 hT3 hk3
        by_cases p1 : seB s n' G g ≤ seA s n' G g
        · rw [if_neg (fun z => absurd z.2.1 (Int32.not_lt.mpr p1))] at hF
          conv => whnf
          refine ⟨fun _ => ?_, fun z => absurd p1 z⟩
          conv => whnf
          refine ⟨fun _ => ?_, fun z => absurd p1 z⟩
          conv => whnf
          exact fin _ _ (by rw [hF]) (by rw [hF])
        · by_cases p2 : seB s n' G g ≤ (seF s n' G g).2
          · rw [if_neg (fun z => absurd z.2.2 (Int32.not_lt.mpr p2))] at hF
            conv => whnf
            refine ⟨fun z => absurd z p1, fun _ => ?_⟩
            conv => whnf
            refine ⟨fun _ => ?_, fun z => absurd p2 z⟩
            conv => whnf
            refine ⟨fun z => absurd z p1, fun _ => ?_⟩
            conv => whnf
            refine ⟨fun _ => ?_, fun z => absurd p2 z⟩
            conv => whnf
            exact fin _ _ (by rw [hF]) (by rw [hF])
          · rw [if_pos ⟨hb, Int32.not_le.mp p1, Int32.not_le.mp p2⟩] at hF
            conv => whnf
            refine ⟨fun z => absurd z p1, fun _ => ?_⟩
            conv => whnf
            refine ⟨fun z => absurd z p2, fun _ => ?_⟩
            conv => whnf
            refine ⟨fun z => absurd z p1, fun _ => ?_⟩
            conv => whnf
            refine ⟨fun z => absurd z p2, fun _ => ?_⟩
            conv => whnf
            exact fin _ _ (by rw [hF]) (by rw [hF])
  · conv => whnf
    refine ⟨fun hc1 => ?_, fun hc => ?_⟩
    rotate_left
    · conv => whnf
      have hc := bp_0.mp ((in_ii 0 n 60).symm.trans hc)
      exact kI h0 (by unfold seR; rw [if_neg hc])
    conv => whnf
    refine ⟨s, q, tq0 t, rfl, rfl, fun t1 hs1 hk1 => ?_⟩
    conv => whnf
    exact ⟨G, 0, iSn s, iLn s, t1, Nat.zero_le _, rfl, bp_n (fun z => hc1 ((in_ii 0 n 60).trans z)), hs1.tz hT0, hk1, rfl, rfl, rfl⟩
end
section
/-! ===== seats: who can sit ===== -/
def UL (d : Nat → Int32) (l g : Nat) : Prop := l = 7 ∨ d g = -4 ∨ ¬ d g = d l
def rmB (x : Int32) (g : Nat) : Int32 := x &&& mkB (nI g)
def cn (d : Nat → Int32) : Nat → Int32 → Nat → Prop
  | 0, x, _ => x = 0
  | f + 1, x, l => x = 0 ∨ ∃ g, g < 7 ∧ tb x (nI g) ∧ UL d l g ∧ cn d f (rmB x g) g
def CN (d : Nat → Int32) (x : Int32) (l : Nat) : Prop := cn d 7 x l
def pc (x : Int32) : Nat := popc (ix x)
theorem pc_rm0 : ∀ a : Fin 128, ∀ g : Fin 7, (jshr (nI a.val) (nI g.val) &&& 1) = 0 ∨ popc (ix (nI a.val &&& (jshl 1 (nI g.val) ^^^ (-1)))) + 1 = popc a.val := by decide +kernel
theorem rng_rm {x : Int32} {g : Nat} (h : rng 128 x) : rng 128 (rmB x g) := rng_and h _
theorem pc_rm {x : Int32} {g : Nat} (h : rng 128 x) (hg : g < 7) (hb : tb x (nI g)) : pc (rmB x g) + 1 = pc x := by
  obtain ⟨a, ha, rfl⟩ := h
  have := (pc_rm0 ⟨a, ha⟩ ⟨g, hg⟩).resolve_left hb
  unfold pc rmB mkB
  rw [this, show ix (nI a) = a from nI_clamp (by omega)]
theorem pc_0 {x : Int32} (h : rng 128 x) (h0 : pc x = 0) : x = 0 := by
  obtain ⟨a, ha, rfl⟩ := h
  unfold pc at h0
  rw [show ix (nI a) = a from nI_clamp (by omega)] at h0
  have : a = 0 := (by decide +kernel : ∀ a : Fin 128, popc a.val = 0 → a.val = 0) ⟨a, ha⟩ h0
  rw [this]; rfl
theorem pc_z : pc 0 = 0 := by decide
theorem pc_7 {x : Int32} (h : rng 128 x) : pc x ≤ 7 := by
  obtain ⟨a, ha, rfl⟩ := h
  unfold pc
  rw [show ix (nI a) = a from nI_clamp (by omega)]
  exact (by decide +kernel : ∀ a : Fin 128, popc a.val ≤ 7) ⟨a, ha⟩
theorem cn_st (d : Nat → Int32) : ∀ (f : Nat) (x : Int32) (l : Nat), rng 128 x → pc x ≤ f → (cn d f x l ↔ cn d (f + 1) x l)
  | 0, x, l, hx, hp => by
    have := pc_0 hx (by omega)
    exact ⟨fun _ => Or.inl this, fun _ => this⟩
  | f + 1, x, l, hx, hp => by
    have key : ∀ g, g < 7 → tb x (nI g) → (cn d f (rmB x g) g ↔ cn d (f + 1) (rmB x g) g) := fun g hg hb => cn_st d f _ _ (rng_rm hx) (by have := pc_rm hx hg hb; omega)
    constructor
    · rintro (h | ⟨g, hg, hb, hu, h⟩)
      · exact Or.inl h
      · exact Or.inr ⟨g, hg, hb, hu, (key g hg hb).mp h⟩
    · rintro (h | ⟨g, hg, hb, hu, h⟩)
      · exact Or.inl h
      · exact Or.inr ⟨g, hg, hb, hu, (key g hg hb).mpr h⟩
theorem CN_un {d : Nat → Int32} {x : Int32} {l : Nat} (hx : rng 128 x) : CN d x l ↔ (x = 0 ∨ ∃ g, g < 7 ∧ tb x (nI g) ∧ UL d l g ∧ CN d (rmB x g) g) := by
  have key : ∀ g, g < 7 → tb x (nI g) → (cn d 6 (rmB x g) g ↔ cn d 7 (rmB x g) g) := fun g hg hb => cn_st d 6 _ _ (rng_rm hx) (by have := pc_rm hx hg hb; have := pc_7 hx; omega)
  constructor
  · rintro (h | ⟨g, hg, hb, hu, h⟩)
    · exact Or.inl h
    · exact Or.inr ⟨g, hg, hb, hu, (key g hg hb).mp h⟩
  · rintro (h | ⟨g, hg, hb, hu, h⟩)
    · exact Or.inl h
    · exact Or.inr ⟨g, hg, hb, hu, (key g hg hb).mpr h⟩
/-- who may sit next -/
def MY (d : Nat → Int32) (x : Int32) (l g : Nat) : Prop := tb x (nI g) ∧ UL d l g ∧ CN d (rmB x g) g
noncomputable def gn (d : Nat → Int32) (x : Int32) (l : Nat) : Nat := fst (MY d x l) 7
noncomputable def sq (d : Nat → Int32) : Int32 → Nat → Nat → Nat
  | x, l, 0 => gn d x l
  | x, l, j + 1 => sq d (rmB x (gn d x l)) (gn d x l) j
noncomputable def stR (s : InnS) (i : Int32) : Int32 := @ite _ (i < 0) (Classical.propDecidable _) (-1) (@ite _ (CN (fun g => ndS s (nI g)) (iT s) 7 ∧ i < pop (iT s)) (Classical.propDecidable _) (nI (sq (fun g => ndS s (nI g)) (iT s) 7 (ix i))) (-4))
def stW (dr od : PA) : List sc := [oC 1 [sR 1, sR 2], aI 7 dr, aI 7 od]
def F_X2_fits : Fn := fun as w K => ∃ (dr od : PA) (at_ l g : Nat), as = [sR 0, sI (nI at_), sI (nI g)] ∧ w = stW dr od ∧ at_ < 7 ∧ g < 7 ∧ ((at_ = 0 ∧ l = 7) ∨ (0 < at_ ∧ l < 7 ∧ od (at_ - 1) = nI l)) ∧ K (some (.inl (bp (UL dr l g)))) w
def ctb_X2_fits : List (Nat × (List sv → List sc → (List sv → List sc → Prop) → Prop)) := []
theorem cok_X2_fits : CallOK cX2_fits 3 (some .boolean) RX2 1 ctb_X2_fits := CallOK_nil
theorem ct_X2_fits : Ct yX2_fits cX2_fits 3 (some .boolean) 1 F_X2_fits := by
  intro l D σ cA sz as w K h
  obtain ⟨dr, od, at_, l', g, rfl, rfl, ha, hg, hl, h⟩ := h
  have hvg : vp_in (nI g) 7 := vp_in_nI hg (by decide)
  have eg : (nI g).toNatClampNeg = g := nI_clamp (by omega)
  refine metL (pr := lkB pX2_fits) (rk := 2) (ct := ctb_X2_fits) (fld := lkB flX2) (cst := lkB csX2) (cstL := lkB clX2) [] pX2_fits_ok kX2_fits.2.2.2.2.2.2.2 fdX2 cdX2 rto2 cok_X2_fits (Nat.le_of_ble_eq_true rfl) cut0 ?_ l D σ cA sz
  conv => whnf
  refine ⟨fun hc => ?_, fun hc => ?_⟩
  · have h0 : at_ = 0 := (nI_eq (by omega) (by decide)).mp (show nI at_ = nI 0 from hc)
    conv => whnf
    exact kB h (Or.inl (hl.resolve_right (fun z => by omega)).2)
  · have h0 : ¬ at_ = 0 := fun z => hc (by rw [z]; rfl)
    obtain ⟨hp, hl7, hod⟩ := hl.resolve_left (fun z => h0 z.1)
    conv => whnf
    refine ⟨hvg, ?_⟩
    rw [eg]
    conv => whnf
    refine ⟨fun h4 => ?_, fun h4 => ?_⟩
    · conv => whnf
      exact kB h (Or.inr (Or.inl h4))
    · have e1 : nI at_ - 1 = nI (at_ - 1) := by
        obtain ⟨b, rfl⟩ : ∃ b, at_ = b + 1 := ⟨at_ - 1, by omega⟩
        rw [nI_pred]; rfl
      have e2 : (nI (at_ - 1)).toNatClampNeg = at_ - 1 := nI_clamp (by omega)
      conv => whnf
      refine ⟨hvg, ?_⟩
      rw [eg]
      conv => whnf
      rw [e1]
      refine ⟨vp_in_nI (by omega) (by decide), ?_⟩
      rw [e2, hod]
      conv => whnf
      refine ⟨vp_in_nI hl7 (by decide), ?_⟩
      rw [show (nI l').toNatClampNeg = l' from nI_clamp (by omega)]
      conv => whnf
      refine ⟨fun h5 => ?_, fun h5 => ?_⟩
      · conv => whnf
        exact kB0 h (fun z => by rcases z with z | z | z
                                 · omega
                                 · exact h4 z
                                 · exact z h5)
      · conv => whnf
        exact kB h (Or.inr (Or.inr h5))
def F_sr (n : Nat) : Fn := fun as w K => ∃ (d dr od : PA) (at_ l : Nat) (x : Int32), as = [sR 0, sI (nI at_), sI x] ∧ w = stW dr od ∧ rng 128 x ∧ pc x < n ∧ at_ + pc x ≤ 7 ∧ ((at_ = 0 ∧ l = 7) ∨ (0 < at_ ∧ l < 7 ∧ od (at_ - 1) = nI l)) ∧ (∀ g, g < 7 → tb x (nI g) → dr g = d g) ∧ (l < 7 → dr l = d l) ∧
  ∀ od', (∀ i, i < at_ → od' i = od i) → (CN d x l → ∀ j, j < pc x → od' (at_ + j) = nI (sq d x l j)) → K (some (.inl (bp (CN d x l)))) (stW dr od')
def ctb_sr (n : Nat) : List (Nat × (List sv → List sc → (List sv → List sc → Prop) → Prop)) := [(39, cS (some 1) 3 F_X2_fits), (63, cS (some 1) 3 (F_sr n))]
theorem cok_sr {n d : Nat} (h : Ct yX2_seatRest cX2_seatRest 4 (some .boolean) d (F_sr n)) (hd : 0 < d) : CallOK cX2_seatRest 4 (some .boolean) RX2 (d + 1) (ctb_sr n) :=
  CallOK_cons (site_same (rnV (pX2_seatRest_ok 39 _ rfl) ct_X2_fits kX2_fits lRX2_40 (by omega))) (CallOK_cons (site_same (rnV (pX2_seatRest_ok 63 _ rfl) h kX2_seatRest lRX2_36 (by omega))) CallOK_nil)
theorem tb_0 (g : Nat) (hg : g < 32) : ¬ tb 0 (nI g) := fun h => by
  have := (tb_bt 0 hg).mp h
  rw [b_0] at this; cases this
theorem tb_rm {x : Int32} {g o : Nat} (hg : g < 32) (ho : o < 32) (h : tb (rmB x g) (nI o)) : tb x (nI o) := by
  rw [tb_bt _ ho] at h ⊢
  rw [rmB, b_and] at h
  exact (Bool.and_eq_true _ _ ▸ h).1
theorem UL_eq {d dr : PA} {l g : Nat} (hg : dr g = d g) (hl : l < 7 → dr l = d l) (hl7 : l = 7 ∨ l < 7) : UL dr l g ↔ UL d l g := by
  unfold UL
  rcases hl7 with e | e
  · simp [e]
  · rw [hg, hl e]
theorem sr_step {d : Nat} (hd : 0 < d) (n : Nat) (ih : Ct yX2_seatRest cX2_seatRest 4 (some .boolean) d (F_sr n)) : Ct yX2_seatRest cX2_seatRest 4 (some .boolean) (d + 1) (F_sr (n + 1)) := by
  intro l D σ cA sz as w K h
  obtain ⟨dd, dr, od, at_, la, x, rfl, rfl, hx, hpn, hp7, hl, hdr, hdl, h⟩ := h
  have hl7 : la = 7 ∨ la < 7 := by rcases hl with z | z <;> omega
  refine metL (pr := lkB pX2_seatRest) (rk := 2) (ct := ctb_sr n) (fld := lkB flX2) (cst := lkB csX2) (cstL := lkB clX2) [(22, ([true, true, true, true], fun y lv st w => ∃ (g : Nat) (od1 : PA), g ≤ 7 ∧ y = 7 - g ∧ ¬ x = 0 ∧ (∀ i, i < at_ → od1 i = od i) ∧ (∀ i, i < g → ¬ MY dd x la i) ∧ lv = [some (sR 0), some (sI (nI at_)), some (sI x), some (sI (nI g))] ∧ st = [] ∧ w = stW dr od1))] pX2_seatRest_ok kX2_seatRest.2.2.2.2.2.2.2 fdX2 cdX2 rto2 (cok_sr ih hd) (Nat.le_of_ble_eq_true rfl) ?_ ?_ l D σ cA sz
  · refine List.forall_mem_cons.mpr ⟨?_, cut0⟩
    rintro y lv st w ⟨g, od1, hg, rfl, hx0, hod, hall, rfl, rfl, rfl⟩
    have hpx : 0 < pc x := Nat.pos_of_ne_zero (fun z => hx0 (pc_0 hx z))
    conv => whnf
    refine ⟨fun hc => ?_, fun hc => ?_⟩
    · obtain rfl := lp_ge hg (by decide) hc
      have hno : ¬ CN dd x la := fun z => by
        rcases (CN_un hx).mp z with z | ⟨g, hg, hb, hu, hcn⟩
        · exact hx0 z
        · exact hall g hg ⟨hb, hu, hcn⟩
      conv => whnf
      exact kB0 (h od1 hod (fun z => absurd z hno)) hno
    · have hlt := lp_lt hg (by decide) hc
      have next : ∀ od2 : PA, (∀ i, i < at_ → od2 i = od i) → ¬ MY dd x la g → ∃ n', n' < 7 - g ∧ ∃ (g_1 : Nat) (od1 : PA), g_1 ≤ 7 ∧ n' = 7 - g_1 ∧ ¬ x = 0 ∧ (∀ i, i < at_ → od1 i = od i) ∧ (∀ i, i < g_1 → ¬ MY dd x la i) ∧ [some (sR 0), some (sI (nI at_)), some (sI x), some (sI (nI g + 1))] = [some (sR 0), some (sI (nI at_)), some (sI x), some (sI (nI g_1))] ∧ ([] : List sv) = [] ∧ stW dr od2 = stW dr od1 :=
        fun od2 ho2 hn => ⟨7 - (g + 1), by omega, g + 1, od2, hlt, rfl, hx0, ho2, lt_s hall hn, by rw [nI_1], rfl, rfl⟩
      conv => whnf
      refine ⟨fun hb => ?_, fun hb => ?_⟩
      · conv => whnf
        exact next od1 hod (fun z => z.1 hb)
      · have hb : tb x (nI g) := hb
        conv => whnf
        have hl1 : (at_ = 0 ∧ la = 7) ∨ (0 < at_ ∧ la < 7 ∧ od1 (at_ - 1) = nI la) := by
          rcases hl with z | ⟨z1, z2, z3⟩
          · exact Or.inl z
          · exact Or.inr ⟨z1, z2, by rw [hod _ (by omega)]; exact z3⟩
        refine ⟨dr, od1, at_, la, g, rfl, rfl, by omega, hlt, hl1, ?_⟩
        rw [bp_iff (UL_eq (hdr g hlt hb) hdl hl7)]
        conv => whnf
        refine ⟨fun hu => ?_, fun hu => ?_⟩
        · conv => whnf
          exact next od1 hod (fun z => bp_0.mp hu z.2.1)
        · have hu := bp_n hu
          have hpr := pc_rm hx hlt hb
          have ea : (nI at_).toNatClampNeg = at_ := nI_clamp (by omega)
          conv => whnf
          refine ⟨vp_in_nI (by omega) (by decide), ?_⟩
          rw [ea]
          conv => whnf
          rw [nI_1]
          refine ⟨dd, dr, upd od1 at_ (nI g), at_ + 1, g, rmB x g, rfl, rfl, rng_rm hx, by omega, by omega, Or.inr ⟨by omega, hlt, by rw [Nat.add_sub_cancel, pk_us]⟩, fun o ho hbo => hdr o ho (tb_rm (by omega) (by omega) hbo), fun _ => hdr g hlt hb, fun od2 ho2 hsq => ?_⟩
          have hod2 : ∀ i, i < at_ → od2 i = od i := fun i hi => by rw [ho2 i (by omega), pk_un (by omega), hod i hi]
          conv => whnf
          refine ⟨fun hcn => ?_, fun hcn => ?_⟩
          · conv => whnf
            exact next od2 hod2 (fun z => bp_0.mp hcn z.2.2)
          · have hcn := bp_n hcn
            have hmy : MY dd x la g := ⟨hb, hu, hcn⟩
            have hgn : gn dd x la = g := fst_some hmy hall hlt
            have hC : CN dd x la := (CN_un hx).mpr (Or.inr ⟨g, hlt, hb, hu, hcn⟩)
            conv => whnf
            refine kB (h od2 hod2 (fun _ j hj => ?_)) hC
            cases j with
            | zero =>
              show od2 (at_ + 0) = nI (gn dd x la)
              rw [hgn, Nat.add_zero, ho2 at_ (by omega), pk_us]
            | succ j =>
              show od2 (at_ + (j + 1)) = nI (sq dd (rmB x (gn dd x la)) (gn dd x la) j)
              rw [hgn, show at_ + (j + 1) = at_ + 1 + j by omega]
              exact hsq hcn j (by omega)
  · conv => whnf
    refine ⟨fun hc => ?_, fun hc => ?_⟩
    · have hC : CN dd x la := (CN_un hx).mpr (Or.inl hc)
      have hp0 : pc x = 0 := by rw [hc]; exact pc_z
      conv => whnf
      refine ⟨fun z => absurd hc z, fun _ => ?_⟩
      conv => whnf
      exact kB (h od (fun _ _ => rfl) (fun _ j hj => by omega)) hC
    · have hpx : 0 < pc x := Nat.pos_of_ne_zero (fun z => hc (pc_0 hx z))
      conv => whnf
      refine ⟨fun _ => ?_, fun z => absurd (show nI at_ < nI 7 from nI_lt (by omega) (by decide)) z⟩
      conv => whnf
      exact ⟨7, 0, od, by decide, rfl, hc, fun _ _ => rfl, lt_0, rfl, rfl, rfl⟩
theorem sr_all : ∀ n, Ct yX2_seatRest cX2_seatRest 4 (some .boolean) (12 + n) (F_sr n)
  | 0 => fun l D σ cA sz as w K h => by
    obtain ⟨dd, dr, od, at_, la, x, -, -, -, h0, -⟩ := h
    exact absurd h0 (Nat.not_lt_zero _)
  | n + 1 => sr_step (d := 12 + n) (by omega) n (sr_all n)
def F_X2_seatRest : Fn := F_sr 8
theorem ct_X2_seatRest : Ct yX2_seatRest cX2_seatRest 4 (some .boolean) 20 F_X2_seatRest := sr_all 8
def innB3 (s : InnS) : List sc := [oC 0 [sR 4, sR 5, sR 6, sR 7, sR 8, sR 9, sI (iG s), sI (iT s), sI (iN s), sI (iS s), sI (iA s), sI (iSn s), sI (iLn s)], aI 7 (iK s), aI 7 (iF s), aI 7 (iW s), aI 7 (iL s), aI 7 (iH s), aI 10 (iP s)]
def F_X2_seat : Fn := fun as w K => ∃ (s : InnS) (N : Nat) (dr od : PA) (i : Int32), as = [sR 0, sR 3, sI i] ∧ w = stW dr od ++ innB3 s ∧ IV s N ∧ TG s ∧ ¬ i < 0 ∧ ∀ dr' od', K (some (.inl (stR s i))) (stW dr' od' ++ innB3 s)
theorem pop_lt {x : Int32} (hx : rng 128 x) {i : Nat} (hi : i < 2 ^ 31) : nI i < pop x ↔ i < pc x := by
  have := pc_7 hx
  exact nI_ltI hi (by show pc x < _; omega)
def ctb_X2_seat : List (Nat × (List sv → List sc → (List sv → List sc → Prop) → Prop)) := [(5, cS none 1 F_J6_bitCount_0f7a4), (31, cG [3, 4, 5, 6, 7, 8, 9] (some 0) 2 F_X0_nextDream), (47, cG [0, 1, 2] (some 1) 3 F_X2_seatRest)]
theorem cok_X2_seat : CallOK cX2_seat 4 (some .int) RX2 21 ctb_X2_seat := CallOK_cons (site_same (rnS (pX2_seat_ok 5 _ rfl) ct_J6_bitCount_0f7a4 kJ6_bitCount_0f7a4 lRX2_24 (by decide))) (CallOK_cons (site_gen [3, 4, 5, 6, 7, 8, 9] (by decide) (rnV (pX2_seat_ok 31 _ rfl) ct_X0_nextDream kX0_nextDream lRX2_33 (by decide))) (CallOK_cons (site_gen [0, 1, 2] (by decide) (rnV (pX2_seat_ok 47 _ rfl) ct_X2_seatRest kX2_seatRest lRX2_36 (by decide))) (CallOK_nil)))
theorem ct_X2_seat : Ct yX2_seat cX2_seat 4 (some .int) 21 F_X2_seat := by
  intro l D σ cA sz as w K h
  obtain ⟨s, N, dr, od, i, rfl, rfl, ⟨hZ, hG, hN, hN9, hB⟩, hTG, hi, h⟩ := h
  obtain ⟨G, hG7, hGG⟩ := hG.2.1
  have eG : ix (iG s) = G := by rw [hGG]; exact nI_clamp (by omega)
  unfold TG at hTG
  rw [eG] at hTG
  have hf2 : ∀ j, j < 7 → 0 < iF s (ix (nI j)) + 2 := fun j hj => by
    rw [show ix (nI j) = j from nI_clamp (by omega)]
    exact rng_f2 (hG.1 j hj).1
  have hr : stR s i = @ite _ (CN (fun g => ndS s (nI g)) (iT s) 7 ∧ i < pop (iT s)) (Classical.propDecidable _) (nI (sq (fun g => ndS s (nI g)) (iT s) 7 (ix i))) (-4) := by
    unfold stR
    rw [if_neg hi]
  have hde : ∀ j, ndS s (nI j) = (fun g => ndS s (nI g)) j := fun j => rfl
  generalize (fun g => ndS s (nI g)) = d at hr hde
  refine metL (pr := lkB pX2_seat) (rk := 1) (ct := ctb_X2_seat) (fld := lkB flX2) (cst := lkB csX2) (cstL := lkB clX2) [(16, ([true, true, true, true], fun n lv st w => ∃ (j : Nat) (dr1 : PA), j ≤ G ∧ n = G - j ∧ i < pop (iT s) ∧ (∀ g, g < j → dr1 g = d g) ∧ lv = [some (sR 0), some (sR 3), some (sI i), some (sI (nI j))] ∧ st = [] ∧ w = stW dr1 od ++ innB3 s))] pX2_seat_ok kX2_seat.2.2.2.2.2.2.2 fdX2 cdX2 rto1 cok_X2_seat (Nat.le_of_ble_eq_true rfl) ?_ ?_ l D σ cA sz
  · refine List.forall_mem_cons.mpr ⟨?_, cut0⟩
    rintro n lv st w ⟨j, dr1, hj, rfl, hip, hd, rfl, rfl, rfl⟩
    conv => whnf
    refine ⟨fun hc => ?_, fun hc => ?_⟩
    · rw [hGG] at hc
      obtain rfl := lp_ge hj (by omega) hc
      obtain ⟨i', hi', ei⟩ := nI_of hi
      have hip' : i' < pc (iT s) := (pop_lt hB hi').mp (ei ▸ hip)
      have hp7 := pc_7 hB
      have eix : ix i = i' := by rw [ei]; exact nI_clamp hi'
      have eix' : i.toNatClampNeg = i' := eix
      conv => whnf
      refine ⟨d, dr1, od, 0, 7, iT s, rfl, rfl, hB, by omega, by omega, Or.inl ⟨rfl, rfl⟩, fun g hg hb => ?_, fun z => absurd z (by decide), fun od' _ hsq => ?_⟩
      · refine hd g (Nat.not_le.mp (fun z => ?_))
        have := (tb_bt _ (by omega)).mp hb
        rw [hTG g z] at this; cases this
      conv => whnf
      refine ⟨fun hcn => ?_, fun hcn => ?_⟩
      · conv => whnf
        exact kI (h dr1 od') (by rw [hr, if_neg (fun z => bp_0.mp hcn z.1)])
      · have hcn := bp_n hcn
        conv => whnf
        refine ⟨by rw [ei]; exact vp_in_nI (by omega) (by decide), ?_⟩
        conv => whnf
        refine kI (h dr1 od') ?_
        rw [hr, if_pos ⟨hcn, hip⟩, eix, eix', ← hsq hcn i' hip', Nat.zero_add]
    · rw [hGG] at hc
      have hlt := lp_lt hj (by omega) hc
      conv => whnf
      refine ⟨s, nI j, rfl, rfl, vp_in_nI (by omega) (by decide), hf2 j (by omega), ?_⟩
      rw [hde]
      conv => whnf
      refine ⟨vp_in_nI (by omega) (by decide), ?_⟩
      rw [show (nI j).toNatClampNeg = j from nI_clamp (by omega)]
      conv => whnf
      refine ⟨G - (j + 1), by omega, j + 1, upd dr1 j (d j), hlt, rfl, hip, fun g hg => ?_, by rw [← nI_1]; rfl, rfl, rfl⟩
      by_cases e : g = j
      · rw [e, pk_us]
      · rw [pk_un e]; exact hd g (by omega)
  · conv => whnf
    refine ⟨hB, ?_⟩
    conv => whnf
    refine ⟨fun hc => ?_, fun hc => ?_⟩
    · conv => whnf
      exact ⟨G, 0, dr, Nat.zero_le _, rfl, hc, lt_0, rfl, rfl, rfl⟩
    · conv => whnf
      exact kI (h dr od) (by rw [hr, if_neg (fun z => hc z.2)])
/-- the object, the inn as it is, the seating -/
def x5W (r1 r2 r3 r5 : sv) (hi : Int32) (s : InnS) (dr od : PA) : List sc := oC 3 [sR 1, r1, r2, sI hi, r3, sR 8, r5] :: (innB1 s ++ [oC 1 [sR 9, sR 10], aI 7 dr, aI 7 od])
def F_X5_seats : Fn := fun as w K => ∃ (r1 r2 r3 r5 : sv) (hi : Int32) (s : InnS) (N : Nat) (dr od : PA) (i : Int32), as = [sR 0, sI i] ∧ w = x5W r1 r2 r3 r5 hi s dr od ∧ IV s N ∧ TG s ∧ ∀ dr' od', K (some (.inl (stR s i))) (x5W r1 r2 r3 r5 hi s dr' od')
def ctb_X5_seats : List (Nat × (List sv → List sc → (List sv → List sc → Prop) → Prop)) := [(15, cG [8, 9, 10, 1, 2, 3, 4, 5, 6, 7] (some 1) 3 F_X2_seat)]
theorem cok_X5_seats : CallOK cX5_seats 2 (some .int) RX5 22 ctb_X5_seats := CallOK_cons (site_gen [8, 9, 10, 1, 2, 3, 4, 5, 6, 7] (by decide) (rnV (pX5_seats_ok 15 _ rfl) ct_X2_seat kX2_seat lRX5_189 (by decide))) (CallOK_nil)
theorem ct_X5_seats : Ct yX5_seats cX5_seats 2 (some .int) 22 F_X5_seats := by
  intro l D σ cA sz as w K h
  obtain ⟨r1, r2, r3, r5, hi, s, N, dr, od, i, rfl, rfl, hIV, hTG, h⟩ := h
  refine metL (pr := lkB pX5_seats) (rk := 1) (ct := ctb_X5_seats) (fld := lkB flX5) (cst := lkB csX5) (cstL := lkB clX5) [] pX5_seats_ok kX5_seats.2.2.2.2.2.2.2 fdX5 cdX5 rto1 cok_X5_seats (Nat.le_of_ble_eq_true rfl) cut0 ?_ l D σ cA sz
  conv => whnf
  refine ⟨fun hc => ?_, fun hc => ?_⟩
  · conv => whnf
    refine ⟨s, N, dr, od, i, rfl, rfl, hIV, hTG, Int32.not_lt.mpr hc, fun dr' od' => ?_⟩
    conv => whnf
    exact h dr' od'
  · conv => whnf
    exact kI (h dr od) (by unfold stR; rw [if_pos (Int32.not_le.mp hc)])
end
section
/-! ===== seats of the reference ===== -/
def F_X6_isUnlike : Fn := fun as w K => ∃ (s : InnS) (q : Pm) (t : Tm) (a b : Nat), as = [sR 0, sI (nI a), sI (nI b)] ∧ w = modW s q t ∧ a < 7 ∧ b < 7 ∧ K (some (.inl (bp (tDr t a < 0 ∨ ¬ tDr t a = tDr t b)))) w
def ctb_X6_isUnlike : List (Nat × (List sv → List sc → (List sv → List sc → Prop) → Prop)) := []
theorem cok_X6_isUnlike : CallOK cX6_isUnlike 3 (some .boolean) RX6 1 ctb_X6_isUnlike := CallOK_nil
theorem ct_X6_isUnlike : Ct yX6_isUnlike cX6_isUnlike 3 (some .boolean) 1 F_X6_isUnlike := by
  intro l D σ cA sz as w K h
  obtain ⟨s, q, t, a, b, rfl, rfl, ha, hb, h⟩ := h
  have hva : vp_in (nI a) 7 := vp_in_nI ha (by decide)
  have hvb : vp_in (nI b) 7 := vp_in_nI hb (by decide)
  have ea : (nI a).toNatClampNeg = a := nI_clamp (by omega)
  have eb : (nI b).toNatClampNeg = b := nI_clamp (by omega)
  refine metL (pr := lkB pX6_isUnlike) (rk := 2) (ct := ctb_X6_isUnlike) (fld := lkB flX6) (cst := lkB csX6) (cstL := lkB clX6) [] pX6_isUnlike_ok kX6_isUnlike.2.2.2.2.2.2.2 fdX6 cdX6 rto2 cok_X6_isUnlike (Nat.le_of_ble_eq_true rfl) cut0 ?_ l D σ cA sz
  conv => whnf
  refine ⟨hva, ?_⟩
  rw [ea]
  conv => whnf
  refine ⟨fun hc => ?_, fun hc => ?_⟩
  · conv => whnf
    exact kB h (Or.inl hc)
  · conv => whnf
    refine ⟨hva, ?_⟩
    rw [ea]
    conv => whnf
    refine ⟨hvb, ?_⟩
    rw [eb]
    conv => whnf
    refine ⟨fun h2 => ?_, fun h2 => ?_⟩
    · conv => whnf
      exact kB0 h (fun z => z.elim hc (fun z => z h2))
    · conv => whnf
      exact kB h (Or.inr h2)
def Dm (T : Int32) (m : Nat) : Int32 := T &&& (nI m ^^^ (-1))
def RLs (T : Int32) (G m l : Nat) : Prop := l < G ∧ bt (nI m) l = true ∧ ∀ i, bt (nI m) i = true → bt T i = true
def CEp (d : PA) (T : Int32) (G : Nat) (ce : PA) (i : Nat) : Prop := ∀ m l, m < 128 → i ≤ 8 * m + l → RLs T G m l → ce (8 * m + l) = bp (CN d (Dm T m) l)
def orB (m j : Nat) : Nat := ix (nI m ||| jshl 1 (nI j))
theorem orB_0 : ∀ m : Fin 128, ∀ j : Fin 7, nI m.val ||| jshl 1 (nI j.val) = nI (orB m.val j.val) ∧ orB m.val j.val < 128 ∧ (¬ (jshr (nI m.val) (nI j.val) &&& 1) = 0 ∨ m.val < orB m.val j.val) := by decide +kernel
theorem Dm_bt (T : Int32) (m : Nat) {i : Nat} (hi : i < 32) : bt (Dm T m) i = (bt T i && !bt (nI m) i) := by
  unfold Dm
  rw [b_and, b_xor, b_m1 i hi]
  cases bt (nI m) i <;> rfl
theorem Dm_or {T : Int32} {m j : Nat} (hm : m < 128) (hj : j < 7) : Dm T (orB m j) = rmB (Dm T m) j := by
  unfold Dm rmB mkB
  rw [← (orB_0 ⟨m, hm⟩ ⟨j, hj⟩).1]
  apply b_ext
  intro i hi
  simp only [b_and, b_xor, b_or, b_m1 i hi]
  cases bt T i <;> cases bt (nI m) i <;> cases bt (jshl 1 (nI j)) i <;> rfl
theorem or_bt {m j i : Nat} (hm : m < 128) (hj : j < 7) (hi : i < 32) : bt (nI (orB m j)) i = (bt (nI m) i || decide (j = i)) := by
  rw [← (orB_0 ⟨m, hm⟩ ⟨j, hj⟩).1, b_or, bt_one (by omega) hi]
theorem RL_or {T : Int32} {G m j : Nat} (hm : m < 128) (hj : j < G) (hG : G < 8) (hb : tb (Dm T m) (nI j)) (hs : ∀ i, bt (nI m) i = true → bt T i = true) : RLs T G (orB m j) j ∧ m < orB m j := by
  have hb := (tb_bt _ (by omega)).mp hb
  rw [Dm_bt _ _ (by omega)] at hb
  have hb1 : bt T j = true := (Bool.and_eq_true _ _ ▸ hb).1
  have hb2 : bt (nI m) j = false := by
    have := (Bool.and_eq_true _ _ ▸ hb).2
    simpa using this
  refine ⟨⟨hj, ?_, fun i hi => ?_⟩, ?_⟩
  · rw [or_bt hm (by omega) (by omega)]; simp
  · rcases Nat.lt_or_ge i 32 with h | h
    · rw [or_bt hm (by omega) h] at hi
      rcases (Bool.or_eq_true _ _).mp hi with z | z
      · exact hs i z
      · have : j = i := by simpa using z
        rw [← this]; exact hb1
    · rw [b_big h] at hi; cases hi
  · refine (orB_0 ⟨m, hm⟩ ⟨j, by omega⟩).2.2.resolve_left (fun z => ?_)
    have := (tb_bt (nI m) (i := j) (by omega)).mp z
    rw [hb2] at this; cases this
theorem Dm_0 {T : Int32} {m : Nat} (hs : ∀ i, bt (nI m) i = true → bt T i = true) : Dm T m = 0 ↔ nI m = T := by
  constructor
  · intro h
    apply b_ext
    intro i hi
    have h1 := Dm_bt T m hi
    rw [h, b_0] at h1
    have h2 := hs i
    cases h3 : bt (nI m) i
    · rw [h3] at h1
      cases h4 : bt T i
      · rfl
      · rw [h4] at h1; cases h1
    · exact (h2 h3).symm
  · intro h
    apply b_ext
    intro i hi
    rw [Dm_bt _ _ hi, b_0, h]
    cases bt T i <;> rfl
theorem UL_un {d : PA} {l g : Nat} (hl7 : l < 7) (hl : d l = -4 ∨ rng 10 (d l)) : UL d l g ↔ (d l < 0 ∨ ¬ d l = d g) := by
  unfold UL
  rcases hl with e | ⟨a, ha, e⟩
  · refine ⟨fun _ => Or.inl (by rw [e]; decide), fun _ => ?_⟩
    rw [e]
    rcases Classical.em (d g = -4) with z | z
    · exact Or.inr (Or.inl z)
    · exact Or.inr (Or.inr z)
  · have hn : ¬ d l < 0 := by rw [e]; exact nI_pos (by omega)
    refine ⟨fun z => ?_, fun z => ?_⟩
    · rcases z with z | z | z
      · omega
      · refine Or.inr (fun y => hn ?_)
        rw [y, z]; decide
      · exact Or.inr (fun y => z y.symm)
    · rcases z with z | z
      · exact absurd z hn
      · exact Or.inr (Or.inr (fun y => z y.symm))
theorem nd_o6 {s : InnS} {N j : Nat} (hG : GS s) (hN : iN s = nI N) (hN9 : N ≤ 999) (hj : j < 7) : ndS s (nI j) = -4 ∨ rng 10 (ndS s (nI j)) := by
  unfold ndS
  split
  · unfold dmS
    rw [show ix (nI j) = j from nI_clamp (by omega), hN, nI_1]
    exact dream_ok (by omega) (hG.1 j hj).1 (hG.1 j hj).2.1 (hG.1 j hj).2.2
  · exact Or.inl rfl
abbrev drW (s : InnS) (q : Pm) (t : Tm) (dr ce : PA) : List sc := modX s (qH q) (qK q) (qF q) (qS q) (qM q) (qR q) (qI q) (qB q) (tSy t) (tMr t) (tTh t) (tRd t) (tPl t) (tBd t) (tSt t) (tPi t) (tLo t) (tTo t) (tKe t) (tP0 t) (tTk t) (tKi t) dr ce (tGa t) (tSd t) (tBt t)
def tsD (t : Tm) (dr ce : PA) : Tm := (tSy t, tMr t, tTh t, tRd t, tPl t, tBd t, tSt t, tPi t, tLo t, tTo t, tKe t, tP0 t, tTk t, tKi t, dr, ce, tGa t, tSd t, tBt t)
theorem rng_Dm {T : Int32} (hT : rng 128 T) (m : Nat) : rng 128 (Dm T m) := rng_and hT _
theorem e1023 : (1023 : Int32) = nI 1024 + (-1) := by decide +kernel
theorem lay_end {d : PA} {T : Int32} {G m l : Nat} (hT : rng 128 T) (hG : G < 8) (hTG : ∀ i, G ≤ i → bt T i = false) (hR : RLs T G m l) (hne : ¬ nI m = T) (hall : ∀ g, g < G → ¬ MY d (Dm T m) l g) : ¬ CN d (Dm T m) l := by
  intro h
  rcases (CN_un (rng_Dm hT _)).mp h with h | ⟨g, hg, hb, hu, hcn⟩
  · exact hne ((Dm_0 hR.2.2).mp h)
  · rcases Nat.lt_or_ge g G with z | z
    · exact hall g z ⟨hb, hu, hcn⟩
    · have := (tb_bt _ (by omega)).mp hb
      rw [Dm_bt _ _ (by omega), hTG g z] at this
      cases this
def F_X6_laySeats : Fn := fun as w K => ∃ (s : InnS) (q : Pm) (t : Tm) (N G : Nat) (d : PA), as = [sR 0] ∧ w = modW s q t ∧ IV s N ∧ iG s = nI G ∧ G < 8 ∧ (∀ i, G ≤ i → bt (iT s) i = false) ∧ (∀ j, ndS s (nI j) = d j) ∧ ∀ dr ce, (∀ g, g < G → dr g = d g) → CEp d (iT s) G ce 0 → K none (drW s q t dr ce)
def ctb_X6_laySeats : List (Nat × (List sv → List sc → (List sv → List sc → Prop) → Prop)) := [(17, cS (some 4) 2 F_X6_dreamsNext), (93, cS none 2 F_X6_hasBit), (103, cS (some 4) 3 F_X6_isUnlike)]
theorem cok_X6_laySeats : CallOK cX6_laySeats 7 none RX6 3 ctb_X6_laySeats := CallOK_cons (site_same (rnV (pX6_laySeats_ok 17 _ rfl) ct_X6_dreamsNext kX6_dreamsNext lRX6_238 (by decide))) (CallOK_cons (site_same (rnS (pX6_laySeats_ok 93 _ rfl) ct_X6_hasBit kX6_hasBit lRX6_105 (by decide))) (CallOK_cons (site_same (rnV (pX6_laySeats_ok 103 _ rfl) ct_X6_isUnlike kX6_isUnlike lRX6_249 (by decide))) (CallOK_nil)))
theorem ct_X6_laySeats : Ct yX6_laySeats cX6_laySeats 7 none 3 F_X6_laySeats := by
  intro l D σ cA sz as w K h
  obtain ⟨s, q, t, N, G, d, rfl, rfl, ⟨hZ, hG, hN, hN9, hB⟩, hGG, hG7, hTG, hde, h⟩ := h
  have hf2 : ∀ j, j < 7 → 0 < iF s (ix (nI j)) + 2 := fun j hj => by
    rw [show ix (nI j) = j from nI_clamp (by omega)]
    exact rng_f2 (hG.1 j hj).1
  have hdo : ∀ j, j < 7 → d j = -4 ∨ rng 10 (d j) := fun j hj => by rw [← hde]; exact nd_o6 hG hN hN9 hj
  refine metL (pr := lkB pX6_laySeats) (rk := 0) (ct := ctb_X6_laySeats) (fld := lkB flX6) (cst := lkB csX6) (cstL := lkB clX6) [(2, ([true, true, false, false, false, false, false], fun n lv st w => ∃ (j : Nat) (dr : PA), j ≤ G ∧ n = 30000 + (G - j) ∧ (∀ g, g < j → dr g = d g) ∧ lv = [some (sR 0), some (sI (nI j)), none, none, none, none, none] ∧ st = [] ∧ w = drW s q t dr (tCe t))), (31, ([true, true, false, false, false, false, false], fun n lv st w => ∃ (k : Nat) (dr ce : PA), k ≤ 1024 ∧ n = 20 * k ∧ (∀ g, g < G → dr g = d g) ∧ CEp d (iT s) G ce k ∧ lv = [some (sR 0), some (sI (nI k + (-1))), none, none, none, none, none] ∧ st = [] ∧ w = drW s q t dr ce)), (63, ([true, true, true, true, true, true, false], fun n lv st w => ∃ (m l j : Nat) (can : Int32) (dr ce : PA), m < 128 ∧ l < 8 ∧ j ≤ G ∧ n = 20 * (8 * m + l) + 10 + (G - j) ∧ (∀ g, g < G → dr g = d g) ∧ CEp d (iT s) G ce (8 * m + l + 1) ∧ ((can = 1 ∧ (RLs (iT s) G m l → CN d (Dm (iT s) m) l)) ∨ (can = 0 ∧ ¬ nI m = iT s ∧ (RLs (iT s) G m l → ∀ g, g < j → ¬ MY d (Dm (iT s) m) l g))) ∧ lv = [some (sR 0), some (sI (nI (8 * m + l))), some (sI (nI m)), some (sI (nI l)), some (sI can), some (sI (nI j)), none] ∧ st = [] ∧ w = drW s q t dr ce)), (154, ([true, true, true, true, true, false, false], fun n lv st w => ∃ (m l : Nat) (can : Int32) (dr ce : PA), m < 128 ∧ l < 8 ∧ n = 20 * (8 * m + l) + 5 ∧ (∀ g, g < G → dr g = d g) ∧ CEp d (iT s) G ce (8 * m + l + 1) ∧ (can = 0 ∨ can = 1) ∧ (RLs (iT s) G m l → can = bp (CN d (Dm (iT s) m) l)) ∧ lv = [some (sR 0), some (sI (nI (8 * m + l))), some (sI (nI m)), some (sI (nI l)), some (sI can), none, none] ∧ st = [] ∧ w = drW s q t dr ce))] pX6_laySeats_ok kX6_laySeats.2.2.2.2.2.2.2 fdX6 cdX6 rto0 cok_X6_laySeats (Nat.le_of_ble_eq_true rfl) ?_ ?_ l D σ cA sz
  · refine List.forall_mem_cons.mpr ⟨?_, List.forall_mem_cons.mpr ⟨?_, List.forall_mem_cons.mpr ⟨?_, List.forall_mem_cons.mpr ⟨?_, cut0⟩⟩⟩⟩
    · rintro n lv st w ⟨j, dr, hj, rfl, hd, rfl, rfl, rfl⟩
      conv => whnf
      refine ⟨fun hc => ?_, fun hc => ?_⟩
      · rw [hGG] at hc
        obtain rfl := lp_ge hj (by omega) hc
        conv => whnf
        exact ⟨20 * 1024, by omega, 1024, dr, tCe t, by decide, rfl, hd, fun m l hm hl hR => absurd hR.1 (by omega), by rw [← e1023]; rfl, rfl, rfl⟩
      · rw [hGG] at hc
        have hlt := lp_lt hj (by omega) hc
        have hv : vp_in (nI j) 7 := vp_in_nI (by omega) (by decide)
        conv => whnf
        refine ⟨s, q, tsD t dr (tCe t), nI j, rfl, rfl, hv, hf2 j (by omega), ?_⟩
        rw [hde]
        conv => whnf
        refine ⟨hv, ?_⟩
        rw [show (nI j).toNatClampNeg = j from nI_clamp (by omega)]
        conv => whnf
        refine ⟨30000 + (G - (j + 1)), by omega, j + 1, upd dr j (d j), hlt, rfl, fun g hg => ?_, by rw [← nI_1]; rfl, rfl, rfl⟩
        by_cases e : g = j
        · rw [e, pk_us]
        · rw [pk_un e]; exact hd g (by omega)
    · rintro n lv st w ⟨k, dr, ce, hk, rfl, hd, hce, rfl, rfl, rfl⟩
      cases k with
      | zero =>
        conv => whnf
        refine ⟨fun hc => ?_, fun hc => ?_⟩
        · conv => whnf
          exact h dr ce hd hce
        · exact absurd (by decide) hc
      | succ i =>
        rw [pk_m1]
        conv => whnf
        refine ⟨fun hc => absurd hc (nI_pos (by omega)), fun hc => ?_⟩
        conv => whnf
        refine ⟨by decide, ?_⟩
        conv => whnf
        refine ⟨by decide, ?_⟩
        have e1 : nI i / 8 = nI (i / 8) := pk_div (d := 8) (by omega) (by decide) (by decide)
        have e2 : jrem (nI i) 8 = nI (i % 8) := jrem_nI (d := 8) (by omega) (by decide) (by decide)
        rw [e1, e2]
        have hm : i / 8 < 128 := by omega
        have hl : i % 8 < 8 := Nat.mod_lt _ (by decide)
        have e3 : i = 8 * (i / 8) + i % 8 := by omega
        generalize i / 8 = m at e3 hm ⊢
        generalize i % 8 = l at e3 hl ⊢
        subst e3
        conv => whnf
        refine ⟨fun hc => ?_, fun hc => ?_⟩
        · conv => whnf
          exact ⟨20 * (8 * m + l) + 10 + (G - 0), by omega, m, l, 0, 0, dr, ce, hm, hl, Nat.zero_le _, rfl, hd, hce, Or.inr ⟨rfl, hc, fun _ g hg => absurd hg (by omega)⟩, rfl, rfl, rfl⟩
        · conv => whnf
          exact ⟨20 * (8 * m + l) + 10 + (G - 0), by omega, m, l, 0, 1, dr, ce, hm, hl, Nat.zero_le _, rfl, hd, hce, Or.inl ⟨rfl, fun hR => (CN_un (rng_Dm hB _)).mpr (Or.inl ((Dm_0 hR.2.2).mpr hc))⟩, rfl, rfl, rfl⟩
    · rintro n lv st w ⟨m, l, j, can, dr, ce, hm, hl, hj, rfl, hd, hce, hcan, rfl, rfl, rfl⟩
      have h01 : can = 0 ∨ can = 1 := hcan.elim (fun z => Or.inr z.1) (fun z => Or.inl z.1)
      conv => whnf
      refine ⟨fun hc => ?_, fun hc => ?_⟩
      · rw [hGG] at hc
        obtain rfl := lp_ge hj (by omega) hc
        conv => whnf
        refine ⟨20 * (8 * m + l) + 5, by omega, m, l, can, dr, ce, hm, hl, rfl, hd, hce, h01, fun hR => ?_, rfl, rfl, rfl⟩
        rcases hcan with ⟨z, z1⟩ | ⟨z, z1, z2⟩
        · rw [z, bp_t (z1 hR)]
        · rw [z, bp_f (lay_end hB hG7 hTG hR z1 (z2 hR))]
      rw [hGG] at hc
      have hlt := lp_lt hj (by omega) hc
      conv => whnf
      refine ⟨fun h1 => ?_, fun h1 => ?_⟩
      · conv => whnf
        refine ⟨20 * (8 * m + l) + 5, by omega, m, l, can, dr, ce, hm, hl, rfl, hd, hce, h01, fun hR => ?_, rfl, rfl, rfl⟩
        rcases hcan with ⟨z, z1⟩ | ⟨z, z1, z2⟩
        · rw [z, bp_t (z1 hR)]
        · exact absurd z h1
      obtain ⟨-, hne, hno⟩ := hcan.resolve_left (fun z => by rw [z.1] at h1; exact absurd h1 (by decide))
      clear hcan h01
      conv => whnf
      refine ⟨fun h7 => ?_, fun h7 => ?_⟩
      · have : 7 ≤ l := (nI_leI (by decide) (by omega)).mp (show nI 7 ≤ nI l from h7)
        conv => whnf
        exact ⟨20 * (8 * m + l) + 5, by omega, m, l, can, dr, ce, hm, hl, rfl, hd, hce, Or.inl h1, fun hR => absurd hR.1 (by omega), rfl, rfl, rfl⟩
      have hl7 : l < 7 := Nat.not_le.mp (fun z => h7 (show nI 7 ≤ nI l from nI_le z (by omega)))
      have next0 : (RLs (iT s) G m l → ¬ MY d (Dm (iT s) m) l j) → ∃ n', n' < 20 * (8 * m + l) + 10 + (G - j) ∧ ∃ (m_1 l_1 j_1 : Nat) (can : Int32) (dr_1 ce_1 : PA), m_1 < 128 ∧ l_1 < 8 ∧ j_1 ≤ G ∧ n' = 20 * (8 * m_1 + l_1) + 10 + (G - j_1) ∧ (∀ g, g < G → dr_1 g = d g) ∧ CEp d (iT s) G ce_1 (8 * m_1 + l_1 + 1) ∧ ((can = 1 ∧ (RLs (iT s) G m_1 l_1 → CN d (Dm (iT s) m_1) l_1)) ∨ (can = 0 ∧ ¬ nI m_1 = iT s ∧ (RLs (iT s) G m_1 l_1 → ∀ g, g < j_1 → ¬ MY d (Dm (iT s) m_1) l_1 g))) ∧ [some (sR 0), some (sI (nI (8 * m + l))), some (sI (nI m)), some (sI (nI l)), some (sI 0), some (sI (nI j + 1)), none] = [some (sR 0), some (sI (nI (8 * m_1 + l_1))), some (sI (nI m_1)), some (sI (nI l_1)), some (sI can), some (sI (nI j_1)), none] ∧ ([] : List sv) = [] ∧ drW s q t dr ce = drW s q t dr_1 ce_1 :=
        fun hn => ⟨20 * (8 * m + l) + 10 + (G - (j + 1)), by omega, m, l, j + 1, 0, dr, ce, hm, hl, hlt, rfl, hd, hce, Or.inr ⟨rfl, hne, fun hR g hg => by
          rcases Nat.lt_or_ge g j with z | z
          · exact hno hR g z
          · have : g = j := by omega
            rw [this]; exact hn hR⟩, by rw [nI_1], rfl, rfl⟩
      conv => whnf
      refine ⟨fun hb => ?_, fun hb => ?_⟩
      · have hb : ¬ tb (Dm (iT s) m) (nI j) := bp_0.mp hb
        conv => whnf
        refine ⟨fun _ => ?_, fun z => absurd rfl z⟩
        conv => whnf
        exact next0 (fun _ z => hb z.1)
      have hb : tb (Dm (iT s) m) (nI j) := bp_n hb
      conv => whnf
      refine ⟨s, q, tsD t dr ce, l, j, rfl, rfl, hl7, by omega, ?_⟩
      conv => whnf
      have hul : RLs (iT s) G m l → ((tDr (tsD t dr ce) l < 0 ∨ ¬ tDr (tsD t dr ce) l = tDr (tsD t dr ce) j) ↔ UL d l j) := fun hR => by
        show (dr l < 0 ∨ ¬ dr l = dr j) ↔ _
        rw [hd l hR.1, hd j hlt]
        exact (UL_un hl7 (hdo l hl7)).symm
      refine ⟨fun hu => ?_, fun hu => ?_⟩
      · conv => whnf
        refine ⟨fun _ => ?_, fun z => absurd rfl z⟩
        conv => whnf
        exact next0 (fun hR z => bp_0.mp hu ((hul hR).mpr z.2.1))
      have hu := bp_n hu
      conv => whnf
      refine ⟨fun z => absurd z (by decide), fun _ => ?_⟩
      conv => whnf
      obtain ⟨o1, o2, -⟩ := orB_0 ⟨m, hm⟩ ⟨j, by omega⟩
      dsimp only at o1 o2
      have eo : 8 * (nI m ||| jshl 1 (nI j)) + nI j = nI (8 * orB m j + j) := by
        rw [o1, show (8 : Int32) = nI 8 by decide, pk_mul, nI_add]
      rw [eo]
      refine ⟨vp_in_nI (by omega) (by decide), ?_⟩
      rw [show (nI (8 * orB m j + j)).toNatClampNeg = 8 * orB m j + j from nI_clamp (by omega)]
      have hcv : RLs (iT s) G m l → tCe (tsD t dr ce) (8 * orB m j + j) = bp (CN d (rmB (Dm (iT s) m) j) j) := fun hR => by
        obtain ⟨r1, r2⟩ := RL_or hm hlt hG7 hb hR.2.2
        rw [← Dm_or hm (by omega)]
        exact hce _ _ o2 (by omega) r1
      conv => whnf
      refine ⟨fun hz => ?_, fun hz => ?_⟩
      · conv => whnf
        exact next0 (fun hR z => bp_0.mp ((hcv hR).symm.trans hz) z.2.2)
      · conv => whnf
        refine ⟨20 * (8 * m + l) + 10 + (G - (j + 1)), by omega, m, l, j + 1, 1, dr, ce, hm, hl, hlt, rfl, hd, hce, Or.inl ⟨rfl, fun hR => ?_⟩, by rw [← nI_1]; rfl, rfl, rfl⟩
        exact (CN_un (rng_Dm hB _)).mpr (Or.inr ⟨j, by omega, hb, (hul hR).mp hu, bp_n (fun z => hz ((hcv hR).trans z))⟩)
    · rintro n lv st w ⟨m, l, can, dr, ce, hm, hl, rfl, hd, hce, h01, hcn, rfl, rfl, rfl⟩
      conv => whnf
      refine ⟨vp_in_nI (by omega) (by decide), ?_⟩
      rw [show (nI (8 * m + l)).toNatClampNeg = 8 * m + l from nI_clamp (by omega)]
      conv => whnf
      refine ⟨h01, ?_⟩
      conv => whnf
      refine ⟨20 * (8 * m + l), by omega, 8 * m + l, dr, upd ce (8 * m + l) can, by omega, rfl, hd, fun m' l' hm' hl' hR => ?_, rfl, rfl, rfl⟩
      by_cases e : 8 * m' + l' = 8 * m + l
      · have hl8 : l' < 8 := by have := hR.1; omega
        have em : m' = m := by omega
        have el : l' = l := by omega
        subst em; subst el
        rw [pk_us]; exact hcn hR
      · rw [pk_un e]; exact hce m' l' hm' (by omega) hR
  · skip
    repeat' ((conv => whnf); (first | refine And.intro (by first | decide | with_reducible assumption) ?_ | with_reducible refine And.intro (fun hc => ?_) (fun hc => ?_) | with_reducible refine And.intro (fun hc => ?_) ?_ | fail))
    all_goals try (conv => whnf)
    exact ⟨30000 + (G - 0), 0, tDr t, Nat.zero_le _, rfl, lt_0, rfl, rfl, rfl⟩
end
section
/-! ===== seats of the reference, the row itself ===== -/
def F_X6_seats : Fn := fun as w K => ∃ (s : InnS) (q : Pm) (t : Tm) (N : Nat) (i : Int32), as = [sR 0, sI i] ∧ w = modW s q t ∧ TZ t ∧ IV s N ∧ TG s ∧ ∀ a b t', TZ t' → K (some (.inl (stR s i))) (modW (snS s a b) q t')
/-- the row so far: k sit, m who, l the last -/
def SO (d : PA) (T : Int32) (G k m l : Nat) : Prop := m < 128 ∧ k ≤ 7 ∧ ((k = 0 ∧ m = 0 ∧ l = 7) ∨ (0 < k ∧ RLs T G m l ∧ CN d (Dm T m) l ∧ CN d T 7 ∧ l = sq d T 7 (k - 1))) ∧ pc (Dm T m) + k = pc T ∧ ∀ j, sq d T 7 (k + j) = sq d (Dm T m) l j
theorem Dm_z (T : Int32) : Dm T 0 = T := by
  apply b_ext
  intro i hi
  rw [Dm_bt _ _ hi, nI_0, b_0]
  cases bt T i <;> rfl
theorem SO_0 {d : PA} {T : Int32} {G : Nat} : SO d T G 0 0 7 := by
  refine ⟨by decide, by decide, Or.inl ⟨rfl, rfl, rfl⟩, ?_, fun j => ?_⟩
  · rw [Dm_z]; rfl
  · rw [Dm_z, Nat.zero_add]
theorem SO_sub {d : PA} {T : Int32} {G k m l : Nat} (h : SO d T G k m l) : ∀ i, bt (nI m) i = true → bt T i = true := by
  rcases h.2.2.1 with ⟨-, z, -⟩ | ⟨-, z, -⟩
  · intro i hi
    rw [z, nI_0, b_0] at hi; cases hi
  · exact z.2.2
theorem SO_s {d : PA} {T : Int32} {G k m l g : Nat} (hT : rng 128 T) (hG : G < 8) (h : SO d T G k m l) (hk : k < 7) (hg : g < G) (hm : MY d (Dm T m) l g) (hb : ∀ i, i < g → ¬ MY d (Dm T m) l i) : SO d T G (k + 1) (orB m g) g := by
  have hs := SO_sub h
  obtain ⟨h1, h2, h3, h4, h5⟩ := h
  have hgn : gn d (Dm T m) l = g := fst_some hm hb (by omega)
  obtain ⟨r1, r2⟩ := RL_or h1 hg hG hm.1 hs
  have hD := Dm_or (T := T) h1 (show g < 7 by omega)
  have hp := pc_rm (x := Dm T m) (rng_Dm hT _) (show g < 7 by omega) hm.1
  have hq := h5 0
  refine ⟨(orB_0 ⟨m, h1⟩ ⟨g, by omega⟩).2.1, hk, Or.inr ⟨by omega, r1, by rw [hD]; exact hm.2.2, ?_, ?_⟩, by rw [hD]; omega, fun j => ?_⟩
  · rcases h3 with ⟨-, zm, zl⟩ | z
    · rw [zm, zl, Dm_z] at hm
      exact (CN_un hT).mpr (Or.inr ⟨g, by omega, hm⟩)
    · exact z.2.2.2.1
  · rw [Nat.add_sub_cancel]
    rw [Nat.add_zero] at hq
    rw [hq]
    exact hgn.symm
  · rw [hD, show k + 1 + j = k + (j + 1) by omega, h5]
    show sq d (rmB (Dm T m) (gn d (Dm T m) l)) (gn d (Dm T m) l) j = _
    rw [hgn]
theorem SO_no {d : PA} {T : Int32} {G k m l i' : Nat} (hT : rng 128 T) (hG : G < 8) (hTG : ∀ i, G ≤ i → bt T i = false) (h : SO d T G k m l) (hk : k ≤ i') (hall : ∀ g, g < G → ¬ MY d (Dm T m) l g) : ¬ (CN d T 7 ∧ i' < pc T) := by
  have key : CN d (Dm T m) l → Dm T m = 0 := fun z => by
    rcases (CN_un (rng_Dm hT _)).mp z with z | ⟨g, hg, hb, hu, hc⟩
    · exact z
    · rcases Nat.lt_or_ge g G with y | y
      · exact absurd ⟨hb, hu, hc⟩ (hall g y)
      · have := (tb_bt _ (by omega)).mp hb
        rw [Dm_bt _ _ (by omega), hTG g y] at this
        cases this
  obtain ⟨h1, h2, h3, h4, h5⟩ := h
  rintro ⟨c1, c2⟩
  have hz : Dm T m = 0 := by
    rcases h3 with ⟨-, zm, zl⟩ | z
    · rw [zm, zl, Dm_z] at key
      rw [zm, Dm_z]; exact key c1
    · exact key z.2.2.1
  rw [hz, pc_z] at h4
  omega
def ctb_X6_seats : List (Nat × (List sv → List sc → (List sv → List sc → Prop) → Prop)) := [(12, cS (some 4) 1 F_X6_laySeats), (63, cS none 2 F_X6_hasBit), (79, cS (some 4) 3 F_X6_isUnlike)]
theorem cok_X6_seats : CallOK cX6_seats 8 (some .int) RX6 4 ctb_X6_seats := CallOK_cons (site_same (rnV (pX6_seats_ok 12 _ rfl) ct_X6_laySeats kX6_laySeats lRX6_252 (by decide))) (CallOK_cons (site_same (rnS (pX6_seats_ok 63 _ rfl) ct_X6_hasBit kX6_hasBit lRX6_105 (by decide))) (CallOK_cons (site_same (rnV (pX6_seats_ok 79 _ rfl) ct_X6_isUnlike kX6_isUnlike lRX6_249 (by decide))) (CallOK_nil)))
theorem ct_X6_seats : Ct yX6_seats cX6_seats 8 (some .int) 4 F_X6_seats := by
  intro l D σ cA sz as w K h
  obtain ⟨s, q, t, N, i, rfl, rfl, hT, hIV, hTG, h⟩ := h
  have hIV' := hIV
  obtain ⟨hZ, hG, hN, hN9, hB⟩ := hIV
  obtain ⟨G, hG7, hGG⟩ := hG.2.1
  have eG : ix (iG s) = G := by rw [hGG]; exact nI_clamp (by omega)
  unfold TG at hTG
  rw [eG] at hTG
  have hr : ¬ i < 0 → stR s i = @ite _ (CN (fun g => ndS s (nI g)) (iT s) 7 ∧ i < pop (iT s)) (Classical.propDecidable _) (nI (sq (fun g => ndS s (nI g)) (iT s) 7 (ix i))) (-4) := fun hi => by
    unfold stR
    rw [if_neg hi]
  have hde : ∀ j, ndS s (nI j) = (fun g => ndS s (nI g)) j := fun j => rfl
  generalize (fun g => ndS s (nI g)) = d at hr hde
  have hdo : ∀ j, j < 7 → d j = -4 ∨ rng 10 (d j) := fun j hj => by rw [← hde]; exact nd_o6 hG hN hN9 hj
  have hp7 := pc_7 hB
  have eg1 : iG s - 1 = nI G + (-1) := by rw [hGG]; exact (by decide : ∀ G : Fin 8, nI G.val - 1 = nI G.val + (-1)) ⟨G, hG7⟩
  refine metL (pr := lkB pX6_seats) (rk := 1) (ct := ctb_X6_seats) (fld := lkB flX6) (cst := lkB csX6) (cstL := lkB clX6) [(23, ([true, true, true, true, true, false, false, false], fun n lv st w => ∃ (i' k m l : Nat) (dr ce : PA), i = nI i' ∧ i' < 2 ^ 31 ∧ k ≤ i' + 1 ∧ n = 20 * (8 - k) ∧ (∀ g, g < G → dr g = d g) ∧ CEp d (iT s) G ce 0 ∧ SO d (iT s) G k m l ∧ lv = [some (sR 0), some (sI i), some (sI (nI m)), some (sI (nI l)), some (sI (nI k)), none, none, none] ∧ st = [] ∧ w = drW s q (tq0 t) dr ce)), (48, ([true, true, true, true, true, true, true, false], fun n lv st w => ∃ (i' k m l jj : Nat) (nx : Int32) (dr ce : PA), i = nI i' ∧ i' < 2 ^ 31 ∧ k ≤ i' ∧ k < 7 ∧ jj ≤ G ∧ n = 20 * (7 - k) + (2 * jj + 2) ∧ (∀ g, g < G → dr g = d g) ∧ CEp d (iT s) G ce 0 ∧ SO d (iT s) G k m l ∧ ((nx = -4 ∧ ∀ g, jj ≤ g → g < G → ¬ MY d (Dm (iT s) m) l g) ∨ (∃ g, jj ≤ g ∧ g < G ∧ nx = nI g ∧ MY d (Dm (iT s) m) l g ∧ ∀ o, jj ≤ o → o < g → ¬ MY d (Dm (iT s) m) l o)) ∧ lv = [some (sR 0), some (sI i), some (sI (nI m)), some (sI (nI l)), some (sI (nI k)), some (sI nx), some (sI (nI jj + (-1))), none] ∧ st = [] ∧ w = drW s q (tq0 t) dr ce)), (97, ([true, true, true, true, true, true, true, false], fun n lv st w => ∃ (i' k m l g : Nat) (nx : Int32) (dr ce : PA), i = nI i' ∧ i' < 2 ^ 31 ∧ k ≤ i' ∧ k < 7 ∧ g < G ∧ n = 20 * (7 - k) + (2 * g + 3) ∧ (∀ g, g < G → dr g = d g) ∧ CEp d (iT s) G ce 0 ∧ SO d (iT s) G k m l ∧ ((nx = -4 ∧ ∀ o, g + 1 ≤ o → o < G → ¬ MY d (Dm (iT s) m) l o) ∨ (∃ g', g + 1 ≤ g' ∧ g' < G ∧ nx = nI g' ∧ MY d (Dm (iT s) m) l g' ∧ ∀ o, g + 1 ≤ o → o < g' → ¬ MY d (Dm (iT s) m) l o)) ∧ tb (Dm (iT s) m) (nI g) ∧ UL d l g ∧ lv = [some (sR 0), some (sI i), some (sI (nI m)), some (sI (nI l)), some (sI (nI k)), some (sI nx), some (sI (nI g)), none] ∧ st = [] ∧ w = drW s q (tq0 t) dr ce))] pX6_seats_ok kX6_seats.2.2.2.2.2.2.2 fdX6 cdX6 rto1 cok_X6_seats (Nat.le_of_ble_eq_true rfl) ?_ ?_ l D σ cA sz
  · refine List.forall_mem_cons.mpr ⟨?_, List.forall_mem_cons.mpr ⟨?_, List.forall_mem_cons.mpr ⟨?_, cut0⟩⟩⟩
    · rintro n lv st w ⟨i', k, m, l, dr, ce, ei, hi', hki, rfl, hd, hce, hSO, rfl, rfl, rfl⟩
      have hi0 : ¬ i < 0 := by rw [ei]; exact nI_pos hi'
      have eix : ix i = i' := by rw [ei]; exact nI_clamp hi'
      have hr := hr hi0
      rw [eix] at hr
      have hk7 := hSO.2.1
      conv => whnf
      refine ⟨fun hc => ?_, fun hc => ?_⟩
      · rw [ei] at hc
        have hlt := (nI_ltI hi' (by omega)).mp hc
        have ek : k = i' + 1 := by omega
        conv => whnf
        refine ⟨fun h7 => ?_, fun h7 => ?_⟩
        · rw [ei] at h7
          have := (nI_leI (by decide) hi').mp (show nI 7 ≤ nI i' from h7)
          omega
        · conv => whnf
          refine kI (h (iSn s) (iLn s) (tsD (tq0 t) dr ce) hT) ?_
          obtain ⟨z1, z2, z3, z4, z5⟩ := hSO.2.2.1.resolve_left (fun z => by omega)
          have hp := hSO.2.2.2.1
          rw [hr, if_pos ⟨z4, by rw [ei]; exact (pop_lt hB hi').mpr (by omega)⟩, z5, ek, Nat.add_sub_cancel]
      · rw [ei] at hc
        have hle : k ≤ i' := Nat.not_lt.mp (fun z => hc (nI_lt z (by omega)))
        conv => whnf
        refine ⟨fun h7 => ?_, fun h7 => ?_⟩
        · have h7 : 7 ≤ k := (nI_leI (by decide) (by omega)).mp (show nI 7 ≤ nI k from h7)
          have h7i : nI 7 ≤ i := by rw [ei]; exact nI_le (by omega) hi'
          conv => whnf
          refine ⟨fun _ => ?_, fun z => absurd h7i z⟩
          conv => whnf
          refine kI (h (iSn s) (iLn s) (tsD (tq0 t) dr ce) hT) ?_
          rw [hr, if_neg (fun z => by
            have := (pop_lt hB hi').mp (ei ▸ z.2)
            omega)]
        · have hk : k < 7 := Nat.not_le.mp (fun z => h7 (show nI 7 ≤ nI k from nI_le z (by omega)))
          conv => whnf
          refine ⟨20 * (7 - k) + (2 * G + 2), by omega, i', k, m, l, G, -4, dr, ce, ei, hi', hle, hk, Nat.le_refl _, rfl, hd, hce, hSO, Or.inl ⟨rfl, fun g h1 h2 => by omega⟩, ?_, rfl, rfl⟩
          rw [← eg1]
          rfl
    · rintro n lv st w ⟨i', k, m, l, jj, nx, dr, ce, ei, hi', hki, hk, hjj, rfl, hd, hce, hSO, hnx, rfl, rfl, rfl⟩
      have hi0 : ¬ i < 0 := by rw [ei]; exact nI_pos hi'
      have eix : ix i = i' := by rw [ei]; exact nI_clamp hi'
      have hr := hr hi0
      rw [eix] at hr
      cases jj with
      | zero =>
        conv => whnf
        refine ⟨fun _ => ?_, fun z => absurd (by decide) z⟩
        conv => whnf
        rcases hnx with ⟨e4, hall⟩ | ⟨g, -, hg, eg, hmy, hb⟩
        · refine ⟨fun z => absurd z (by rw [e4]; decide), fun _ => ?_⟩
          conv => whnf
          refine kI (h (iSn s) (iLn s) (tsD (tq0 t) dr ce) hT) ?_
          rw [hr, if_neg (fun z => SO_no hB hG7 hTG hSO hki (fun g hg => hall g (Nat.zero_le _) hg) ⟨z.1, (pop_lt hB hi').mp (ei ▸ z.2)⟩)]
        · refine ⟨fun _ => ?_, fun z => absurd (by rw [eg]; exact nI_pos' (by omega)) z⟩
          conv => whnf
          have hS2 := SO_s hB hG7 hSO hk hg hmy (fun o ho => hb o (Nat.zero_le _) ho)
          have o1 := (orB_0 ⟨m, hSO.1⟩ ⟨g, by omega⟩).1
          dsimp only at o1
          rw [eg, o1, nI_1]
          exact ⟨20 * (8 - (k + 1)), by omega, i', k + 1, orB m g, g, dr, ce, ei, hi', by omega, rfl, hd, hce, hS2, rfl, rfl, rfl⟩
      | succ g =>
        rw [pk_m1]
        have hgl : g < G := hjj
        have no : ¬ MY d (Dm (iT s) m) l g → ∃ n', n' < 20 * (7 - k) + (2 * (g + 1) + 2) ∧ ∃ (i'_1 k_1 m_1 l_1 jj : Nat) (nx_1 : Int32) (dr_1 ce_1 : PA), i = nI i'_1 ∧ i'_1 < 2 ^ 31 ∧ k_1 ≤ i'_1 ∧ k_1 < 7 ∧ jj ≤ G ∧ n' = 20 * (7 - k_1) + (2 * jj + 2) ∧ (∀ g, g < G → dr_1 g = d g) ∧ CEp d (iT s) G ce_1 0 ∧ SO d (iT s) G k_1 m_1 l_1 ∧ ((nx_1 = -4 ∧ ∀ g, jj ≤ g → g < G → ¬ MY d (Dm (iT s) m_1) l_1 g) ∨ (∃ g, jj ≤ g ∧ g < G ∧ nx_1 = nI g ∧ MY d (Dm (iT s) m_1) l_1 g ∧ ∀ o, jj ≤ o → o < g → ¬ MY d (Dm (iT s) m_1) l_1 o)) ∧ [some (sR 0), some (sI i), some (sI (nI m)), some (sI (nI l)), some (sI (nI k)), some (sI nx), some (sI (nI g + (-1))), none] = [some (sR 0), some (sI i), some (sI (nI m_1)), some (sI (nI l_1)), some (sI (nI k_1)), some (sI nx_1), some (sI (nI jj + (-1))), none] ∧ ([] : List sv) = [] ∧ drW s q (tq0 t) dr ce = drW s q (tq0 t) dr_1 ce_1 := fun hn =>
          ⟨20 * (7 - k) + (2 * g + 2), by omega, i', k, m, l, g, nx, dr, ce, ei, hi', hki, hk, by omega, rfl, hd, hce, hSO, by
            have ex : ∀ o, g ≤ o → g + 1 ≤ o ∨ o = g := fun o ho => by omega
            rcases hnx with ⟨z1, z2⟩ | ⟨g', z1, z2, z3, z4, z5⟩
            · exact Or.inl ⟨z1, fun o h1 h2 => (ex o h1).elim (fun y => z2 o y h2) (fun y => by rw [y]; exact hn)⟩
            · exact Or.inr ⟨g', by omega, z2, z3, z4, fun o h1 h2 => (ex o h1).elim (fun y => z5 o y h2) (fun y => by rw [y]; exact hn)⟩, rfl, rfl, rfl⟩
        conv => whnf
        refine ⟨fun z => absurd z (nI_pos (by omega)), fun _ => ?_⟩
        conv => whnf
        refine ⟨fun hb => ?_, fun hb => ?_⟩
        · have hb : ¬ tb (Dm (iT s) m) (nI g) := bp_0.mp hb
          conv => whnf
          refine ⟨fun _ => ?_, fun z => absurd rfl z⟩
          conv => whnf
          exact no (fun z => hb z.1)
        have hb : tb (Dm (iT s) m) (nI g) := bp_n hb
        conv => whnf
        refine ⟨fun h7 => ?_, fun h7 => ?_⟩
        · have hl7 : l = 7 := by
            have hl8 : l < 8 := by
              rcases hSO.2.2.1 with ⟨-, -, z⟩ | ⟨-, z, -⟩
              · omega
              · have := z.1; omega
            exact (nI_eq (by omega) (by decide)).mp (show nI l = nI 7 from h7)
          conv => whnf
          refine ⟨fun z => absurd z (by decide), fun _ => ?_⟩
          conv => whnf
          exact ⟨20 * (7 - k) + (2 * g + 3), by omega, i', k, m, l, g, nx, dr, ce, ei, hi', hki, hk, hgl, rfl, hd, hce, hSO, hnx, hb, Or.inl hl7, rfl, rfl, rfl⟩
        have hRL : RLs (iT s) G m l := by
          rcases hSO.2.2.1 with ⟨-, -, z⟩ | ⟨-, z, -⟩
          · exact absurd (by rw [z]; rfl) h7
          · exact z
        have hl7 : l < 7 := by have := hRL.1; omega
        conv => whnf
        refine ⟨s, q, tsD (tq0 t) dr ce, l, g, rfl, rfl, hl7, by omega, ?_⟩
        have hul : (tDr (tsD (tq0 t) dr ce) l < 0 ∨ ¬ tDr (tsD (tq0 t) dr ce) l = tDr (tsD (tq0 t) dr ce) g) ↔ UL d l g := by
          show (dr l < 0 ∨ ¬ dr l = dr g) ↔ _
          rw [hd l hRL.1, hd g hgl]
          exact (UL_un hl7 (hdo l hl7)).symm
        conv => whnf
        refine ⟨fun hu => ?_, fun hu => ?_⟩
        · conv => whnf
          refine ⟨fun _ => ?_, fun z => absurd rfl z⟩
          conv => whnf
          exact no (fun z => bp_0.mp hu (hul.mpr z.2.1))
        · conv => whnf
          refine ⟨fun z => absurd z (by decide), fun _ => ?_⟩
          conv => whnf
          exact ⟨20 * (7 - k) + (2 * g + 3), by omega, i', k, m, l, g, nx, dr, ce, ei, hi', hki, hk, hgl, rfl, hd, hce, hSO, hnx, hb, hul.mp (bp_n hu), rfl, rfl, rfl⟩
    · rintro n lv st w ⟨i', k, m, l, g, nx, dr, ce, ei, hi', hki, hk, hgl, rfl, hd, hce, hSO, hnx, hb, hu, rfl, rfl, rfl⟩
      have hm := hSO.1
      obtain ⟨o1, o2, -⟩ := orB_0 ⟨m, hm⟩ ⟨g, by omega⟩
      dsimp only at o1 o2
      have eo : 8 * (nI m ||| jshl 1 (nI g)) + nI g = nI (8 * orB m g + g) := by
        rw [o1, show (8 : Int32) = nI 8 by decide, pk_mul, nI_add]
      have hcv : tCe (tsD (tq0 t) dr ce) (8 * orB m g + g) = bp (CN d (rmB (Dm (iT s) m) g) g) := by
        obtain ⟨r1, r2⟩ := RL_or hm hgl hG7 hb (SO_sub hSO)
        rw [← Dm_or hm (by omega)]
        exact hce _ _ o2 (Nat.zero_le _) r1
      have ex : ∀ o, g ≤ o → g + 1 ≤ o ∨ o = g := fun o ho => by omega
      conv => whnf
      rw [eo]
      refine ⟨vp_in_nI (by omega) (by decide), ?_⟩
      rw [show (nI (8 * orB m g + g)).toNatClampNeg = 8 * orB m g + g from nI_clamp (by omega)]
      conv => whnf
      refine ⟨fun hz => ?_, fun hz => ?_⟩
      · have hn : ¬ MY d (Dm (iT s) m) l g := fun z => bp_0.mp (hcv.symm.trans hz) z.2.2
        conv => whnf
        refine ⟨20 * (7 - k) + (2 * g + 2), by omega, i', k, m, l, g, nx, dr, ce, ei, hi', hki, hk, by omega, rfl, hd, hce, hSO, ?_, rfl, rfl, rfl⟩
        rcases hnx with ⟨z1, z2⟩ | ⟨g', z1, z2, z3, z4, z5⟩
        · exact Or.inl ⟨z1, fun o h1 h2 => (ex o h1).elim (fun y => z2 o y h2) (fun y => by rw [y]; exact hn)⟩
        · exact Or.inr ⟨g', by omega, z2, z3, z4, fun o h1 h2 => (ex o h1).elim (fun y => z5 o y h2) (fun y => by rw [y]; exact hn)⟩
      · have hy : MY d (Dm (iT s) m) l g := ⟨hb, hu, bp_n (fun z => hz (hcv.trans z))⟩
        conv => whnf
        exact ⟨20 * (7 - k) + (2 * g + 2), by omega, i', k, m, l, g, nI g, dr, ce, ei, hi', hki, hk, by omega, rfl, hd, hce, hSO, Or.inr ⟨g, Nat.le_refl _, hgl, rfl, hy, fun o h1 h2 => by omega⟩, rfl, rfl, rfl⟩
  · conv => whnf
    refine ⟨fun hc => ?_, fun hc => ?_⟩
    · obtain ⟨i', hi', ei⟩ := nI_of (Int32.not_lt.mpr hc)
      conv => whnf
      refine ⟨s, q, tq0 t, N, G, d, rfl, rfl, hIV', hGG, hG7, hTG, hde, fun dr ce hd hce => ?_⟩
      conv => whnf
      exact ⟨20 * (8 - 0), i', 0, 0, 7, dr, ce, ei, hi', Nat.zero_le _, rfl, hd, hce, SO_0, rfl, rfl, rfl⟩
    · conv => whnf
      exact kI (h (iSn s) (iLn s) (tq0 t) hT) (by unfold stR; rw [if_pos (Int32.not_le.mp hc)])
end
section
/-! ===== a call on a part of the world that leaves it as it was ===== -/
def Frd (F : Fn) : Fn := fun as w K => F as w fun r wc => wc = w ∧ K r w
theorem Qg_mono {D : va_G} {σ : Nat → Nat} {cA : Nat → ClassId} {A : Nat → Prop} {K K' : Option sv → List sc → Prop} (h : ∀ r w, K r w → K' r w) (a : Array Value) (s : State) (oc : Outcome) (t : State) (q : Qg D σ cA A K a s oc t) : Qg D σ cA A K' a s oc t := by
  obtain ⟨⟨r, w', h1, h2, h3⟩, h4⟩ := q
  exact ⟨⟨r, w', h1, h _ _ h2, h3⟩, h4⟩
theorem RunOK_rd {cc : ByteArray} {nL : Nat} {rt : Option FieldType} {own : String} {d pc : Nat} {vk : Option Nat} {na : Nat} {F : Fn} (h : RunOK cc nL rt own d pc vk na F) : RunOK cc nL rt own d pc vk na (Frd F) := by
  intro p l e s m args below meth c D σ cA X hnw H locs ls as w K B restV hF hlen hrok hP hD hls hrc
  have hr := h p l e s m args below meth c D σ cA X hnw H locs ls as w _ B restV hF hlen hrok hP hD hls hrc
  intro T hT X1
  obtain ⟨v, st₀, t, T', L, h0, X', hL, e1, e2, hq, st⟩ := hr T hT X1
  exact ⟨v, st₀, t, T', L, h0, X', hL, e1, e2, Qg_mono (fun r w' z => z.1 ▸ z.2) _ _ _ _ hq, st⟩
theorem popN_m {f g : List sv → List sv → Prop} (hh : ∀ a r, f a r → g a r) : ∀ {n : Nat} {st acc : List sv}, popN n st acc f → popN n st acc g
  | 0, st, acc, h => hh _ _ h
  | n + 1, [], acc, h => h.elim
  | n + 1, v :: st, acc, h => popN_m hh (n := n) (st := st) (acc := v :: acc) h
theorem ck_i {b : Bool} {A B : Prop} (h : ck b A) (hh : A → B) : ck b B := by
  cases b with
  | true => exact hh h
  | false => exact h.elim
theorem ck_1 {b : Bool} {A : Prop} (hb : b = true) (h : A) : ck b A := by rw [hb]; exact h
theorem rok_i {vk : Option Nat} {as : List sv} {w : List sc} {A B : Prop} (h : rok vk as w A) (hh : A → B) : rok vk as w B := by
  unfold rok at h ⊢
  split at h
  · exact hh h
  · rename_i ci k x
    cases hn : nth w k with
    | none => rw [hn] at h; exact h.elim
    | some c =>
      rw [hn] at h
      rcases c with ⟨cj, fs⟩ | c
      · exact ck_i (show ck _ _ from h) hh
      · exact h.elim
  · exact h.elim
theorem pick_i : ∀ {is : List Nat} {w cs : List sc} {g : List sc → Prop}, cs.length = is.length → (∀ k i, nth is k = some i → ∃ c, nth w i = some c ∧ nth cs k = some c) → g cs → pick is w g
  | [], w, [], g, _, _, h => h
  | [], w, c :: cs, g, hl, _, h => by simp at hl
  | i :: r, w, [], g, hl, _, h => by simp at hl
  | i :: r, w, c :: cs, g, hl, hc, h => by
    obtain ⟨c', h1, h2⟩ := hc 0 i rfl
    cases h2
    show oO (nth w i) _
    rw [h1]
    exact pick_i (is := r) (w := w) (cs := cs) (g := fun cs => g (c :: cs)) (by simpa using hl) (fun k j hk => hc (k + 1) j hk) h
theorem unrv_ren (is : List Nat) (v : sv) : unrv is (renv is v) = v := by
  rcases v with x | x | x
  · rfl
  · rfl
  · cases x with
    | none => rfl
    | some x => simp [renv, unrv, un_rn]
theorem unrc_ren (is : List Nat) (c : sc) : unrc is (renc is c) = c := by
  rcases c with ⟨ci, fs⟩ | ⟨t, n, f | f | f⟩
  · simp only [renc, unrc, List.map_map]
    rw [show (unrv is ∘ renv is) = id from funext (fun v => unrv_ren is v)]
    simp
  · rfl
  · rfl
  · have e : (fun i => ((f i).map (rn is)).map (un is)) = f := by
      funext i
      cases f i with
      | none => rfl
      | some x => simp [un_rn]
    simp only [renc, unrc]
    rw [e]
theorem snth_same {α : Type} : ∀ (l : List α) (i : Nat) (c : α), nth l i = some c → snth l i c = l
  | [], i, c, h => by cases i <;> cases h
  | a :: r, 0, c, h => by cases h; rfl
  | a :: r, i + 1, c, h => by
    show a :: snth r i c = a :: r
    rw [snth_same r i c h]
theorem putw_same (is0 : List Nat) : ∀ {r : List Nat} {w cs : List sc}, cs.length = r.length → (∀ k i, nth r k = some i → ∃ c, nth w i = some c ∧ nth cs k = some c) → putw is0 r w (cs.map (renc is0)) = w
  | [], w, cs, hl, _ => by
    cases cs with
    | nil => rfl
    | cons => simp at hl
  | i :: r, w, [], hl, _ => by simp at hl
  | i :: r, w, c :: cs, hl, hc => by
    obtain ⟨c', h1, h2⟩ := hc 0 i rfl
    cases h2
    show putw is0 r (snth w i (unrc is0 (renc is0 c))) (cs.map (renc is0)) = w
    rw [unrc_ren, snth_same w i c h1]
    exact putw_same is0 (by simpa using hl) (fun k j hk => hc (k + 1) j hk)
def cQ (is : List Nat) (vk : Option Nat) (na : Nat) (F : Fn) (st : List sv) (w : List sc) (kk : List sv → List sc → Prop) : Prop :=
  popN na st [] fun as rest => ck (Nat.ble (rcat rest) 8) (pick is w fun cs => rok vk (as.map (renv is)) (cs.map (renc is)) (F (as.map (renv is)) (cs.map (renc is)) fun r wc => wc = cs.map (renc is) ∧ kk (oL (r.map (unrv is)) ++ rest) w))
theorem site_q {cc : ByteArray} {nL d pc na : Nat} {rt : Option FieldType} {own : String} {vk : Option Nat} {F : Fn} (is : List Nat) (hn : va_nd is = true) (hR : RunOK cc nL rt own d pc vk na F) : SiteOK cc nL rt own d pc (cQ is vk na F) := by
  have hg := site_gen is hn (RunOK_rd hR)
  intro p l e s m args below meth c D σ cA A Q X hnw hA st w kk h lv hk
  refine hg p l e s m args below meth c D σ cA A Q X hnw hA st w kk (popN_m (fun as rest h => ck_i h (fun h => ?_)) h) lv hk
  obtain ⟨cs, h1, h2, h3⟩ := pick_e h
  refine pick_i h2 h3 (rok_i h1 (fun h1 => ?_))
  have e : (fun (r : Option sv) (wc : List sc) => wc = cs.map (renc is) ∧ kk (oL (r.map (unrv is)) ++ rest) w) = (fun r wc => wc = cs.map (renc is) ∧ ck (Nat.beq is.length (cs.map (renc is)).length) (kk (oL (r.map (unrv is)) ++ rest) (putw is is w (cs.map (renc is))))) := by
    funext r wc
    rw [putw_same is h2 h3, show Nat.beq is.length (cs.map (renc is)).length = true by rw [List.length_map, h2]; exact Nat.beq_refl _]
    rfl
  rw [e] at h1
  exact h1
end
section
/-! ===== a shelf: what it holds, a kind, a figure, a sort, a size, cells ===== -/
abbrev ShS : Type := Int32 × Int32 × Int32 × Int32 × Int32 × PA
abbrev uO (u : ShS) : Int32 := u.1
abbrev uK (u : ShS) : Int32 := u.2.1
abbrev uF (u : ShS) : Int32 := u.2.2.1
abbrev uS (u : ShS) : Int32 := u.2.2.2.1
abbrev uM (u : ShS) : Int32 := u.2.2.2.2.1
abbrev uC (u : ShS) : PA := u.2.2.2.2.2
/-- the object, the inn as it is, the inn in mind, the row of shelves, one shelf (the d-th) and its cells -/
def shX (f : Nat → Option Nat) (u : ShS) : List sc := [aR 8 f, oC 2 [sI (uO u), sI (uK u), sI (uF u), sI (uS u), sI (uM u), sR 17], aI 100 (uC u)]
def xS (r2 r4 r5 : sv) (hi : Int32) (s m : InnS) (f : Nat → Option Nat) (u : ShS) : List sc := x2W r2 (sR 15) r4 r5 hi s m ++ shX f u
def SH (u : ShS) : Prop := rng 3 (uO u) ∧ (uO u = 1 → rng 8 (uK u) ∧ rng 10 (uF u)) ∧ (uO u = 2 → rng 3 (uS u) ∧ rng 101 (uM u))
/-- the reference's shelf d is u -/
def SR (q : Pm) (d : Nat) (u : ShS) : Prop := qH q d = uO u ∧ (uO u = 1 → qK q d = uK u ∧ qF q d = uF u) ∧ (uO u = 2 → qS q d = uS u ∧ qM q d = uM u ∧ ∀ i, i < ix (uM u) → qR q (100 * d + i) = (uC u i).toInt64)
def reF (u : ShS) (d v : Int32) : Int32 := if 0 ≤ d ∧ d ≤ 7 then (if uO u = 0 then -11 else if uO u = v then 0 else -12) else -1
theorem re_0 {u : ShS} {d v : Int32} (h : reF u d v = 0) : (0 ≤ d ∧ d ≤ 7) ∧ uO u = v := by
  unfold reF at h
  split at h
  · rename_i h1
    split at h
    · exact absurd h (by decide)
    · split at h
      · exact ⟨h1, by assumption⟩
      · exact absurd h (by decide)
  · exact absurd h (by decide)
theorem re_ge {u : ShS} {d v : Int32} (h : 0 ≤ reF u d v) : reF u d v = 0 := by
  unfold reF at h ⊢
  split at h
  · split at h
    · exact absurd h (by decide)
    · split at h
      · rename_i h1 h2 h3
        rw [if_pos h1, if_neg h2, if_pos h3]
      · exact absurd h (by decide)
  · exact absurd h (by decide)
theorem re_lt {u : ShS} {d v : Int32} (h : ¬ 0 ≤ reF u d v) : ¬ reF u d v = 0 := fun z => h (by rw [z]; decide)
theorem sh_in {d : Int32} (h : 0 ≤ d ∧ d ≤ 7) : vp_in d 8 := by
  obtain ⟨j, hj, rfl⟩ := in_rng (n := 7) (by decide) h
  exact vp_in_nI (by omega) (by decide)
theorem sh_n {d : Int32} (h : 0 ≤ d ∧ d ≤ 7) : ∃ j, j < 8 ∧ d = nI j := by
  obtain ⟨j, hj, rfl⟩ := in_rng (n := 7) (by decide) h
  exact ⟨j, by omega, rfl⟩
def F_X5_refusalUnless : Fn := fun as w K => ∃ (r2 r4 r5 : sv) (hi : Int32) (s m : InnS) (f : Nat → Option Nat) (u : ShS) (d v : Int32), as = [sR 0, sI d, sI v] ∧ w = xS r2 r4 r5 hi s m f u ∧ (0 ≤ d ∧ d ≤ 7 → f (ix d) = some 16) ∧ K (some (.inl (reF u d v))) w
def ctb_X5_refusalUnless : List (Nat × (List sv → List sc → (List sv → List sc → Prop) → Prop)) := [(1, cS none 1 F_X5_isShelf)]
theorem cok_X5_refusalUnless : CallOK cX5_refusalUnless 3 (some .int) RX5 3 ctb_X5_refusalUnless := CallOK_cons (site_same (rnS (pX5_refusalUnless_ok 1 _ rfl) ct_X5_isShelf kX5_isShelf lRX5_246 (by decide))) (CallOK_nil)
theorem ct_X5_refusalUnless : Ct yX5_refusalUnless cX5_refusalUnless 3 (some .int) 3 F_X5_refusalUnless := by
  intro l D σ cA sz as w K h
  obtain ⟨r2, r4, r5, hi, s, m, f, u, d, v, rfl, rfl, hf, h⟩ := h
  refine metL (pr := lkB pX5_refusalUnless) (rk := 1) (ct := ctb_X5_refusalUnless) (fld := lkB flX5) (cst := lkB csX5) (cstL := lkB clX5) [] pX5_refusalUnless_ok kX5_refusalUnless.2.2.2.2.2.2.2 fdX5 cdX5 rto1 cok_X5_refusalUnless (Nat.le_of_ble_eq_true rfl) cut0 ?_ l D σ cA sz
  conv => whnf
  refine ⟨fun hc => ?_, fun hc => ?_⟩
  · have hc := bp_n hc
    have hf := hf hc
    have hv := sh_in hc
    conv => whnf
    refine ⟨hv, ?_⟩
    rw [hf]
    conv => whnf
    refine ⟨fun h1 => ?_, fun h1 => ?_⟩
    · conv => whnf
      refine ⟨hv, ?_⟩
      rw [hf]
      conv => whnf
      refine ⟨fun h2 => ?_, fun h2 => ?_⟩
      · conv => whnf
        exact kI h (by unfold reF; rw [if_pos hc, if_neg h1, if_neg h2])
      · conv => whnf
        exact kI h (by unfold reF; rw [if_pos hc, if_neg h1, if_pos h2])
    · conv => whnf
      exact kI h (by unfold reF; rw [if_pos hc, if_pos h1])
  · conv => whnf
    exact kI h (by unfold reF; rw [if_neg (bp_0.mp hc)])
def F_X5_rowRefusal : Fn := fun as w K => ∃ (r2 r4 r5 : sv) (hi : Int32) (s m : InnS) (f : Nat → Option Nat) (u : ShS) (d : Int32), as = [sR 0, sI d] ∧ w = xS r2 r4 r5 hi s m f u ∧ (0 ≤ d ∧ d ≤ 7 → f (ix d) = some 16) ∧ K (some (.inl (reF u d 2))) w
def ctb_X5_rowRefusal : List (Nat × (List sv → List sc → (List sv → List sc → Prop) → Prop)) := [(3, cS (some 3) 3 F_X5_refusalUnless)]
theorem cok_X5_rowRefusal : CallOK cX5_rowRefusal 2 (some .int) RX5 4 ctb_X5_rowRefusal := CallOK_cons (site_same (rnV (pX5_rowRefusal_ok 3 _ rfl) ct_X5_refusalUnless kX5_refusalUnless lRX5_308 (by decide))) (CallOK_nil)
theorem ct_X5_rowRefusal : Ct yX5_rowRefusal cX5_rowRefusal 2 (some .int) 4 F_X5_rowRefusal := by
  intro l D σ cA sz as w K h
  obtain ⟨r2, r4, r5, hi, s, m, f, u, d, rfl, rfl, hf, h⟩ := h
  refine metL (pr := lkB pX5_rowRefusal) (rk := 1) (ct := ctb_X5_rowRefusal) (fld := lkB flX5) (cst := lkB csX5) (cstL := lkB clX5) [] pX5_rowRefusal_ok kX5_rowRefusal.2.2.2.2.2.2.2 fdX5 cdX5 rto1 cok_X5_rowRefusal (Nat.le_of_ble_eq_true rfl) cut0 ?_ l D σ cA sz
  conv => whnf
  refine ⟨r2, r4, r5, hi, s, m, f, u, d, 2, rfl, rfl, hf, ?_⟩
  conv => whnf
  exact h
def F_X5_kindRefusal : Fn := fun as w K => ∃ (r2 r4 r5 : sv) (hi : Int32) (s m : InnS) (f : Nat → Option Nat) (u : ShS) (d : Int32), as = [sR 0, sI d] ∧ w = xS r2 r4 r5 hi s m f u ∧ (0 ≤ d ∧ d ≤ 7 → f (ix d) = some 16) ∧ K (some (.inl (reF u d 1))) w
def ctb_X5_kindRefusal : List (Nat × (List sv → List sc → (List sv → List sc → Prop) → Prop)) := [(3, cS (some 3) 3 F_X5_refusalUnless)]
theorem cok_X5_kindRefusal : CallOK cX5_kindRefusal 2 (some .int) RX5 4 ctb_X5_kindRefusal := CallOK_cons (site_same (rnV (pX5_kindRefusal_ok 3 _ rfl) ct_X5_refusalUnless kX5_refusalUnless lRX5_308 (by decide))) (CallOK_nil)
theorem ct_X5_kindRefusal : Ct yX5_kindRefusal cX5_kindRefusal 2 (some .int) 4 F_X5_kindRefusal := by
  intro l D σ cA sz as w K h
  obtain ⟨r2, r4, r5, hi, s, m, f, u, d, rfl, rfl, hf, h⟩ := h
  refine metL (pr := lkB pX5_kindRefusal) (rk := 1) (ct := ctb_X5_kindRefusal) (fld := lkB flX5) (cst := lkB csX5) (cstL := lkB clX5) [] pX5_kindRefusal_ok kX5_kindRefusal.2.2.2.2.2.2.2 fdX5 cdX5 rto1 cok_X5_kindRefusal (Nat.le_of_ble_eq_true rfl) cut0 ?_ l D σ cA sz
  conv => whnf
  refine ⟨r2, r4, r5, hi, s, m, f, u, d, 1, rfl, rfl, hf, ?_⟩
  conv => whnf
  exact h
/-- whatever lies beside it -/
def F_X5_inMindE : Fn := fun as w K => ∃ (r2 r3 r4 r5 : sv) (hi : Int32) (s m : InnS) (ext : List sc), as = [sR 0] ∧ w = x2W r2 r3 r4 r5 hi s m ++ ext ∧ ZB s ∧ ZB m ∧ K (some (sR 8)) (x2W r2 r3 r4 r5 hi s s ++ ext)
def ctb_X5_inMind_E : List (Nat × (List sv → List sc → (List sv → List sc → Prop) → Prop)) := [(8, cG [8, 9, 10, 11, 12, 13, 14, 1, 2, 3, 4, 5, 6, 7] (some 0) 2 F_X0_become)]
theorem cok_X5_inMind_E : CallOK cX5_inMind 1 (some (.object "ServesWhatOneDreamt$Inn")) RX5 2 ctb_X5_inMind_E := CallOK_cons (site_gen [8, 9, 10, 11, 12, 13, 14, 1, 2, 3, 4, 5, 6, 7] (by decide) (rnV (pX5_inMind_ok 8 _ rfl) ct_X0_become kX0_become lRX5_76 (by decide))) (CallOK_nil)
theorem ct_X5_inMindE : Ct yX5_inMind cX5_inMind 1 (some (.object "ServesWhatOneDreamt$Inn")) 2 F_X5_inMindE := by
  intro l D σ cA sz as w K h
  obtain ⟨r2, r3, r4, r5, hi, s, m, ext, rfl, rfl, hZ, hM, h⟩ := h
  refine metL (pr := lkB pX5_inMind) (rk := 4) (ct := ctb_X5_inMind_E) (fld := lkB flX5) (cst := lkB csX5) (cstL := lkB clX5) [] pX5_inMind_ok kX5_inMind.2.2.2.2.2.2.2 fdX5 cdX5 (rto4 _) cok_X5_inMind_E (Nat.le_of_ble_eq_true rfl) cut0 ?_ l D σ cA sz
  conv => whnf
  refine ⟨m, s, rfl, rfl, hM, hZ, ?_⟩
  conv => whnf
  exact h
def F_X6_wrongRow : Fn := fun as w K => ∃ (s : InnS) (q : Pm) (t : Tm) (u : ShS) (d : Int32), as = [sR 0, sI d] ∧ w = modW s q t ∧ (0 ≤ d ∧ d ≤ 7 → SR q (ix d) u) ∧ K (some (.inl (reF u d 2))) w
def ctb_X6_wrongRow : List (Nat × (List sv → List sc → (List sv → List sc → Prop) → Prop)) := [(6, cS none 3 F_X6_in)]
theorem cok_X6_wrongRow : CallOK cX6_wrongRow 2 (some .int) RX6 2 ctb_X6_wrongRow := CallOK_cons (site_same (rnS (pX6_wrongRow_ok 6 _ rfl) ct_X6_in kX6_in lRX6_81 (by decide))) (CallOK_nil)
theorem ct_X6_wrongRow : Ct yX6_wrongRow cX6_wrongRow 2 (some .int) 2 F_X6_wrongRow := by
  intro l D σ cA sz as w K h
  obtain ⟨s, q, t, u, d, rfl, rfl, hu, h⟩ := h
  refine metL (pr := lkB pX6_wrongRow) (rk := 1) (ct := ctb_X6_wrongRow) (fld := lkB flX6) (cst := lkB csX6) (cstL := lkB clX6) [] pX6_wrongRow_ok kX6_wrongRow.2.2.2.2.2.2.2 fdX6 cdX6 rto1 cok_X6_wrongRow (Nat.le_of_ble_eq_true rfl) cut0 ?_ l D σ cA sz
  conv => whnf
  refine ⟨fun hc => ?_, fun hc => ?_⟩
  · have hc := bp_n (fun z => hc ((in_ii 0 d 7).trans z))
    have hv := sh_in hc
    have e0 : qH q d.toNatClampNeg = uO u := (hu hc).1
    conv => whnf
    refine ⟨hv, ?_⟩
    rw [e0]
    conv => whnf
    refine ⟨fun h1 => ?_, fun h1 => ?_⟩
    · conv => whnf
      refine ⟨hv, ?_⟩
      rw [e0]
      conv => whnf
      refine ⟨fun h2 => ?_, fun h2 => ?_⟩
      · conv => whnf
        exact kI h (by unfold reF; rw [if_pos hc, if_neg h1, if_pos h2])
      · conv => whnf
        exact kI h (by unfold reF; rw [if_pos hc, if_neg h1, if_neg h2])
    · conv => whnf
      exact kI h (by unfold reF; rw [if_pos hc, if_pos h1])
  · have hc := bp_0.mp ((in_ii 0 d 7).symm.trans hc)
    conv => whnf
    exact kI h (by unfold reF; rw [if_neg hc])
def F_X6_wrongKept : Fn := fun as w K => ∃ (s : InnS) (q : Pm) (t : Tm) (u : ShS) (d : Int32), as = [sR 0, sI d] ∧ w = modW s q t ∧ (0 ≤ d ∧ d ≤ 7 → SR q (ix d) u ∧ SH u) ∧ K (some (.inl (reF u d 1))) w
theorem r3_1 {x : Int32} (h : rng 3 x) (h0 : ¬ x = 0) (h2 : ¬ x = 2) : x = 1 := by
  obtain ⟨j, hj, rfl⟩ := h
  rcases (show j = 0 ∨ j = 1 ∨ j = 2 by omega) with rfl | rfl | rfl
  · exact absurd rfl h0
  · rfl
  · exact absurd rfl h2
def ctb_X6_wrongKept : List (Nat × (List sv → List sc → (List sv → List sc → Prop) → Prop)) := [(6, cS none 3 F_X6_in)]
theorem cok_X6_wrongKept : CallOK cX6_wrongKept 2 (some .int) RX6 2 ctb_X6_wrongKept := CallOK_cons (site_same (rnS (pX6_wrongKept_ok 6 _ rfl) ct_X6_in kX6_in lRX6_81 (by decide))) (CallOK_nil)
theorem ct_X6_wrongKept : Ct yX6_wrongKept cX6_wrongKept 2 (some .int) 2 F_X6_wrongKept := by
  intro l D σ cA sz as w K h
  obtain ⟨s, q, t, u, d, rfl, rfl, hu, h⟩ := h
  refine metL (pr := lkB pX6_wrongKept) (rk := 1) (ct := ctb_X6_wrongKept) (fld := lkB flX6) (cst := lkB csX6) (cstL := lkB clX6) [] pX6_wrongKept_ok kX6_wrongKept.2.2.2.2.2.2.2 fdX6 cdX6 rto1 cok_X6_wrongKept (Nat.le_of_ble_eq_true rfl) cut0 ?_ l D σ cA sz
  conv => whnf
  refine ⟨fun hc => ?_, fun hc => ?_⟩
  · have hc := bp_n (fun z => hc ((in_ii 0 d 7).trans z))
    have hv := sh_in hc
    have e0 : qH q d.toNatClampNeg = uO u := (hu hc).1.1
    conv => whnf
    refine ⟨hv, ?_⟩
    rw [e0]
    conv => whnf
    refine ⟨fun h1 => ?_, fun h1 => ?_⟩
    · conv => whnf
      refine ⟨hv, ?_⟩
      rw [e0]
      conv => whnf
      refine ⟨fun h2 => ?_, fun h2 => ?_⟩
      · conv => whnf
        exact kI h (by unfold reF; rw [if_pos hc, if_neg h1, if_pos (r3_1 (hu hc).2.1 h1 h2)])
      · conv => whnf
        exact kI h (by unfold reF; rw [if_pos hc, if_neg h1, if_neg (by rw [h2]; decide)])
    · conv => whnf
      exact kI h (by unfold reF; rw [if_pos hc, if_pos h1])
  · have hc := bp_0.mp ((in_ii 0 d 7).symm.trans hc)
    conv => whnf
    exact kI h (by unfold reF; rw [if_neg hc])
/-! what a cell tells -/
def leI (s : Int32) : Int32 := if s = 0 then -128 else if s = 1 then -32768 else -2147483648
def soP (u : ShS) (i : Nat) (v : Int32) : Prop := uC u i = v ∨ uC u i = leI (uS u)
def shW (u : ShS) : List sc := [oC 2 [sI (uO u), sI (uK u), sI (uF u), sI (uS u), sI (uM u), sR 1], aI 100 (uC u)]
def F_X3_leastNumber : Fn := fun as w K => ∃ (u : ShS), as = [sR 0] ∧ w = shW u ∧ K (some (.inl (leI (uS u)))) w
def ctb_X3_leastNumber : List (Nat × (List sv → List sc → (List sv → List sc → Prop) → Prop)) := []
theorem cok_X3_leastNumber : CallOK cX3_leastNumber 1 (some .int) RX3 1 ctb_X3_leastNumber := CallOK_nil
theorem ct_X3_leastNumber : Ct yX3_leastNumber cX3_leastNumber 1 (some .int) 1 F_X3_leastNumber := by
  intro l D σ cA sz as w K h
  obtain ⟨u, rfl, rfl, h⟩ := h
  refine metL (pr := lkB pX3_leastNumber) (rk := 1) (ct := ctb_X3_leastNumber) (fld := lkB flX3) (cst := lkB csX3) (cstL := lkB clX3) [] pX3_leastNumber_ok kX3_leastNumber.2.2.2.2.2.2.2 fdX3 cdX3 rto1 cok_X3_leastNumber (Nat.le_of_ble_eq_true rfl) cut0 ?_ l D σ cA sz
  repeat' ((conv => whnf); (first | refine And.intro (by first | decide | with_reducible assumption) ?_ | with_reducible refine And.intro (fun hc => ?_) (fun hc => ?_) | with_reducible refine And.intro (fun hc => ?_) ?_ | fail))
  all_goals try (conv => whnf)
  all_goals exact kI h (by unfold leI; clear h; simp_all)
def F_X3_isSo : Fn := fun as w K => ∃ (u : ShS) (i : Nat) (v : Int32), as = [sR 0, sI (nI i), sI v] ∧ w = shW u ∧ i < 100 ∧ K (some (.inl (bp (soP u i v)))) w
def ctb_X3_isSo : List (Nat × (List sv → List sc → (List sv → List sc → Prop) → Prop)) := [(17, cS (some 2) 1 F_X3_leastNumber)]
theorem cok_X3_isSo : CallOK cX3_isSo 3 (some .boolean) RX3 2 ctb_X3_isSo := CallOK_cons (site_same (rnV (pX3_isSo_ok 17 _ rfl) ct_X3_leastNumber kX3_leastNumber lRX3_35 (by decide))) (CallOK_nil)
theorem ct_X3_isSo : Ct yX3_isSo cX3_isSo 3 (some .boolean) 2 F_X3_isSo := by
  intro l D σ cA sz as w K h
  obtain ⟨u, i, v, rfl, rfl, hi, h⟩ := h
  have hv : vp_in (nI i) 100 := vp_in_nI hi (by decide)
  have ei : (nI i).toNatClampNeg = i := nI_clamp (by omega)
  refine metL (pr := lkB pX3_isSo) (rk := 2) (ct := ctb_X3_isSo) (fld := lkB flX3) (cst := lkB csX3) (cstL := lkB clX3) [] pX3_isSo_ok kX3_isSo.2.2.2.2.2.2.2 fdX3 cdX3 rto2 cok_X3_isSo (Nat.le_of_ble_eq_true rfl) cut0 ?_ l D σ cA sz
  conv => whnf
  refine ⟨hv, ?_⟩
  rw [ei]
  conv => whnf
  refine ⟨fun h1 => ?_, fun h1 => ?_⟩
  · conv => whnf
    exact kB h (Or.inl h1)
  · conv => whnf
    refine ⟨hv, ?_⟩
    rw [ei]
    conv => whnf
    refine ⟨u, rfl, rfl, ?_⟩
    conv => whnf
    refine ⟨fun h2 => ?_, fun h2 => ?_⟩
    · conv => whnf
      exact kB0 h (fun z => z.elim h1 h2)
    · conv => whnf
      exact kB h (Or.inr h2)
def F_X3_hasCell : Fn := fun as w K => ∃ (u : ShS) (i : Int32), as = [sR 0, sI i] ∧ w = shW u ∧ K (some (.inl (bp (0 ≤ i ∧ i ≤ uM u - 1)))) w
def ctb_X3_hasCell : List (Nat × (List sv → List sc → (List sv → List sc → Prop) → Prop)) := [(8, cS none 3 F_X5_within)]
theorem cok_X3_hasCell : CallOK cX3_hasCell 2 (some .boolean) RX3 2 ctb_X3_hasCell := CallOK_cons (site_same (rnN (pX3_hasCell_ok 8 _ rfl) ct_X5_within kX5_within (List.mem_of_getElem? (i := 2) rfl) (by decide))) (CallOK_nil)
theorem ct_X3_hasCell : Ct yX3_hasCell cX3_hasCell 2 (some .boolean) 2 F_X3_hasCell := by
  intro l D σ cA sz as w K h
  obtain ⟨u, i, rfl, rfl, h⟩ := h
  refine metL (pr := lkB pX3_hasCell) (rk := 2) (ct := ctb_X3_hasCell) (fld := lkB flX3) (cst := lkB csX3) (cstL := lkB clX3) [] pX3_hasCell_ok kX3_hasCell.2.2.2.2.2.2.2 fdX3 cdX3 rto2 cok_X3_hasCell (Nat.le_of_ble_eq_true rfl) cut0 ?_ l D σ cA sz
  repeat' ((conv => whnf); (first | refine And.intro (by first | decide | with_reducible assumption) ?_ | with_reducible refine And.intro (fun hc => ?_) (fun hc => ?_) | with_reducible refine And.intro (fun hc => ?_) ?_ | fail))
  all_goals try (conv => whnf)
  exact ⟨bp_01 _, h⟩
def F_X6_leastOf : Fn := fun as w K => match as with
  | [.inl s] => K (some (.inr (.inl (leI s).toInt64))) w
  | _ => False
theorem kL {K : Option sv → List sc → Prop} {w : List sc} {x y : Int64} (h : K (some (.inr (.inl x))) w) (e : x = y) : K (some (.inr (.inl y))) w := e ▸ h
def ctb_X6_leastOf : List (Nat × (List sv → List sc → (List sv → List sc → Prop) → Prop)) := []
theorem cok_X6_leastOf : CallOK cX6_leastOf 1 (some .long) RX6 1 ctb_X6_leastOf := CallOK_nil
theorem ct_X6_leastOf : Ct yX6_leastOf cX6_leastOf 1 (some .long) 1 F_X6_leastOf := by
  intro l D σ cA sz as w K h
  unfold F_X6_leastOf at h
  split at h
  · skip
    refine metL (pr := lkB pX6_leastOf) (rk := 3) (ct := ctb_X6_leastOf) (fld := lkB flX6) (cst := lkB csX6) (cstL := lkB clX6) [] pX6_leastOf_ok kX6_leastOf.2.2.2.2.2 fdX6 cdX6 rto3 cok_X6_leastOf (Nat.le_of_ble_eq_true rfl) cut0 ?_ l D σ cA sz
    repeat' ((conv => whnf); (first | refine And.intro (by first | decide | with_reducible assumption) ?_ | with_reducible refine And.intro (fun hc => ?_) (fun hc => ?_) | with_reducible refine And.intro (fun hc => ?_) ?_ | fail))
    all_goals try (conv => whnf)
    · exact kL h (by unfold leI; rw [if_neg (by assumption), if_neg (by assumption)]; decide)
    · exact kL h (by unfold leI; rw [if_neg (by assumption), if_pos (by assumption)]; decide)
    · exact kL h (by unfold leI; rw [if_pos (by assumption)]; decide)
  · exact h.elim
theorem lg_eq (x y : Int64) : lg_cmp x y = 0 ↔ x = y := by
  unfold lg_cmp
  by_cases h1 : x > y
  · rw [if_pos h1]
    exact ⟨fun h => absurd h (by decide), fun h => absurd h1 (by rw [h]; exact Int64.lt_irrefl)⟩
  · rw [if_neg h1]
    by_cases h2 : x = y
    · rw [if_pos h2]
      exact ⟨fun _ => h2, fun _ => rfl⟩
    · rw [if_neg h2]
      exact ⟨fun h => absurd h (by decide), fun h => absurd h h2⟩
theorem w_eq (a b : Int32) : a.toInt64 = b.toInt64 ↔ a = b := by
  refine ⟨fun h => ?_, fun h => by rw [h]⟩
  have := congrArg Int64.toInt h
  rw [Int32.toInt_toInt64, Int32.toInt_toInt64] at this
  exact Int32.toInt_inj.mp this
theorem ce_ii (a b : Int32) : lg_cmp a.toInt64 b.toInt64 = 0 ↔ a = b := (lg_eq _ _).trans (w_eq a b)
/-- where an element of the row lies -/
theorem row_ix {d i : Nat} (hd : d < 8) (hi : i < 100) : 100 * nI d + nI i = nI (100 * d + i) ∧ vp_in (nI (100 * d + i)) 800 ∧ (nI (100 * d + i)).toNatClampNeg = 100 * d + i := by
  refine ⟨?_, vp_in_nI (by omega) (by decide), nI_clamp (by omega)⟩
  rw [show (100 : Int32) = nI 100 by decide, pk_mul, nI_add]
def F_X6_isSkipped : Fn := fun as w K => ∃ (s : InnS) (q : Pm) (t : Tm) (u : ShS) (d i : Nat), as = [sR 0, sI (nI d), sI (nI i)] ∧ w = modW s q t ∧ d < 8 ∧ i < 100 ∧ qR q (100 * d + i) = (uC u i).toInt64 ∧ qS q d = uS u ∧ K (some (.inl (bp (uC u i = leI (uS u))))) w
def ctb_X6_isSkipped : List (Nat × (List sv → List sc → (List sv → List sc → Prop) → Prop)) := [(17, cS none 1 F_X6_leastOf)]
theorem cok_X6_isSkipped : CallOK cX6_isSkipped 3 (some .boolean) RX6 2 ctb_X6_isSkipped := CallOK_cons (site_same (rnS (pX6_isSkipped_ok 17 _ rfl) ct_X6_leastOf kX6_leastOf lRX6_280 (by decide))) (CallOK_nil)
theorem ct_X6_isSkipped : Ct yX6_isSkipped cX6_isSkipped 3 (some .boolean) 2 F_X6_isSkipped := by
  intro l D σ cA sz as w K h
  obtain ⟨s, q, t, u, d, i, rfl, rfl, hd, hi, e1, e2, h⟩ := h
  obtain ⟨r1, r2, r3⟩ := row_ix hd hi
  refine metL (pr := lkB pX6_isSkipped) (rk := 2) (ct := ctb_X6_isSkipped) (fld := lkB flX6) (cst := lkB csX6) (cstL := lkB clX6) [] pX6_isSkipped_ok kX6_isSkipped.2.2.2.2.2.2.2 fdX6 cdX6 rto2 cok_X6_isSkipped (Nat.le_of_ble_eq_true rfl) cut0 ?_ l D σ cA sz
  conv => whnf
  rw [r1]
  refine ⟨r2, ?_⟩
  rw [r3, e1]
  conv => whnf
  refine ⟨vp_in_nI hd (by decide), ?_⟩
  rw [show (nI d).toNatClampNeg = d from nI_clamp (by omega), e2]
  conv => whnf
  refine ⟨fun hc => ?_, fun hc => ?_⟩
  · conv => whnf
    exact kB0 h (fun z => hc ((ce_ii _ _).mpr z))
  · conv => whnf
    exact kB h ((ce_ii _ _).mp hc)
end
section
/-! ===== forged, judge ===== -/
noncomputable def fiA (P : Nat → Prop) (n : Nat) : Int32 := if fst P n = n then -4 else nI (fst P n)
theorem fiA_none {P : Nat → Prop} {n : Nat} (h : ∀ i, i < n → ¬ P i) : fiA P n = -4 := by unfold fiA; rw [fst_none h, if_pos rfl]
theorem fiA_some {P : Nat → Prop} {n j : Nat} (hj : j < n) (hp : P j) (hb : ∀ i, i < j → ¬ P i) : fiA P n = nI j := by
  unfold fiA
  rw [fst_some hp hb hj, if_neg (by omega)]
def foP (s : InnS) (u : ShS) (k : Nat) : Prop := 10 ≤ k ∨ ¬ uC u k = iP s k
noncomputable def foF (s : InnS) (u : ShS) (d : Int32) : Int32 := if reF u d 2 = 0 then fiA (foP s u) (ix (uM u)) else reF u d 2
theorem sz_n {u : ShS} (hu : SH u) (h2 : uO u = 2) : ∃ n, n ≤ 100 ∧ uM u = nI n ∧ ix (uM u) = n := by
  obtain ⟨n, hn, e⟩ := (hu.2.2 h2).2
  exact ⟨n, by omega, e, by rw [e]; exact nI_clamp (by omega)⟩
theorem pl9 {j : Nat} (hj : j < 1000) : (0 ≤ nI j ∧ nI j ≤ 9) ↔ j < 10 := by
  refine ⟨fun h => ?_, fun h => ⟨nI_pos' (by omega), show nI j ≤ nI 9 from nI_le (by omega) (by decide)⟩⟩
  have := (nI_leI (by omega) (by decide)).mp (show nI j ≤ nI 9 from h.2)
  omega
def F_X5_forged : Fn := fun as w K => ∃ (r2 r4 r5 : sv) (hi : Int32) (s m : InnS) (f : Nat → Option Nat) (u : ShS) (d : Int32), as = [sR 0, sI d] ∧ w = xS r2 r4 r5 hi s m f u ∧ (0 ≤ d ∧ d ≤ 7 → f (ix d) = some 16 ∧ SH u) ∧ K (some (.inl (foF s u d))) w
def ctb_X5_forged : List (Nat × (List sv → List sc → (List sv → List sc → Prop) → Prop)) := [(2, cS (some 3) 2 F_X5_rowRefusal), (33, cS none 1 F_X5_isPlate)]
theorem cok_X5_forged : CallOK cX5_forged 5 (some .int) RX5 5 ctb_X5_forged := CallOK_cons (site_same (rnV (pX5_forged_ok 2 _ rfl) ct_X5_rowRefusal kX5_rowRefusal lRX5_44 (by decide))) (CallOK_cons (site_same (rnS (pX5_forged_ok 33 _ rfl) ct_X5_isPlate kX5_isPlate lRX5_110 (by decide))) (CallOK_nil))
theorem ct_X5_forged : Ct yX5_forged cX5_forged 5 (some .int) 5 F_X5_forged := by
  intro l D σ cA sz as w K h
  obtain ⟨r2, r4, r5, hi, s, m, f, u, d, rfl, rfl, hf, h⟩ := h
  refine metL (pr := lkB pX5_forged) (rk := 1) (ct := ctb_X5_forged) (fld := lkB flX5) (cst := lkB csX5) (cstL := lkB clX5) [(22, ([true, true, false, true, true], fun x lv st w => ∃ (j n : Nat), j ≤ n ∧ n ≤ 100 ∧ uM u = nI n ∧ ix (uM u) = n ∧ x = n - j ∧ reF u d 2 = 0 ∧ (∀ i, i < j → ¬ foP s u i) ∧ lv = [some (sR 0), some (sI d), none, some (sR 16), some (sI (nI j))] ∧ st = [] ∧ w = xS r2 r4 r5 hi s m f u))] pX5_forged_ok kX5_forged.2.2.2.2.2.2.2 fdX5 cdX5 rto1 cok_X5_forged (Nat.le_of_ble_eq_true rfl) ?_ ?_ l D σ cA sz
  · refine List.forall_mem_cons.mpr ⟨?_, cut0⟩
    rintro x lv st w ⟨j, n, hj, hn, eM, eN, rfl, hre, hall, rfl, rfl, rfl⟩
    have hr : foF s u d = fiA (foP s u) n := by unfold foF; rw [if_pos hre, eN]
    conv => whnf
    refine ⟨fun hc => ?_, fun hc => ?_⟩
    · rw [eM] at hc
      obtain rfl := lp_ge hj (by omega) hc
      conv => whnf
      exact kI h (by rw [hr, fiA_none hall])
    · rw [eM] at hc
      have hlt := lp_lt hj (by omega) hc
      have ej : (nI j).toNatClampNeg = j := nI_clamp (by omega)
      conv => whnf
      refine ⟨fun h1 => ?_, fun h1 => ?_⟩
      · have h1 : ¬ j < 10 := fun z => bp_0.mp h1 ((pl9 (by omega)).mpr z)
        conv => whnf
        exact kI h (by rw [hr, fiA_some hlt (Or.inl (by omega)) hall])
      · have h1 : j < 10 := (pl9 (by omega)).mp (bp_n h1)
        conv => whnf
        refine ⟨vp_in_nI (by omega) (by decide), ?_⟩
        rw [ej]
        conv => whnf
        refine ⟨vp_in_nI h1 (by decide), ?_⟩
        rw [ej]
        conv => whnf
        refine ⟨fun h2 => ?_, fun h2 => ?_⟩
        · conv => whnf
          exact ⟨n - (j + 1), by omega, j + 1, n, hlt, hn, eM, eN, rfl, hre, lt_s hall (fun z => z.elim (fun y => by omega) (fun y => y h2)), by rw [← nI_1]; rfl, rfl, rfl⟩
        · conv => whnf
          exact kI h (by rw [hr, fiA_some hlt (Or.inr h2) hall])
  · conv => whnf
    refine ⟨r2, r4, r5, hi, s, m, f, u, d, rfl, rfl, fun z => (hf z).1, ?_⟩
    conv => whnf
    refine ⟨fun hc => ?_, fun hc => ?_⟩
    · obtain ⟨hd, h2⟩ := re_0 hc
      obtain ⟨n, hn, eM, eN⟩ := sz_n (hf hd).2 h2
      conv => whnf
      refine ⟨sh_in hd, ?_⟩
      rw [(hf hd).1]
      conv => whnf
      exact ⟨n, 0, n, Nat.zero_le _, hn, eM, eN, rfl, hc, lt_0, rfl, rfl, rfl⟩
    · conv => whnf
      exact kI h (by unfold foF; rw [if_neg hc])
def F_X6_forged : Fn := fun as w K => ∃ (s : InnS) (q : Pm) (t : Tm) (u : ShS) (d : Int32), as = [sR 0, sI d] ∧ w = modW s q t ∧ TZ t ∧ (0 ≤ d ∧ d ≤ 7 → SR q (ix d) u ∧ SH u) ∧ ∀ a b t', TZ t' → K (some (.inl (foF s u d))) (modW (snS s a b) q t')
def ctb_X6_forged : List (Nat × (List sv → List sc → (List sv → List sc → Prop) → Prop)) := [(7, cS (some 4) 2 F_X6_wrongRow)]
theorem cok_X6_forged : CallOK cX6_forged 4 (some .int) RX6 3 ctb_X6_forged := CallOK_cons (site_same (rnV (pX6_forged_ok 7 _ rfl) ct_X6_wrongRow kX6_wrongRow lRX6_184 (by decide))) (CallOK_nil)
theorem ct_X6_forged : Ct yX6_forged cX6_forged 4 (some .int) 3 F_X6_forged := by
  intro l D σ cA sz as w K h
  obtain ⟨s, q, t, u, d, rfl, rfl, hT, hu, h⟩ := h
  have h := h (iSn s) (iLn s) (tq0 t) hT
  refine metL (pr := lkB pX6_forged) (rk := 1) (ct := ctb_X6_forged) (fld := lkB flX6) (cst := lkB csX6) (cstL := lkB clX6) [(19, ([true, true, false, true], fun x lv st w => ∃ (j n d' : Nat), j ≤ n ∧ n ≤ 100 ∧ d' < 8 ∧ d = nI d' ∧ qM q d' = nI n ∧ ix (uM u) = n ∧ (∀ i, i < n → qR q (100 * d' + i) = (uC u i).toInt64) ∧ x = n - j ∧ reF u d 2 = 0 ∧ (∀ i, i < j → ¬ foP s u i) ∧ lv = [some (sR 0), some (sI (nI d')), none, some (sI (nI j))] ∧ st = [] ∧ w = modW s q (tq0 t)))] pX6_forged_ok kX6_forged.2.2.2.2.2.2.2 fdX6 cdX6 rto1 cok_X6_forged (Nat.le_of_ble_eq_true rfl) ?_ ?_ l D σ cA sz
  · refine List.forall_mem_cons.mpr ⟨?_, cut0⟩
    rintro x lv st w ⟨j, n, d', hj, hn, hd', ed, eM, eN, hrow, rfl, hre, hall, rfl, rfl, rfl⟩
    have hr : foF s u d = fiA (foP s u) n := by unfold foF; rw [if_pos hre, eN]
    conv => whnf
    refine ⟨vp_in_nI hd' (by decide), ?_⟩
    rw [show (nI d').toNatClampNeg = d' from nI_clamp (by omega), eM]
    conv => whnf
    refine ⟨fun hc => ?_, fun hc => ?_⟩
    · obtain rfl := lp_ge hj (by omega) hc
      conv => whnf
      exact kI h (by rw [hr, fiA_none hall])
    · have hlt := lp_lt hj (by omega) hc
      have ej : (nI j).toNatClampNeg = j := nI_clamp (by omega)
      obtain ⟨r1, r2, r3⟩ := row_ix hd' (show j < 100 by omega)
      conv => whnf
      refine ⟨fun h1 => ?_, fun h1 => ?_⟩
      · have h1 : 10 ≤ j := (nI_leI (by decide) (by omega)).mp (show nI 10 ≤ nI j from h1)
        conv => whnf
        exact kI h (by rw [hr, fiA_some hlt (Or.inl h1) hall])
      · have h1 : j < 10 := Nat.not_le.mp (fun z => h1 (show nI 10 ≤ nI j from nI_le z (by omega)))
        conv => whnf
        rw [r1]
        refine ⟨r2, ?_⟩
        rw [r3, hrow j hlt]
        conv => whnf
        refine ⟨vp_in_nI h1 (by decide), ?_⟩
        rw [ej]
        conv => whnf
        refine ⟨fun h2 => ?_, fun h2 => ?_⟩
        · have h2 := (ce_ii _ _).mp h2
          conv => whnf
          exact ⟨n - (j + 1), by omega, j + 1, n, d', hlt, hn, hd', ed, eM, eN, hrow, rfl, hre, lt_s hall (fun z => z.elim (fun y => by omega) (fun y => y h2)), by rw [← nI_1]; rfl, rfl, rfl⟩
        · conv => whnf
          exact kI h (by rw [hr, fiA_some hlt (Or.inr (fun z => h2 ((ce_ii _ _).mpr z))) hall])
  · conv => whnf
    refine ⟨s, q, tq0 t, u, d, rfl, rfl, fun z => (hu z).1, ?_⟩
    conv => whnf
    refine ⟨fun hc => ?_, fun hc => ?_⟩
    · have hc := re_ge hc
      obtain ⟨hd, h2⟩ := re_0 hc
      obtain ⟨n, hn, eM, eN⟩ := sz_n (hu hd).2 h2
      obtain ⟨d', hd', ed⟩ := sh_n hd
      obtain ⟨z1, z2, z3⟩ := (hu hd).1.2.2 h2
      rw [ed, show ix (nI d') = d' from nI_clamp (by omega)] at z2 z3
      rw [eN] at z3
      rw [ed] at hc
      conv => whnf
      exact ⟨n, 0, n, d', Nat.zero_le _, hn, hd', ed, z2.trans eM, eN, z3, rfl, by rw [ed]; exact hc, lt_0, by rw [ed]; rfl, rfl, rfl⟩
    · conv => whnf
      exact kI h (by unfold foF; rw [if_neg (re_lt hc)])
def juP (s : InnS) (u : ShS) (k : Nat) : Prop := ¬ soP u k (bx_sum (iP (nightsS k s)) 10)
noncomputable def juF (s : InnS) (u : ShS) (d : Int32) : Int32 := if reF u d 2 = 0 then fiA (juP s u) (ix (uM u)) else reF u d 2
def F_X5_judge : Fn := fun as w K => ∃ (r2 r4 r5 : sv) (hi : Int32) (s m : InnS) (f : Nat → Option Nat) (u : ShS) (N : Nat) (d : Int32), as = [sR 0, sI d] ∧ w = xS r2 r4 r5 hi s m f u ∧ (0 ≤ d ∧ d ≤ 7 → f (ix d) = some 16 ∧ SH u) ∧ IV s N ∧ ZB m ∧ ∀ m', ZB m' → K (some (.inl (juF s u d))) (xS r2 r4 r5 hi s m' f u)
def ctb_X5_judge : List (Nat × (List sv → List sc → (List sv → List sc → Prop) → Prop)) := [(2, cS (some 3) 2 F_X5_rowRefusal), (20, cS (some 3) 1 F_X5_inMindE), (42, cQ [8, 9, 10, 11, 12, 13, 14] (some 0) 1 F_X0_platesInAll), (45, cQ [16, 17] (some 2) 3 F_X3_isSo), (57, cG [8, 9, 10, 11, 12, 13, 14] (some 0) 2 F_X0_pass)]
theorem cok_X5_judge : CallOK cX5_judge 6 (some .int) RX5 6 ctb_X5_judge := CallOK_cons (site_same (rnV (pX5_judge_ok 2 _ rfl) ct_X5_rowRefusal kX5_rowRefusal lRX5_44 (by decide))) (CallOK_cons (site_same (rnV (pX5_judge_ok 20 _ rfl) ct_X5_inMindE kX5_inMind lRX5_58 (by decide))) (CallOK_cons (site_q [8, 9, 10, 11, 12, 13, 14] (by decide) (rnV (pX5_judge_ok 42 _ rfl) ct_X0_platesInAll kX0_platesInAll lRX5_202 (by decide))) (CallOK_cons (site_q [16, 17] (by decide) (rnV (pX5_judge_ok 45 _ rfl) ct_X3_isSo kX3_isSo lRX5_216 (by decide))) (CallOK_cons (site_gen [8, 9, 10, 11, 12, 13, 14] (by decide) (rnV (pX5_judge_ok 57 _ rfl) ct_X0_pass kX0_pass lRX5_136 (by decide))) (CallOK_nil)))))
theorem ct_X5_judge : Ct yX5_judge cX5_judge 6 (some .int) 6 F_X5_judge := by
  intro l D σ cA sz as w K h
  obtain ⟨r2, r4, r5, hi, s, m, f, u, N, d, rfl, rfl, hf, ⟨hZ, hG, hN, hN9, hB⟩, hM, h⟩ := h
  refine metL (pr := lkB pX5_judge) (rk := 1) (ct := ctb_X5_judge) (fld := lkB flX5) (cst := lkB csX5) (cstL := lkB clX5) [(28, ([true, true, false, true, true, true], fun x lv st w => ∃ (j n : Nat), j ≤ n ∧ n ≤ 100 ∧ uM u = nI n ∧ ix (uM u) = n ∧ x = n - j ∧ reF u d 2 = 0 ∧ (∀ i, i < j → ¬ juP s u i) ∧ lv = [some (sR 0), some (sI d), none, some (sR 16), some (sR 8), some (sI (nI j))] ∧ st = [] ∧ w = xS r2 r4 r5 hi s (nightsS j s) f u))] pX5_judge_ok kX5_judge.2.2.2.2.2.2.2 fdX5 cdX5 rto1 cok_X5_judge (Nat.le_of_ble_eq_true rfl) ?_ ?_ l D σ cA sz
  · refine List.forall_mem_cons.mpr ⟨?_, cut0⟩
    rintro x lv st w ⟨j, n, hj, hn, eM, eN, rfl, hre, hall, rfl, rfl, rfl⟩
    have hr : juF s u d = fiA (juP s u) n := by unfold juF; rw [if_pos hre, eN]
    have hz := ZB_nights hZ hG hN j (by omega)
    obtain ⟨g1, g2⟩ := nights_keep hG hN j (by omega)
    conv => whnf
    refine ⟨fun hc => ?_, fun hc => ?_⟩
    · rw [eM] at hc
      obtain rfl := lp_ge hj (by omega) hc
      conv => whnf
      exact kI (h _ hz) (by rw [hr, fiA_none hall])
    · rw [eM] at hc
      have hlt := lp_lt hj (by omega) hc
      conv => whnf
      refine ⟨nightsS j s, rfl, rfl, rfl, ?_⟩
      conv => whnf
      refine ⟨u, j, _, rfl, rfl, by omega, rfl, ?_⟩
      conv => whnf
      refine ⟨fun h1 => ?_, fun h1 => ?_⟩
      · conv => whnf
        refine ⟨nightsS j s, 1, N + j, rfl, rfl, g1, g2, by omega, ?_⟩
        conv => whnf
        exact ⟨n - (j + 1), by omega, j + 1, n, hlt, hn, eM, eN, rfl, hre, lt_s hall (fun z => z (bp_n h1)), by rw [← nI_1]; rfl, rfl, rfl⟩
      · conv => whnf
        exact kI (h _ hz) (by rw [hr, fiA_some hlt (bp_0.mp h1) hall])
  · conv => whnf
    refine ⟨r2, r4, r5, hi, s, m, f, u, d, rfl, rfl, fun z => (hf z).1, ?_⟩
    conv => whnf
    refine ⟨fun hc => ?_, fun hc => ?_⟩
    · obtain ⟨hd, h2⟩ := re_0 hc
      obtain ⟨n, hn, eM, eN⟩ := sz_n (hf hd).2 h2
      conv => whnf
      refine ⟨sh_in hd, ?_⟩
      rw [(hf hd).1]
      conv => whnf
      refine ⟨r2, sR 15, r4, r5, hi, s, m, shX f u, rfl, rfl, hZ, hM, ?_⟩
      conv => whnf
      exact ⟨n, 0, n, Nat.zero_le _, hn, eM, eN, rfl, hc, lt_0, rfl, rfl, rfl⟩
    · conv => whnf
      exact kI (h _ hM) (by unfold juF; rw [if_neg hc])
def F_X6_judge : Fn := fun as w K => ∃ (s : InnS) (q : Pm) (t : Tm) (u : ShS) (N : Nat) (d : Int32), as = [sR 0, sI d] ∧ w = modW s q t ∧ TZ t ∧ IV s N ∧ (0 ≤ d ∧ d ≤ 7 → SR q (ix d) u ∧ SH u) ∧ ∀ a b t', TZ t' → K (some (.inl (juF s u d))) (modW (snS s a b) q t')
def ctb_X6_judge : List (Nat × (List sv → List sc → (List sv → List sc → Prop) → Prop)) := [(7, cS (some 4) 2 F_X6_wrongRow), (21, cS (some 4) 1 F_X6_think), (46, cS (some 4) 3 F_X6_isSkipped), (65, cS (some 4) 1 F_X6_allPlates), (82, cS (some 4) 1 F_X6_nightOn), (92, cS (some 4) 1 F_X6_again)]
theorem cok_X6_judge : CallOK cX6_judge 5 (some .int) RX6 5 ctb_X6_judge := CallOK_cons (site_same (rnV (pX6_judge_ok 7 _ rfl) ct_X6_wrongRow kX6_wrongRow lRX6_184 (by decide))) (CallOK_cons (site_same (rnV (pX6_judge_ok 21 _ rfl) ct_X6_think kX6_think lRX6_190 (by decide))) (CallOK_cons (site_same (rnV (pX6_judge_ok 46 _ rfl) ct_X6_isSkipped kX6_isSkipped lRX6_284 (by decide))) (CallOK_cons (site_same (rnV (pX6_judge_ok 65 _ rfl) ct_X6_allPlates kX6_allPlates lRX6_264 (by decide))) (CallOK_cons (site_same (rnV (pX6_judge_ok 82 _ rfl) ct_X6_nightOn kX6_nightOn lRX6_132 (by decide))) (CallOK_cons (site_same (rnV (pX6_judge_ok 92 _ rfl) ct_X6_again kX6_again lRX6_196 (by decide))) (CallOK_nil))))))
theorem ct_X6_judge : Ct yX6_judge cX6_judge 5 (some .int) 5 F_X6_judge := by
  intro l D σ cA sz as w K h
  obtain ⟨s, q, t, u, N, d, rfl, rfl, hT, ⟨hZ, hG, hN, hN9, hB⟩, hu, h⟩ := h
  have h0 := h (iSn s) (iLn s) (tq0 t) hT
  have hT0 : TZ (tq0 t) := hT
  refine metL (pr := lkB pX6_judge) (rk := 1) (ct := ctb_X6_judge) (fld := lkB flX6) (cst := lkB csX6) (cstL := lkB clX6) [(27, ([true, true, false, true, true], fun x lv st w => ∃ (j n d' : Nat) (fo : Int32) (t1 : Tm), j ≤ n ∧ n ≤ 100 ∧ d' < 8 ∧ d = nI d' ∧ qM q d' = nI n ∧ qS q d' = uS u ∧ ix (uM u) = n ∧ (∀ i, i < n → qR q (100 * d' + i) = (uC u i).toInt64) ∧ x = n - j ∧ reF u d 2 = 0 ∧ SK (tq0 t) t1 ∧ KP s t1 ∧ ((fo = -4 ∧ ∀ i, i < j → ¬ juP s u i) ∨ (0 ≤ fo ∧ fo = juF s u d)) ∧ lv = [some (sR 0), some (sI (nI d')), none, some (sI fo), some (sI (nI j))] ∧ st = [] ∧ w = modW (nightsS j s) q t1))] pX6_judge_ok kX6_judge.2.2.2.2.2.2.2 fdX6 cdX6 rto1 cok_X6_judge (Nat.le_of_ble_eq_true rfl) ?_ ?_ l D σ cA sz
  · refine List.forall_mem_cons.mpr ⟨?_, cut0⟩
    rintro x lv st w ⟨j, n, d', fo, t1, hj, hn, hd', ed, eM, eS, eN, hrow, rfl, hre, hs1, hk1, hfo, rfl, rfl, rfl⟩
    have hr : juF s u d = fiA (juP s u) n := by unfold juF; rw [if_pos hre, eN]
    have hz := ZB_nights hZ hG hN j (by omega)
    obtain ⟨g1, g2⟩ := nights_keep hG hN j (by omega)
    have hT1 := hs1.tz hT0
    have hsuc : nightsS (j + 1) s = nightS 0 0 (nightsS j s) := rfl
    conv => whnf
    refine ⟨vp_in_nI hd' (by decide), ?_⟩
    rw [show (nI d').toNatClampNeg = d' from nI_clamp (by omega), eM]
    conv => whnf
    refine ⟨fun hc => ?_, fun hc => ?_⟩
    · have ej := lp_ge hj (by omega) hc
      have hrr : juF s u d = fo := by
        rcases hfo with ⟨e, hall⟩ | e
        · rw [ej] at hall
          rw [e, hr, fiA_none hall]
        · exact e.2.symm
      conv => whnf
      refine ⟨nightsS j s, s, q, t1, rfl, rfl, hk1, hz, hZ, fun t2 hs2 hk2 => ?_⟩
      conv => whnf
      exact kI (h (iSn (nightsS j s)) (iLn (nightsS j s)) t2 (hs2.tz hT1)) hrr
    have hlt := lp_lt hj (by omega) hc
    obtain ⟨r1, r2, r3⟩ := row_ix hd' (show j < 100 by omega)
    conv => whnf
    refine ⟨fun h1 => ?_, fun h1 => ?_⟩
    · have hrr : juF s u d = fo := by
        rcases hfo with ⟨e, -⟩ | e
        · rw [e] at h1; exact absurd h1 (by decide)
        · exact e.2.symm
      conv => whnf
      refine ⟨nightsS j s, s, q, t1, rfl, rfl, hk1, hz, hZ, fun t2 hs2 hk2 => ?_⟩
      conv => whnf
      exact kI (h (iSn (nightsS j s)) (iLn (nightsS j s)) t2 (hs2.tz hT1)) hrr
    have hall : ∀ i, i < j → ¬ juP s u i := by
      rcases hfo with ⟨-, e⟩ | e
      · exact e
      · exact absurd e.1 h1
    conv => whnf
    refine ⟨nightsS j s, q, t1, u, d', j, rfl, rfl, hd', by omega, hrow j hlt, eS, ?_⟩
    conv => whnf
    refine ⟨fun h2 => ?_, fun h2 => ?_⟩
    · conv => whnf
      refine ⟨nightsS j s, q, t1, N + j, rfl, rfl, g1, g2, by omega, ?_⟩
      rw [t0_w _ _ hT1, hT1.1, hT1.2, ← hsuc]
      conv => whnf
      exact ⟨n - (j + 1), by omega, j + 1, n, d', -4, t1, hlt, hn, hd', ed, eM, eS, eN, hrow, rfl, hre, hs1, hk1, Or.inl ⟨rfl, lt_s hall (fun z => z (Or.inr (bp_n h2)))⟩, by rw [← nI_1]; rfl, rfl, rfl⟩
    · have h2 := bp_0.mp h2
      conv => whnf
      rw [r1]
      refine ⟨r2, ?_⟩
      rw [r3, hrow j hlt]
      conv => whnf
      refine ⟨nightsS j s, q, t1, rfl, rfl, ?_⟩
      conv => whnf
      refine ⟨fun h3 => ?_, fun h3 => ?_⟩
      · have h3 := (ce_ii _ _).mp h3
        conv => whnf
        refine ⟨nightsS j s, q, t1, N + j, rfl, rfl, g1, g2, by omega, ?_⟩
        rw [t0_w _ _ hT1, hT1.1, hT1.2, ← hsuc]
        conv => whnf
        exact ⟨n - (j + 1), by omega, j + 1, n, d', -4, t1, hlt, hn, hd', ed, eM, eS, eN, hrow, rfl, hre, hs1, hk1, Or.inl ⟨rfl, lt_s hall (fun z => z (Or.inl h3))⟩, by rw [← nI_1]; rfl, rfl, rfl⟩
      · conv => whnf
        refine ⟨nightsS j s, q, t1, N + j, rfl, rfl, g1, g2, by omega, ?_⟩
        rw [t0_w _ _ hT1, hT1.1, hT1.2, ← hsuc]
        conv => whnf
        exact ⟨n - (j + 1), by omega, j + 1, n, d', nI j, t1, hlt, hn, hd', ed, eM, eS, eN, hrow, rfl, hre, hs1, hk1, Or.inr ⟨nI_pos' (by omega), by rw [hr, fiA_some hlt (fun z => z.elim (fun y => h3 ((ce_ii _ _).mpr y)) h2) hall]⟩, by rw [← nI_1]; rfl, rfl, rfl⟩
  · conv => whnf
    refine ⟨s, q, tq0 t, u, d, rfl, rfl, fun z => (hu z).1, ?_⟩
    conv => whnf
    refine ⟨fun hc => ?_, fun hc => ?_⟩
    · have hc := re_ge hc
      obtain ⟨hd, h2⟩ := re_0 hc
      obtain ⟨n, hn, eM, eN⟩ := sz_n (hu hd).2 h2
      obtain ⟨d', hd', ed⟩ := sh_n hd
      obtain ⟨z1, z2, z3⟩ := (hu hd).1.2.2 h2
      rw [ed, show ix (nI d') = d' from nI_clamp (by omega)] at z1 z2 z3
      rw [eN] at z3
      conv => whnf
      refine ⟨s, q, tq0 t, rfl, rfl, fun t1 hs1 hk1 => ?_⟩
      conv => whnf
      exact ⟨n, 0, n, d', -4, t1, Nat.zero_le _, hn, hd', ed, z2.trans eM, z1, eN, z3, rfl, hc, hs1, hk1, Or.inl ⟨rfl, lt_0⟩, by rw [ed]; rfl, rfl, rfl⟩
    · conv => whnf
      exact kI h0 (by unfold juF; rw [if_neg (re_lt hc)])
end
